theorem fit_gen {j x c l : Nat} {e : Nat → Nat} {ν ξ : Mem} {p : Nat} (hx : x < 2) (hl : l < 32) (hc : c ≤ 8) (e0 : e 0 = 0) (hm : ∀ o o', o ≤ o' → o' ≤ c → e o ≤ e o') (hp : e c = p) (hp2 : p ≤ 100) (h2 : ∀ o, o < c → e o + 2 ≤ e (o + 1))
    (P : P2 (gI ν 500 (2 * j + x)) (gI ν 501 (2 * j + x)) (gI ν 502 (2 * j + x)) (gL ξ (386 + x) 0) (gL ξ (388 + x) 0) (gI ξ (390 + x) 0) p)
    (k4 : gI ν 0 j 4 = nI c) (k103 : ∀ o, o < c → gI ν 103 j o = nI (e (o + 1))) (h343 : gI ξ 343 0 l = nI c) (h346 : ∀ o, o < c → gI ξ 346 0 (8 * l + o) = nI (e (o + 1))) (h52 : gI ξ 12 0 52 = 0) :
    ∃ fb ν' ξ', m_Fit_fitAll j (nI x) ν = some (fb, ν') ∧ m_Mo_fits (nI l) (386 + x) 0 100 0 (388 + x) 0 100 0 (390 + x) 0 100 0 ξ = some ξ' ∧ (∀ k l b, ¬ (k = 501 ∧ l = 2 * j + x) → gI ν' k l b = gI ν k l b) ∧ (∀ k l b, ¬ (k = 12 ∧ b = 52) → gI ξ' k l b = gI ξ k l b) ∧ (∀ k, k ≠ 388 + x → gL ξ' k = gL ξ k) ∧
    ((fb = true ∧ gI ξ' 12 0 52 = 0 ∧ P2 (gI ν' 500 (2 * j + x)) (gI ν' 501 (2 * j + x)) (gI ν' 502 (2 * j + x)) (gL ξ' (386 + x) 0) (gL ξ' (388 + x) 0) (gI ξ' (390 + x) 0) p) ∨ (fb = false ∧ gI ξ' 12 0 52 = 8)) := by
  obtain ⟨T, hT⟩ : ∃ T, T = gI ν 502 (2 * j + x) := ⟨_, rfl⟩
  obtain ⟨F, hF⟩ : ∃ F : Nat → Int64, F = fun y => (gI ν 500 (2 * j + x) y).toInt64 := ⟨_, rfl⟩
  obtain ⟨N0, hN⟩ : ∃ N0 : Nat → Int64, N0 = fun y => (gI ν 501 (2 * j + x) y).toInt64 := ⟨_, rfl⟩
  obtain ⟨fb, ν', a1, a2, a3⟩ := fitAll_C hx hc e0 hm hp hp2 h2 hT hF hN k4 k103
  obtain ⟨ξ', b1, b2, b3, b4, b5, b6⟩ := fitsA_M (a2k := 386 + x) (a3k := 388 + x) (a4k := 390 + x) (l := l) (ξ0 := ξ) (T := T) (F := F) (N0 := N0) hl hc e0 (by omega) (by omega) hm hp hp2 h2 (fun y hy => by rw [hT]; exact (P y hy).2.2.1) (fun y hy => by rw [hF]; exact (P y hy).1) (fun y hy => by rw [hN]; exact (P y hy).2.1) (fun y hy => by
    rw [hF]; show _ ≤ (gI ν 500 (2 * j + x) y).toInt64.toInt ∧ (gI ν 500 (2 * j + x) y).toInt64.toInt ≤ _
    rw [i64]; have := t_lo (gI ν 500 (2 * j + x) y); have := t_hi (gI ν 500 (2 * j + x) y); omega) h343 h346 h52
  refine ⟨fb, ν', ξ', a1, b1, a2.1, b2, b3, ?_⟩
  have z8 : ¬ (0 : Int32) = 8 := by decide
  rcases fb with _ | _
  · right
    exact ⟨rfl, b5.mpr (a3.mp rfl)⟩
  · left
    have nob : ¬ gI ξ' 12 0 52 = 8 := fun q => by have := a3.mpr (b5.mp q); cases this
    refine ⟨rfl, b6.resolve_right nob, fun y hy => ?_⟩
    obtain ⟨p1, p2, p3, p4, p5, p6⟩ := P y hy
    rw [a2.1 500 _ _ (by omega), a2.1 502 _ _ (by omega), b3 (386 + x) (by omega), b2 (390 + x) 0 y (by omega)]
    by_cases w : T y = 0
    · rcases (a2.2.2 y).1 hy w with ⟨v, v1, v2⟩ | ⟨v1, v2⟩
      · rcases (b4 y).1 hy w with ⟨v', w1, w2⟩ | ⟨w1, w2⟩
        · have : v' = v := VA_un hm w1 v1
          subst this
          have near : -1000000000 ≤ v'.toInt ∧ v'.toInt ≤ 1000000000 := by
            by_cases q : -1000000000 ≤ v'.toInt ∧ v'.toInt ≤ 1000000000
            · exact q
            · have := a3.mpr ⟨y, v', hy, w, v1, q⟩; cases this
          obtain ⟨g1, g2⟩ := back (v := v') (by omega)
          rw [v2, w2]
          exact ⟨p1, g1.symm, p3, p4, p5, by unfold B9 bI; rw [g2]; exact near⟩
        · exact (w1 v v1).elim
      · rcases (b4 y).1 hy w with ⟨v', w1, w2⟩ | ⟨w1, w2⟩
        · exact (v1 v' w1).elim
        · rw [v2, w2]; exact ⟨p1, p2, p3, p4, p5, p6⟩
    · rw [(a2.2.2 y).2 (Or.inr w), (b4 y).2 (Or.inr w)]; exact ⟨p1, p2, p3, p4, p5, p6⟩
theorem sc_501 {μ ν ν' : Mem} {j x : Nat} (hx : x < 2) (h : SC μ j ν) (u : Un [501] ν ν') (hf : ∀ k l b, ¬ (k = 501 ∧ l = 2 * j + x) → gI ν' k l b = gI ν k l b) : SC μ j ν' :=
  ⟨Un.tr h.1 (u.mono (by decide)), fun k q b h1 h2 => by rw [hf k q b (by omega)]; exact h.2.1 k q b h1 h2, fun q hq => by rw [hf 0 q 5 (by omega)]; exact h.2.2 q hq⟩
theorem sm_52 {μ ξ ξ' : Mem} (h : SM μ ξ) (hf : ∀ k l b, ¬ (k = 12 ∧ b = 52) → gI ξ' k l b = gI ξ k l b) : SM μ ξ' := by
  refine ⟨fun k hk => ?_, by rw [hf 12 0 53 (by omega)]; exact h.2⟩
  rw [← h.1 k hk]
  funext l b
  refine hf k l b ?_
  simp only [List.mem_cons, List.not_mem_nil, or_false] at hk
  omega
theorem dy_fit {μ : Mem} {j p c : Nat} {e : Nat → Nat} {A : Nat} {ν ξ : Mem} {h q : Nat} {nx : Int32} {l x : Nat} (hx : x < 2) (hl : l < 32) (hc : c ≤ 8) (e0 : e 0 = 0) (hm : ∀ o o', o ≤ o' → o' ≤ c → e o ≤ e o') (hp : e c = p) (hp2 : p ≤ 100) (h2 : ∀ o, o < c → e o + 2 ≤ e (o + 1)) (m343 : gI μ 343 0 l = nI c) (m346 : ∀ o, o < c → gI μ 346 0 (8 * l + o) = nI (e (o + 1))) (D : DY μ j p c e A ν ξ h q nx 0) :
    ∃ fb ν' ξ', m_Fit_fitAll j (nI x) ν = some (fb, ν') ∧ m_Mo_fits (nI l) (386 + x) 0 100 0 (388 + x) 0 100 0 (390 + x) 0 100 0 ξ = some ξ' ∧ SC μ j ν' ∧ SM μ ξ' ∧ ((fb = true ∧ gI ξ' 12 0 52 = 0 ∧ DY μ j p c e A ν' ξ' h q nx 0) ∨ (fb = false ∧ gI ξ' 12 0 52 = 8)) := by
  obtain ⟨d1, d2, d3, d4, d5, d6, d7, d8, d9, d10, d11, d12⟩ := D
  have P : P2 (gI ν 500 (2 * j + x)) (gI ν 501 (2 * j + x)) (gI ν 502 (2 * j + x)) (gL ξ (386 + x) 0) (gL ξ (388 + x) 0) (gI ξ (390 + x) 0) p := by
    rcases (show x = 0 ∨ x = 1 by omega) with rfl | rfl
    · exact d10
    · exact d11
  obtain ⟨fb, ν', ξ', a1, a2, a3, a4, a5, a6⟩ := fit_gen hx hl hc e0 hm hp hp2 h2 P d12.2.1 d12.2.2 (by rw [d2.1 343 (by decide)]; exact m343) (fun o ho => by rw [d2.1 346 (by decide)]; exact m346 o ho) d6.2
  have sc := sc_501 hx d1 (fm_Fit_fitAll a1) a3
  have sm := sm_52 d2 a4
  refine ⟨fb, ν', ξ', a1, a2, sc, sm, ?_⟩
  rcases a6 with ⟨f1, f2, f3⟩ | f
  · left
    have r : ∀ k l, k ≠ 501 → gI ν' k l = gI ν k l := fun k l hk => funext fun b => a3 k l b (by omega)
    have rx : ∀ k l, k ≠ 12 → gI ξ' k l = gI ξ k l := fun k l hk => funext fun b => a4 k l b (by omega)
    refine ⟨f1, f2, sc, sm, d3, ?_, ?_, ⟨by rw [a3 9 0 5 (by omega)]; exact d6.1, f2⟩, ?_, ?_, ?_, ?_, ?_, ?_⟩
    · rw [a3 9 0 3 (by omega), a4 12 0 42 (by omega)]; exact d4
    · rw [a3 9 0 4 (by omega), a4 12 0 45 (by omega)]; exact d5
    · rw [r 280 0 (by omega), a5 381 (by omega)]; exact d7
    · rw [r 281 0 (by omega), a5 383 (by omega)]; exact d8
    · rw [r 282 0 (by omega), rx 384 0 (by omega)]; exact d9
    · rcases (show x = 0 ∨ x = 1 by omega) with rfl | rfl
      · exact f3
      · have k1 : gI ν' 501 (2 * j) = gI ν 501 (2 * j) := funext fun b => a3 501 _ b (by omega)
        rw [r 500 _ (by omega), r 502 _ (by omega), k1, rx 390 0 (by omega), a5 386 (by omega), a5 388 (by omega)]; exact d10
    · rcases (show x = 0 ∨ x = 1 by omega) with rfl | rfl
      · have k1 : gI ν' 501 (2 * j + 1) = gI ν 501 (2 * j + 1) := funext fun b => a3 501 _ b (by omega)
        rw [r 500 _ (by omega), r 502 _ (by omega), k1, rx 391 0 (by omega), a5 387 (by omega), a5 389 (by omega)]; exact d11
      · exact f3
    · unfold FX
      rw [r 0 j (by omega), r 103 j (by omega)]; exact d12
  · exact Or.inr f
