theorem gI_row {μ : Mem} {k k' l l' j' : Nat} {x : Int32} (h : k ≠ k') : gI (sI μ k' l' j' x) k l = gI μ k l := funext fun _ => gI_ne h
theorem gI_row1 {μ : Mem} {k k' l l' j' : Nat} {x : Int32} (h : l ≠ l') : gI (sI μ k' l' j' x) k l = gI μ k l := funext fun _ => gI_ne1 h
theorem gL_row {μ : Mem} {k k' l l' j' : Nat} {x : Int64} (h : k ≠ k') : gL (sL μ k' l' j' x) k l = gL μ k l := funext fun j => by rw [gL_sL, if_neg (fun q => h q.1)]
theorem gL_rowI {μ : Mem} {k k' l l' j' : Nat} {x : Int32} : gL (sI μ k' l' j' x) k l = gL μ k l := rfl
theorem gI_rowL {μ : Mem} {k k' l l' j' : Nat} {x : Int64} : gI (sL μ k' l' j' x) k l = gI μ k l := rfl
theorem gL_ne2 {μ : Mem} {k k' l l' j j' : Nat} {x : Int64} (h : j ≠ j') : gL (sL μ k' l' j' x) k l j = gL μ k l j := by rw [gL_sL, if_neg (fun q => h q.2.2)]
theorem gL_ne {μ : Mem} {k k' l l' j j' : Nat} {x : Int64} (h : k ≠ k') : gL (sL μ k' l' j' x) k l j = gL μ k l j := by rw [gL_sL, if_neg (fun q => h q.1)]
def S1 (a : Nat → Int32) (b : Nat → Int64) (n : Nat) : Prop := ∀ k, k < n → b k = (a k).toInt64 ∧ B9 (a k)
def S3 (a b : Nat → Int32) (n A : Nat) : Prop := ∀ k, k < n → b k = a k ∧ ∃ z, z ≤ A ∧ a k = nI z
def P2 (f w t : Nat → Int32) (F N : Nat → Int64) (T : Nat → Int32) (p : Nat) : Prop := ∀ k, k < p → F k = (f k).toInt64 ∧ N k = (w k).toInt64 ∧ T k = t k ∧ (t k = 0 ∨ t k = 1) ∧ bI (f k) (-100000) 100000 ∧ B9 (w k)
def SC (μ : Mem) (j : Nat) (ν : Mem) : Prop := Un [103, 280, 281, 282, 500, 501, 502, 1004, 1005, 1903, 1904, 1905] μ ν ∧ (∀ k q b, (k = 501 ∨ k = 502) → q / 2 ≠ j → gI ν k q b = gI μ k q b) ∧ (∀ q, q ≠ j → gI ν 0 q 5 = gI μ 0 q 5)
def SM (μ ξ : Mem) : Prop := (∀ k, k ∈ [343, 346, 347, 348, 357, 358, 359, 394, 395, 396, 397] → gI ξ k = gI μ k) ∧ gI ξ 12 0 53 = gI μ 12 0 53
def FX (ν : Mem) (j p c : Nat) (e : Nat → Nat) : Prop := gI ν 0 j 5 = nI p ∧ gI ν 0 j 4 = nI c ∧ ∀ o, o < c → gI ν 103 j o = nI (e (o + 1))
def DY (μ : Mem) (j p c : Nat) (e : Nat → Nat) (A : Nat) (ν ξ : Mem) (h q : Nat) (nx ft : Int32) : Prop :=
  SC μ j ν ∧ SM μ ξ ∧ (h ≤ 32 ∧ q ≤ 8) ∧ (gI ν 9 0 3 = nI h ∧ gI ξ 12 0 42 = nI h) ∧ (gI ν 9 0 4 = nI q ∧ gI ξ 12 0 45 = nI q) ∧ (gI ν 9 0 5 = nx ∧ gI ξ 12 0 52 = ft) ∧ S1 (gI ν 280 0) (gL ξ 381 0) h ∧ S1 (gI ν 281 0) (gL ξ 383 0) 16 ∧ S3 (gI ν 282 0) (gI ξ 384 0) q A ∧
  P2 (gI ν 500 (2 * j)) (gI ν 501 (2 * j)) (gI ν 502 (2 * j)) (gL ξ 386 0) (gL ξ 388 0) (gI ξ 390 0) p ∧ P2 (gI ν 500 (2 * j + 1)) (gI ν 501 (2 * j + 1)) (gI ν 502 (2 * j + 1)) (gL ξ 387 0) (gL ξ 389 0) (gI ξ 391 0) p ∧ FX ν j p c e
theorem sc_sI {μ ν : Mem} {j k l b : Nat} {v : Int32} (h : SC μ j ν) (hk : (k = 103 ∨ k = 280 ∨ k = 281 ∨ k = 282 ∨ k = 500) ∨ ((k = 501 ∨ k = 502) ∧ l / 2 = j) ∨ (k = 9 ∧ (b = 3 ∨ b = 4 ∨ b = 5)) ∨ (k = 0 ∧ l = j ∧ (b = 4 ∨ b = 5))) : SC μ j (sI ν k l b v) := by
  refine ⟨Un.tr h.1 (un_sI ?_ ?_), fun k' q b' h1 h2 => ?_, fun q hq => ?_⟩
  · rcases hk with (rfl | rfl | rfl | rfl | rfl) | ⟨rfl | rfl, _⟩ | ⟨rfl, rfl | rfl | rfl⟩ | ⟨rfl, _, rfl | rfl⟩
    all_goals first | exact Or.inl (by decide) | exact Or.inr (by decide)
  · rcases hk with (rfl | rfl | rfl | rfl | rfl) | ⟨rfl | rfl, _⟩ | ⟨rfl, rfl | rfl | rfl⟩ | ⟨rfl, _, rfl | rfl⟩ <;> decide
  · rw [gI_sI, if_neg (by rintro ⟨rfl, rfl, rfl⟩; omega)]; exact h.2.1 k' q b' h1 h2
  · rw [gI_sI, if_neg (by rintro ⟨rfl, rfl, rfl⟩; omega)]; exact h.2.2 q hq
theorem sm_sI {μ ξ : Mem} {k l b : Nat} {v : Int32} (h : SM μ ξ) (hk : k = 384 ∨ k = 390 ∨ k = 391 ∨ (k = 12 ∧ (b = 42 ∨ b = 45 ∨ b = 52))) : SM μ (sI ξ k l b v) := by
  refine ⟨fun i hi => ?_, ?_⟩
  · rw [← h.1 i hi]
    funext a b'
    rw [gI_ne]
    simp only [List.mem_cons, List.not_mem_nil, or_false] at hi
    omega
  · rw [gI_sI, if_neg (by omega)]; exact h.2
theorem sm_sL {μ ξ : Mem} {k l b : Nat} {v : Int64} (h : SM μ ξ) : SM μ (sL ξ k l b v) := h
theorem dy_push {μ : Mem} {j p c : Nat} {e : Nat → Nat} {A : Nat} {ν ξ : Mem} {h q : Nat} {nx ft : Int32} {v : Int32} (D : DY μ j p c e A ν ξ h q nx ft) (hh : h < 32) (hv : B9 v) : DY μ j p c e A (sI (sI ν 280 0 h v) 9 0 3 (nI (h + 1))) (sI (sL ξ 381 0 h v.toInt64) 12 0 42 (nI (h + 1))) (h + 1) q nx ft := by
  obtain ⟨d1, d2, d3, d4, d5, d6, d7, d8, d9, d10, d11, d12⟩ := D
  refine ⟨sc_sI (sc_sI d1 (by omega)) (by omega), sm_sI (sm_sL d2) (by omega), ⟨by omega, d3.2⟩, ⟨by rw [gI_self], by rw [gI_self]⟩, ?_, ?_, ?_, ?_, ?_, ?_, ?_, ?_⟩
  · simp (disch := omega) only [gI_ne, gI_ne2, gI_sL]; exact d5
  · simp (disch := omega) only [gI_ne, gI_ne2, gI_sL]; exact d6
  · intro k hk
    by_cases w : k = h
    · subst w; rw [gL_sI, gL_self, gI_ne (by omega), gI_self]; exact ⟨rfl, hv⟩
    · rw [gL_sI, gL_ne2 w, gI_ne (by omega), gI_ne2 w]; exact d7 k (by omega)
  · simp (disch := omega) only [gI_row, gL_rowI, gL_row]; exact d8
  · simp (disch := omega) only [gI_row, gI_rowL]; exact d9
  · simp (disch := omega) only [gI_row, gL_rowI, gL_row, gI_rowL]; exact d10
  · simp (disch := omega) only [gI_row, gL_rowI, gL_row, gI_rowL]; exact d11
  · unfold FX; simp (disch := omega) only [gI_ne]; exact d12
theorem dy_pop {μ : Mem} {j p c : Nat} {e : Nat → Nat} {A : Nat} {ν ξ : Mem} {h q : Nat} {nx ft : Int32} (D : DY μ j p c e A ν ξ (h + 1) q nx ft) : DY μ j p c e A (sI ν 9 0 3 (nI h)) (sI ξ 12 0 42 (nI h)) h q nx ft := by
  obtain ⟨d1, d2, d3, d4, d5, d6, d7, d8, d9, d10, d11, d12⟩ := D
  refine ⟨sc_sI d1 (by omega), sm_sI d2 (by omega), ⟨by omega, d3.2⟩, ⟨by rw [gI_self], by rw [gI_self]⟩, ?_, ?_, ?_, ?_, ?_, ?_, ?_, ?_⟩
  · simp (disch := omega) only [gI_ne2]; exact d5
  · simp (disch := omega) only [gI_ne2]; exact d6
  · simp (disch := omega) only [gI_row, gL_rowI]; exact fun k hk => d7 k (by omega)
  · simp (disch := omega) only [gI_row, gL_rowI]; exact d8
  · simp (disch := omega) only [gI_row]; exact d9
  · simp (disch := omega) only [gI_row, gL_rowI]; exact d10
  · simp (disch := omega) only [gI_row, gL_rowI]; exact d11
  · unfold FX; simp (disch := omega) only [gI_ne]; exact d12
theorem dy_next {μ : Mem} {j p c : Nat} {e : Nat → Nat} {A : Nat} {ν ξ : Mem} {h q : Nat} {nx ft : Int32} (x : Int32) (D : DY μ j p c e A ν ξ h q nx ft) : DY μ j p c e A (sI ν 9 0 5 x) ξ h q x ft := by
  obtain ⟨d1, d2, d3, d4, d5, d6, d7, d8, d9, d10, d11, d12⟩ := D
  refine ⟨sc_sI d1 (by omega), d2, d3, ?_, ?_, ⟨gI_self, d6.2⟩, ?_, ?_, ?_, ?_, ?_, ?_⟩
  · simp (disch := omega) only [gI_ne2]; exact d4
  · simp (disch := omega) only [gI_ne2]; exact d5
  · simp (disch := omega) only [gI_row]; exact d7
  · simp (disch := omega) only [gI_row]; exact d8
  · simp (disch := omega) only [gI_row]; exact d9
  · simp (disch := omega) only [gI_row]; exact d10
  · simp (disch := omega) only [gI_row]; exact d11
  · unfold FX; simp (disch := omega) only [gI_ne]; exact d12
theorem dy_ft {μ : Mem} {j p c : Nat} {e : Nat → Nat} {A : Nat} {ν ξ : Mem} {h q : Nat} {nx ft : Int32} (x : Int32) (D : DY μ j p c e A ν ξ h q nx ft) : DY μ j p c e A ν (sI ξ 12 0 52 x) h q nx x := by
  obtain ⟨d1, d2, d3, d4, d5, d6, d7, d8, d9, d10, d11, d12⟩ := D
  refine ⟨d1, sm_sI d2 (by omega), d3, ?_, ?_, ⟨d6.1, gI_self⟩, d7, d8, ?_, ?_, ?_, d12⟩
  · simp (disch := omega) only [gI_ne2]; exact d4
  · simp (disch := omega) only [gI_ne2]; exact d5
  · simp (disch := omega) only [gI_row]; exact d9
  · simp (disch := omega) only [gI_row, gL_rowI]; exact d10
  · simp (disch := omega) only [gI_row, gL_rowI]; exact d11
theorem dy_store {μ : Mem} {j p c : Nat} {e : Nat → Nat} {A : Nat} {ν ξ : Mem} {h q : Nat} {nx ft : Int32} {k : Nat} {v : Int32} (D : DY μ j p c e A ν ξ h q nx ft) (hv : B9 v) : DY μ j p c e A (sI ν 281 0 k v) (sL ξ 383 0 k v.toInt64) h q nx ft := by
  obtain ⟨d1, d2, d3, d4, d5, d6, d7, d8, d9, d10, d11, d12⟩ := D
  refine ⟨sc_sI d1 (by omega), sm_sL d2, d3, ?_, ?_, ?_, ?_, ?_, ?_, ?_, ?_, ?_⟩
  · simp (disch := omega) only [gI_ne, gI_sL]; exact d4
  · simp (disch := omega) only [gI_ne, gI_sL]; exact d5
  · simp (disch := omega) only [gI_ne, gI_sL]; exact d6
  · simp (disch := omega) only [gI_row, gL_row]; exact d7
  · intro i hi
    by_cases w : i = k
    · subst w; rw [gL_self, gI_self]; exact ⟨rfl, hv⟩
    · rw [gL_ne2 w, gI_ne2 w]; exact d8 i hi
  · simp (disch := omega) only [gI_row, gI_rowL]; exact d9
  · simp (disch := omega) only [gI_row, gL_row, gI_rowL]; exact d10
  · simp (disch := omega) only [gI_row, gL_row, gI_rowL]; exact d11
  · unfold FX; simp (disch := omega) only [gI_ne]; exact d12
theorem dy_call {μ : Mem} {j p c : Nat} {e : Nat → Nat} {A : Nat} {ν ξ : Mem} {h q : Nat} {nx ft : Int32} {z : Nat} (D : DY μ j p c e A ν ξ h q nx ft) (hq : q < 8) (hz : z ≤ A) : DY μ j p c e A (sI (sI ν 282 0 q (nI z)) 9 0 4 (nI (q + 1))) (sI (sI ξ 384 0 q (nI z)) 12 0 45 (nI (q + 1))) h (q + 1) nx ft := by
  obtain ⟨d1, d2, d3, d4, d5, d6, d7, d8, d9, d10, d11, d12⟩ := D
  refine ⟨sc_sI (sc_sI d1 (by omega)) (by omega), sm_sI (sm_sI d2 (by omega)) (by omega), ⟨d3.1, by omega⟩, ?_, ⟨gI_self, gI_self⟩, ?_, ?_, ?_, ?_, ?_, ?_, ?_⟩
  · simp (disch := omega) only [gI_ne, gI_ne2]; exact d4
  · simp (disch := omega) only [gI_ne, gI_ne2]; exact d6
  · simp (disch := omega) only [gI_row, gL_rowI]; exact d7
  · simp (disch := omega) only [gI_row, gL_rowI]; exact d8
  · intro i hi
    by_cases w : i = q
    · subst w; simp (disch := omega) only [gI_ne, gI_self]; exact ⟨trivial, z, hz, rfl⟩
    · simp (disch := omega) only [gI_ne, gI_ne2]; exact d9 i (by omega)
  · simp (disch := omega) only [gI_row, gL_rowI]; exact d10
  · simp (disch := omega) only [gI_row, gL_rowI]; exact d11
  · unfold FX; simp (disch := omega) only [gI_ne]; exact d12
theorem dy_ret {μ : Mem} {j p c : Nat} {e : Nat → Nat} {A : Nat} {ν ξ : Mem} {h q : Nat} {nx ft : Int32} (D : DY μ j p c e A ν ξ h (q + 1) nx ft) : DY μ j p c e A (sI ν 9 0 4 (nI q)) (sI ξ 12 0 45 (nI q)) h q nx ft := by
  obtain ⟨d1, d2, d3, d4, d5, d6, d7, d8, d9, d10, d11, d12⟩ := D
  refine ⟨sc_sI d1 (by omega), sm_sI d2 (by omega), ⟨d3.1, by omega⟩, ?_, ⟨gI_self, gI_self⟩, ?_, ?_, ?_, ?_, ?_, ?_, ?_⟩
  · simp (disch := omega) only [gI_ne2]; exact d4
  · simp (disch := omega) only [gI_ne2]; exact d6
  · simp (disch := omega) only [gI_row, gL_rowI]; exact d7
  · simp (disch := omega) only [gI_row, gL_rowI]; exact d8
  · simp (disch := omega) only [gI_row]; exact fun k hk => d9 k (by omega)
  · simp (disch := omega) only [gI_row, gL_rowI]; exact d10
  · simp (disch := omega) only [gI_row, gL_rowI]; exact d11
  · unfold FX; simp (disch := omega) only [gI_ne]; exact d12
theorem p2_touch {f w t : Nat → Int32} {F N : Nat → Int64} {T : Nat → Int32} {p k : Nat} {w' t' T' : Nat → Int32} {N' : Nat → Int64} {v : Int32} (P : P2 f w t F N T p) (hv : B9 v) (e1 : w' k = v) (e2 : t' k = 1) (e3 : T' k = 1) (e4 : N' k = v.toInt64) (g1 : ∀ i, i ≠ k → w' i = w i ∧ t' i = t i ∧ T' i = T i ∧ N' i = N i) : P2 f w' t' F N' T' p := by
  intro i hi
  obtain ⟨h1, h2, h3, h4, h5, h6⟩ := P i hi
  by_cases q : i = k
  · subst q; rw [e1, e2, e3, e4]; exact ⟨h1, rfl, rfl, Or.inr rfl, h5, hv⟩
  · obtain ⟨a1, a2, a3, a4⟩ := g1 i q
    rw [a1, a2, a3, a4]; exact ⟨h1, h2, h3, h4, h5, h6⟩
theorem dy_touch0 {μ : Mem} {j p c : Nat} {e : Nat → Nat} {A : Nat} {ν ξ : Mem} {h q : Nat} {nx ft : Int32} {k : Nat} {v : Int32} (D : DY μ j p c e A ν ξ h q nx ft) (hv : B9 v) : DY μ j p c e A (sI (sI ν 501 (2 * j) k v) 502 (2 * j) k 1) (sI (sL ξ 388 0 k v.toInt64) 390 0 k 1) h q nx ft := by
  obtain ⟨d1, d2, d3, d4, d5, d6, d7, d8, d9, d10, d11, d12⟩ := D
  refine ⟨sc_sI (sc_sI d1 (by omega)) (by omega), sm_sI (sm_sL d2) (by omega), d3, ?_, ?_, ?_, ?_, ?_, ?_, ?_, ?_, ?_⟩
  · simp (disch := omega) only [gI_ne, gI_sL]; exact d4
  · simp (disch := omega) only [gI_ne, gI_sL]; exact d5
  · simp (disch := omega) only [gI_ne, gI_sL]; exact d6
  · simp (disch := omega) only [gI_row, gL_row, gL_rowI]; exact d7
  · simp (disch := omega) only [gI_row, gL_row, gL_rowI]; exact d8
  · simp (disch := omega) only [gI_row, gI_rowL]; exact d9
  · simp (disch := omega) only [gI_row (k := 500), gL_rowI, gL_row]
    exact p2_touch d10 hv (by simp (disch := omega) only [gI_ne, gI_self]) gI_self gI_self gL_self fun i hi => ⟨by simp (disch := omega) only [gI_ne, gI_ne2], by simp (disch := omega) only [gI_ne, gI_ne2], by simp (disch := omega) only [gI_ne2, gI_sL], gL_ne2 hi⟩
  · simp (disch := omega) only [gI_row, gI_row1, gL_rowI, gL_row, gI_rowL]; exact d11
  · unfold FX; simp (disch := omega) only [gI_ne]; exact d12
theorem dy_touch1 {μ : Mem} {j p c : Nat} {e : Nat → Nat} {A : Nat} {ν ξ : Mem} {h q : Nat} {nx ft : Int32} {k : Nat} {v : Int32} (D : DY μ j p c e A ν ξ h q nx ft) (hv : B9 v) : DY μ j p c e A (sI (sI ν 501 (2 * j + 1) k v) 502 (2 * j + 1) k 1) (sI (sL ξ 389 0 k v.toInt64) 391 0 k 1) h q nx ft := by
  obtain ⟨d1, d2, d3, d4, d5, d6, d7, d8, d9, d10, d11, d12⟩ := D
  refine ⟨sc_sI (sc_sI d1 (by omega)) (by omega), sm_sI (sm_sL d2) (by omega), d3, ?_, ?_, ?_, ?_, ?_, ?_, ?_, ?_, ?_⟩
  · simp (disch := omega) only [gI_ne, gI_sL]; exact d4
  · simp (disch := omega) only [gI_ne, gI_sL]; exact d5
  · simp (disch := omega) only [gI_ne, gI_sL]; exact d6
  · simp (disch := omega) only [gI_row, gL_row, gL_rowI]; exact d7
  · simp (disch := omega) only [gI_row, gL_row, gL_rowI]; exact d8
  · simp (disch := omega) only [gI_row, gI_rowL]; exact d9
  · simp (disch := omega) only [gI_row, gI_row1, gL_rowI, gL_row, gI_rowL]; exact d10
  · simp (disch := omega) only [gI_row (k := 500), gL_rowI, gL_row]
    exact p2_touch d11 hv (by simp (disch := omega) only [gI_ne, gI_self]) gI_self gI_self gL_self fun i hi => ⟨by simp (disch := omega) only [gI_ne, gI_ne2], by simp (disch := omega) only [gI_ne, gI_ne2], by simp (disch := omega) only [gI_ne2, gI_sL], gL_ne2 hi⟩
  · unfold FX; simp (disch := omega) only [gI_ne]; exact d12
theorem ru_push {ν : Mem} {h : Nat} {v : Int32} (e : gI ν 9 0 3 = nI h) (hh : h < 32) : m_Ru_push v ν = some (sI (sI ν 280 0 h v) 9 0 3 (nI (h + 1))) := by
  have n1 : nI h + 1 = nI (h + 1) := nI_add h 1
  have q : ¬ 32 ≤ h := by omega
  simp (disch := omega) only [m_Ru_push, e, show (32 : Int32) = nI 32 from rfl, nle, q, if_false, gu_nI, nI_clamp, ap, gI_ne, n1]
theorem ru_pop {ν : Mem} {h : Nat} (e : gI ν 9 0 3 = nI (h + 1)) (hh : h < 32) : m_Ru_pop ν = some (gI ν 280 0 h, sI ν 9 0 3 (nI h)) := by
  have q : 0 < h + 1 := by omega
  simp (disch := omega) only [m_Ru_pop, e, show (0 : Int32) = nI 0 from rfl, nlt, q, if_true, nsub1, Nat.add_sub_cancel, ap, gI_self, gu_nI, nI_clamp, gI_ne]
theorem far_b {v : Int64} {ξ : Mem} : m_Mo_isFar v ξ = ! decide (-1000000000 ≤ v.toInt ∧ v.toInt ≤ 1000000000) := by
  unfold m_Mo_isFar mj_Mo_isFar_16
  by_cases h1 : (1000000000 : Int64) < v
  · have : (1000000000 : Int) < v.toInt := u_lt.mp h1
    rw [if_pos h1, decide_eq_false (by omega)]; rfl
  · have g1 : ¬ (1000000000 : Int) < v.toInt := fun q => h1 (u_lt.mpr q)
    rw [if_neg h1]
    by_cases h2 : (-1000000000 : Int64) ≤ v
    · have : (-1000000000 : Int) ≤ v.toInt := u_le.mp h2
      rw [if_pos h2, decide_eq_true (by omega)]; rfl
    · have g2 : ¬ (-1000000000 : Int) ≤ v.toInt := fun q => h2 (u_le.mpr q)
      rw [if_neg h2, decide_eq_false (by omega)]; rfl
theorem mo_push {ξ : Mem} {h : Nat} {v : Int64} (e : gI ξ 12 0 42 = nI h) (hh : h < 33) (hv : -1000000000 ≤ v.toInt ∧ v.toInt ≤ 1000000000) : m_Mo_push v ξ = some (sI (sL ξ 381 0 h v) 12 0 42 (nI (h + 1))) := by
  have n1 : nI h + 1 = nI (h + 1) := nI_add h 1
  unfold m_Mo_push mj_Mo_push_13
  rw [far_b, decide_eq_true hv]
  simp (disch := omega) only [Bool.not_true, if_false, e, gu_nI, nI_clamp, ap, gI_sL, n1]
  rfl
theorem mo_push8 {ξ : Mem} {h : Nat} {v : Int64} (e : gI ξ 12 0 42 = nI h) (hh : h < 33) (hv : ¬ (-1000000000 ≤ v.toInt ∧ v.toInt ≤ 1000000000)) : m_Mo_push v ξ = some (sI (sL (sI ξ 12 0 52 8) 381 0 h v) 12 0 42 (nI (h + 1))) := by
  have n1 : nI h + 1 = nI (h + 1) := nI_add h 1
  unfold m_Mo_push mj_Mo_push_13
  rw [far_b, decide_eq_false hv]
  simp (disch := omega) only [Bool.not_false, if_true, gI_ne2, e, gu_nI, nI_clamp, ap, gI_sL, n1]
theorem mo_pop {ξ : Mem} {h : Nat} (e : gI ξ 12 0 42 = nI (h + 1)) (hh : h < 33) : m_Mo_pop ξ = some (gL ξ 381 0 h, sI ξ 12 0 42 (nI h)) := by
  simp (disch := omega) only [m_Mo_pop, e, nsub1, Nat.add_sub_cancel, ap, gI_self, gu_nI, nI_clamp, gL_sI]
theorem mo_puts {ξ : Mem} {a b k : Nat} {v : Int64} (hk : k < 100) (hv : -1000000000 ≤ v.toInt ∧ v.toInt ≤ 1000000000) : m_Mo_puts a 0 100 0 b 0 100 0 (nI k) v ξ = some (sI (sL ξ a 0 k v) b 0 k 1) := by
  unfold m_Mo_puts mj_Mo_puts_14
  rw [far_b, decide_eq_true hv]
  simp (disch := omega) only [Bool.not_true, if_false, gu_nI, nI_clamp, ap]
  rfl
theorem fit_touch {ν : Mem} {j x k : Nat} {v : Int32} (hx : x < 2) (hk : k < 100) : m_Fit_touch j (nI x) (nI k) v ν = some (sI (sI ν 501 (2 * j + x) k v) 502 (2 * j + x) k 1) := by
  simp (disch := omega) only [m_Fit_touch, gu_nI, nI_clamp, ap]
