/-- a part moves a place -/
def stp (μ : Mem) (q : Nat) (p : Int64 × Int64) : Int64 × Int64 := (rnd ((gI μ 6 q 3).toInt64 * p.1 + (gI μ 6 q 4).toInt64 * p.2) 16384 + (gI μ 6 q 1).toInt64, rnd ((gI μ 6 q 5).toInt64 * p.1 + (gI μ 6 q 6).toInt64 * p.2) 16384 + (gI μ 6 q 2).toInt64)
def PL2 (μ : Mem) (pq : Nat → Nat) : Nat → Int64 × Int64 → Int64 × Int64
  | 0, p => p
  | d + 1, p => PL2 μ pq d (stp μ (pq d) p)
def nearB (K : Int) (p : Int64 × Int64) : Prop := (-K ≤ p.1.toInt ∧ p.1.toInt ≤ K) ∧ (-K ≤ p.2.toInt ∧ p.2.toInt ≤ K)
theorem lin_b {a b : Int32} {x y : Int64} {K : Int} (ha : bI a (-32768) 32767) (hb : bI b (-32768) 32767) (hx : -K ≤ x.toInt ∧ x.toInt ≤ K) (hy : -K ≤ y.toInt ∧ y.toInt ≤ K) (hK : 0 ≤ K ∧ K ≤ 16777216) {m : Int32} (hm : bI m (-32000) 32000) : -(4 * K + 32001) ≤ (rnd (a.toInt64 * x + b.toInt64 * y) 16384 + m.toInt64).toInt ∧ (rnd (a.toInt64 * x + b.toInt64 * y) 16384 + m.toInt64).toInt ≤ 4 * K + 32001 := by
  have m1 := mulb (A := 32768) (B := K) (a := a.toInt) (b := x.toInt) ⟨ha.1, by have := ha.2; omega⟩ hx
  have m2 := mulb (A := 32768) (B := K) (a := b.toInt) (b := y.toInt) ⟨hb.1, by have := hb.2; omega⟩ hy
  have e1 : (a.toInt64 * x).toInt = a.toInt * x.toInt := by rw [u_mul, i64]; rw [i64]; omega
  have e2 : (b.toInt64 * y).toInt = b.toInt * y.toInt := by rw [u_mul, i64]; rw [i64]; omega
  have e3 : (a.toInt64 * x + b.toInt64 * y).toInt = a.toInt * x.toInt + b.toInt * y.toInt := by rw [u_add, e1, e2]; rw [e1, e2]; omega
  obtain ⟨q, r, f1, f2, f3⟩ := rnd_q (a := a.toInt64 * x + b.toInt64 * y) (b := 16384) (by decide)
  rw [show (16384 : Int64).toInt = 16384 from by decide] at f2 f3
  have g := rdq_b (b := 16384) (q := q) (m := r) (by decide) (by omega) (by rw [show (16384 : Int64).toInt = 16384 from by decide]; omega) (by omega)
  rw [← f1, show (16384 : Int64).toInt = 16384 from by decide] at g
  have h1 := hm.1
  have h2 := hm.2
  rw [u_add, i64]
  · omega
  · rw [i64]; omega
theorem pl_C {μ ν : Mem} {pq : Nat → Nat} {a1 : Nat} {a2 a3 : Int32} {c : Int64 → Int64 → Mem → Option Mem} (h6 : ∀ q b, gI ν 6 q b = gI μ 6 q b) : ∀ d f p, d ≤ 4 → (∀ j, j < d → gR ν 124 0 j = some (pq j)) → lp_Fl_place_23 a1 a2 a3 c (f + d + 1) p.1 p.2 (nI d - 1) ν = c (PL2 μ pq d p).1 (PL2 μ pq d p).2 ν := by
  intro d
  induction d with
  | zero =>
    intro f p _ _
    rw [lp_Fl_place_23, if_pos (show nI 0 - 1 < 0 from by decide)]; rfl
  | succ d ih =>
    intro f p hd hR
    have n1 : nI (d + 1) - 1 = nI d := pk_sub (b := 1) (by omega)
    have n2 : nI d + -1 = nI d - 1 := by grind
    rw [show f + (d + 1) + 1 = f + d + 1 + 1 from rfl, lp_Fl_place_23, n1, if_neg (by rw [show (0 : Int32) = nI 0 from rfl, nlt (by omega) (by omega)]; omega), gu_nI (by omega) (by omega), nI_clamp (by omega), ap, hR d (by omega), oc_some]
    unfold m_Pa_placeX m_Pa_placeY
    rw [(rd_both (by decide) (by decide)).1, Option.bind_some, Option.bind_some, (rd_both (by decide) (by decide)).1, Option.bind_some, Option.bind_some]
    unfold mj_Fl_place_68
    rw [ap, n2, h6, h6, h6, h6, h6, h6]
    exact ih f (stp μ (pq d) p) (by omega) (fun j hj => hR j (by omega))
theorem pl_M {μ ξ : Mem} {pq : Nat → Nat} {a1 a2 a3 a4 y5 y6 y7 : Int32} {c : Int32 → Int32 → Int32 → Int64 → Int64 → Mem → Option Mem} : ∀ d f p, d ≤ 4 → (∀ j, j < d → pq j < 192 ∧ 6 * gI ξ 360 0 j + gI ξ 361 0 j - 1 = nI (pq j) ∧ gI ξ 354 0 (4 * pq j) = gI μ 6 (pq j) 3 ∧ gI ξ 354 0 (4 * pq j + 1) = gI μ 6 (pq j) 4 ∧ gI ξ 354 0 (4 * pq j + 2) = gI μ 6 (pq j) 5 ∧ gI ξ 354 0 (4 * pq j + 3) = gI μ 6 (pq j) 6 ∧ gI ξ 355 0 (pq j) = gI μ 6 (pq j) 1 ∧ gI ξ 356 0 (pq j) = gI μ 6 (pq j) 2) →
    lp_Mo_outlineOf_75 a1 a2 a3 a4 c (f + d + 1) y5 y6 y7 p.1 p.2 (nI d - 1) ξ = c y5 y6 y7 (PL2 μ pq d p).1 (PL2 μ pq d p).2 ξ := by
  intro d
  induction d with
  | zero =>
    intro f p _ _
    rw [lp_Mo_outlineOf_75, if_pos (show nI 0 - 1 < 0 from by decide)]; rfl
  | succ d ih =>
    intro f p hd hR
    have n1 : nI (d + 1) - 1 = nI d := pk_sub (b := 1) (by omega)
    have n2 : nI d + -1 = nI d - 1 := by grind
    obtain ⟨r1, r2, r3, r4, r5, r6, r7, r8⟩ := hR d (by omega)
    generalize hq : pq d = q at *
    have m0 : (4 : Int32) * nI q = nI (4 * q) := by rw [show (4 : Int32) = nI 4 from rfl, pk_mul]
    have m1 : nI (4 * q) + 1 = nI (4 * q + 1) := nI_add _ 1
    have m2 : nI (4 * q) + 2 = nI (4 * q + 2) := nI_add _ 2
    have m3 : nI (4 * q) + 3 = nI (4 * q + 3) := nI_add _ 3
    rw [show f + (d + 1) + 1 = f + d + 1 + 1 from rfl, lp_Mo_outlineOf_75, n1, if_neg (by rw [show (0 : Int32) = nI 0 from rfl, nlt (by omega) (by omega)]; omega), gu_nI (by omega) (by omega), gu_nI (by omega) (by omega), nI_clamp (by omega), r2, ap, m0, m1, m2, m3, gu_nI (by omega) (by omega), gu_nI (by omega) (by omega), nI_clamp (by omega), nI_clamp (by omega), r3, r4, (rd_both (by decide) (by decide)).2, Option.bind_some, gu_nI (by omega) (by omega), nI_clamp (by omega), r7, ap, gu_nI (by omega) (by omega), gu_nI (by omega) (by omega), nI_clamp (by omega), nI_clamp (by omega), r5, r6, (rd_both (by decide) (by decide)).2, Option.bind_some, gu_nI (by omega) (by omega), r8, ap, n2, ap]
    have := ih f (stp μ q p) (by omega) (fun j hj => hR j (by omega))
    show _ = c y5 y6 y7 (PL2 μ pq d (stp μ (pq d) p)).1 (PL2 μ pq d (stp μ (pq d) p)).2 ξ
    rw [hq]
    exact this
theorem pl_b {μ : Mem} {pq : Nat → Nat} : ∀ d K p, d ≤ 4 → (∀ j, j < d → bI (gI μ 6 (pq j) 1) (-32000) 32000 ∧ bI (gI μ 6 (pq j) 2) (-32000) 32000 ∧ bI (gI μ 6 (pq j) 3) (-32768) 32767 ∧ bI (gI μ 6 (pq j) 4) (-32768) 32767 ∧ bI (gI μ 6 (pq j) 5) (-32768) 32767 ∧ bI (gI μ 6 (pq j) 6) (-32768) 32767) → nearB K p → 0 ≤ K → 4 ^ d * (K + 10667) ≤ 16777216 → nearB 16777216 (PL2 μ pq d p) := by
  intro d
  induction d with
  | zero =>
    intro K p _ _ h h0 hK
    rw [Int.pow_zero, Int.one_mul] at hK
    show nearB 16777216 p
    exact ⟨by have := h.1; omega, by have := h.2; omega⟩
  | succ d ih =>
    intro K p hd hB h h0 hK
    obtain ⟨b1, b2, b3, b4, b5, b6⟩ := hB d (by omega)
    have p1 : (1 : Int) ≤ 4 ^ d := by
      have : (0 : Int) < 4 ^ d := Int.pow_pos (by decide)
      omega
    have pk : 4 ^ (d + 1) * (K + 10667) = 4 ^ d * (4 * K + 32001 + 10667) := by
      rw [Int.pow_succ, Int.mul_assoc]; congr 1; omega
    have kb : K ≤ 16777216 := by
      have : 1 * (K + 10667) ≤ 4 ^ (d + 1) * (K + 10667) := Int.mul_le_mul_of_nonneg_right (by rw [Int.pow_succ]; omega) (by omega)
      omega
    refine ih (4 * K + 32001) (stp μ (pq d) p) (by omega) (fun j hj => hB j (by omega)) ⟨lin_b b3 b4 h.1 h.2 ⟨h0, kb⟩ b1, lin_b b5 b6 h.1 h.2 ⟨h0, kb⟩ b2⟩ (by omega) (by rw [← pk]; exact hK)
