def TC (i y : Nat) (ν ν' : Mem) : Prop := (∀ k l b, ¬ (240 ≤ k ∧ k ≤ 243 ∧ l = i) → ¬ (k = 7 ∧ l = i) → ¬ (k = 1 ∧ b = 6) → gI ν' k l b = gI ν k l b) ∧ (∀ a l b, ¬ (120 ≤ a ∧ a ≤ 123) → gL ν' a l b = gL ν a l b) ∧ (∀ k l b, ¬ (k = 124 ∧ y ≤ b) → gR ν' k l b = gR ν k l b)
def TM (y : Nat) (ξ ξ' : Mem) : Prop := ∀ k l b, ¬ (364 ≤ k ∧ k ≤ 366) → ¬ (k = 12 ∧ (b = 22 ∨ b = 23 ∨ b = 31 ∨ b = 32 ∨ b = 37 ∨ b = 38)) → k ≠ 376 → ¬ ((k = 360 ∨ k = 361) ∧ y ≤ b) → gI ξ' k l b = gI ξ k l b
theorem tc_tr {i y : Nat} {ν ν' ν'' : Mem} (a : TC i y ν ν') (b : TC i y ν' ν'') : TC i y ν ν'' := ⟨fun k l c p q r => (b.1 k l c p q r).trans (a.1 k l c p q r), fun x l c p => (b.2.1 x l c p).trans (a.2.1 x l c p), fun k l c p => (b.2.2 k l c p).trans (a.2.2 k l c p)⟩
theorem tm_tr {y : Nat} {ξ ξ' ξ'' : Mem} (a : TM y ξ ξ') (b : TM y ξ' ξ'') : TM y ξ ξ'' := fun k l c p q r s => (b k l c p q r s).trans (a k l c p q r s)
theorem tc_hc {i y : Nat} {ν ν' : Mem} (a : HC i ν ν') : TC i y ν ν' := ⟨a.1, a.2.1, fun k l b _ => by rw [a.2.2.1]⟩
theorem tm_hm {y : Nat} {ξ ξ' : Mem} (a : HM ξ ξ') : TM y ξ ξ' := fun k l b p q r _ => a k l b p q r
theorem tc_mono {i y : Nat} {ν ν' : Mem} (a : TC i (y + 1) ν ν') : TC i y ν ν' := ⟨a.1, a.2.1, fun k l b q => a.2.2 k l b (by omega)⟩
theorem tm_mono {y : Nat} {ξ ξ' : Mem} (a : TM (y + 1) ξ ξ') : TM y ξ ξ' := fun k l b p q r s => a k l b p q r (by omega)
/-- what stays while a letter is walked -/
def ST (μ : Mem) (i : Nat) (t : Int32) (ν ξ : Mem) : Prop := (∀ k l b, ¬ (240 ≤ k ∧ k ≤ 243) → k ≠ 7 → ¬ (k = 1 ∧ b = 6) → gI ν k l b = gI μ k l b) ∧ (∀ k l b, k ≠ 124 → gR ν k l b = gR μ k l b) ∧ gL ν 1 0 5 = t.toInt64 * 1073741824 ∧ (∀ k, k ∈ [343, 346, 347, 348, 349, 352, 353, 354, 355, 356] → gI ξ k = gI μ k)
theorem st_keep {μ ν ξ ν' ξ' : Mem} {i y : Nat} {t : Int32} (S : ST μ i t ν ξ) (a : TC i y ν ν') (b : TM y ξ ξ') : ST μ i t ν' ξ' := by
  refine ⟨fun k l c p q r => by rw [a.1 k l c (by omega) (by omega) r]; exact S.1 k l c p q r, fun k l c p => by rw [a.2.2 k l c (by omega)]; exact S.2.1 k l c p, by rw [a.2.1 1 0 5 (by omega)]; exact S.2.2.1, fun k hk => ?_⟩
  rw [← S.2.2.2 k hk]
  funext l c
  simp only [List.mem_cons, List.not_mem_nil, or_false] at hk
  exact b k l c (by omega) (by omega) (by omega) (by omega)
theorem pa_keep {μ ν ξ ν' ξ' : Mem} {i y : Nat} {pq : Nat → Nat} (P : PA μ pq y ν ξ) (a : TC i y ν ν') (b : TM y ξ ξ') : PA μ pq y ν' ξ' := by
  refine ⟨P.1, fun j hj => by rw [a.2.2 124 0 j (by omega)]; exact P.2.1 j hj, fun j hj => ?_, P.2.2.2⟩
  rw [b 360 0 j (by omega) (by omega) (by omega) (by omega), b 361 0 j (by omega) (by omega) (by omega) (by omega), b 354 0 _ (by omega) (by omega) (by omega) (by omega), b 354 0 _ (by omega) (by omega) (by omega) (by omega), b 354 0 _ (by omega) (by omega) (by omega) (by omega), b 354 0 _ (by omega) (by omega) (by omega) (by omega), b 355 0 _ (by omega) (by omega) (by omega) (by omega), b 356 0 _ (by omega) (by omega) (by omega) (by omega)]
  exact P.2.2.1 j hj
theorem outs_both {μ : Mem} {pq : Nat → Nat} {i l c p y : Nat} {e : Nat → Nat} {t a1 : Int32} (hl : l < 32) (ht : 1 ≤ t.toInt ∧ t.toInt ≤ 256) (hSF : SF μ l c p e) (hPT : PT μ l p) (hLC : ∀ o, o < c → LC (gI μ 302 l) (e o) (e (o + 1))) : ∀ f o ν ξ m w g fl b, o ≤ c → c - o < f → PA μ pq y ν ξ → ST μ i t ν ξ → FR i ν ξ m w m g fl b →
    ∃ ν' ξ' m' w' g' fl' b', (∀ gf sf cc, lp_Fl_addLetter_3 gf sf l (nI y) i cc f (nI o) ν = cc ν') ∧ (∀ cc, lp_Mo_flattens_68 a1 t cc f (nI y) (nI l) (nI o) ξ = cc (nI y) (nI l) ξ') ∧ FR i ν' ξ' m' w' m' g' fl' b' ∧ HC i ν ν' ∧ HM ξ ξ' := by
  have z1 : ¬ (1 : Int32) = 0 := by decide
  intro f
  induction f with
  | zero => intro o ν ξ m w g fl b h1 h2; omega
  | succ f ih =>
    intro o ν ξ m w g fl b h1 h2 P S R
    have c8 := hSF.1
    have k6 : gI ν 10 l 6 = nI c := by rw [S.1 10 l 6 (by omega) (by omega) (by omega)]; exact hSF.2.2.1
    have k343 : gI ξ 343 0 l = nI c := by rw [S.2.2.2 343 (by decide)]; exact hSF.2.2.2.1
    have hr : HC i ν ν := ⟨fun _ _ _ _ _ _ => rfl, fun _ _ _ _ => rfl, rfl, rfl⟩
    have mr : HM ξ ξ := fun _ _ _ _ _ _ => rfl
    by_cases h : c ≤ o
    · refine ⟨ν, ξ, m, w, g, fl, b, fun gf sf cc => ?_, fun cc => ?_, R, hr, mr⟩
      · rw [lp_Fl_addLetter_3, k6, if_pos (by rw [nle (by omega) (by omega)]; exact h)]
      · rw [lp_Mo_flattens_68, gu_nI hl (by omega), nI_clamp (by omega), k343, if_pos (by rw [nle (by omega) (by omega)]; exact h)]
    · have q1 : ¬ nI c ≤ nI o := by rw [nle (by omega) (by omega)]; exact h
      have n1 : nI o + 1 = nI (o + 1) := nI_add o 1
      rcases R.1.2.2.2.1 with rfl | ⟨rfl, _⟩
      · refine ⟨ν, ξ, m, w, g, 0, b, fun gf sf cc => ?_, fun cc => ?_, R, hr, mr⟩
        · rw [lp_Fl_addLetter_3, k6, if_neg q1, R.2.2.1.1, if_pos rfl]
        · rw [lp_Mo_flattens_68, gu_nI hl (by omega), nI_clamp (by omega), k343, if_neg q1, R.2.2.1.2, if_pos rfl]
      · obtain ⟨ν1, ξ1, m1, w1, g1, fl1, b1, r1, r2, r3, r4, r5⟩ := outl_both (e0 := 0) hl ht hSF hPT hLC (show o < c by omega) P S.1 (fun k hk => S.2.2.2 k ((show ∀ k ∈ [343, 346, 347, 348, 349], k ∈ [343, 346, 347, 348, 349, 352, 353, 354, 355, 356] from by decide) k hk)) S.2.2.1 R
        obtain ⟨ν2, ξ2, m2, w2, g2, fl2, b2, s1, s2, s3, s4, s5⟩ := ih (o + 1) ν1 ξ1 m1 w1 g1 fl1 b1 (by omega) (by omega) (pa_keep P (tc_hc r4) (tm_hm r5)) (st_keep (y := 0) S (tc_hc r4) (tm_hm r5)) r3
        refine ⟨ν2, ξ2, m2, w2, g2, fl2, b2, fun gf sf cc => ?_, fun cc => ?_, s3, ⟨fun k l' b' p q r => (s4.1 k l' b' p q r).trans (r4.1 k l' b' p q r), fun a l' b' p => (s4.2.1 a l' b' p).trans (r4.2.1 a l' b' p), s4.2.2.1.trans r4.2.2.1, s4.2.2.2.trans r4.2.2.2⟩, fun k l' b' p q r => (s5 k l' b' p q r).trans (r5 k l' b' p q r)⟩
        · rw [lp_Fl_addLetter_3, k6, if_neg q1, R.2.2.1.1, if_neg z1, r1, Option.bind_some, ap, n1]
          exact s1 gf sf cc
        · rw [lp_Mo_flattens_68, gu_nI hl (by omega), nI_clamp (by omega), k343, if_neg q1, R.2.2.1.2, if_neg z1, r2, Option.bind_some, ap, n1]
          exact s2 cc
theorem stop36 {a1 a2 y : Int32} {cc : Mem → Option (Bool × Mem)} {ξ : Mem} {f : Nat} (h : gI ξ 12 0 32 = 0) : lp_Mo_flattens_36 a1 a2 cc (f + 1) y ξ = cc ξ := by
  rw [lp_Mo_flattens_36]
  by_cases q : y < 0
  · rw [if_pos q]
  · rw [if_neg q, if_pos h]
