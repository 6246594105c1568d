theorem fr_congr {i : Nat} {ν ξ ν' ξ' : Mem} {m w st g : Nat} {fl : Int32} {b : Nat → Nat} (h1 : gI ν' = gI ν) (h2 : ∀ k l b, ((364 ≤ k ∧ k ≤ 366) ∨ (k = 12 ∧ (b = 22 ∨ b = 23 ∨ b = 31 ∨ b = 32))) → gI ξ' k l b = gI ξ k l b) (R : FR i ν ξ m w st g fl b) : FR i ν' ξ' m w st g fl b := by
  unfold FR at R ⊢
  rw [h1, h2 12 0 22 (by omega), h2 12 0 23 (by omega), h2 12 0 31 (by omega), h2 12 0 32 (by omega)]
  obtain ⟨r1, r2, r3, r4, r5, r6, r7, r8⟩ := R
  refine ⟨r1, r2, r3, r4, r5, r6, fun k hk => ?_, r8⟩
  rw [h2 364 0 k (by omega), h2 365 0 k (by omega), h2 366 0 k (by omega)]
  exact r7 k hk
def XC (i h : Nat) (ν ν' : Mem) : Prop := (∀ k l b, ¬ (240 ≤ k ∧ k ≤ 243 ∧ l = i) → ¬ (k = 7 ∧ l = i) → gI ν' k l b = gI ν k l b) ∧ (∀ a l b, ¬ ((a = 120 ∨ a = 121) ∧ 4 * h + 4 ≤ b) → gL ν' a l b = gL ν a l b) ∧ gR ν' = gR ν ∧ gF ν' = gF ν
def XM (v : Nat) (ξ ξ' : Mem) : Prop := (∀ k l b, ¬ (364 ≤ k ∧ k ≤ 366) → ¬ (k = 12 ∧ (b = 22 ∨ b = 23 ∨ b = 31 ∨ b = 32 ∨ b = 37)) → ¬ (k = 376 ∧ v ≤ b) → gI ξ' k l b = gI ξ k l b) ∧ (∀ a l b, ¬ (a = 375 ∧ 8 * v ≤ b) → gL ξ' a l b = gL ξ a l b)
theorem xc_tr {i h : Nat} {ν ν' ν'' : Mem} (a : XC i h ν ν') (b : XC i h ν' ν'') : XC i h ν ν'' := ⟨fun k l c p q => (b.1 k l c p q).trans (a.1 k l c p q), fun x l c p => (b.2.1 x l c p).trans (a.2.1 x l c p), b.2.2.1.trans a.2.2.1, b.2.2.2.trans a.2.2.2⟩
theorem xm_tr {v : Nat} {ξ ξ' ξ'' : Mem} (a : XM v ξ ξ') (b : XM v ξ' ξ'') : XM v ξ ξ'' := ⟨fun k l c p q r => (b.1 k l c p q r).trans (a.1 k l c p q r), fun x l c p => (b.2 x l c p).trans (a.2 x l c p)⟩
theorem xc_mono {i h : Nat} {ν ν' : Mem} (a : XC i (h + 1) ν ν') : XC i h ν ν' := ⟨a.1, fun x l c p => a.2.1 x l c (by omega), a.2.2⟩
theorem xm_mono {v : Nat} {ξ ξ' : Mem} (a : XM (v + 1) ξ ξ') : XM v ξ ξ' := ⟨fun k l c p q r => a.1 k l c p q (by omega), fun x l c p => a.2 x l c (by omega)⟩
theorem xc_row {i h K : Nat} {ν ν' : Mem} (hK : K = 120 ∨ K = 121) (r : ROW K (4 * h + 4) ν ν') : XC i h ν ν' := ⟨fun k l b _ _ => by rw [r.1], fun a l b q => r.2.2.2 a l b (by omega), r.2.1, r.2.2.1⟩
theorem xc_fc {i h : Nat} {ν ν' : Mem} (f : FC i ν ν') : XC i h ν ν' := ⟨f.1, fun a l b _ => by rw [f.2.1], f.2.2.1, f.2.2.2⟩
theorem xm_fm {v : Nat} {ξ ξ' : Mem} (f : FM ξ ξ') : XM v ξ ξ' := ⟨fun k l b p q r => f.1 k l b p (by omega), fun a l b _ => by rw [f.2]⟩
theorem xm_mh {v d h : Nat} {ξ ξ' : Mem} (m : MH v d h ξ ξ') : XM v ξ ξ' := ⟨fun k l b p q r => m.1 k l b (by omega) (by omega), fun a l b p => m.2.2.2.2.1 a l b (by omega)⟩
/-- what a piece needs, and what it leaves -/
def PIN (i d : Nat) (t : Int32) (h v : Nat) (ν ξ : Mem) (m w st g : Nat) (b : Nat → Nat) : Prop := FR i ν ξ m w st g 1 b ∧ gI ξ 12 0 38 = nI st ∧ gI ν 1 0 6 = nI d ∧ gL ν 1 0 5 = t.toInt64 * 1073741824 ∧ CP ν ξ d h v ∧ gI ξ 12 0 37 = nI (v + 1) ∧ gI ξ 376 0 v = nI h ∧ v ≤ h
theorem piece_both {i d : Nat} {t a1 a2 : Int32} (hd : d = 2 ∨ d = 3) (ht : 1 ≤ t.toInt ∧ t.toInt ≤ 256) (hi : i ≠ 0 ∨ True) : ∀ k h v ν ξ m w st g b, h + k = 10 → PIN i d t h v ν ξ m w st g b →
    ∃ ν' ξ' m' w' fl' N, (∀ f, m_Fl_addPiece (f + k + 1) (nI h) i ν = some ν') ∧ FR i ν' ξ' m' w' st g fl' b ∧ XC i h ν ν' ∧ XM v ξ ξ' ∧ N ≤ 2 ^ (k + 1) ∧ ((fl' = 1 ∧ gI ξ' 12 0 37 = nI v ∧ ∀ f, lp_Mo_curve_91 a1 a2 (nI (d + 1)) t (f + N) (un d) ξ = lp_Mo_curve_91 a1 a2 (nI (d + 1)) t f (un d) ξ') ∨ (fl' = 0 ∧ ∀ f, lp_Mo_curve_91 a1 a2 (nI (d + 1)) t (f + N + 1) (un d) ξ = some ξ')) := by
  have z1 : ¬ (1 : Int32) = 0 := by decide
  intro k
  induction k with
  | zero =>
    sorry
  | succ k ih =>
    sorry
