/-- which cells are live: (k, l, n): the cells l .. l + n - 1 of role k -/
def cv (L : List (Nat × Nat × Nat)) (k l : Nat) : Bool := L.any fun e => Nat.beq k e.1 && (Nat.ble e.2.1 l && Nat.blt l (e.2.1 + e.2.2))
/-- what was put: (k, l, j, v) -/
def lk (Q : List (Nat × Nat × Nat × Nat)) (k l j : Nat) : Option Nat := match Q with
  | [] => none
  | e :: Q => if k = e.1 ∧ l = e.2.1 ∧ j = e.2.2.1 then some e.2.2.2 else lk Q k l j
def fq (Q : List (Nat × Nat × Nat × Nat)) (k l : Nat) : Bool := Q.all fun e => !(Nat.beq k e.1 && Nat.beq l e.2.1)
def fz (Q : List (Nat × Nat × Nat × Nat)) (k : Nat) : Bool := Q.all fun e => !(Nat.beq k e.1)
theorem fq_none {Q : List (Nat × Nat × Nat × Nat)} {k l j : Nat} (h : fq Q k l = true) : lk Q k l j = none := by
  induction Q with
  | nil => rfl
  | cons e Q ih =>
    unfold fq at h ih
    rw [List.all_cons, Bool.and_eq_true] at h
    rw [lk, if_neg (fun q => ?_)]
    · exact ih h.2
    · have h1 := h.1
      rw [q.1, q.2.1, Nat.beq_refl, Nat.beq_refl] at h1
      cases h1
theorem fz_none {Q : List (Nat × Nat × Nat × Nat)} {k l j : Nat} (h : fz Q k = true) : lk Q k l j = none := by
  induction Q with
  | nil => rfl
  | cons e Q ih =>
    unfold fz at h ih
    rw [List.all_cons, Bool.and_eq_true] at h
    rw [lk, if_neg (fun q => ?_)]
    · exact ih h.2
    · have h1 := h.1
      rw [q.1, Nat.beq_refl] at h1
      cases h1
theorem cv_cons {L : List (Nat × Nat × Nat)} {k l n a c : Nat} : cv ((k, l, n) :: L) a c = if a = k ∧ l ≤ c ∧ c < l + n then true else cv L a c := by
  unfold cv
  rw [List.any_cons]
  by_cases h : a = k ∧ l ≤ c ∧ c < l + n
  · obtain ⟨h1, h2, h3⟩ := h
    rw [if_pos ⟨h1, h2, h3⟩, h1, Nat.beq_refl, Nat.ble_eq_true_of_le h2, show Nat.blt c (l + n) = true from Nat.ble_eq_true_of_le h3]
    rfl
  · rw [if_neg h]
    have : (Nat.beq a k && (Nat.ble l c && Nat.blt c (l + n))) = false := by
      rw [← Bool.not_eq_true, Bool.and_eq_true, Bool.and_eq_true]
      exact fun q => h ⟨Nat.eq_of_beq_eq_true q.1, Nat.le_of_ble_eq_true q.2.1, Nat.le_of_ble_eq_true q.2.2⟩
    show (_ || _) = _
    rw [this, Bool.false_or]
/-- a memory in the making: b says that the exceptions of letters are laid -/
def CS (L : List (Nat × Nat × Nat)) (Q : List (Nat × Nat × Nat × Nat)) (b : Bool) (μ : Mem) : Prop := (∀ k l, gF μ k l = cv L k l) ∧ (∀ k l j, gR μ k l j = lk Q k l j) ∧ (∀ k l j, k ≠ 561 → gI μ k l j = 0) ∧ (b = true → ∀ a d, a < 32 → d < 32 → gI μ 561 a d = 10000)
def Ok (x : Option Mem) (L : List (Nat × Nat × Nat)) (Q : List (Nat × Nat × Nat × Nat)) (b : Bool) : Prop := ∃ ν, x = some ν ∧ CS L Q b ν
section CT
variable {L L' : List (Nat × Nat × Nat)} {Q Q' : List (Nat × Nat × Nat × Nat)} {b b' : Bool} {μ : Mem} {k l j v : Nat}
theorem st_end (C : CS L Q b μ) : Ok (some μ) L Q b := ⟨μ, rfl, C⟩
theorem st_gfr {x : Option Mem} (C : CS L Q b μ) (h : cv L k l = false) (g : Ok x L' Q' b') : Ok (gfr μ k l x) L' Q' b' := by
  rw [gfr_pos (by rw [C.1, h])]; exact g
theorem st_gfm {x : Option Mem} {z n : Nat} (C : CS L Q b μ) (h : cv L k l = false) (h2 : ∀ i, i < n → cv L z (n * l + i) = false) (g : Ok x L' Q' b') : Ok (gfm μ k l z n x) L' Q' b' := by
  rw [gfm_pos (by rw [C.1, h]) (fun i hi => by rw [C.1, h2 i hi])]; exact g
theorem cs_nw (C : CS L Q b μ) (hq : fq Q k l = true) (hk : k ≠ 561) : CS ((k, l, 1) :: L) Q b (nw μ k l) := by
  refine ⟨fun a c => ?_, fun a c i => ?_, fun a c i h => ?_, fun h a d ha hd => ?_⟩
  · rw [gF_nw, cv_cons, C.1]
    by_cases w : a = k ∧ c = l
    · rw [if_pos w, if_pos (by omega)]
    · rw [if_neg w, if_neg (by omega)]
  · rw [gR_nw, C.2.1]
    by_cases w : a = k ∧ c = l
    · rw [if_pos w, w.1, w.2, fq_none hq]
    · rw [if_neg w]
  · rw [gI_nw]
    by_cases w : a = k ∧ c = l
    · rw [if_pos w]
    · rw [if_neg w]; exact C.2.2.1 a c i h
  · rw [gI_nw, if_neg (by omega)]; exact C.2.2.2 h a d ha hd
theorem st_nw {f : Mem → Option Mem} (C : CS L Q b μ) (hq : fq Q k l = true) (hk : k ≠ 561) (g : ∀ μ', CS ((k, l, 1) :: L) Q b μ' → Ok (f μ') L' Q' b') : Ok (ap (nw μ k l) f) L' Q' b' := g _ (cs_nw C hq hk)
theorem cs_nwm {z n : Nat} (C : CS L Q b μ) (hq : fq Q k l = true) (hz : fz Q z = true) (hb : b = false ∨ (k ≠ 561 ∧ z ≠ 561)) : CS ((k, l, 1) :: (z, n * l, n) :: L) Q b (nwm μ k l z n) := by
  refine ⟨fun a c => ?_, fun a c i => ?_, fun a c i h => ?_, fun h a d ha hd => ?_⟩
  · rw [gF_nwm, cv_cons, cv_cons, C.1]
    by_cases w : (a = k ∧ c = l) ∨ (a = z ∧ n * l ≤ c ∧ c < n * l + n)
    · rw [if_pos w]
      rcases w with w | w
      · rw [if_pos (by omega)]
      · rw [if_pos w]
        split <;> rfl
    · rw [if_neg w, if_neg (fun q => w (Or.inl ⟨q.1, by omega⟩)), if_neg (fun q => w (Or.inr q))]
  · rw [gR_nwm, C.2.1]
    by_cases w : (a = k ∧ c = l) ∨ (a = z ∧ n * l ≤ c ∧ c < n * l + n)
    · rw [if_pos w]
      rcases w with w | w
      · rw [w.1, w.2, fq_none hq]
      · rw [w.1, fz_none hz]
    · rw [if_neg w]
  · rw [gI_nwm]
    by_cases w : (a = k ∧ c = l) ∨ (a = z ∧ n * l ≤ c ∧ c < n * l + n)
    · rw [if_pos w]
    · rw [if_neg w]; exact C.2.2.1 a c i h
  · rcases hb with hb | hb
    · rw [hb] at h; cases h
    · rw [gI_nwm, if_neg (fun w => by
        rcases w with w | w
        · exact hb.1 w.1.symm
        · exact hb.2 w.1.symm)]
      exact C.2.2.2 h a d ha hd
theorem st_nwm {z n : Nat} {f : Mem → Option Mem} (C : CS L Q b μ) (hq : fq Q k l = true) (hz : fz Q z = true) (hb : b = false ∨ (k ≠ 561 ∧ z ≠ 561)) (g : ∀ μ', CS ((k, l, 1) :: (z, n * l, n) :: L) Q b μ' → Ok (f μ') L' Q' b') : Ok (ap (nwm μ k l z n) f) L' Q' b' := g _ (cs_nwm C hq hz hb)
theorem st_sR {f : Mem → Option Mem} (C : CS L Q b μ) (g : ∀ μ', CS L ((k, l, j, v) :: Q) b μ' → Ok (f μ') L' Q' b') : Ok (ap (sR μ k l j (some v)) f) L' Q' b' := by
  refine g _ ⟨fun a c => ?_, fun a c i => ?_, fun a c i h => ?_, fun h a d ha hd => ?_⟩
  · rw [gF_sR]; exact C.1 a c
  · rw [gR_sR, lk, C.2.1]
  · rw [gI_sR]; exact C.2.2.1 a c i h
  · rw [gI_sR]; exact C.2.2.2 h a d ha hd
theorem st_sI {f : Mem → Option Mem} (C : CS L Q b μ) (hk : k ≠ 561) (g : ∀ μ', CS L Q b μ' → Ok (f μ') L' Q' b') : Ok (ap (sI μ k l j 0) f) L' Q' b' := by
  refine g _ ⟨fun a c => ?_, fun a c i => ?_, fun a c i h => ?_, fun h a d ha hd => ?_⟩
  · rw [gF_sI]; exact C.1 a c
  · rw [gR_sI]; exact C.2.1 a c i
  · rw [gI_sI]
    by_cases w : a = k ∧ c = l ∧ i = j
    · rw [if_pos w]
    · rw [if_neg w]; exact C.2.2.1 a c i h
  · rw [gI_sI, if_neg (by omega)]; exact C.2.2.2 h a d ha hd
theorem st_bd {x : Option Mem} {f : Mem → Option Mem} (hx : Ok x L Q b) (g : ∀ r, CS L Q b r → Ok (f r) L' Q' b') : Ok (Option.bind x f) L' Q' b' := by
  obtain ⟨r, e, C⟩ := hx
  rw [e]; exact g r C
end CT
theorem fillF {k l n z : Nat} {v : Int32} (hn : n < 100000) : ∀ f i μ, i ≤ n → n - i < f → ∃ ν, lp_Ar_fillF_5 k l n z v f (nI i) (nI n) μ = some ν ∧ (∀ b, i ≤ b → b < n → gI ν k l b = v) ∧ (∀ k' l' b, ¬ (k' = k ∧ l' = l ∧ i ≤ b ∧ b < n) → gI ν k' l' b = gI μ k' l' b) ∧ (∀ a c, gF ν a c = gF μ a c) ∧ (∀ a c d, gR ν a c d = gR μ a c d) := by
  intro f
  induction f with
  | zero => intro i μ h1 h2; omega
  | succ f ih =>
    intro i μ h1 h2
    by_cases h : n ≤ i
    · exact ⟨μ, by simp (disch := omega) only [lp_Ar_fillF_5, nle, h, if_true], fun b _ _ => by omega, fun _ _ _ _ => rfl, fun _ _ => rfl, fun _ _ _ => rfl⟩
    · have n1 : nI i + 1 = nI (i + 1) := nI_add i 1
      obtain ⟨ν, e1, e2, e3, e4, e5⟩ := ih (i + 1) (sI μ k l i v) (by omega) (by omega)
      refine ⟨ν, ?_, fun b b1 b2 => ?_, fun k' l' b q => ?_, fun a c => by rw [e4, gF_sI], fun a c d => by rw [e5, gR_sI]⟩
      · rw [← e1]; simp (disch := omega) only [lp_Ar_fillF_5, nle, h, if_false, gu_nI, nI_clamp, ap, n1]
      · by_cases w : b = i
        · subst w; rw [e3 k l b (by omega), gI_self]
        · exact e2 b (by omega) b2
      · rw [e3 k' l' b (by omega), gI_sI, if_neg (by omega)]
theorem ke_lp {L : List (Nat × Nat × Nat)} {Q : List (Nat × Nat × Nat × Nat)} (hQ : lk Q 3 0 1 = some 0) : ∀ f i μ, i ≤ 32 → 32 - i < f → CS L Q false μ → (∀ a d, a < i → d < 32 → gI μ 561 a d = 10000) → Ok (lp_Ke_init_30 f (nI i) μ) L Q true := by
  intro f
  induction f with
  | zero => intro i μ h1 h2; omega
  | succ f ih =>
    intro i μ h1 h2 C h3
    rw [lp_Ke_init_30, show (32 : Int32) = nI 32 from rfl]
    by_cases h : 32 ≤ i
    · rw [if_pos (by rw [nle (by omega) (by omega)]; exact h)]
      exact ⟨μ, rfl, C.1, C.2.1, C.2.2.1, fun _ a d ha hd => h3 a d (by omega) hd⟩
    · obtain ⟨ν, e1, e2, e3, e4, e5⟩ := fillF (k := 561) (l := i) (n := 32) (z := 0) (v := 10000) (by omega) FU 0 μ (by omega) (by unfold FU; omega)
      have r := ih (i + 1) ν (by omega) (by omega) ⟨fun a c => by rw [e4, C.1], fun a c d => by rw [e5, C.2.1], fun a c d q => by rw [e3 a c d (by omega), C.2.2.1 a c d q], fun q => by cases q⟩ (fun a d ha hd => by
        by_cases w : a = i
        · subst w; exact e2 d (by omega) hd
        · rw [e3 561 a d (by omega)]; exact h3 a d (by omega) hd)
      rw [if_neg (by rw [nle (by omega) (by omega)]; exact h), ap, C.2.1, hQ, Option.bind_some, gu_nI (by omega) (by omega), nI_clamp (by omega), show 32 * 0 + i = i by omega]
      have e : m_Ar_fillF 561 i 32 0 10000 μ = some ν := by
        unfold m_Ar_fillF
        rw [ap, show Int32.ofNat 32 = nI 32 from rfl, show (0 : Int32) = nI 0 from rfl]
        exact e1
      rw [e, Option.bind_some, ap, show nI i + 1 = nI (i + 1) from nI_add i 1]
      exact r
theorem cs_em : CS [] [] false em := ⟨fun _ _ => rfl, fun _ _ _ => rfl, fun _ _ _ _ => rfl, fun h => by cases h⟩
