section JMM
variable {G : GT} {b : Bool} {cc : ByteArray} {own : String} {maxL d rc rs pc q : Nat} {lv : List (Nat × AV)} {st : List AV} {μ : Mem}
theorem fv_i {ρ : MA} {k l j : Nat} (h : (FT k j).1 = 0 ∨ (FT k j).1 = 1) : fv ρ μ k l j = .int (gI μ k l j) := by
  unfold fv
  rcases h with h | h <;> (rw [h]; rfl)
theorem fv_l {ρ : MA} {k l j : Nat} (h : (FT k j).1 = 2) : fv ρ μ k l j = .long (gL μ k l j) := by
  unfold fv
  rw [h]; rfl
theorem fv_r {ρ : MA} {k l j r : Nat} (h : FT k j = (3, r)) : fv ρ μ k l j = ren ρ (vo r (gR μ k l j)) := by
  unfold fv
  rw [h]; rfl
theorem fv_same {μ' : Mem} {ρ : MA} {k l : Nat} (hI : gI μ' k l = gI μ k l) (hL : gL μ' k l = gL μ k l) (hR : gR μ' k l = gR μ k l) : fv ρ μ' k l = fv ρ μ k l := by
  funext j
  unfold fv
  rw [hI, hL, hR]
theorem fvs_same {μ' : Mem} {ρ : MA} {k l : Nat} (hI : gI μ' k l = gI μ k l) (hL : gL μ' k l = gL μ k l) (hR : gR μ' k l = gR μ k l) : fvs ρ μ' k l = fvs ρ μ k l := by
  unfold fvs
  rw [fv_same hI hL hR]
theorem fvs_get {ρ : MA} {k l j : Nat} (hj : j < NF k) : (fvs ρ μ k l)[j]? = some (fv ρ μ k l j) := by
  simp [fvs, hj]
theorem fvs_len {ρ : MA} {k l : Nat} : (fvs ρ μ k l).length = NF k := by simp [fvs]
theorem fvs_set {μ' : Mem} {ρ : MA} {k l j : Nat} {v : Value} (hj : j < NF k) (hv : fv ρ μ' k l j = v) (ho : ∀ i, i ≠ j → fv ρ μ' k l i = fv ρ μ k l i) : (fvs ρ μ k l).set j v = fvs ρ μ' k l := by
  apply List.ext_getElem?
  intro i
  by_cases hi : i = j
  · subst hi
    rw [List.getElem?_set_self (by rw [fvs_len]; exact hj), fvs_get hj, hv]
  · rw [List.getElem?_set_ne (Ne.symm hi)]
    simp only [fvs, List.getElem?_map]
    cases h : (List.range (NF k))[i]? with
    | none => rfl
    | some a =>
      have ha : a = i := by
        have h2 := List.getElem?_eq_some_iff.mp h
        obtain ⟨h3, h4⟩ := h2
        simpa using h4.symm
      subst ha
      simp [ho a hi]
theorem CellOK.same {tys : List (ClassId × FieldType)} {μ' : Mem} {ρ : MA} {k l : Nat} {e : va_E} (h : CellOK tys ρ μ k l e) (hI : gI μ' k l = gI μ k l) (hL : gL μ' k l = gL μ k l) (hR : gR μ' k l = gR μ k l) : CellOK tys ρ μ' k l e := by
  unfold CellOK at h ⊢
  rw [fvs_same hI hL hR, hI, hL, hR]
  exact h
theorem Rel.at {D : va_G} {Z : Nat} {s : State} {H : Heap} {ρ : MA} {k l : Nat} (h : Rel D Z s H ρ μ) (hF : gF μ k l = true) : ∃ (tys : List (ClassId × FieldType)) (L : List Nat) (f : Nat → va_E) (q0 : Nat),
    va_K D classes tys s ∧ va_P D classes (va_pl L f) H ∧ va_D (fun q => Z ≤ q) (va_pl L f) ∧ (∀ k l, gF μ k l = true → ρ k l ∈ L ∧ CellOK tys ρ μ k l (f (ρ k l))) ∧
    (∀ k l k' l', gF μ k l = true → gF μ k' l' = true → ρ k l = ρ k' l' → k = k' ∧ l = l') ∧ Clo μ ∧ ρ k l ∈ L ∧ (va_pl L f)[q0]? = some (ρ k l, f (ρ k l)) ∧ CellOK tys ρ μ k l (f (ρ k l)) := by
  obtain ⟨tys, L, f, hK, hP, hD, hc, hi, hcl⟩ := h
  obtain ⟨h1, h2⟩ := hc k l hF
  obtain ⟨q0, hq0⟩ := va_pl_get (X := []) (f := f) h1
  exact ⟨tys, L, f, q0, hK, hP, hD, hc, hi, hcl, h1, hq0, h2⟩
theorem Rel.upd {D : va_G} {Z : Nat} {s : State} {H1 : Heap} {ρ : MA} {k l : Nat} {tys : List (ClassId × FieldType)} {L : List Nat} {f : Nat → va_E} {e : va_E} {μ' : Mem} (hK : va_K D classes tys s) (hP : va_P D classes (va_pl L (va_up f (ρ k l) e)) H1) (hD : va_D (fun q => Z ≤ q) (va_pl L (va_up f (ρ k l) e)))
    (hc : ∀ k l, gF μ k l = true → ρ k l ∈ L ∧ CellOK tys ρ μ k l (f (ρ k l))) (hi : ∀ k l k' l', gF μ k l = true → gF μ k' l' = true → ρ k l = ρ k' l' → k = k' ∧ l = l') (hF : gF μ k l = true) (hF' : ∀ a c, gF μ' a c = gF μ a c)
    (hs : ∀ a c, ¬ (a = k ∧ c = l) → gI μ' a c = gI μ a c ∧ gL μ' a c = gL μ a c ∧ gR μ' a c = gR μ a c) (hok : CellOK tys ρ μ' k l e) (hclo : Clo μ') : Rel D Z s H1 ρ μ' := by
  refine ⟨tys, L, va_up f (ρ k l) e, hK, hP, hD, fun a c hac => ?_, fun a c a' c' h1 h2 => hi a c a' c' (by rw [← hF']; exact h1) (by rw [← hF']; exact h2), hclo⟩
  rw [hF'] at hac
  obtain ⟨h1, h2⟩ := hc a c hac
  refine ⟨h1, ?_⟩
  by_cases h : a = k ∧ c = l
  · obtain ⟨rfl, rfl⟩ := h
    rw [va_up_self]
    exact hok
  · rw [va_up_ne _ _ (fun q => h (hi a c k l hac hF q))]
    obtain ⟨s1, s2, s3⟩ := hs a c h
    exact h2.same s1 s2 s3
theorem Cx.mem {p : Program} {R : Room} {s : State} {m : MethodId} {args : Array Value} {c : Code} {H H1 : Heap} {locs locs1 : List Loc} {cells slots : Nat} {D : va_G} {Z : Nat} {ρ ρ0 : MA} {B0 : Nat → Nat → Bool} {ls : Array Slot} {μ' : Mem}
    (C : Cx b cc own maxL d rc rs p R s m args c H locs cells slots D Z ρ ρ0 B0 ls lv μ) (hR : Rel D Z s H1 ρ μ') (hS : va_S (fun q => Z ≤ q) s.heap H1 locs1) (hF : ∀ a c, gF μ' a c = gF μ a c) (hL : b = true → LinkOK μ → LinkOK μ') : Cx b cc own maxL d rc rs p R s m args c H1 locs1 cells slots D Z ρ ρ0 B0 ls lv μ' := by
  obtain ⟨a1, a2, a3, a4, a5, a6, a7, a8, a9, a10, a11, a12, a13, a14, a15, a16, a17, a18⟩ := C
  refine ⟨a1, a2, a3, a4, a5, a6, a7, hR, hS, a10, fun k l h => ?_, a12, fun h => hL h (a13 h), fun z hz => ?_, a15, a16, a17, a18⟩
  · rw [hF]; exact a11 k l h
  · have h := a14 z hz
    unfold LV at h ⊢
    split <;> simp_all
theorem LVs.mem {μ' : Mem} (h : LVs μ st) (hF : ∀ a c, gF μ' a c = gF μ a c) : LVs μ' st := fun v hv => by
  have h := h v hv
  unfold LV at h ⊢
  split <;> simp_all
theorem Cx.rel {p : Program} {R : Room} {s : State} {m : MethodId} {args : Array Value} {c : Code} {H : Heap} {locs : List Loc} {cells slots : Nat} {D : va_G} {Z : Nat} {ρ ρ0 : MA} {B0 : Nat → Nat → Bool} {ls : Array Slot} (C : Cx b cc own maxL d rc rs p R s m args c H locs cells slots D Z ρ ρ0 B0 ls lv μ) : Rel D Z s H ρ μ := C.2.2.2.2.2.2.2.1
theorem Cx.hS {p : Program} {R : Room} {s : State} {m : MethodId} {args : Array Value} {c : Code} {H : Heap} {locs : List Loc} {cells slots : Nat} {D : va_G} {Z : Nat} {ρ ρ0 : MA} {B0 : Nat → Nat → Bool} {ls : Array Slot} (C : Cx b cc own maxL d rc rs p R s m args c H locs cells slots D Z ρ ρ0 B0 ls lv μ) : va_S (fun q => Z ≤ q) s.heap H locs := C.2.2.2.2.2.2.2.2.1
theorem Cx.link {p : Program} {R : Room} {s : State} {m : MethodId} {args : Array Value} {c : Code} {H : Heap} {locs : List Loc} {cells slots : Nat} {D : va_G} {Z : Nat} {ρ ρ0 : MA} {B0 : Nat → Nat → Bool} {ls : Array Slot} (C : Cx true cc own maxL d rc rs p R s m args c H locs cells slots D Z ρ ρ0 B0 ls lv μ) : LinkOK μ := C.2.2.2.2.2.2.2.2.2.2.2.2.1 rfl
theorem LV.live {k l : Nat} (h : LV μ (vr k l)) (hk : k < 900) : gF μ k l = true := by
  rcases h with h | h
  · exact h
  · exact absurd h.1 (Nat.not_le.mpr hk)
/-- a class, as the tables have it -/
def CD (k : Nat) (C : String) (T : u_T) (N : Nat) : Prop := k < 13 ∧ classes[k]? = some (C, T, N) ∧ NF k = N ∧ (∀ w ∈ u_ws C T N, w ∈ gw) ∧
  (∃ ty0 : Nat → FieldType, ∀ i, i < N → parseFieldDescriptor (T i).2.2.1 = some (ty0 i)) ∧ (∀ a, a < N → ∀ c, c < N → a ≠ c → (T a).2.1 ≠ (T c).2.1)
theorem J_getI {k l j i N : Nat} {C0 : String} {T : u_T} (hc : CD k C0 T N) (hj : j < N) (ht : (FT k j).1 = 0 ∨ (FT k j).1 = 1) (hg : Cond.fieldLink own i C0 (T j).2.1 (T j).2.2.1 ∈ gw) (hs : (T j).1 = C0) (hd : decode cc pc = .ok (.getfield i, 3)) (hq : pc + 3 = q) (k0 : J G b cc own maxL d rc rs q lv (vi (gI μ k l j) :: st) μ) : J G b cc own maxL d rc rs pc lv (vr k l :: st) μ := by
  subst hq
  intro p l0 e R s m args below meth c Qf H locs cells slots D Z ρ ρ0 B0 ls hG C hst
  obtain ⟨h13, hcl, hN, hin, -, -⟩ := hc
  have hF := (hst.hd).live (Nat.lt_trans h13 (by decide))
  obtain ⟨tys, L, f, q0, hK, hP, hD, hce, hinj, hclo, hm, hq0, hok⟩ := C.rel.at hF
  have he : (va_pl L f)[q0]? = some (ρ k l, .inr (k, fvs ρ μ k l)) := by rw [hq0, hok.1 h13]
  subst hs
  refine va_get (v := ren ρ (vi (gI μ k l j))) C.1 C.2.1 C.hts hin C.hown hK hP q0 he hcl j hj (C.hts _ hg) (fun _ h => h) (by rw [fvs_get (by rw [hN]; exact hj), fv_i ht]; rfl) hd ?_
  exact k0 _ _ _ _ _ _ _ _ _ _ _ _ _ _ _ _ _ _ _ _ _ hG C hst.tl.i
theorem J_getL {k l j i N : Nat} {C0 : String} {T : u_T} (hc : CD k C0 T N) (hj : j < N) (ht : (FT k j).1 = 2) (hg : Cond.fieldLink own i C0 (T j).2.1 (T j).2.2.1 ∈ gw) (hs : (T j).1 = C0) (hd : decode cc pc = .ok (.getfield i, 3)) (hq : pc + 3 = q) (k0 : J G b cc own maxL d rc rs q lv (vl (gL μ k l j) :: st) μ) : J G b cc own maxL d rc rs pc lv (vr k l :: st) μ := by
  subst hq
  intro p l0 e R s m args below meth c Qf H locs cells slots D Z ρ ρ0 B0 ls hG C hst
  obtain ⟨h13, hcl, hN, hin, -, -⟩ := hc
  have hF := (hst.hd).live (Nat.lt_trans h13 (by decide))
  obtain ⟨tys, L, f, q0, hK, hP, hD, hce, hinj, hclo, hm, hq0, hok⟩ := C.rel.at hF
  have he : (va_pl L f)[q0]? = some (ρ k l, .inr (k, fvs ρ μ k l)) := by rw [hq0, hok.1 h13]
  subst hs
  refine va_get (v := ren ρ (vl (gL μ k l j))) C.1 C.2.1 C.hts hin C.hown hK hP q0 he hcl j hj (C.hts _ hg) (fun _ h => h) (by rw [fvs_get (by rw [hN]; exact hj), fv_l ht]; rfl) hd ?_
  exact k0 _ _ _ _ _ _ _ _ _ _ _ _ _ _ _ _ _ _ _ _ _ hG C hst.tl.l
theorem LV_vo {k l j r : Nat} (hclo : Clo μ) (hF : gF μ k l = true) (h13 : k < 13) (hj : j < NF k) (ht : FT k j = (3, r)) : LV μ (vo r (gR μ k l j)) := by
  cases h : gR μ k l j with
  | none => trivial
  | some i =>
    have h2 := (hclo k l hF).1 h13 j i hj (by rw [ht]) h
    rw [ht] at h2
    exact Or.inl h2
theorem J_getR {k l j i N : Nat} {C0 : String} {T : u_T} (hc : CD k C0 T N) (hj : j < N) {r : Nat} (ht : FT k j = (3, r)) (hg : Cond.fieldLink own i C0 (T j).2.1 (T j).2.2.1 ∈ gw) (hs : (T j).1 = C0) (hd : decode cc pc = .ok (.getfield i, 3)) (hq : pc + 3 = q) (k0 : J G b cc own maxL d rc rs q lv (vo r (gR μ k l j) :: st) μ) : J G b cc own maxL d rc rs pc lv (vr k l :: st) μ := by
  subst hq
  intro p l0 e R s m args below meth c Qf H locs cells slots D Z ρ ρ0 B0 ls hG C hst
  obtain ⟨h13, hcl, hN, hin, -, -⟩ := hc
  have hF := (hst.hd).live (Nat.lt_trans h13 (by decide))
  obtain ⟨tys, L, f, q0, hK, hP, hD, hce, hinj, hclo, hm, hq0, hok⟩ := C.rel.at hF
  have he : (va_pl L f)[q0]? = some (ρ k l, .inr (k, fvs ρ μ k l)) := by rw [hq0, hok.1 h13]
  subst hs
  refine va_get (v := ren ρ (vo r (gR μ k l j))) C.1 C.2.1 C.hts hin C.hown hK hP q0 he hcl j hj (C.hts _ hg) (fun _ h => h) (by rw [fvs_get (by rw [hN]; exact hj), fv_r ht]) hd ?_
  exact k0 _ _ _ _ _ _ _ _ _ _ _ _ _ _ _ _ _ _ _ _ _ hG C (LVs.cs (LV_vo hclo hF h13 (by rw [hN]; exact hj) ht) hst.tl)
theorem J_getF {k l j i N : Nat} {C0 : String} {T : u_T} (hc : CD k C0 T N) (hj : j < N) {r : Nat} (ht : FT k j = (3, r)) (hf : FIN k j = true) (hg : Cond.fieldLink own i C0 (T j).2.1 (T j).2.2.1 ∈ gw) (hs : (T j).1 = C0) (hd : decode cc pc = .ok (.getfield i, 3)) (hq : pc + 3 = q) (k0 : J G true cc own maxL d rc rs q lv (vr r l :: st) μ) : J G true cc own maxL d rc rs pc lv (vr k l :: st) μ := by
  subst hq
  intro p l0 e R s m args below meth c Qf H locs cells slots D Z ρ ρ0 B0 ls hG C hst
  obtain ⟨h13, hcl, hN, hin, -, -⟩ := hc
  have hF := (hst.hd).live (Nat.lt_trans h13 (by decide))
  obtain ⟨tys, L, f, q0, hK, hP, hD, hce, hinj, hclo, hm, hq0, hok⟩ := C.rel.at hF
  have he : (va_pl L f)[q0]? = some (ρ k l, .inr (k, fvs ρ μ k l)) := by rw [hq0, hok.1 h13]
  subst hs
  refine va_get (v := ren ρ (vr r l)) C.1 C.2.1 C.hts hin C.hown hK hP q0 he hcl j hj (C.hts _ hg) (fun _ h => h) (by rw [fvs_get (by rw [hN]; exact hj), fv_r ht, C.link k l hF h13 j hf]; rfl) hd ?_
  exact k0 _ _ _ _ _ _ _ _ _ _ _ _ _ _ _ _ _ _ _ _ _ hG C (LVs.cs (by have h9 := LV_vo hclo hF h13 (by rw [hN]; exact hj) ht; rw [C.link k l hF h13 j hf] at h9; exact h9) hst.tl)
theorem CellOK.obj {tys : List (ClassId × FieldType)} {ρ : MA} {k l : Nat} (h13 : k < 13) : CellOK tys ρ μ k l (.inr (k, fvs ρ μ k l)) := by
  have hr : (RK k).1 = 0 := by
    rcases (show k = 0 ∨ k = 1 ∨ k = 2 ∨ k = 3 ∨ k = 4 ∨ k = 5 ∨ k = 6 ∨ k = 7 ∨ k = 8 ∨ k = 9 ∨ k = 10 ∨ k = 11 ∨ k = 12 by omega) with rfl | rfl | rfl | rfl | rfl | rfl | rfl | rfl | rfl | rfl | rfl | rfl | rfl <;> rfl
  refine ⟨fun _ => rfl, fun h => ?_, fun h => ?_, fun h => ?_, fun h => ?_, fun h => ?_⟩ <;> (rw [hr] at h; cases h)
theorem RK_obj {k : Nat} (h13 : k < 13) : (RK k).1 = 0 := by
  rcases (show k = 0 ∨ k = 1 ∨ k = 2 ∨ k = 3 ∨ k = 4 ∨ k = 5 ∨ k = 6 ∨ k = 7 ∨ k = 8 ∨ k = 9 ∨ k = 10 ∨ k = 11 ∨ k = 12 by omega) with rfl | rfl | rfl | rfl | rfl | rfl | rfl | rfl | rfl | rfl | rfl | rfl | rfl <;> rfl
theorem fv_sI_ne {ρ : MA} {k l j i : Nat} {x : Int32} (h : i ≠ j) : fv ρ (sI μ k l j x) k l i = fv ρ μ k l i := by
  unfold fv
  rw [gI_sI, if_neg (fun w => h w.2.2)]
  rfl
theorem fv_sL_ne {ρ : MA} {k l j i : Nat} {x : Int64} (h : i ≠ j) : fv ρ (sL μ k l j x) k l i = fv ρ μ k l i := by
  unfold fv
  rw [gL_sL, if_neg (fun w => h w.2.2)]
  rfl
theorem fv_sR_ne {ρ : MA} {k l j i : Nat} {x : Option Nat} (h : i ≠ j) : fv ρ (sR μ k l j x) k l i = fv ρ μ k l i := by
  unfold fv
  rw [gR_sR, if_neg (fun w => h w.2.2)]
  rfl
theorem gI_self {k l j : Nat} {x : Int32} : gI (sI μ k l j x) k l j = x := by rw [gI_sI, if_pos ⟨rfl, rfl, rfl⟩]
theorem gL_self {k l j : Nat} {x : Int64} : gL (sL μ k l j x) k l j = x := by rw [gL_sL, if_pos ⟨rfl, rfl, rfl⟩]
theorem gR_self {k l j : Nat} {x : Option Nat} : gR (sR μ k l j x) k l j = x := by rw [gR_sR, if_pos ⟨rfl, rfl, rfl⟩]
theorem Clo.sR {k l j : Nat} {x : Option Nat} (h : Clo μ) (h13 : k < 13) {r : Nat} (ht : FT k j = (3, r)) (hx : LV μ (vo r x)) (hr : r < 900) : Clo (sR μ k l j x) := by
  intro a c hac
  obtain ⟨h1, h2, h3⟩ := h a c hac
  refine ⟨fun ha i z hi hf hz => ?_, fun hk i z hz => ?_, h3⟩
  · rw [gR_sR] at hz
    by_cases w : a = k ∧ c = l ∧ i = j
    · rw [if_pos w] at hz
      obtain ⟨rfl, rfl, rfl⟩ := w
      rw [ht]
      rw [hz] at hx
      rcases hx with hx | hx
      · exact hx
      · exact absurd hx.1 (Nat.not_le.mpr hr)
    · rw [if_neg w] at hz
      exact h1 ha i z hi hf hz
  · rw [gR_sR] at hz
    by_cases w : a = k ∧ c = l ∧ i = j
    · rw [w.1, RK_obj h13] at hk
      cases hk
    · rw [if_neg w] at hz
      exact h2 hk i z hz
theorem LinkOK.sR {k l j : Nat} {x : Option Nat} (h : LinkOK μ) (hf : FIN k j = false) : LinkOK (sR μ k l j x) := by
  intro a c hac ha i hi
  rw [gR_sR]
  by_cases w : a = k ∧ c = l ∧ i = j
  · obtain ⟨rfl, rfl, rfl⟩ := w
    rw [hf] at hi; cases hi
  · rw [if_neg w]
    exact h a c hac ha i hi
theorem J_putI {k l j i N : Nat} {C0 : String} {T : u_T} (hc : CD k C0 T N) (hj : j < N) {x : Int32} (ht : (FT k j).1 = 0) (hds : parseFieldDescriptor (T j).2.2.1 = some .int) (hfin : (T j).2.2.2 = false) (hg : Cond.fieldLink own i C0 (T j).2.1 (T j).2.2.1 ∈ gw) (hs : (T j).1 = C0) (hd : decode cc pc = .ok (.putfield i, 3)) (hq : pc + 3 = q) (k0 : J G b cc own maxL d rc rs q lv st (sI μ k l j x)) : J G b cc own maxL d rc rs pc lv (vi x :: vr k l :: st) μ := by
  subst hq
  intro p l0 e R s m args below meth c Qf H locs cells slots D Z ρ ρ0 B0 ls hG C hst
  obtain ⟨h13, hcl, hN, hin, ⟨ty0, hty⟩, hnm⟩ := hc
  have hF := (hst.tl.hd).live (Nat.lt_trans h13 (by decide))
  obtain ⟨tys, L, f, q0, hK, hP, hD, hce, hinj, hclo, hm, hq0, hok⟩ := C.rel.at hF
  have he : (va_pl L f)[q0]? = some (ρ k l, .inr (k, fvs ρ μ k l)) := by rw [hq0, hok.1 h13]
  have hjn : j < NF k := by rw [hN]; exact hj
  have hset : (fvs ρ μ k l).set j (ren ρ (vi x)) = fvs ρ ((sI μ k l j x)) k l := fvs_set hjn (by rw [fv_i (Or.inl ht), gI_self]; rfl) (fun i h => fv_sI_ne h)
  subst hs
  refine va_put (v := ren ρ (vi x)) C.1 C.2.1 C.hts hin ty0 hty hnm C.hown hK hP hD C.hS q0 he hcl j hj (C.hts _ hg) (fun _ h => h) hfin hds rfl rfl (by rw [fvs_len]; exact hjn) hd (fun H1 locs1 hP1 hD1 hS1 => ?_)
  have hpl := va_pl_set (X := []) (e := .inr (k, (fvs ρ μ k l).set j (ren ρ (vi x)))) hD hm hq0
  rw [List.nil_append, List.nil_append] at hpl
  rw [hpl, hset] at hP1 hD1
  refine k0 _ _ _ _ _ _ _ _ _ _ _ _ _ _ _ _ _ _ _ _ _ hG (C.mem (μ' := (sI μ k l j x)) (Rel.upd hK hP1 hD1 hce hinj hF (fun _ _ => rfl) (fun a c h => ⟨?_, ?_, ?_⟩) ?_ ?_) hS1 (fun _ _ => rfl) (fun _ h => h)) (LVs.mem hst.tl.tl (fun _ _ => rfl))
  · first | rfl | (funext z; show (if a = k ∧ c = l ∧ z = j then _ else _) = _; rw [if_neg (fun w => h ⟨w.1, w.2.1⟩)]; rfl)
  · first | rfl | (funext z; show (if a = k ∧ c = l ∧ z = j then _ else _) = _; rw [if_neg (fun w => h ⟨w.1, w.2.1⟩)]; rfl)
  · first | rfl | (funext z; show (if a = k ∧ c = l ∧ z = j then _ else _) = _; rw [if_neg (fun w => h ⟨w.1, w.2.1⟩)]; rfl)
  · exact CellOK.obj h13
  · exact hclo
theorem J_putZ {k l j i N : Nat} {C0 : String} {T : u_T} (hc : CD k C0 T N) (hj : j < N) {x : Int32} (ht : (FT k j).1 = 1) (hds : parseFieldDescriptor (T j).2.2.1 = some .boolean) (hz : x = 0 ∨ x = 1) (hfin : (T j).2.2.2 = false) (hg : Cond.fieldLink own i C0 (T j).2.1 (T j).2.2.1 ∈ gw) (hs : (T j).1 = C0) (hd : decode cc pc = .ok (.putfield i, 3)) (hq : pc + 3 = q) (k0 : J G b cc own maxL d rc rs q lv st (sI μ k l j x)) : J G b cc own maxL d rc rs pc lv (vi x :: vr k l :: st) μ := by
  subst hq
  intro p l0 e R s m args below meth c Qf H locs cells slots D Z ρ ρ0 B0 ls hG C hst
  obtain ⟨h13, hcl, hN, hin, ⟨ty0, hty⟩, hnm⟩ := hc
  have hF := (hst.tl.hd).live (Nat.lt_trans h13 (by decide))
  obtain ⟨tys, L, f, q0, hK, hP, hD, hce, hinj, hclo, hm, hq0, hok⟩ := C.rel.at hF
  have he : (va_pl L f)[q0]? = some (ρ k l, .inr (k, fvs ρ μ k l)) := by rw [hq0, hok.1 h13]
  have hjn : j < NF k := by rw [hN]; exact hj
  have hset : (fvs ρ μ k l).set j (ren ρ (vi x)) = fvs ρ ((sI μ k l j x)) k l := fvs_set hjn (by rw [fv_i (Or.inr ht), gI_self]; rfl) (fun i h => fv_sI_ne h)
  subst hs
  refine va_put (v := ren ρ (vi x)) C.1 C.2.1 C.hts hin ty0 hty hnm C.hown hK hP hD C.hS q0 he hcl j hj (C.hts _ hg) (fun _ h => h) hfin hds (by rcases hz with rfl | rfl <;> rfl) (by rcases hz with rfl | rfl <;> rfl) (by rw [fvs_len]; exact hjn) hd (fun H1 locs1 hP1 hD1 hS1 => ?_)
  have hpl := va_pl_set (X := []) (e := .inr (k, (fvs ρ μ k l).set j (ren ρ (vi x)))) hD hm hq0
  rw [List.nil_append, List.nil_append] at hpl
  rw [hpl, hset] at hP1 hD1
  refine k0 _ _ _ _ _ _ _ _ _ _ _ _ _ _ _ _ _ _ _ _ _ hG (C.mem (μ' := (sI μ k l j x)) (Rel.upd hK hP1 hD1 hce hinj hF (fun _ _ => rfl) (fun a c h => ⟨?_, ?_, ?_⟩) ?_ ?_) hS1 (fun _ _ => rfl) (fun _ h => h)) (LVs.mem hst.tl.tl (fun _ _ => rfl))
  · first | rfl | (funext z; show (if a = k ∧ c = l ∧ z = j then _ else _) = _; rw [if_neg (fun w => h ⟨w.1, w.2.1⟩)]; rfl)
  · first | rfl | (funext z; show (if a = k ∧ c = l ∧ z = j then _ else _) = _; rw [if_neg (fun w => h ⟨w.1, w.2.1⟩)]; rfl)
  · first | rfl | (funext z; show (if a = k ∧ c = l ∧ z = j then _ else _) = _; rw [if_neg (fun w => h ⟨w.1, w.2.1⟩)]; rfl)
  · exact CellOK.obj h13
  · exact hclo
theorem J_putL {k l j i N : Nat} {C0 : String} {T : u_T} (hc : CD k C0 T N) (hj : j < N) {x : Int64} (ht : (FT k j).1 = 2) (hds : parseFieldDescriptor (T j).2.2.1 = some .long) (hfin : (T j).2.2.2 = false) (hg : Cond.fieldLink own i C0 (T j).2.1 (T j).2.2.1 ∈ gw) (hs : (T j).1 = C0) (hd : decode cc pc = .ok (.putfield i, 3)) (hq : pc + 3 = q) (k0 : J G b cc own maxL d rc rs q lv st (sL μ k l j x)) : J G b cc own maxL d rc rs pc lv (vl x :: vr k l :: st) μ := by
  subst hq
  intro p l0 e R s m args below meth c Qf H locs cells slots D Z ρ ρ0 B0 ls hG C hst
  obtain ⟨h13, hcl, hN, hin, ⟨ty0, hty⟩, hnm⟩ := hc
  have hF := (hst.tl.hd).live (Nat.lt_trans h13 (by decide))
  obtain ⟨tys, L, f, q0, hK, hP, hD, hce, hinj, hclo, hm, hq0, hok⟩ := C.rel.at hF
  have he : (va_pl L f)[q0]? = some (ρ k l, .inr (k, fvs ρ μ k l)) := by rw [hq0, hok.1 h13]
  have hjn : j < NF k := by rw [hN]; exact hj
  have hset : (fvs ρ μ k l).set j (ren ρ (vl x)) = fvs ρ ((sL μ k l j x)) k l := fvs_set hjn (by rw [fv_l ht, gL_self]; rfl) (fun i h => fv_sL_ne h)
  subst hs
  refine va_put (v := ren ρ (vl x)) C.1 C.2.1 C.hts hin ty0 hty hnm C.hown hK hP hD C.hS q0 he hcl j hj (C.hts _ hg) (fun _ h => h) hfin hds rfl rfl (by rw [fvs_len]; exact hjn) hd (fun H1 locs1 hP1 hD1 hS1 => ?_)
  have hpl := va_pl_set (X := []) (e := .inr (k, (fvs ρ μ k l).set j (ren ρ (vl x)))) hD hm hq0
  rw [List.nil_append, List.nil_append] at hpl
  rw [hpl, hset] at hP1 hD1
  refine k0 _ _ _ _ _ _ _ _ _ _ _ _ _ _ _ _ _ _ _ _ _ hG (C.mem (μ' := (sL μ k l j x)) (Rel.upd hK hP1 hD1 hce hinj hF (fun _ _ => rfl) (fun a c h => ⟨?_, ?_, ?_⟩) ?_ ?_) hS1 (fun _ _ => rfl) (fun _ h => h)) (LVs.mem hst.tl.tl (fun _ _ => rfl))
  · first | rfl | (funext z; show (if a = k ∧ c = l ∧ z = j then _ else _) = _; rw [if_neg (fun w => h ⟨w.1, w.2.1⟩)]; rfl)
  · first | rfl | (funext z; show (if a = k ∧ c = l ∧ z = j then _ else _) = _; rw [if_neg (fun w => h ⟨w.1, w.2.1⟩)]; rfl)
  · first | rfl | (funext z; show (if a = k ∧ c = l ∧ z = j then _ else _) = _; rw [if_neg (fun w => h ⟨w.1, w.2.1⟩)]; rfl)
  · exact CellOK.obj h13
  · exact hclo
theorem J_putR {k l j i N : Nat} {C0 : String} {T : u_T} (hc : CD k C0 T N) (hj : j < N) {r : Nat} {x : Option Nat} {ty : FieldType} (ht : FT k j = (3, r)) (hr9 : r < 900) (hf : FIN k j = false) (hds : parseFieldDescriptor (T j).2.2.1 = some ty) (hty1 : (∃ n, ty = .object n) ∨ ∃ t, ty = .array t) (hfin : (T j).2.2.2 = false) (hg : Cond.fieldLink own i C0 (T j).2.1 (T j).2.2.1 ∈ gw) (hs : (T j).1 = C0) (hd : decode cc pc = .ok (.putfield i, 3)) (hq : pc + 3 = q) (k0 : J G b cc own maxL d rc rs q lv st (sR μ k l j x)) : J G b cc own maxL d rc rs pc lv (vo r x :: vr k l :: st) μ := by
  subst hq
  intro p l0 e R s m args below meth c Qf H locs cells slots D Z ρ ρ0 B0 ls hG C hst
  obtain ⟨h13, hcl, hN, hin, ⟨ty0, hty⟩, hnm⟩ := hc
  have hF := (hst.tl.hd).live (Nat.lt_trans h13 (by decide))
  obtain ⟨tys, L, f, q0, hK, hP, hD, hce, hinj, hclo, hm, hq0, hok⟩ := C.rel.at hF
  have he : (va_pl L f)[q0]? = some (ρ k l, .inr (k, fvs ρ μ k l)) := by rw [hq0, hok.1 h13]
  have hjn : j < NF k := by rw [hN]; exact hj
  have hset : (fvs ρ μ k l).set j (ren ρ (vo r x)) = fvs ρ ((sR μ k l j x)) k l := fvs_set hjn (by rw [fv_r ht, gR_self]) (fun i h => fv_sR_ne h)
  subst hs
  refine va_put (v := ren ρ (vo r x)) C.1 C.2.1 C.hts hin ty0 hty hnm C.hown hK hP hD C.hS q0 he hcl j hj (C.hts _ hg) (fun _ h => h) hfin hds (by rcases hty1 with ⟨n, rfl⟩ | ⟨n, rfl⟩ <;> cases x <;> rfl) (by rcases hty1 with ⟨n, rfl⟩ | ⟨n, rfl⟩ <;> cases x <;> rfl) (by rw [fvs_len]; exact hjn) hd (fun H1 locs1 hP1 hD1 hS1 => ?_)
  have hpl := va_pl_set (X := []) (e := .inr (k, (fvs ρ μ k l).set j (ren ρ (vo r x)))) hD hm hq0
  rw [List.nil_append, List.nil_append] at hpl
  rw [hpl, hset] at hP1 hD1
  refine k0 _ _ _ _ _ _ _ _ _ _ _ _ _ _ _ _ _ _ _ _ _ hG (C.mem (μ' := (sR μ k l j x)) (Rel.upd hK hP1 hD1 hce hinj hF (fun _ _ => rfl) (fun a c h => ⟨?_, ?_, ?_⟩) ?_ ?_) hS1 (fun _ _ => rfl) (fun _ h => h.sR hf)) (LVs.mem hst.tl.tl (fun _ _ => rfl))
  · first | rfl | (funext z; show (if a = k ∧ c = l ∧ z = j then _ else _) = _; rw [if_neg (fun w => h ⟨w.1, w.2.1⟩)]; rfl)
  · first | rfl | (funext z; show (if a = k ∧ c = l ∧ z = j then _ else _) = _; rw [if_neg (fun w => h ⟨w.1, w.2.1⟩)]; rfl)
  · first | rfl | (funext z; show (if a = k ∧ c = l ∧ z = j then _ else _) = _; rw [if_neg (fun w => h ⟨w.1, w.2.1⟩)]; rfl)
  · exact CellOK.obj h13
  · exact hclo.sR h13 ht hst.hd hr9
theorem J_putFI {b' : Bool} {Q : Option AV → Mem → Prop} {ret : Option FieldType} {k l j i N : Nat} {C0 : String} {T : u_T} (hc : CD k C0 T N) (hj : j < N) {x : Int32} (ht : (FT k j).1 = 0) (hds : parseFieldDescriptor (T j).2.2.1 = some .int) (hfin : (T j).2.2.2 = true) (hown2 : (T j).1 = own) (hg : Cond.fieldLink own i C0 (T j).2.1 (T j).2.2.1 ∈ gw) (hs : (T j).1 = C0) (hd : decode cc pc = .ok (.putfield i, 3)) (hq : pc + 3 = q) (k0 : J (GM b' Q ret "<init>") b cc own maxL d rc rs q lv st (sI μ k l j x)) : J (GM b' Q ret "<init>") b cc own maxL d rc rs pc lv (vi x :: vr k l :: st) μ := by
  subst hq
  intro p l0 e R s m args below meth c Qf H locs cells slots D Z ρ ρ0 B0 ls hG C hst
  obtain ⟨h13, hcl, hN, hin, ⟨ty0, hty⟩, hnm⟩ := hc
  have hF := (hst.tl.hd).live (Nat.lt_trans h13 (by decide))
  obtain ⟨tys, L, f, q0, hK, hP, hD, hce, hinj, hclo, hm, hq0, hok⟩ := C.rel.at hF
  have he : (va_pl L f)[q0]? = some (ρ k l, .inr (k, fvs ρ μ k l)) := by rw [hq0, hok.1 h13]
  have hjn : j < NF k := by rw [hN]; exact hj
  have hset : (fvs ρ μ k l).set j (ren ρ (vi x)) = fvs ρ ((sI μ k l j x)) k l := fvs_set hjn (by rw [fv_i (Or.inl ht), gI_self]; rfl) (fun i h => fv_sI_ne h)
  subst hs
  refine va_putF (v := ren ρ (vi x)) C.1 C.2.1 C.hts hin ty0 hty hnm C.hown hK hP hD C.hS q0 he hcl j hj (C.hts _ hg) (fun _ h => h) hfin hG.2.2.1 hown2 hds rfl rfl (by rw [fvs_len]; exact hjn) hd (fun H1 locs1 hP1 hD1 hS1 => ?_)
  have hpl := va_pl_set (X := []) (e := .inr (k, (fvs ρ μ k l).set j (ren ρ (vi x)))) hD hm hq0
  rw [List.nil_append, List.nil_append] at hpl
  rw [hpl, hset] at hP1 hD1
  refine k0 _ _ _ _ _ _ _ _ _ _ _ _ _ _ _ _ _ _ _ _ _ hG (C.mem (μ' := (sI μ k l j x)) (Rel.upd hK hP1 hD1 hce hinj hF (fun _ _ => rfl) (fun a c h => ⟨?_, ?_, ?_⟩) ?_ ?_) hS1 (fun _ _ => rfl) (fun _ h => h)) (LVs.mem hst.tl.tl (fun _ _ => rfl))
  · first | rfl | (funext z; show (if a = k ∧ c = l ∧ z = j then _ else _) = _; rw [if_neg (fun w => h ⟨w.1, w.2.1⟩)]; rfl)
  · first | rfl | (funext z; show (if a = k ∧ c = l ∧ z = j then _ else _) = _; rw [if_neg (fun w => h ⟨w.1, w.2.1⟩)]; rfl)
  · first | rfl | (funext z; show (if a = k ∧ c = l ∧ z = j then _ else _) = _; rw [if_neg (fun w => h ⟨w.1, w.2.1⟩)]; rfl)
  · exact CellOK.obj h13
  · exact hclo
theorem J_putFR {b' : Bool} {Q : Option AV → Mem → Prop} {ret : Option FieldType} {k l j i N : Nat} {C0 : String} {T : u_T} (hc : CD k C0 T N) (hj : j < N) {r : Nat} {x : Option Nat} {ty : FieldType} (ht : FT k j = (3, r)) (hr9 : r < 900) (hb : b = false) (hds : parseFieldDescriptor (T j).2.2.1 = some ty) (hty1 : (∃ n, ty = .object n) ∨ ∃ t, ty = .array t) (hfin : (T j).2.2.2 = true) (hown2 : (T j).1 = own) (hg : Cond.fieldLink own i C0 (T j).2.1 (T j).2.2.1 ∈ gw) (hs : (T j).1 = C0) (hd : decode cc pc = .ok (.putfield i, 3)) (hq : pc + 3 = q) (k0 : J (GM b' Q ret "<init>") b cc own maxL d rc rs q lv st (sR μ k l j x)) : J (GM b' Q ret "<init>") b cc own maxL d rc rs pc lv (vo r x :: vr k l :: st) μ := by
  subst hq
  intro p l0 e R s m args below meth c Qf H locs cells slots D Z ρ ρ0 B0 ls hG C hst
  obtain ⟨h13, hcl, hN, hin, ⟨ty0, hty⟩, hnm⟩ := hc
  have hF := (hst.tl.hd).live (Nat.lt_trans h13 (by decide))
  obtain ⟨tys, L, f, q0, hK, hP, hD, hce, hinj, hclo, hm, hq0, hok⟩ := C.rel.at hF
  have he : (va_pl L f)[q0]? = some (ρ k l, .inr (k, fvs ρ μ k l)) := by rw [hq0, hok.1 h13]
  have hjn : j < NF k := by rw [hN]; exact hj
  have hset : (fvs ρ μ k l).set j (ren ρ (vo r x)) = fvs ρ ((sR μ k l j x)) k l := fvs_set hjn (by rw [fv_r ht, gR_self]) (fun i h => fv_sR_ne h)
  subst hs
  refine va_putF (v := ren ρ (vo r x)) C.1 C.2.1 C.hts hin ty0 hty hnm C.hown hK hP hD C.hS q0 he hcl j hj (C.hts _ hg) (fun _ h => h) hfin hG.2.2.1 hown2 hds (by rcases hty1 with ⟨n, rfl⟩ | ⟨n, rfl⟩ <;> cases x <;> rfl) (by rcases hty1 with ⟨n, rfl⟩ | ⟨n, rfl⟩ <;> cases x <;> rfl) (by rw [fvs_len]; exact hjn) hd (fun H1 locs1 hP1 hD1 hS1 => ?_)
  have hpl := va_pl_set (X := []) (e := .inr (k, (fvs ρ μ k l).set j (ren ρ (vo r x)))) hD hm hq0
  rw [List.nil_append, List.nil_append] at hpl
  rw [hpl, hset] at hP1 hD1
  refine k0 _ _ _ _ _ _ _ _ _ _ _ _ _ _ _ _ _ _ _ _ _ hG (C.mem (μ' := (sR μ k l j x)) (Rel.upd hK hP1 hD1 hce hinj hF (fun _ _ => rfl) (fun a c h => ⟨?_, ?_, ?_⟩) ?_ ?_) hS1 (fun _ _ => rfl) (fun h _ => by rw [hb] at h; cases h)) (LVs.mem hst.tl.tl (fun _ _ => rfl))
  · first | rfl | (funext z; show (if a = k ∧ c = l ∧ z = j then _ else _) = _; rw [if_neg (fun w => h ⟨w.1, w.2.1⟩)]; rfl)
  · first | rfl | (funext z; show (if a = k ∧ c = l ∧ z = j then _ else _) = _; rw [if_neg (fun w => h ⟨w.1, w.2.1⟩)]; rfl)
  · first | rfl | (funext z; show (if a = k ∧ c = l ∧ z = j then _ else _) = _; rw [if_neg (fun w => h ⟨w.1, w.2.1⟩)]; rfl)
  · exact CellOK.obj h13
  · exact hclo.sR h13 ht hst.hd hr9
end JMM
