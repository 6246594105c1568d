/-- the cells of new T[n][..]: the outer one and its rows -/
def inm (k l z n a c : Nat) : Prop := (a = k ∧ c = l) ∨ (a = z ∧ n * l ≤ c ∧ c < n * l + n)
section J36
variable {G : GT} {b : Bool} {cc : ByteArray} {own : String} {maxL d rc rs pc q : Nat} {lv : List (Nat × AV)} {st : List AV} {μ : Mem}
/-- the outer cell and n rows more, all 0 -/
def nwm (μ : Mem) (k l z n : Nat) : Mem := (fun a c j => if (a = k ∧ c = l) ∨ (a = z ∧ n * l ≤ c ∧ c < n * l + n) then 0 else μ.1 a c j, fun a c j => if (a = k ∧ c = l) ∨ (a = z ∧ n * l ≤ c ∧ c < n * l + n) then 0 else μ.2.1 a c j, fun a c j => if (a = k ∧ c = l) ∨ (a = z ∧ n * l ≤ c ∧ c < n * l + n) then none else μ.2.2.1 a c j, fun a c => if (a = k ∧ c = l) ∨ (a = z ∧ n * l ≤ c ∧ c < n * l + n) then true else μ.2.2.2 a c)
theorem gF_nwm (k l z n a c : Nat) : gF (nwm μ k l z n) a c = if (a = k ∧ c = l) ∨ (a = z ∧ n * l ≤ c ∧ c < n * l + n) then true else gF μ a c := rfl
theorem gR_nwm (k l z n a c j : Nat) : gR (nwm μ k l z n) a c j = if (a = k ∧ c = l) ∨ (a = z ∧ n * l ≤ c ∧ c < n * l + n) then none else gR μ a c j := rfl
theorem gI_nwm (k l z n a c j : Nat) : gI (nwm μ k l z n) a c j = if (a = k ∧ c = l) ∨ (a = z ∧ n * l ≤ c ∧ c < n * l + n) then 0 else gI μ a c j := rfl
theorem gL_nwm (k l z n a c j : Nat) : gL (nwm μ k l z n) a c j = if (a = k ∧ c = l) ∨ (a = z ∧ n * l ≤ c ∧ c < n * l + n) then 0 else gL μ a c j := rfl
def rum (ρ : MA) (k l z n q : Nat) (r : Nat → Nat) : MA := fun a c => if a = k ∧ c = l then q else if a = z ∧ n * l ≤ c ∧ c < n * l + n then r (c - n * l) else ρ a c
theorem J_mna {k l n z K w i : Nat} {x y : Int32} (hk : RK k = (6, n, z)) (hz : RK z = (2, K, w)) (h9 : k < 900) (h9z : z < 900) (hb : b = false) (hfree : gF μ k l = false) (hfr : ∀ i, i < n → gF μ z (n * l + i) = false) (hcl : Cond.classLink own i "[[I" ∈ gw) (harr : Cond.arrayClass .int ∈ gw)
    (hn : ¬ x < 0) (hx : x.toNatClampNeg = n) (hn2 : ¬ y < 0) (hy : y.toNatClampNeg = K) (hb1 : n * 4 ≤ 536870912) (hb2 : K * 4 ≤ 536870912) (hd : decode cc pc = .ok (.multianewarray i 2, 4)) (hq : pc + 4 = q) (k0 : J G b cc own maxL d rc rs q lv (vr k l :: st) (nwm μ k l z n)) : J G b cc own maxL d (1 + n + rc) (n + n * K + rs) pc lv (vi y :: vi x :: st) μ := by
  subst hq; subst hb
  intro p l0 e R s m args below meth c Qf H locs cells slots D Z ρ ρ0 B0 ls hG C hst
  obtain ⟨tys, L, f, hK, hP, hD, hce, hinj, hclo⟩ := C.rel
  have hcs := C.2.2.2.2.2.2.2.2.2.2.2.2.2.2.2.2
  obtain ⟨cI, kI, comp, hfI, hkI, hkind⟩ := Cond.arrayClass_spec (C.hts _ harr)
  have hsI : (FieldType.array FieldType.int).toString = "[" ++ FieldType.int.toString := by decide +kernel
  have hArI : ArrOfT s cI .int := fun N9 z9 => ⟨(fun q hq => by cases hq), kI, hkI, comp, hkind⟩
  have hKI : va_K D classes (tys ++ [(cI, .int)]) s := ⟨hK.1, fun k9 x9 hx9 => by
    rcases List.mem_append.mp (List.mem_of_getElem? hx9) with h | h
    · obtain ⟨j9, hj9⟩ := List.getElem?_of_mem h
      exact hK.2 j9 x9 hj9
    · rw [List.mem_singleton.mp h]
      exact ⟨hArI, hfI⟩⟩
  refine va_mna (X := []) (L := L) (f := f) (ty := .int) (cy := cI) (z := (K, .inl (fun _ => 0))) (N' := n) (K' := K) C.1 C.2.1 C.hown (by rw [show "[" ++ (FieldType.array FieldType.int).toString = "[[I" by decide +kernel]; exact C.hts _ hcl) C.2.2.2.2.2.1.2.2.2 (C.hts _ harr) (by rw [hsI]; exact hfI) hKI hP hD C.hS C.hA hn hn2 hx hy hb1 hb2 (by omega) rfl rfl (by omega) (by omega) (fun cA => by
    show ({ cls := cA, slots := Array.replicate K (.int 0), vm := .none } : Cell) = _
    rw [arrV_new]
    rfl) hd (fun q9 r cA H1 hri hrL hK1 hP1 hD1 hS1 => ?_)
  have hkz : k ≠ z := fun h => by rw [h, hz] at hk; cases hk
  -- the world with the outer cell last
  have hP2 := va_P.swap (a := []) hP1
  have hD2 := va_D.swap (a := []) hD1
  rw [List.nil_append] at hP2 hD2
  have hqL := push_no hD2
  rw [va_pl_push hqL] at hP2 hD2
  generalize hL' : L ++ (List.range n).map r = L' at hP2 hD2 hqL
  have hrow : ∀ i, i < n → r i ∈ L' := fun i hi => by rw [← hL']; exact List.mem_append_right _ (List.mem_map.mpr ⟨i, List.mem_range.mpr hi, rfl⟩)
  have hold : ∀ a, a ∈ L → a ∈ L' := fun a h => by rw [← hL']; exact List.mem_append_left _ h
  have hlive : ∀ a c, gF μ a c = true → ¬ ((a = k ∧ c = l) ∨ (a = z ∧ n * l ≤ c ∧ c < n * l + n)) := fun a c h w => by
    rcases w with ⟨rfl, rfl⟩ | ⟨rfl, w1, w2⟩
    · rw [hfree] at h; cases h
    · have := hfr (c - n * l) (by omega)
      rw [show n * l + (c - n * l) = c by omega, h] at this
      cases this
  have hρ : ∀ a c, gF μ a c = true → rum ρ k l z n q9 r a c = ρ a c := fun a c h => by
    have w := hlive a c h
    unfold rum
    rw [if_neg (fun v => w (Or.inl v)), if_neg (fun v => w (Or.inr v))]
  have hup : ∀ a c, gF μ a c = true → gF (nwm μ k l z n) a c = true ∧ rum ρ k l z n q9 r a c = ρ a c := fun a c h => ⟨by rw [gF_nwm, if_neg (hlive a c h)]; exact h, hρ a c h⟩
  have h6 : ∀ k9, 900 ≤ k9 → rum ρ k l z n q9 r k9 0 = ρ k9 0 := fun k9 h8 => by
    unfold rum
    rw [if_neg (fun v => by omega), if_neg (fun v => by omega)]
  have hq1 : rum ρ k l z n q9 r k l = q9 := if_pos ⟨rfl, rfl⟩
  have hr1 : ∀ c, n * l ≤ c → c < n * l + n → rum ρ k l z n q9 r z c = r (c - n * l) := fun c h1 h2 => by
    unfold rum
    rw [if_neg (fun v => hkz v.1.symm), if_pos ⟨rfl, h1, h2⟩]
  have hneq : ∀ a c, gF μ a c = true → ρ a c ≠ q9 := fun a c h v => hqL (v ▸ hold _ (hce a c h).1)
  have hneqr : ∀ i, i < n → r i ≠ q9 := fun i hi v => hqL (v ▸ hrow i hi)
  have hmemr : ∀ a, a ∈ (List.range n).map r → ∃ i, i < n ∧ r i = a := fun a h => by
    obtain ⟨i, h1, h2⟩ := List.mem_map.mp h
    exact ⟨i, List.mem_range.mp h1, h2⟩
  have hR : Rel D Z s H1 (rum ρ k l z n q9 r) (nwm μ k l z n) := by
    refine ⟨_, _, _, hK1, hP2, hD2, fun a c hac => ?_, fun a c a' c' h1 h2 h3 => ?_, fun a c hac => ?_⟩
    · by_cases w : (a = k ∧ c = l) ∨ (a = z ∧ n * l ≤ c ∧ c < n * l + n)
      · rcases w with ⟨rfl, rfl⟩ | ⟨rfl, w1, w2⟩
        · rw [hq1, va_up_self]
          refine ⟨List.mem_append_right _ List.mem_cons_self, ?_⟩
          have e9 : (fun i => if i < n then some (r i) else none) = fun i => if i < n then some (rum ρ a c z n q9 r z (n * c + i)) else none := by
            funext i
            by_cases hi : i < n
            · rw [if_pos hi, if_pos hi, hr1 (n * c + i) (by omega) (by omega), show n * c + i - n * c = i by omega]
            · rw [if_neg hi, if_neg hi]
          rw [e9]
          exact CellOK.a6 hk (List.mem_append_right _ List.mem_cons_self)
        · rw [hr1 c w1 w2, va_up_ne _ _ (hneqr _ (by omega)), vr_up_in (List.mem_map.mpr ⟨c - n * l, List.mem_range.mpr (by omega), rfl⟩)]
          refine ⟨List.mem_append_left _ (hrow _ (by omega)), ?_⟩
          have e9 : (fun _ => (0 : Int32)) = gI (nwm μ k l a n) a c := by
            funext j
            rw [gI_nwm, if_pos (Or.inr ⟨rfl, w1, w2⟩)]
          rw [e9]
          exact CellOK.a2 hz (List.mem_append_left _ (List.mem_append_right _ List.mem_cons_self))
      · rw [gF_nwm, if_neg w] at hac
        rw [hρ a c hac, va_up_ne _ _ (hneq a c hac), vr_up_ne (fun v => by
          obtain ⟨i, hi, he⟩ := hmemr _ v
          exact hrL i hi (he ▸ (hce a c hac).1))]
        refine ⟨List.mem_append_left _ (hold _ (hce a c hac).1), (hce a c hac).2.ren hac hclo (fun x9 h => List.mem_append_left _ (List.mem_append_left _ h)) ?_ ?_ ?_ hρ⟩ <;> (funext j; first | (rw [gI_nwm, if_neg w]) | (rw [gL_nwm, if_neg w]) | (rw [gR_nwm, if_neg w]))
    · by_cases w : (a = k ∧ c = l) ∨ (a = z ∧ n * l ≤ c ∧ c < n * l + n) <;> by_cases w' : (a' = k ∧ c' = l) ∨ (a' = z ∧ n * l ≤ c' ∧ c' < n * l + n)
      · rcases w with ⟨rfl, rfl⟩ | ⟨rfl, w1, w2⟩ <;> rcases w' with ⟨rfl, rfl⟩ | ⟨rfl, v1, v2⟩
        · exact ⟨rfl, rfl⟩
        · rw [hq1, hr1 c' v1 v2] at h3
          exact absurd h3.symm (hneqr _ (by omega))
        · rw [hq1, hr1 c w1 w2] at h3
          exact absurd h3 (hneqr _ (by omega))
        · rw [hr1 c w1 w2, hr1 c' v1 v2] at h3
          have := hri _ _ (by omega) (by omega) h3
          exact ⟨rfl, by omega⟩
      · rw [gF_nwm, if_neg w'] at h2
        rw [hρ a' c' h2] at h3
        rcases w with ⟨rfl, rfl⟩ | ⟨rfl, w1, w2⟩
        · rw [hq1] at h3; exact absurd h3.symm (hneq a' c' h2)
        · rw [hr1 c w1 w2] at h3; exact absurd (h3 ▸ (hce a' c' h2).1) (hrL _ (by omega))
      · rw [gF_nwm, if_neg w] at h1
        rw [hρ a c h1] at h3
        rcases w' with ⟨rfl, rfl⟩ | ⟨rfl, w1, w2⟩
        · rw [hq1] at h3; exact absurd h3 (hneq a c h1)
        · rw [hr1 c' w1 w2] at h3; exact absurd (h3 ▸ (hce a c h1).1) (hrL _ (by omega))
      · rw [gF_nwm, if_neg w] at h1
        rw [gF_nwm, if_neg w'] at h2
        rw [hρ a c h1, hρ a' c' h2] at h3
        exact hinj a c a' c' h1 h2 h3
    · by_cases w : (a = k ∧ c = l) ∨ (a = z ∧ n * l ≤ c ∧ c < n * l + n)
      · refine ⟨fun _ j i _ _ h => ?_, fun _ j i h => ?_, fun h j hj => ?_⟩
        · rw [gR_nwm, if_pos w] at h; cases h
        · rw [gR_nwm, if_pos w] at h; cases h
        · rcases w with ⟨rfl, rfl⟩ | ⟨rfl, w1, w2⟩
          · rw [hk] at hj ⊢
            have hj : j < n := hj
            rw [gF_nwm, if_pos (Or.inr ⟨rfl, by show n * c ≤ n * c + j; omega, by show n * c + j < n * c + n; omega⟩)]
          · rw [hz] at h; cases h
      · rw [gF_nwm, if_neg w] at hac
        obtain ⟨c1, c2, c3⟩ := hclo a c hac
        refine ⟨fun h j i g1 g2 g3 => ?_, fun h j i g1 => ?_, fun h j hj => (hup _ _ (c3 h j hj)).1⟩
        · rw [gR_nwm, if_neg w] at g3; exact (hup _ _ (c1 h j i g1 g2 g3)).1
        · rw [gR_nwm, if_neg w] at g1; exact (hup _ _ (c2 h j i g1)).1
  have e1 : Value.ref q9 :: st.map (ren ρ) = (vr k l :: st).map (ren (rum ρ k l z n q9 r)) := by
    rw [List.map_cons, map_ren hst.tl.tl (fun a c h => (hup a c h).2) h6]
    show _ = Value.ref (rum ρ k l z n q9 r k l) :: _
    rw [hq1]
  rw [e1, Nat.add_assoc, Nat.add_assoc]
  exact k0 _ _ _ _ _ _ _ _ _ _ _ _ _ _ _ _ _ _ _ _ _ hG (C.grow hR hup h6 (fun h => by cases h) hS1) (LVs.cs (Or.inl (by rw [gF_nwm, if_pos (Or.inl ⟨rfl, rfl⟩)])) (hst.tl.tl.grow (fun a c h => (hup a c h).1)))
end J36
