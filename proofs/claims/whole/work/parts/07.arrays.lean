section JAR
variable {G : GT} {b : Bool} {cc : ByteArray} {own : String} {maxL d rc rs pc q : Nat} {lv : List (Nat × AV)} {st : List AV} {μ : Mem}
theorem RK_no {k n z : Nat} {c : Nat} (hk : RK k = (c, n, z)) (hc : c ≠ 0) : ¬ k < 13 := fun h => hc (by have := RK_obj h; rw [hk] at this; exact this)
theorem gI_fn {k l j : Nat} {x : Int32} : gI (sI μ k l j x) k l = upd (gI μ k l) j x := by
  funext z
  rw [gI_sI]
  simp [upd]
theorem gL_fn {k l j : Nat} {x : Int64} : gL (sL μ k l j x) k l = vp_updL (gL μ k l) j x := by
  funext z
  rw [gL_sL]
  simp [vp_updL]
theorem CellOK.a2 {tys : List (ClassId × FieldType)} {ρ : MA} {k l n z : Nat} {cA : ClassId} (hk : RK k = (2, n, z)) (h : (cA, FieldType.int) ∈ tys) : CellOK tys ρ μ k l (.inl (cA, n, .inl (gI μ k l))) := by
  refine ⟨fun h9 => absurd h9 (RK_no hk (by decide)), fun h9 => ?_, fun h9 => ?_, fun h9 => ?_, fun h9 => ?_, fun h9 => ?_⟩ <;> rw [hk] at h9 <;> first | (rw [hk]; exact ⟨cA, h, rfl⟩) | (simp at h9)
theorem CellOK.g2 {tys : List (ClassId × FieldType)} {ρ : MA} {k l n z : Nat} {e : va_E} (hk : RK k = (2, n, z)) (h : CellOK tys ρ μ k l e) : ∃ (cA : ClassId) (t0 : Nat), (cA, FieldType.int) ∈ tys ∧ tys[t0]? = some (cA, FieldType.int) ∧ e = .inl (cA, n, .inl (gI μ k l)) := by
  obtain ⟨cA, h1, h2⟩ := h.2.1 (by rw [hk])
  rw [hk] at h2
  obtain ⟨t0, ht0⟩ := List.getElem?_of_mem h1
  exact ⟨cA, t0, h1, ht0, h2⟩
theorem CellOK.a3 {tys : List (ClassId × FieldType)} {ρ : MA} {k l n z : Nat} {cA : ClassId} (hk : RK k = (3, n, z)) (h : (cA, FieldType.boolean) ∈ tys) : CellOK tys ρ μ k l (.inl (cA, n, .inl (gI μ k l))) := by
  refine ⟨fun h9 => absurd h9 (RK_no hk (by decide)), fun h9 => ?_, fun h9 => ?_, fun h9 => ?_, fun h9 => ?_, fun h9 => ?_⟩ <;> rw [hk] at h9 <;> first | (rw [hk]; exact ⟨cA, h, rfl⟩) | (simp at h9)
theorem CellOK.g3 {tys : List (ClassId × FieldType)} {ρ : MA} {k l n z : Nat} {e : va_E} (hk : RK k = (3, n, z)) (h : CellOK tys ρ μ k l e) : ∃ (cA : ClassId) (t0 : Nat), (cA, FieldType.boolean) ∈ tys ∧ tys[t0]? = some (cA, FieldType.boolean) ∧ e = .inl (cA, n, .inl (gI μ k l)) := by
  obtain ⟨cA, h1, h2⟩ := h.2.2.1 (by rw [hk])
  rw [hk] at h2
  obtain ⟨t0, ht0⟩ := List.getElem?_of_mem h1
  exact ⟨cA, t0, h1, ht0, h2⟩
theorem CellOK.a4 {tys : List (ClassId × FieldType)} {ρ : MA} {k l n z : Nat} {cA : ClassId} (hk : RK k = (4, n, z)) (h : (cA, FieldType.long) ∈ tys) : CellOK tys ρ μ k l (.inl (cA, n, .inr (.inl (gL μ k l)))) := by
  refine ⟨fun h9 => absurd h9 (RK_no hk (by decide)), fun h9 => ?_, fun h9 => ?_, fun h9 => ?_, fun h9 => ?_, fun h9 => ?_⟩ <;> rw [hk] at h9 <;> first | (rw [hk]; exact ⟨cA, h, rfl⟩) | (simp at h9)
theorem CellOK.g4 {tys : List (ClassId × FieldType)} {ρ : MA} {k l n z : Nat} {e : va_E} (hk : RK k = (4, n, z)) (h : CellOK tys ρ μ k l e) : ∃ (cA : ClassId) (t0 : Nat), (cA, FieldType.long) ∈ tys ∧ tys[t0]? = some (cA, FieldType.long) ∧ e = .inl (cA, n, .inr (.inl (gL μ k l))) := by
  obtain ⟨cA, h1, h2⟩ := h.2.2.2.1 (by rw [hk])
  rw [hk] at h2
  obtain ⟨t0, ht0⟩ := List.getElem?_of_mem h1
  exact ⟨cA, t0, h1, ht0, h2⟩
theorem CellOK.a5 {tys : List (ClassId × FieldType)} {ρ : MA} {k l n z : Nat} {cA : ClassId} (hk : RK k = (5, n, z)) (h : (cA, FieldType.object (CN z)) ∈ tys) : CellOK tys ρ μ k l (.inl (cA, n, .inr (.inr (.inr (.inr (fun i => (gR μ k l i).map (ρ z))))))) := by
  refine ⟨fun h9 => absurd h9 (RK_no hk (by decide)), fun h9 => ?_, fun h9 => ?_, fun h9 => ?_, fun h9 => ?_, fun h9 => ?_⟩ <;> rw [hk] at h9 <;> first | (rw [hk]; exact ⟨cA, h, rfl⟩) | (simp at h9)
theorem CellOK.g5 {tys : List (ClassId × FieldType)} {ρ : MA} {k l n z : Nat} {e : va_E} (hk : RK k = (5, n, z)) (h : CellOK tys ρ μ k l e) : ∃ (cA : ClassId) (t0 : Nat), (cA, FieldType.object (CN z)) ∈ tys ∧ tys[t0]? = some (cA, FieldType.object (CN z)) ∧ e = .inl (cA, n, .inr (.inr (.inr (.inr (fun i => (gR μ k l i).map (ρ z)))))) := by
  obtain ⟨cA, h1, h2⟩ := h.2.2.2.2.1 (by rw [hk])
  rw [hk] at h2
  rw [hk] at h1
  obtain ⟨t0, ht0⟩ := List.getElem?_of_mem h1
  exact ⟨cA, t0, h1, ht0, h2⟩
theorem CellOK.a6 {tys : List (ClassId × FieldType)} {ρ : MA} {k l n z : Nat} {cA : ClassId} (hk : RK k = (6, n, z)) (h : (cA, FieldType.array .int) ∈ tys) : CellOK tys ρ μ k l (.inl (cA, n, .inr (.inr (.inr (.inr (fun i => if i < n then some (ρ z (n * l + i)) else none)))))) := by
  refine ⟨fun h9 => absurd h9 (RK_no hk (by decide)), fun h9 => ?_, fun h9 => ?_, fun h9 => ?_, fun h9 => ?_, fun h9 => ?_⟩ <;> rw [hk] at h9 <;> first | (rw [hk]; exact ⟨cA, h, rfl⟩) | (simp at h9)
theorem CellOK.g6 {tys : List (ClassId × FieldType)} {ρ : MA} {k l n z : Nat} {e : va_E} (hk : RK k = (6, n, z)) (h : CellOK tys ρ μ k l e) : ∃ (cA : ClassId) (t0 : Nat), (cA, FieldType.array .int) ∈ tys ∧ tys[t0]? = some (cA, FieldType.array .int) ∧ e = .inl (cA, n, .inr (.inr (.inr (.inr (fun i => if i < n then some (ρ z (n * l + i)) else none))))) := by
  obtain ⟨cA, h1, h2⟩ := h.2.2.2.2.2 (by rw [hk])
  rw [hk] at h2
  obtain ⟨t0, ht0⟩ := List.getElem?_of_mem h1
  exact ⟨cA, t0, h1, ht0, h2⟩
theorem J_iald {k l n z : Nat} {i : Int32} (hk : RK k = (2, n, z)) (h9 : k < 900) (hi : 0 ≤ i.toInt ∧ i.toInt < (n : Int)) (hd : decode cc pc = .ok (.iaload, 1)) (hq : pc + 1 = q) (k0 : J G b cc own maxL d rc rs q lv (vi (gI μ k l i.toNatClampNeg) :: st) μ) : J G b cc own maxL d rc rs pc lv (vi i :: vr k l :: st) μ := by
  subst hq
  intro p l0 e R s m args below meth c Qf H locs cells slots D Z ρ ρ0 B0 ls hG C hst
  have hF := (hst.tl.hd).live h9
  obtain ⟨tys, L, f, q0, hK, hP, hD, hce, hinj, hclo, hm, hq0, hok⟩ := C.rel.at hF
  obtain ⟨cA, t0, hm0, ht0, he⟩ := hok.g2 hk
  rw [he] at hq0
  have hin : vp_in i n := vp_in_iff.mpr hi
  exact va_iald C.1 C.2.1 hK hP q0 t0 hq0 ht0 hin hd (k0 _ _ _ _ _ _ _ _ _ _ _ _ _ _ _ _ _ _ _ _ _ hG C hst.tl.tl.i)
theorem J_zald {k l n z : Nat} {i : Int32} (hk : RK k = (3, n, z)) (h9 : k < 900) (hi : 0 ≤ i.toInt ∧ i.toInt < (n : Int)) (hd : decode cc pc = .ok (.baload, 1)) (hq : pc + 1 = q) (k0 : J G b cc own maxL d rc rs q lv (vi (gI μ k l i.toNatClampNeg) :: st) μ) : J G b cc own maxL d rc rs pc lv (vi i :: vr k l :: st) μ := by
  subst hq
  intro p l0 e R s m args below meth c Qf H locs cells slots D Z ρ ρ0 B0 ls hG C hst
  have hF := (hst.tl.hd).live h9
  obtain ⟨tys, L, f, q0, hK, hP, hD, hce, hinj, hclo, hm, hq0, hok⟩ := C.rel.at hF
  obtain ⟨cA, t0, hm0, ht0, he⟩ := hok.g3 hk
  rw [he] at hq0
  have hin : vp_in i n := vp_in_iff.mpr hi
  exact va_zald C.1 C.2.1 hK hP q0 t0 hq0 ht0 hin hd (k0 _ _ _ _ _ _ _ _ _ _ _ _ _ _ _ _ _ _ _ _ _ hG C hst.tl.tl.i)
theorem J_lald {k l n z : Nat} {i : Int32} (hk : RK k = (4, n, z)) (h9 : k < 900) (hi : 0 ≤ i.toInt ∧ i.toInt < (n : Int)) (hd : decode cc pc = .ok (.laload, 1)) (hq : pc + 1 = q) (k0 : J G b cc own maxL d rc rs q lv (vl (gL μ k l i.toNatClampNeg) :: st) μ) : J G b cc own maxL d rc rs pc lv (vi i :: vr k l :: st) μ := by
  subst hq
  intro p l0 e R s m args below meth c Qf H locs cells slots D Z ρ ρ0 B0 ls hG C hst
  have hF := (hst.tl.hd).live h9
  obtain ⟨tys, L, f, q0, hK, hP, hD, hce, hinj, hclo, hm, hq0, hok⟩ := C.rel.at hF
  obtain ⟨cA, t0, hm0, ht0, he⟩ := hok.g4 hk
  rw [he] at hq0
  have hin : vp_in i n := vp_in_iff.mpr hi
  exact va_lald C.1 C.2.1 hK hP q0 t0 hq0 ht0 hin hd (k0 _ _ _ _ _ _ _ _ _ _ _ _ _ _ _ _ _ _ _ _ _ hG C hst.tl.tl.l)
theorem va_rf_map (ρ : MA) (z : Nat) (o : Option Nat) : va_rf (o.map (ρ z)) = ren ρ (vo z o) := by
  cases o <;> rfl
theorem LV_v5 {k l n z j : Nat} (hclo : Clo μ) (hF : gF μ k l = true) (hk : RK k = (5, n, z)) : LV μ (vo z (gR μ k l j)) := by
  cases h : gR μ k l j with
  | none => trivial
  | some i =>
    have h2 := (hclo k l hF).2.1 (by rw [hk]) j i h
    rw [hk] at h2
    exact Or.inl h2
theorem J_ald5 {k l n z : Nat} {i : Int32} (hk : RK k = (5, n, z)) (h9 : k < 900) (hi : 0 ≤ i.toInt ∧ i.toInt < (n : Int)) (hd : decode cc pc = .ok (.aaload, 1)) (hq : pc + 1 = q) (k0 : J G b cc own maxL d rc rs q lv (vo z (gR μ k l i.toNatClampNeg) :: st) μ) : J G b cc own maxL d rc rs pc lv (vi i :: vr k l :: st) μ := by
  subst hq
  intro p l0 e R s m args below meth c Qf H locs cells slots D Z ρ ρ0 B0 ls hG C hst
  have hF := (hst.tl.hd).live h9
  obtain ⟨tys, L, f, q0, hK, hP, hD, hce, hinj, hclo, hm, hq0, hok⟩ := C.rel.at hF
  obtain ⟨cA, t0, hm0, ht0, he⟩ := hok.g5 hk
  rw [he] at hq0
  have hin : vp_in i n := vp_in_iff.mpr hi
  exact va_aldq C.1 C.2.1 hK hP q0 t0 hq0 ht0 hin hd (by rw [va_rf_map]; exact (k0 _ _ _ _ _ _ _ _ _ _ _ _ _ _ _ _ _ _ _ _ _ hG C (LVs.cs (LV_v5 hclo hF hk) hst.tl.tl)))
theorem J_ald6 {k l n z : Nat} {i : Int32} (hk : RK k = (6, n, z)) (h9 : k < 900) (hi : 0 ≤ i.toInt ∧ i.toInt < (n : Int)) (hd : decode cc pc = .ok (.aaload, 1)) (hq : pc + 1 = q) (k0 : J G b cc own maxL d rc rs q lv (vr z (n * l + i.toNatClampNeg) :: st) μ) : J G b cc own maxL d rc rs pc lv (vi i :: vr k l :: st) μ := by
  subst hq
  intro p l0 e R s m args below meth c Qf H locs cells slots D Z ρ ρ0 B0 ls hG C hst
  have hF := (hst.tl.hd).live h9
  obtain ⟨tys, L, f, q0, hK, hP, hD, hce, hinj, hclo, hm, hq0, hok⟩ := C.rel.at hF
  obtain ⟨cA, t0, hm0, ht0, he⟩ := hok.g6 hk
  rw [he] at hq0
  have hin : vp_in i n := vp_in_iff.mpr hi
  have hlt : i.toNatClampNeg < n := Nat.not_le.mp fun q => hin (Or.inr q)
  exact W.aald (v := .ref (ρ z (n * l + i.toNatClampNeg))) (ty := .array .int) C.1 C.2.1 (hP q0 _ hq0) ((hK.2 t0 _ ht0).1 n (fun j => va_rf (if j < n then some (ρ z (n * l + j)) else none))) rfl (fun q => by cases q) (by show ¬ (i < 0 ∨ (arrV _ _ _).slots.size ≤ _); rw [arrV_size]; exact hin) (by show (arrV _ _ _).slots[_]? = _; rw [arrV_read _ _ hlt]; show some (va_rf (if i.toNatClampNeg < n then some (ρ z (n * l + i.toNatClampNeg)) else none)) = _; rw [if_pos hlt]; rfl) rfl rfl hd (k0 _ _ _ _ _ _ _ _ _ _ _ _ _ _ _ _ _ _ _ _ _ hG C (LVs.cs (by have h2 := (hclo k l hF).2.2 (by rw [hk]) i.toNatClampNeg (by rw [hk]; exact Nat.not_le.mp fun q => hin (Or.inr q)); rw [hk] at h2; exact Or.inl h2) hst.tl.tl))
theorem J_alen {k l n z c0 : Nat} {v : Int32} (hk : RK k = (c0, n, z)) (h9 : k < 900) (hc : c0 = 2 ∨ c0 = 4 ∨ c0 = 5) (hv : Int32.ofNat n = v) (hd : decode cc pc = .ok (.arraylength, 1)) (hq : pc + 1 = q) (k0 : J G b cc own maxL d rc rs q lv (vi v :: st) μ) : J G b cc own maxL d rc rs pc lv (vr k l :: st) μ := by
  subst hq
  intro p l0 e R s m args below meth c Qf H locs cells slots D Z ρ ρ0 B0 ls hG C hst
  have hF := (hst.hd).live h9
  obtain ⟨tys, L, f, q0, hK, hP, hD, hce, hinj, hclo, hm, hq0, hok⟩ := C.rel.at hF
  rcases hc with rfl | rfl | rfl
  · obtain ⟨cA, t0, hm0, ht0, he⟩ := hok.g2 hk
    rw [he] at hq0
    exact va_alen C.1 C.2.1 hK hP q0 t0 hq0 ht0 hv hd (k0 _ _ _ _ _ _ _ _ _ _ _ _ _ _ _ _ _ _ _ _ _ hG C hst.tl.i)
  · obtain ⟨cA, t0, hm0, ht0, he⟩ := hok.g4 hk
    rw [he] at hq0
    exact va_alen C.1 C.2.1 hK hP q0 t0 hq0 ht0 hv hd (k0 _ _ _ _ _ _ _ _ _ _ _ _ _ _ _ _ _ _ _ _ _ hG C hst.tl.i)
  · obtain ⟨cA, t0, hm0, ht0, he⟩ := hok.g5 hk
    rw [he] at hq0
    exact va_alen C.1 C.2.1 hK hP q0 t0 hq0 ht0 hv hd (k0 _ _ _ _ _ _ _ _ _ _ _ _ _ _ _ _ _ _ _ _ _ hG C hst.tl.i)
theorem J_iast {k l n z : Nat} {i : Int32} {x : Int32} (hk : RK k = (2, n, z)) (h9 : k < 900) (hi : 0 ≤ i.toInt ∧ i.toInt < (n : Int)) (hd : decode cc pc = .ok (.iastore, 1)) (hq : pc + 1 = q) (k0 : J G b cc own maxL d rc rs q lv st (sI μ k l i.toNatClampNeg x)) : J G b cc own maxL d rc rs pc lv (vi x :: vi i :: vr k l :: st) μ := by
  subst hq
  intro p l0 e R s m args below meth c Qf H locs cells slots D Z ρ ρ0 B0 ls hG C hst
  have hF := (hst.tl.tl.hd).live h9
  obtain ⟨tys, L, f, q0, hK, hP, hD, hce, hinj, hclo, hm, hq0, hok⟩ := C.rel.at hF
  obtain ⟨cA, t0, hm0, ht0, he⟩ := hok.g2 hk
  have hq1 := hq0
  rw [he] at hq0
  have hin : vp_in i n := vp_in_iff.mpr hi
  refine va_iast C.1 C.2.1 hK hP hD C.hS q0 t0 hq0 ht0 hin hd (fun H1 locs1 hP1 hD1 hS1 => ?_)
  have hpl := va_pl_set (X := []) (e := .inl (cA, n, .inl (upd (gI μ k l) i.toNatClampNeg x))) hD hm hq1
  rw [List.nil_append, List.nil_append] at hpl
  rw [hpl] at hP1 hD1
  refine k0 _ _ _ _ _ _ _ _ _ _ _ _ _ _ _ _ _ _ _ _ _ hG (C.mem (μ' := (sI μ k l i.toNatClampNeg x)) (Rel.upd hK hP1 hD1 hce hinj hF (fun _ _ => rfl) (fun a c9 h => ⟨?_, ?_, ?_⟩) ?_ ?_) hS1 (fun _ _ => rfl) (fun _ h => h)) (LVs.mem hst.tl.tl.tl (fun _ _ => rfl))
  · first | rfl | (funext z; show (if a = k ∧ c9 = l ∧ z = i.toNatClampNeg then _ else _) = _; rw [if_neg (fun w => h ⟨w.1, w.2.1⟩)]; rfl)
  · first | rfl | (funext z; show (if a = k ∧ c9 = l ∧ z = i.toNatClampNeg then _ else _) = _; rw [if_neg (fun w => h ⟨w.1, w.2.1⟩)]; rfl)
  · first | rfl | (funext z; show (if a = k ∧ c9 = l ∧ z = i.toNatClampNeg then _ else _) = _; rw [if_neg (fun w => h ⟨w.1, w.2.1⟩)]; rfl)
  · rw [← gI_fn]; exact CellOK.a2 hk hm0
  · exact hclo
theorem J_zast {k l n z : Nat} {i : Int32} {x : Int32} (hz : x = 0 ∨ x = 1) (hk : RK k = (3, n, z)) (h9 : k < 900) (hi : 0 ≤ i.toInt ∧ i.toInt < (n : Int)) (hd : decode cc pc = .ok (.bastore, 1)) (hq : pc + 1 = q) (k0 : J G b cc own maxL d rc rs q lv st (sI μ k l i.toNatClampNeg x)) : J G b cc own maxL d rc rs pc lv (vi x :: vi i :: vr k l :: st) μ := by
  subst hq
  intro p l0 e R s m args below meth c Qf H locs cells slots D Z ρ ρ0 B0 ls hG C hst
  have hF := (hst.tl.tl.hd).live h9
  obtain ⟨tys, L, f, q0, hK, hP, hD, hce, hinj, hclo, hm, hq0, hok⟩ := C.rel.at hF
  obtain ⟨cA, t0, hm0, ht0, he⟩ := hok.g3 hk
  have hq1 := hq0
  rw [he] at hq0
  have hin : vp_in i n := vp_in_iff.mpr hi
  refine va_zast C.1 C.2.1 hK hP hD C.hS q0 t0 hq0 ht0 hin hd (fun H1 locs1 hP1 hD1 hS1 => ?_)
  have hpl := va_pl_set (X := []) (e := .inl (cA, n, .inl (upd (gI μ k l) i.toNatClampNeg (vp_nar .boolean x)))) hD hm hq1
  rw [List.nil_append, List.nil_append] at hpl
  rw [hpl] at hP1 hD1
  refine k0 _ _ _ _ _ _ _ _ _ _ _ _ _ _ _ _ _ _ _ _ _ hG (C.mem (μ' := (sI μ k l i.toNatClampNeg x)) (Rel.upd hK hP1 hD1 hce hinj hF (fun _ _ => rfl) (fun a c9 h => ⟨?_, ?_, ?_⟩) ?_ ?_) hS1 (fun _ _ => rfl) (fun _ h => h)) (LVs.mem hst.tl.tl.tl (fun _ _ => rfl))
  · first | rfl | (funext z; show (if a = k ∧ c9 = l ∧ z = i.toNatClampNeg then _ else _) = _; rw [if_neg (fun w => h ⟨w.1, w.2.1⟩)]; rfl)
  · first | rfl | (funext z; show (if a = k ∧ c9 = l ∧ z = i.toNatClampNeg then _ else _) = _; rw [if_neg (fun w => h ⟨w.1, w.2.1⟩)]; rfl)
  · first | rfl | (funext z; show (if a = k ∧ c9 = l ∧ z = i.toNatClampNeg then _ else _) = _; rw [if_neg (fun w => h ⟨w.1, w.2.1⟩)]; rfl)
  · rw [show vp_nar .boolean x = x by rcases hz with rfl | rfl <;> rfl, ← gI_fn]; exact CellOK.a3 hk hm0
  · exact hclo
theorem J_last {k l n z : Nat} {i : Int32} {x : Int64} (hk : RK k = (4, n, z)) (h9 : k < 900) (hi : 0 ≤ i.toInt ∧ i.toInt < (n : Int)) (hd : decode cc pc = .ok (.lastore, 1)) (hq : pc + 1 = q) (k0 : J G b cc own maxL d rc rs q lv st (sL μ k l i.toNatClampNeg x)) : J G b cc own maxL d rc rs pc lv (vl x :: vi i :: vr k l :: st) μ := by
  subst hq
  intro p l0 e R s m args below meth c Qf H locs cells slots D Z ρ ρ0 B0 ls hG C hst
  have hF := (hst.tl.tl.hd).live h9
  obtain ⟨tys, L, f, q0, hK, hP, hD, hce, hinj, hclo, hm, hq0, hok⟩ := C.rel.at hF
  obtain ⟨cA, t0, hm0, ht0, he⟩ := hok.g4 hk
  have hq1 := hq0
  rw [he] at hq0
  have hin : vp_in i n := vp_in_iff.mpr hi
  refine va_last C.1 C.2.1 hK hP hD C.hS q0 t0 hq0 ht0 hin hd (fun H1 locs1 hP1 hD1 hS1 => ?_)
  have hpl := va_pl_set (X := []) (e := .inl (cA, n, .inr (.inl (vp_updL (gL μ k l) i.toNatClampNeg x)))) hD hm hq1
  rw [List.nil_append, List.nil_append] at hpl
  rw [hpl] at hP1 hD1
  refine k0 _ _ _ _ _ _ _ _ _ _ _ _ _ _ _ _ _ _ _ _ _ hG (C.mem (μ' := (sL μ k l i.toNatClampNeg x)) (Rel.upd hK hP1 hD1 hce hinj hF (fun _ _ => rfl) (fun a c9 h => ⟨?_, ?_, ?_⟩) ?_ ?_) hS1 (fun _ _ => rfl) (fun _ h => h)) (LVs.mem hst.tl.tl.tl (fun _ _ => rfl))
  · first | rfl | (funext z; show (if a = k ∧ c9 = l ∧ z = i.toNatClampNeg then _ else _) = _; rw [if_neg (fun w => h ⟨w.1, w.2.1⟩)]; rfl)
  · first | rfl | (funext z; show (if a = k ∧ c9 = l ∧ z = i.toNatClampNeg then _ else _) = _; rw [if_neg (fun w => h ⟨w.1, w.2.1⟩)]; rfl)
  · first | rfl | (funext z; show (if a = k ∧ c9 = l ∧ z = i.toNatClampNeg then _ else _) = _; rw [if_neg (fun w => h ⟨w.1, w.2.1⟩)]; rfl)
  · rw [← gL_fn]; exact CellOK.a4 hk hm0
  · exact hclo
theorem clo_sR5 {k l j n z : Nat} {x : Option Nat} (h : Clo μ) (hk : RK k = (5, n, z)) (hx : LV μ (vo z x)) (hr : z < 900) : Clo (sR μ k l j x) := by
  intro a c hac
  obtain ⟨h1, h2, h3⟩ := h a c hac
  refine ⟨fun ha i y hi hf hz => ?_, fun hk2 i y hz => ?_, h3⟩
  · rw [gR_sR] at hz
    by_cases w : a = k ∧ c = l ∧ i = j
    · exact absurd (w.1 ▸ ha) (RK_no hk (by decide))
    · rw [if_neg w] at hz
      exact h1 ha i y hi hf hz
  · rw [gR_sR] at hz
    by_cases w : a = k ∧ c = l ∧ i = j
    · rw [if_pos w] at hz
      rw [w.1, hk]
      rw [hz] at hx
      rcases hx with hx | hx
      · exact hx
      · exact absurd hx.1 (Nat.not_le.mpr hr)
    · rw [if_neg w] at hz
      exact h2 hk2 i y hz
theorem link_sR5 {k l j n z : Nat} {x : Option Nat} (h : LinkOK μ) (hk : RK k = (5, n, z)) : LinkOK (sR μ k l j x) := by
  intro a c hac ha i hi
  rw [gR_sR, if_neg (show ¬ (a = k ∧ c = l ∧ i = j) from fun w => absurd (w.1 ▸ ha) (RK_no hk (by decide)))]
  exact h a c hac ha i hi
theorem gR_fn {ρ : MA} {k l j z : Nat} {x : Nat} : (fun i => (gR (sR μ k l j (some x)) k l i).map (ρ z)) = va_up (fun i => (gR μ k l i).map (ρ z)) j (some (ρ z x)) := by
  funext y
  rw [gR_sR]
  by_cases h : y = j
  · subst h; simp [va_up]
  · simp [va_up, h]
theorem Rel.place {D : va_G} {ρ : MA} {H : Heap} {tys : List (ClassId × FieldType)} {L : List Nat} {f : Nat → va_E} {k l : Nat} (hP : va_P D classes (va_pl L f) H) (hce : ∀ k l, gF μ k l = true → ρ k l ∈ L ∧ CellOK tys ρ μ k l (f (ρ k l))) (hF : gF μ k l = true) : ∃ q0 : Nat, (va_pl L f)[q0]? = some (ρ k l, f (ρ k l)) := va_pl_get (X := []) (f := f) (hce k l hF).1
theorem Rel.placeO {D : va_G} {ρ : MA} {H : Heap} {tys : List (ClassId × FieldType)} {L : List Nat} {f : Nat → va_E} {k l : Nat} (hP : va_P D classes (va_pl L f) H) (hce : ∀ k l, gF μ k l = true → ρ k l ∈ L ∧ CellOK tys ρ μ k l (f (ρ k l))) (hF : gF μ k l = true) (h13 : k < 13) : (va_pl L f)[(Rel.place hP hce hF).choose]? = some (ρ k l, .inr (k, fvs ρ μ k l)) := by
  rw [(Rel.place hP hce hF).choose_spec, (hce k l hF).2.1 h13]
theorem J_ast5 {k l n z : Nat} {i : Int32} {x N0 : Nat} {T0 : u_T} (h13 : z < 13) (hcl : classes[z]? = some (CN z, T0, N0)) (hk : RK k = (5, n, z)) (h9 : k < 900) (hi : 0 ≤ i.toInt ∧ i.toInt < (n : Int)) (hd : decode cc pc = .ok (.aastore, 1)) (hq : pc + 1 = q) (k0 : J G b cc own maxL d rc rs q lv st (sR μ k l i.toNatClampNeg (some x))) : J G b cc own maxL d rc rs pc lv (vr z x :: vi i :: vr k l :: st) μ := by
  subst hq
  intro p l0 e R s m args below meth c Qf H locs cells slots D Z ρ ρ0 B0 ls hG C hst
  have hF := (hst.tl.tl.hd).live h9
  obtain ⟨tys, L, f, q0, hK, hP, hD, hce, hinj, hclo, hm, hq0, hok⟩ := C.rel.at hF
  obtain ⟨cA, t0, hm0, ht0, he⟩ := hok.g5 hk
  have hq1 := hq0
  rw [he] at hq0
  have hin : vp_in i n := vp_in_iff.mpr hi
  refine va_astq C.1 C.2.1 hK hP hD C.hS q0 t0 (Rel.place hP hce ((hst.hd).live (Nat.lt_trans h13 (by decide)))).choose z (r := (CN z, T0, N0)) hq0 ht0 (vs := fvs ρ μ z x) (Rel.placeO hP hce ((hst.hd).live (Nat.lt_trans h13 (by decide))) h13) hcl hin hd (fun H1 locs1 hP1 hD1 hS1 => ?_)
  have hpl := va_pl_set (X := []) (e := .inl (cA, n, .inr (.inr (.inr (.inr (va_up (fun i => (gR μ k l i).map (ρ z)) i.toNatClampNeg (some (ρ z x)))))))) hD hm hq1
  rw [List.nil_append, List.nil_append] at hpl
  rw [hpl] at hP1 hD1
  refine k0 _ _ _ _ _ _ _ _ _ _ _ _ _ _ _ _ _ _ _ _ _ hG (C.mem (μ' := (sR μ k l i.toNatClampNeg (some x))) (Rel.upd hK hP1 hD1 hce hinj hF (fun _ _ => rfl) (fun a c9 h => ⟨?_, ?_, ?_⟩) ?_ ?_) hS1 (fun _ _ => rfl) (fun _ h => link_sR5 h hk)) (LVs.mem hst.tl.tl.tl (fun _ _ => rfl))
  · first | rfl | (funext z; show (if a = k ∧ c9 = l ∧ z = i.toNatClampNeg then _ else _) = _; rw [if_neg (fun w => h ⟨w.1, w.2.1⟩)]; rfl)
  · first | rfl | (funext z; show (if a = k ∧ c9 = l ∧ z = i.toNatClampNeg then _ else _) = _; rw [if_neg (fun w => h ⟨w.1, w.2.1⟩)]; rfl)
  · first | rfl | (funext z; show (if a = k ∧ c9 = l ∧ z = i.toNatClampNeg then _ else _) = _; rw [if_neg (fun w => h ⟨w.1, w.2.1⟩)]; rfl)
  · rw [← gR_fn]; exact CellOK.a5 hk hm0
  · exact clo_sR5 hclo hk hst.hd (Nat.lt_trans h13 (by decide))
theorem J_gsTAKES {i : Nat} (hg : Cond.fieldLink own i "LetterFoundry$Runner" "TAKES" "[I" ∈ gw) (hd : decode cc pc = .ok (.getstatic i, 3)) (hq : pc + 3 = q) (k0 : J G b cc own maxL d rc rs q lv (vr 900 0 :: st) μ) : J G b cc own maxL d rc rs pc lv st μ := by
  subst hq
  intro p l0 e R s m args below meth c Qf H locs cells slots D Z ρ ρ0 B0 ls hG C hst
  exact va_gets C.1 C.2.1 C.2.2.2.2.2.2.1.1 C.hS C.hown (C.hts _ hg) (fun _ h => h) hd (k0 _ _ _ _ _ _ _ _ _ _ _ _ _ _ _ _ _ _ _ _ _ hG C (LVs.cs (Or.inr ⟨by decide, rfl⟩) hst))
theorem J_tiTAKES {i : Int32} (hi : 0 ≤ i.toInt ∧ i.toInt < 31) (hd : decode cc pc = .ok (.iaload, 1)) (hq : pc + 1 = q) (k0 : J G b cc own maxL d rc rs q lv (vi (takes i.toNatClampNeg) :: st) μ) : J G b cc own maxL d rc rs pc lv (vi i :: vr 900 0 :: st) μ := by
  subst hq
  intro p l0 e R s m args below meth c Qf H locs cells slots D Z ρ ρ0 B0 ls hG C hst
  exact va_ti C.1 C.2.1 C.2.2.2.2.2.2.1.2.1 C.hS (vp_in_iff.mpr hi) rfl hd (k0 _ _ _ _ _ _ _ _ _ _ _ _ _ _ _ _ _ _ _ _ _ hG C hst.tl.tl.i)
theorem J_gsGIVES {i : Nat} (hg : Cond.fieldLink own i "LetterFoundry$Runner" "GIVES" "[I" ∈ gw) (hd : decode cc pc = .ok (.getstatic i, 3)) (hq : pc + 3 = q) (k0 : J G b cc own maxL d rc rs q lv (vr 901 0 :: st) μ) : J G b cc own maxL d rc rs pc lv st μ := by
  subst hq
  intro p l0 e R s m args below meth c Qf H locs cells slots D Z ρ ρ0 B0 ls hG C hst
  exact va_gets C.1 C.2.1 C.2.2.2.2.2.2.1.2.2.1 C.hS C.hown (C.hts _ hg) (fun _ h => h) hd (k0 _ _ _ _ _ _ _ _ _ _ _ _ _ _ _ _ _ _ _ _ _ hG C (LVs.cs (Or.inr ⟨by decide, rfl⟩) hst))
theorem J_tiGIVES {i : Int32} (hi : 0 ≤ i.toInt ∧ i.toInt < 31) (hd : decode cc pc = .ok (.iaload, 1)) (hq : pc + 1 = q) (k0 : J G b cc own maxL d rc rs q lv (vi (gives i.toNatClampNeg) :: st) μ) : J G b cc own maxL d rc rs pc lv (vi i :: vr 901 0 :: st) μ := by
  subst hq
  intro p l0 e R s m args below meth c Qf H locs cells slots D Z ρ ρ0 B0 ls hG C hst
  exact va_ti C.1 C.2.1 C.2.2.2.2.2.2.1.2.2.2 C.hS (vp_in_iff.mpr hi) rfl hd (k0 _ _ _ _ _ _ _ _ _ _ _ _ _ _ _ _ _ _ _ _ _ hG C hst.tl.tl.i)
theorem J_cpyL {k l n z i : Nat} {sp dp m9 : Int32} (hk : RK k = (4, n, z)) (h9 : k < 900) (hd1 : 1 ≤ d) (hg : Cond.methodLink own i arraycopyName ∈ gw) (hnat : Cond.native arraycopyName ∈ gw) (hstat : Cond.static arraycopyName ∈ gw) (hini : Cond.initialized "java/lang/System" ∈ gw)
    (h1 : ¬ sp < 0) (h2 : ¬ dp < 0) (h3 : ¬ m9 < 0) (h4 : sp.toNatClampNeg + m9.toNatClampNeg ≤ n) (h5 : dp.toNatClampNeg + m9.toNatClampNeg ≤ n) (hd : decode cc pc = .ok (.invokestatic i, 3)) (hq : pc + 3 = q) (k0 : J G b cc own maxL d rc rs q lv [] (cpL μ k l k l sp.toNatClampNeg dp.toNatClampNeg m9.toNatClampNeg)) : J G b cc own maxL d rc rs pc lv [vi m9, vi dp, vr k l, vi sp, vr k l] μ := by
  subst hq
  intro p l0 e R s m args below meth c Qf H locs cells slots D Z ρ ρ0 B0 ls hG C hst
  have hF := (hst.tl.tl.hd).live h9
  obtain ⟨tys, L, f, q0, hK, hP, hD, hce, hinj, hclo, hm, hq0, hok⟩ := C.rel.at hF
  obtain ⟨cA, t0, hm0, ht0, he⟩ := hok.g4 hk
  have hq1 := hq0
  rw [he] at hq0
  have hRl := C.2.2.2.2.2.2.2.2.2.2.2.2.2.2.2.1
  refine va_copyl C.1 C.2.1 (C.2.2.1.trans C.hls.1.symm) C.hown (C.hts _ hg) (C.hts _ hnat) (C.hts _ hstat) (C.hts _ hini) hK hP hD C.hS q0 q0 t0 t0 hq0 hq0 ht0 ht0 rfl h1 h2 h3 h4 h5 (fun _ _ => rfl) (Nat.le_trans hd1 hRl.1) (Nat.le_trans (Nat.le_trans (show (0 : Nat) + (nativeFrameWords "java/lang/System" "arraycopy" 5 + 11) ≤ 60 * 1 by decide +kernel) (Nat.mul_le_mul_left 60 hd1)) hRl.2) hd (fun H1 locs1 hP1 hD1 hS1 => ?_)
  have hpl := va_pl_set (X := []) (e := .inl (cA, n, .inr (.inl (va_cpy (gL μ k l) (gL μ k l) sp.toNatClampNeg dp.toNatClampNeg m9.toNatClampNeg)))) hD hm hq1
  rw [List.nil_append, List.nil_append] at hpl
  rw [hpl] at hP1 hD1
  have hfn : gL (cpL μ k l k l sp.toNatClampNeg dp.toNatClampNeg m9.toNatClampNeg) k l = va_cpy (gL μ k l) (gL μ k l) sp.toNatClampNeg dp.toNatClampNeg m9.toNatClampNeg := by
    funext y
    show (if k = k ∧ l = l then _ else _) = _
    rw [if_pos ⟨rfl, rfl⟩]
    rfl
  refine k0 _ _ _ _ _ _ _ _ _ _ _ _ _ _ _ _ _ _ _ _ _ hG (C.mem (μ' := cpL μ k l k l sp.toNatClampNeg dp.toNatClampNeg m9.toNatClampNeg) (Rel.upd hK hP1 hD1 hce hinj hF (fun _ _ => rfl) (fun a c9 h => ⟨rfl, ?_, rfl⟩) ?_ hclo) hS1 (fun _ _ => rfl) (fun _ h => h)) (LVs.mem hst.tl.tl.tl.tl.tl (fun _ _ => rfl))
  · funext y
    show (if a = k ∧ c9 = l then _ else _) = _
    rw [if_neg h]
    rfl
  · rw [← hfn]
    exact CellOK.a4 hk hm0
end JAR
