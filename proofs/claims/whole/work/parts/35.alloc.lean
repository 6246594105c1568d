/-! ===== BEGIN new T[n][m]: the outer array a place, the inner ones among the pooled ===== -/
/-- f, but v at every address of l -/
def vr_up {α : Type} (f : Nat → α) (l : List Nat) (v : α) : Nat → α := fun a => if a ∈ l then v else f a
theorem vr_up_in {α : Type} {f : Nat → α} {l : List Nat} {v : α} {a : Nat} (h : a ∈ l) : vr_up f l v a = v := if_pos h
theorem vr_up_ne {α : Type} {f : Nat → α} {l : List Nat} {v : α} {a : Nat} (h : a ∉ l) : vr_up f l v a = f a := if_neg h
theorem vr_rows {L l : List Nat} {f : Nat → va_E} {e : va_E} (h : ∀ a, a ∈ l → a ∉ L) : va_pl L f ++ l.map (fun a => (a, e)) = va_pl (L ++ l) (vr_up f l e) := by
  unfold va_pl
  rw [List.map_append]
  congr 1
  · apply List.map_congr_left
    intro a ha
    rw [vr_up_ne (fun q => h a q ha)]
  · apply List.map_congr_left
    intro a ha
    rw [vr_up_in ha]
theorem vr_lay {X rows : va_W} {x : Nat × va_E} {pl : va_W} {D : va_G} {cl : List vw_C} {H : Heap} (hP : va_P D cl (((X ++ pl) ++ [x]) ++ rows) H) : va_P D cl ((X ++ [x]) ++ (pl ++ rows)) H := by
  rw [List.append_assoc (X ++ pl)] at hP
  have h := va_P.swap hP
  rw [← List.append_assoc X] at h
  have h2 := va_P.swap h
  rw [List.append_assoc (X ++ [x])] at h2
  exact h2
theorem vr_layD {X rows : va_W} {x : Nat × va_E} {pl : va_W} {A : Nat → Prop} (hD : va_D A (((X ++ pl) ++ [x]) ++ rows)) : va_D A ((X ++ [x]) ++ (pl ++ rows)) := by
  rw [List.append_assoc (X ++ pl)] at hD
  have h := va_D.swap hD
  rw [← List.append_assoc X] at h
  have h2 := va_D.swap h
  rw [List.append_assoc (X ++ [x])] at h2
  exact h2
theorem vr_outer (c : ClassId) (N h0 : Nat) : ∀ i : Nat, Jvm.Free.Multi.outerC c N h0 i = arrV c N (fun j => va_rf (if j < i then some (h0 + 1 + j) else none))
  | 0 => by
    show ({ cls := c, slots := Array.replicate N .null, vm := .none } : Cell) = _
    rw [arrV_new]
    refine congrArg (arrV c N) (funext fun j => ?_)
    simp [va_rf]
  | i + 1 => by
    show (Jvm.Free.Multi.outerC c N h0 i).setSlot i (.ref (h0 + 1 + i)) = _
    rw [vr_outer c N h0 i, arrV_store]
    refine congrArg (arrV c N) (funext fun j => ?_)
    by_cases e : j = i
    · subst e
      simp [updV, va_rf]
    · by_cases h : j < i
      · simp [updV, e, h, Nat.lt_succ_of_lt h]
      · simp [updV, e, h, show ¬ j < i + 1 by omega]
section VGM
variable {p : Program} {l : Launch} {e : Env} {R : Room} {s : State} {m : MethodId} {args : Array Value} {below : List Frame} {meth : Method} {c : Code} {H : Heap} {locs : List Loc} {cells slots : Nat} {Q : State → Prop}
variable {cc : ByteArray} {pc : Nat} {ls : Array Slot} {rest : List Value} {D : va_G} {cl : List vw_C} {A : Nat → Prop} {a : Nat} {tys : List (ClassId × FieldType)} {ws : va_W} {H0 : Heap}
theorem va_mna {X : va_W} {L : List Nat} {f : Nat → va_E} {cc : ByteArray} (hexec : p.tables.exec = Jvm.exec) (hb : c.code = cc) {own : String} {index : Nat} {ty : FieldType} {cy : ClassId} (hown : s.vm.findClass own = some m.cls) (hclink : (Cond.classLink own index ("[" ++ (FieldType.array ty).toString)).before args s = true) (hover : (Cond.arrayOver (.array ty)).before #[] s = true) (harr : (Cond.arrayClass ty).before args s = true) (hcy : s.vm.findClass (FieldType.array ty).toString = some cy)
    (hK : va_K D cl tys s) (hP : va_P D cl (X ++ va_pl L f) H) (hD : va_D A (X ++ va_pl L f)) (hS : va_S A H0 H locs) (hA : ∀ q, H0.size ≤ q → A q) {n k : Int32} {N' K' : Nat} {z : vp_A} (hn : ¬ n < 0) (hk : ¬ k < 0) (hN : n.toNatClampNeg = N') (hM : k.toNatClampNeg = K')
    (hb1 : N' * 4 ≤ 536870912) (hb2 : K' * componentBytes ty ≤ 536870912) (hb3 : K' ≤ 536870912) (hdf : fits ty (defaultValue ty) = true) (hdd : (defaultValue ty).isDefault = true) (hcells : cells + (1 + N') ≤ R.cells) (hslots : slots + (N' + N' * K') ≤ R.slots) (hz : ∀ c : ClassId, Jvm.Free.Multi.innerC c K' (defaultValue ty) = vp_cell c z) (hdg : decode cc pc = .ok (.multianewarray index 2, 4))
    (kk : ∀ (q : Nat) (r : Nat → Nat) (cA : ClassId) (H1 : Heap), (∀ i j : Nat, i < N' → j < N' → r i = r j → i = j) → (∀ i : Nat, i < N' → r i ∉ L) → va_K D cl (tys ++ [(cA, .array ty)]) s →
      va_P D cl ((X ++ [(q, .inl (cA, N', .inr (.inr (.inr (.inr (fun i => if i < N' then some (r i) else none))))))]) ++ va_pl (L ++ (List.range N').map r) (vr_up f ((List.range N').map r) (.inl (cy, z)))) H1 → va_D A ((X ++ [(q, .inl (cA, N', .inr (.inr (.inr (.inr (fun i => if i < N' then some (r i) else none))))))]) ++ va_pl (L ++ (List.range N').map r) (vr_up f ((List.range N').map r) (.inl (cy, z)))) → va_S A H0 H1 locs →
      W p l e R s m args below meth c H1 locs (cells + 1 + N') (slots + N' + N' * K') Q (F0 m (pc + 4) ls (.ref q :: rest))) : W p l e R s m args below meth c H locs cells slots Q (F0 m pc ls (.int k :: .int n :: rest)) := by
  subst hN
  subst hM
  intro T hT Xs
  obtain ⟨vm₁, cA, comp, -, fA, fC, hO, -, X', step⟩ := Xs.multianewarray2F hexec hown hclink hover harr (g := F0 m pc ls (.int k :: .int n :: rest)) rfl (by rw [hb]; exact hdg) rfl hn hk hb1 hb2 hb3 hdf hdd hcells hslots
  have ec : some cy = some comp := hcy.symm.trans fC
  cases ec
  generalize hF : Jvm.Free.Multi.fill (T.setVm vm₁) cA cy n.toNatClampNeg k.toNatClampNeg (defaultValue ty) n.toNatClampNeg = F at X' step
  have hTh : (T.setVm vm₁).heap = H := hT
  obtain ⟨f1, f2, -, -⟩ := Jvm.Free.Multi.fill_facts (T.setVm vm₁) cA cy n.toNatClampNeg k.toNatClampNeg (defaultValue ty) n.toNatClampNeg
  rw [hF, hTh] at f1 f2
  have hold : ∀ x : Nat, x < H.size → F.heap[x]? = H[x]? := fun x hx => by
    have := Jvm.Free.Multi.fill_old (T.setVm vm₁) cA cy n.toNatClampNeg k.toNatClampNeg (defaultValue ty) (a := x) (by rw [hTh]; exact hx) n.toNatClampNeg
    rw [hF, hTh] at this
    exact this
  have hrow : ∀ j : Nat, j < n.toNatClampNeg → F.heap[H.size + 1 + j]? = some (vp_cell cy z) := fun j hj => by
    have := Jvm.Free.Multi.fill_inner (T.setVm vm₁) cA cy n.toNatClampNeg k.toNatClampNeg (defaultValue ty) n.toNatClampNeg j hj
    rw [hF, hTh, hz] at this
    exact this
  have hout : Jvm.Free.Multi.outerC cA n.toNatClampNeg H.size n.toNatClampNeg = vp_cell cA (n.toNatClampNeg, .inr (.inr (.inr (.inr (fun i => if i < n.toNatClampNeg then some (H.size + 1 + i) else none))))) := by
    rw [vp_cell_q]
    exact vr_outer cA n.toNatClampNeg H.size n.toNatClampNeg
  rw [hout] at f2
  have hlt : ∀ a, a ∈ L → a < H.size := fun a ha => by
    obtain ⟨k9, hk9⟩ := va_pl_get (X := X) (f := f) ha
    exact (hP k9 _ hk9).lt
  have hnl : ∀ i : Nat, i < n.toNatClampNeg → H.size + 1 + i ∉ L := fun i _ h => by
    have := hlt _ h
    omega
  have hnm : ∀ a, a ∈ (List.range n.toNatClampNeg).map (fun i => H.size + 1 + i) → a ∉ L := fun a ha h => by
    obtain ⟨i, -, rfl⟩ := List.mem_map.mp ha
    have := hlt _ h
    omega
  have hP0 : va_P D cl (X ++ va_pl L f) F.heap := hP.kept (fun k9 x hx => hold x.1 ((hP k9 x hx).lt))
  have hP1 : va_P D cl ((X ++ va_pl L f) ++ [(H.size, .inl (cA, n.toNatClampNeg, .inr (.inr (.inr (.inr (fun i => if i < n.toNatClampNeg then some (H.size + 1 + i) else none))))))]) F.heap := hP0.app (fun k9 x hx => by
    have h0 : k9 < 1 := (List.getElem?_eq_some_iff.mp hx).1
    rw [show k9 = 0 by omega] at hx
    cases hx
    exact f2)
  have hP2 : va_P D cl (((X ++ va_pl L f) ++ [(H.size, .inl (cA, n.toNatClampNeg, .inr (.inr (.inr (.inr (fun i => if i < n.toNatClampNeg then some (H.size + 1 + i) else none))))))]) ++ ((List.range n.toNatClampNeg).map (fun i => H.size + 1 + i)).map (fun a => (a, .inl (cy, z)))) F.heap := hP1.app (fun k9 x hx => by
    obtain ⟨a, ha, rfl⟩ := List.mem_map.mp (List.mem_of_getElem? hx)
    obtain ⟨i, hi, rfl⟩ := List.mem_map.mp ha
    exact hrow i (List.mem_range.mp hi))
  have hD2 : va_D A (((X ++ va_pl L f) ++ [(H.size, .inl (cA, n.toNatClampNeg, .inr (.inr (.inr (.inr (fun i => if i < n.toNatClampNeg then some (H.size + 1 + i) else none))))))]) ++ ((List.range n.toNatClampNeg).map (fun i => H.size + 1 + i)).map (fun a => (a, .inl (cy, z)))) := by
    have hD1 := hD.push (e := .inl (cA, n.toNatClampNeg, .inr (.inr (.inr (.inr (fun i => if i < n.toNatClampNeg then some (H.size + 1 + i) else none)))))) hP rfl (hA _ hS.1)
    generalize hW1 : (X ++ va_pl L f) ++ [(H.size, .inl (cA, n.toNatClampNeg, .inr (.inr (.inr (.inr (fun i => if i < n.toNatClampNeg then some (H.size + 1 + i) else none))))))] = W1 at hD1 hP1 ⊢
    have hle : ∀ (k9 : Nat) (x : Nat × va_E), W1[k9]? = some x → x.1 ≤ H.size := fun k9 x hx => by
      rw [← hW1] at hx
      by_cases hl : k9 < (X ++ va_pl L f).length
      · rw [List.getElem?_append_left hl] at hx
        exact Nat.le_of_lt ((hP k9 x hx).lt)
      · rw [List.getElem?_append_right (by omega)] at hx
        have h0 : k9 - (X ++ va_pl L f).length < 1 := (List.getElem?_eq_some_iff.mp hx).1
        rw [show k9 - (X ++ va_pl L f).length = 0 by omega] at hx
        cases hx
        exact Nat.le_refl _
    have hr : ∀ (k9 : Nat) (x : Nat × va_E), (((List.range n.toNatClampNeg).map (fun i => H.size + 1 + i)).map (fun a => ((a, .inl (cy, z)) : Nat × va_E)))[k9]? = some x → x.1 = H.size + 1 + k9 := fun k9 x hx => by
      rw [List.getElem?_map, List.getElem?_map] at hx
      by_cases h9 : k9 < n.toNatClampNeg
      · rw [List.getElem?_range h9] at hx
        cases hx
        rfl
      · have hn0 : (List.range n.toNatClampNeg)[k9]? = none := List.getElem?_eq_none (by rw [List.length_range]; omega)
        rw [hn0] at hx
        cases hx
    refine ⟨fun i j x y hi hj hxy => ?_, fun k9 x hx => ?_⟩
    · by_cases h1 : i < W1.length <;> by_cases h2 : j < W1.length
      · rw [List.getElem?_append_left h1] at hi
        rw [List.getElem?_append_left h2] at hj
        exact hD1.1 i j x y hi hj hxy
      · rw [List.getElem?_append_left h1] at hi
        rw [List.getElem?_append_right (by omega)] at hj
        have := hle _ _ hi
        have := hr _ _ hj
        omega
      · rw [List.getElem?_append_right (by omega)] at hi
        rw [List.getElem?_append_left h2] at hj
        have := hle _ _ hj
        have := hr _ _ hi
        omega
      · rw [List.getElem?_append_right (by omega)] at hi hj
        have := hr _ _ hi
        have := hr _ _ hj
        omega
    · by_cases h1 : k9 < W1.length
      · rw [List.getElem?_append_left h1] at hx
        exact hD1.2 k9 x hx
      · rw [List.getElem?_append_right (by omega)] at hx
        have := hr _ _ hx
        exact hA _ (by have := hS.1; omega)
  have hAr : ArrOfT s cA (.array ty) := fun N9 z9 => by
    obtain ⟨-, k9, hk9, cm9, hkk9⟩ := (hO 0 0 0).1
    exact ⟨(fun q hq => by cases hq), k9, hk9, cm9, hkk9⟩
  have hK2 : va_K D cl (tys ++ [(cA, .array ty)]) s := ⟨hK.1, fun k9 x hx => by
    by_cases hl : k9 < tys.length
    · rw [List.getElem?_append_left hl] at hx
      exact hK.2 k9 x hx
    · rw [List.getElem?_append_right (by omega)] at hx
      have h0 : k9 - tys.length < 1 := (List.getElem?_eq_some_iff.mp hx).1
      rw [show k9 - tys.length = 0 by omega] at hx
      cases hx
      exact ⟨hAr, fA⟩⟩
  obtain ⟨t, a1, b1⟩ := kk H.size (fun i => H.size + 1 + i) cA F.heap (fun i j _ _ h => by have h9 : H.size + 1 + i = H.size + 1 + j := h; omega) hnl hK2 (by rw [← vr_rows hnm]; exact vr_lay hP2) (by rw [← vr_rows hnm]; exact vr_layD hD2) ⟨by rw [f1]; have := hS.1; omega, fun x h1 h2 => (hold x (Nat.lt_of_lt_of_le h1 hS.1)).trans (hS.2.1 x h1 h2), hS.2.2⟩ F rfl X'
  refine ⟨t, step t ?_, b1⟩
  have e : T.heap.size = H.size := by rw [hT]
  rw [e]
  exact a1
end VGM
/-! ===== END ===== -/


def rup (ρ : MA) (k l q : Nat) : MA := fun a c => if a = k ∧ c = l then q else ρ a c
theorem rup_self (ρ : MA) (k l q : Nat) : rup ρ k l q k l = q := if_pos ⟨rfl, rfl⟩
theorem rup_ne {ρ : MA} {k l q a c : Nat} (h : ¬ (a = k ∧ c = l)) : rup ρ k l q a c = ρ a c := if_neg h
theorem FT_kind {k j : Nat} (h13 : k < 13) (hj : j < NF k) (h3 : (FT k j).1 ≠ 3) : (FT k j).1 = 0 ∨ (FT k j).1 = 1 ∨ (FT k j).1 = 2 := by
  have key : ∀ k, k < 13 → ∀ j, j < NF k → (FT k j).1 = 3 ∨ (FT k j).1 = 0 ∨ (FT k j).1 = 1 ∨ (FT k j).1 = 2 := by decide +kernel
  exact (key k h13 j hj).resolve_left h3
section J11
variable {G : GT} {b : Bool} {cc : ByteArray} {own : String} {maxL d rc rs pc q : Nat} {lv : List (Nat × AV)} {st : List AV} {μ : Mem}
theorem gF_nw (k l a c : Nat) : gF (nw μ k l) a c = if a = k ∧ c = l then true else gF μ a c := rfl
theorem gR_nw (k l a c j : Nat) : gR (nw μ k l) a c j = if a = k ∧ c = l then none else gR μ a c j := rfl
theorem gI_nw (k l a c j : Nat) : gI (nw μ k l) a c j = if a = k ∧ c = l then 0 else gI μ a c j := rfl
theorem gL_nw (k l a c j : Nat) : gL (nw μ k l) a c j = if a = k ∧ c = l then 0 else gL μ a c j := rfl
/-- a cell that was there, under other addresses of what is new -/
theorem CellOK.ren {tys tys' : List (ClassId × FieldType)} {ρ ρ' : MA} {μ' : Mem} {k l : Nat} {e : va_E} (h : CellOK tys ρ μ k l e) (hF : gF μ k l = true) (hclo : Clo μ) (ht : ∀ x ∈ tys, x ∈ tys') (hI : gI μ' k l = gI μ k l) (hL : gL μ' k l = gL μ k l) (hR : gR μ' k l = gR μ k l) (hρ : ∀ a c, gF μ a c = true → ρ' a c = ρ a c) : CellOK tys' ρ' μ' k l e := by
  obtain ⟨c1, c2, c3⟩ := hclo k l hF
  have hv : k < 13 → fvs ρ' μ' k l = fvs ρ μ k l := fun h13 => by
    unfold fvs
    apply List.map_congr_left
    intro j hj
    have hj := List.mem_range.mp hj
    unfold fv
    rw [hI, hL, hR]
    by_cases h3 : (FT k j).1 = 3
    · have e3 : FT k j = (3, (FT k j).2) := by rw [← h3]
      cases hr : gR μ k l j with
      | none => rfl
      | some i =>
        have h9 := c1 h13 j i hj h3 hr
        rw [h3]
        show Value.ref (ρ' (FT k j).2 i) = .ref (ρ (FT k j).2 i)
        rw [hρ _ _ h9]
    · have key : ∀ (t : Nat) (A B C D D' : Value), t ≠ 3 → (t = 0 ∨ t = 1 ∨ t = 2 ∨ t = 9) → (t = 9 → D = D') → (match t with | 0 => A | 1 => B | 2 => C | _ => D) = (match t with | 0 => A | 1 => B | 2 => C | _ => D') := by
        intro t A B C D D' h1 h2 h3
        rcases h2 with rfl | rfl | rfl | rfl
        · rfl
        · rfl
        · rfl
        · exact h3 rfl
      have hno : (FT k j).1 = 0 ∨ (FT k j).1 = 1 ∨ (FT k j).1 = 2 := FT_kind h13 hj h3
      rcases hno with h | h | h <;> first | (rw [h]; done) | (rw [h]; rfl)
  obtain ⟨h1, h2, h3, h4, h5, h6⟩ := h
  refine ⟨fun h => by rw [hv h]; exact h1 h, fun h => ?_, fun h => ?_, fun h => ?_, fun h => ?_, fun h => ?_⟩
  · obtain ⟨cA, q1, q2⟩ := h2 h; exact ⟨cA, ht _ q1, by rw [hI]; exact q2⟩
  · obtain ⟨cA, q1, q2⟩ := h3 h; exact ⟨cA, ht _ q1, by rw [hI]; exact q2⟩
  · obtain ⟨cA, q1, q2⟩ := h4 h; exact ⟨cA, ht _ q1, by rw [hL]; exact q2⟩
  · obtain ⟨cA, q1, q2⟩ := h5 h
    refine ⟨cA, ht _ q1, ?_⟩
    rw [q2, hR]
    have : (fun i => (gR μ k l i).map (ρ (RK k).2.2)) = fun i => (gR μ k l i).map (ρ' (RK k).2.2) := by
      funext i
      cases hr : gR μ k l i with
      | none => rfl
      | some y =>
        show some (ρ _ y) = some (ρ' _ y)
        rw [hρ _ _ (c2 h i y hr)]
    rw [this]
  · obtain ⟨cA, q1, q2⟩ := h6 h
    refine ⟨cA, ht _ q1, ?_⟩
    rw [q2]
    have : (fun i => if i < (RK k).2.1 then some (ρ (RK k).2.2 ((RK k).2.1 * l + i)) else none) = fun i => if i < (RK k).2.1 then some (ρ' (RK k).2.2 ((RK k).2.1 * l + i)) else none := by
      funext i
      by_cases hi : i < (RK k).2.1
      · rw [if_pos hi, if_pos hi, hρ _ _ (c3 h i hi)]
      · rw [if_neg hi, if_neg hi]
    rw [this]
theorem push_no {Z q : Nat} {L : List Nat} {f : Nat → va_E} {e : va_E} (hD : va_D (fun q => Z ≤ q) (va_pl L f ++ [(q, e)])) : q ∉ L := by
  intro h
  obtain ⟨i, hi⟩ := va_pl_get (X := []) (f := f) h
  rw [List.nil_append] at hi
  have hl := (List.getElem?_eq_some_iff.mp hi).1
  have h1 : (va_pl L f ++ [(q, e)])[i]? = some (q, f q) := by rw [List.getElem?_append_left hl]; exact hi
  have h2 : (va_pl L f ++ [(q, e)])[(va_pl L f).length]? = some (q, e) := by rw [List.getElem?_append_right (Nat.le_refl _), Nat.sub_self]; rfl
  have := hD.1 _ _ _ _ h1 h2 rfl
  omega
theorem Rel.push {D : va_G} {Z : Nat} {s : State} {H1 : Heap} {ρ : MA} {k l q : Nat} {e : va_E} {tys tys' : List (ClassId × FieldType)} {L : List Nat} {f : Nat → va_E} (hK : va_K D classes tys' s) (ht : ∀ x ∈ tys, x ∈ tys') (hP1 : va_P D classes (va_pl L f ++ [(q, e)]) H1) (hD1 : va_D (fun q => Z ≤ q) (va_pl L f ++ [(q, e)]))
    (hc : ∀ k l, gF μ k l = true → ρ k l ∈ L ∧ CellOK tys ρ μ k l (f (ρ k l))) (hi : ∀ k l k' l', gF μ k l = true → gF μ k' l' = true → ρ k l = ρ k' l' → k = k' ∧ l = l') (hclo : Clo μ) (hfree : gF μ k l = false) (hk : (RK k).1 ≠ 6) (hok : CellOK tys' (rup ρ k l q) (nw μ k l) k l e) : Rel D Z s H1 (rup ρ k l q) (nw μ k l) := by
  have hq := push_no hD1
  rw [va_pl_push hq] at hP1 hD1
  have hlive : ∀ a c, gF μ a c = true → ¬ (a = k ∧ c = l) := fun a c h w => by
    rw [w.1, w.2, hfree] at h; cases h
  have hρ : ∀ a c, gF μ a c = true → rup ρ k l q a c = ρ a c := fun a c h => rup_ne (hlive a c h)
  have hne : ∀ a c, gF μ a c = true → ρ a c ≠ q := fun a c h w => hq (w ▸ (hc a c h).1)
  refine ⟨tys', L ++ [q], va_up f q e, hK, hP1, hD1, fun a c hac => ?_, fun a c a' c' h1 h2 h3 => ?_, fun a c hac => ?_⟩
  · by_cases w : a = k ∧ c = l
    · obtain ⟨rfl, rfl⟩ := w
      rw [rup_self, va_up_self]
      exact ⟨List.mem_append_right _ List.mem_cons_self, hok⟩
    · rw [gF_nw, if_neg w] at hac
      rw [rup_ne w, va_up_ne _ _ (hne a c hac)]
      refine ⟨List.mem_append_left _ (hc a c hac).1, (hc a c hac).2.ren hac hclo ht ?_ ?_ ?_ hρ⟩ <;> (funext j; first | (rw [gI_nw, if_neg w]) | (rw [gL_nw, if_neg w]) | (rw [gR_nw, if_neg w]))
  · by_cases w : a = k ∧ c = l <;> by_cases w' : a' = k ∧ c' = l
    · exact ⟨w.1.trans w'.1.symm, w.2.trans w'.2.symm⟩
    · rw [gF_nw, if_neg w'] at h2
      rw [w.1, w.2, rup_self, rup_ne w'] at h3
      exact absurd h3.symm (hne a' c' h2)
    · rw [gF_nw, if_neg w] at h1
      rw [w'.1, w'.2, rup_self, rup_ne w] at h3
      exact absurd h3 (hne a c h1)
    · rw [gF_nw, if_neg w] at h1
      rw [gF_nw, if_neg w'] at h2
      rw [rup_ne w, rup_ne w'] at h3
      exact hi a c a' c' h1 h2 h3
  · have up : ∀ x y, gF μ x y = true → gF (nw μ k l) x y = true := fun x y h => by rw [gF_nw, if_neg (hlive x y h)]; exact h
    by_cases w : a = k ∧ c = l
    · refine ⟨fun _ j i _ _ h => ?_, fun _ j i h => ?_, fun h => ?_⟩
      · rw [gR_nw, if_pos w] at h; cases h
      · rw [gR_nw, if_pos w] at h; cases h
      · rw [w.1] at h; exact absurd h hk
    · rw [gF_nw, if_neg w] at hac
      obtain ⟨c1, c2, c3⟩ := hclo a c hac
      refine ⟨fun h j i h1 h2 h3 => ?_, fun h j i h1 => ?_, fun h j hj => up _ _ (c3 h j hj)⟩
      · rw [gR_nw, if_neg w] at h3; exact up _ _ (c1 h j i h1 h2 h3)
      · rw [gR_nw, if_neg w] at h1; exact up _ _ (c2 h j i h1)
/-- the context with new cells -/
theorem Cx.grow {p : Program} {R : Room} {s : State} {m : MethodId} {args : Array Value} {c : Code} {H H1 : Heap} {locs : List Loc} {cells slots mc ms : Nat} {D : va_G} {Z : Nat} {ρ ρ0 ρ' : MA} {B0 : Nat → Nat → Bool} {ls : Array Slot} {ν : Mem}
    (C : Cx b cc own maxL d (mc + rc) (ms + rs) p R s m args c H locs cells slots D Z ρ ρ0 B0 ls lv μ) (hR : Rel D Z s H1 ρ' ν) (h5 : ∀ k l, gF μ k l = true → gF ν k l = true ∧ ρ' k l = ρ k l) (h6 : ∀ k, 900 ≤ k → ρ' k 0 = ρ k 0) (h7 : b = true → LinkOK ν) (hS : va_S (fun q => Z ≤ q) s.heap H1 locs) :
    Cx b cc own maxL d rc rs p R s m args c H1 locs (cells + mc) (slots + ms) D Z ρ' ρ0 B0 ls lv ν := C.back (t := s) (Vm.Alike.refl _) hR h5 h6 h7 hS
theorem LVs.grow {ν : Mem} (h : LVs μ st) (h5 : ∀ k l, gF μ k l = true → gF ν k l = true) : LVs ν st := fun v hv => (h v hv).up h5
theorem map_ren {ρ ρ' : MA} (h : LVs μ st) (h5 : ∀ k l, gF μ k l = true → ρ' k l = ρ k l) (h6 : ∀ k, 900 ≤ k → ρ' k 0 = ρ k 0) : st.map (ren ρ') = st.map (ren ρ) := List.map_congr_left fun z hz => ren_eq (h z hz) h5 h6
theorem nw_up {k l : Nat} (hfree : gF μ k l = false) (q : Nat) (ρ : MA) : ∀ a c, gF μ a c = true → gF (nw μ k l) a c = true ∧ rup ρ k l q a c = ρ a c := fun a c h => by
  have w : ¬ (a = k ∧ c = l) := fun w => by rw [w.1, w.2, hfree] at h; cases h
  exact ⟨by rw [gF_nw, if_neg w]; exact h, rup_ne w⟩
theorem Cx.hA {p : Program} {R : Room} {s : State} {m : MethodId} {args : Array Value} {c : Code} {H : Heap} {locs : List Loc} {cells slots : Nat} {D : va_G} {Z : Nat} {ρ ρ0 : MA} {B0 : Nat → Nat → Bool} {ls : Array Slot}
    (C : Cx b cc own maxL d rc rs p R s m args c H locs cells slots D Z ρ ρ0 B0 ls lv μ) : ∀ q : Nat, s.heap.size ≤ q → (fun q => Z ≤ q) q := fun q h => Nat.le_trans C.2.2.2.2.2.2.2.2.2.1 h
def dv (k j : Nat) : Value := match (FT k j).1 with
  | 0 => .int 0
  | 1 => .int 0
  | 2 => .long 0
  | _ => .null
theorem fv_nw (ρ : MA) (k l j : Nat) : fv ρ (nw μ k l) k l j = dv k j := by
  unfold fv dv
  rw [gI_nw, gL_nw, gR_nw, if_pos ⟨rfl, rfl⟩, if_pos ⟨rfl, rfl⟩, if_pos ⟨rfl, rfl⟩]
  rfl
theorem fvs_nw (ρ : MA) (k l : Nat) : fvs ρ (nw μ k l) k l = (List.range (NF k)).map (dv k) := by
  unfold fvs
  apply List.map_congr_left
  intro j _
  exact fv_nw ρ k l j
theorem J_new {k l N i : Nat} {C0 : String} {T : u_T} {ty : Nat → FieldType} (hc : CD k C0 T N) (hb : b = false) (hty : ∀ i, i < N → parseFieldDescriptor (T i).2.2.1 = some (ty i)) (hdv : ∀ j, j < N → defaultValue (ty j) = dv k j) (hfree : gF μ k l = false) (hcl : Cond.classLink own i C0 ∈ gw) (hins : Cond.instantiable C0 N ∈ gw) (hini : Cond.initialized C0 ∈ gw) (hd : decode cc pc = .ok (.new i, 3)) (hq : pc + 3 = q) (k0 : J G b cc own maxL d rc rs q lv (vr k l :: st) (nw μ k l)) : J G b cc own maxL d (1 + rc) (N + rs) pc lv st μ := by
  subst hq; subst hb
  intro p l0 e R s m args below meth c Qf H locs cells slots D Z ρ ρ0 B0 ls hG C hst
  obtain ⟨h13, hcls, hN, hin, -, -⟩ := hc
  obtain ⟨tys, L, f, hK, hP, hD, hce, hinj, hclo⟩ := C.rel
  have hcs := C.2.2.2.2.2.2.2.2.2.2.2.2.2.2.2.2
  refine va_new (fs := (List.range (NF k)).map (dv k)) C.1 C.2.1 C.hts hin ty hty C.hown (C.hts _ hcl) (C.hts _ hins) (C.hts _ hini) hK hP hD C.hS C.hA hcls (fun j hj => ?_) (by omega) (by omega) hd (fun q9 H1 hP1 hD1 hS1 => ?_)
  · rw [hdv j hj]
    simp [vp_V, hN, hj]
  · have hup := nw_up (l := l) hfree q9 ρ
    have h6 : ∀ k9, 900 ≤ k9 → rup ρ k l q9 k9 0 = ρ k9 0 := fun k9 h9 => rup_ne (fun w => by omega)
    have hR := Rel.push (l := l) hK (fun _ h => h) hP1 hD1 hce hinj hclo hfree (by rw [RK_obj h13]; decide) (by rw [← fvs_nw (μ := μ) (rup ρ k l q9) k l]; exact CellOK.obj h13)
    have e1 : Value.ref q9 :: st.map (ren ρ) = (vr k l :: st).map (ren (rup ρ k l q9)) := by
      rw [List.map_cons, map_ren hst (fun a c h => (hup a c h).2) h6]
      show _ = Value.ref (rup ρ k l q9 k l) :: _
      rw [rup_self]
    rw [e1]
    exact k0 _ _ _ _ _ _ _ _ _ _ _ _ _ _ _ _ _ _ _ _ _ hG (C.grow hR hup h6 (fun h => by cases h) hS1) (LVs.cs (Or.inl (by rw [gF_nw, if_pos ⟨rfl, rfl⟩])) (hst.grow (fun a c h => (hup a c h).1)))
theorem J_newa2 {k l n z : Nat} {x : Int32} (hk : RK k = (2, n, z)) (h9 : k < 900) (hb : b = false) (hfree : gF μ k l = false) (harr : Cond.arrayClass .int ∈ gw) (hn : ¬ x < 0) (hx : x.toNatClampNeg = n) (hby : n * componentBytes .int ≤ 536870912) (hd : decode cc pc = .ok (.newarray .int, 2)) (hq : pc + 2 = q) (k0 : J G b cc own maxL d rc rs q lv (vr k l :: st) (nw μ k l)) : J G b cc own maxL d (1 + rc) (n + rs) pc lv (vi x :: st) μ := by
  subst hq; subst hb
  intro p l0 e R s m args below meth c Qf H locs cells slots D Z ρ ρ0 B0 ls hG C hst
  obtain ⟨tys, L, f, hK, hP, hD, hce, hinj, hclo⟩ := C.rel
  have hcs := C.2.2.2.2.2.2.2.2.2.2.2.2.2.2.2.2
  refine va_newa (a0 := (n, .inl (fun _ => 0))) (ty := .int) (atype := .int) C.1 C.2.1 (C.hts _ harr) rfl hK hP hD C.hS C.hA (fun cA => rfl) hn hx hby (by omega) (by omega) hd (fun q9 cA H1 hK1 hP1 hD1 hS1 => ?_)
  have hup := nw_up (l := l) hfree q9 ρ
  have h6 : ∀ k9, 900 ≤ k9 → rup ρ k l q9 k9 0 = ρ k9 0 := fun k9 h8 => rup_ne (fun w => by omega)
  have hz : gI (nw μ k l) k l = fun _ => 0 := by
    funext j
    rw [gI_nw, if_pos ⟨rfl, rfl⟩]
  have hR := Rel.push (l := l) hK1 (fun _ h => List.mem_append_left _ h) hP1 hD1 hce hinj hclo hfree (by rw [hk]; simp) (by rw [← hz]; exact CellOK.a2 hk (List.mem_append_right _ List.mem_cons_self))
  have e1 : Value.ref q9 :: st.map (ren ρ) = (vr k l :: st).map (ren (rup ρ k l q9)) := by
    rw [List.map_cons, map_ren hst.tl (fun a c h => (hup a c h).2) h6]
    show _ = Value.ref (rup ρ k l q9 k l) :: _
    rw [rup_self]
  rw [e1]
  exact k0 _ _ _ _ _ _ _ _ _ _ _ _ _ _ _ _ _ _ _ _ _ hG (C.grow hR hup h6 (fun h => by cases h) hS1) (LVs.cs (Or.inl (by rw [gF_nw, if_pos ⟨rfl, rfl⟩])) (hst.tl.grow (fun a c h => (hup a c h).1)))
theorem J_newa3 {k l n z : Nat} {x : Int32} (hk : RK k = (3, n, z)) (h9 : k < 900) (hb : b = false) (hfree : gF μ k l = false) (harr : Cond.arrayClass .boolean ∈ gw) (hn : ¬ x < 0) (hx : x.toNatClampNeg = n) (hby : n * componentBytes .boolean ≤ 536870912) (hd : decode cc pc = .ok (.newarray .boolean, 2)) (hq : pc + 2 = q) (k0 : J G b cc own maxL d rc rs q lv (vr k l :: st) (nw μ k l)) : J G b cc own maxL d (1 + rc) (n + rs) pc lv (vi x :: st) μ := by
  subst hq; subst hb
  intro p l0 e R s m args below meth c Qf H locs cells slots D Z ρ ρ0 B0 ls hG C hst
  obtain ⟨tys, L, f, hK, hP, hD, hce, hinj, hclo⟩ := C.rel
  have hcs := C.2.2.2.2.2.2.2.2.2.2.2.2.2.2.2.2
  refine va_newa (a0 := (n, .inl (fun _ => 0))) (ty := .boolean) (atype := .boolean) C.1 C.2.1 (C.hts _ harr) rfl hK hP hD C.hS C.hA (fun cA => rfl) hn hx hby (by omega) (by omega) hd (fun q9 cA H1 hK1 hP1 hD1 hS1 => ?_)
  have hup := nw_up (l := l) hfree q9 ρ
  have h6 : ∀ k9, 900 ≤ k9 → rup ρ k l q9 k9 0 = ρ k9 0 := fun k9 h8 => rup_ne (fun w => by omega)
  have hz : gI (nw μ k l) k l = fun _ => 0 := by
    funext j
    rw [gI_nw, if_pos ⟨rfl, rfl⟩]
  have hR := Rel.push (l := l) hK1 (fun _ h => List.mem_append_left _ h) hP1 hD1 hce hinj hclo hfree (by rw [hk]; simp) (by rw [← hz]; exact CellOK.a3 hk (List.mem_append_right _ List.mem_cons_self))
  have e1 : Value.ref q9 :: st.map (ren ρ) = (vr k l :: st).map (ren (rup ρ k l q9)) := by
    rw [List.map_cons, map_ren hst.tl (fun a c h => (hup a c h).2) h6]
    show _ = Value.ref (rup ρ k l q9 k l) :: _
    rw [rup_self]
  rw [e1]
  exact k0 _ _ _ _ _ _ _ _ _ _ _ _ _ _ _ _ _ _ _ _ _ hG (C.grow hR hup h6 (fun h => by cases h) hS1) (LVs.cs (Or.inl (by rw [gF_nw, if_pos ⟨rfl, rfl⟩])) (hst.tl.grow (fun a c h => (hup a c h).1)))
theorem J_newa4 {k l n z : Nat} {x : Int32} (hk : RK k = (4, n, z)) (h9 : k < 900) (hb : b = false) (hfree : gF μ k l = false) (harr : Cond.arrayClass .long ∈ gw) (hn : ¬ x < 0) (hx : x.toNatClampNeg = n) (hby : n * componentBytes .long ≤ 536870912) (hd : decode cc pc = .ok (.newarray .long, 2)) (hq : pc + 2 = q) (k0 : J G b cc own maxL d rc rs q lv (vr k l :: st) (nw μ k l)) : J G b cc own maxL d (1 + rc) (n + rs) pc lv (vi x :: st) μ := by
  subst hq; subst hb
  intro p l0 e R s m args below meth c Qf H locs cells slots D Z ρ ρ0 B0 ls hG C hst
  obtain ⟨tys, L, f, hK, hP, hD, hce, hinj, hclo⟩ := C.rel
  have hcs := C.2.2.2.2.2.2.2.2.2.2.2.2.2.2.2.2
  refine va_newa (a0 := (n, .inr (.inl (fun _ => 0)))) (ty := .long) (atype := .long) C.1 C.2.1 (C.hts _ harr) rfl hK hP hD C.hS C.hA (fun cA => rfl) hn hx hby (by omega) (by omega) hd (fun q9 cA H1 hK1 hP1 hD1 hS1 => ?_)
  have hup := nw_up (l := l) hfree q9 ρ
  have h6 : ∀ k9, 900 ≤ k9 → rup ρ k l q9 k9 0 = ρ k9 0 := fun k9 h8 => rup_ne (fun w => by omega)
  have hz : gL (nw μ k l) k l = fun _ => 0 := by
    funext j
    rw [gL_nw, if_pos ⟨rfl, rfl⟩]
  have hR := Rel.push (l := l) hK1 (fun _ h => List.mem_append_left _ h) hP1 hD1 hce hinj hclo hfree (by rw [hk]; simp) (by rw [← hz]; exact CellOK.a4 hk (List.mem_append_right _ List.mem_cons_self))
  have e1 : Value.ref q9 :: st.map (ren ρ) = (vr k l :: st).map (ren (rup ρ k l q9)) := by
    rw [List.map_cons, map_ren hst.tl (fun a c h => (hup a c h).2) h6]
    show _ = Value.ref (rup ρ k l q9 k l) :: _
    rw [rup_self]
  rw [e1]
  exact k0 _ _ _ _ _ _ _ _ _ _ _ _ _ _ _ _ _ _ _ _ _ hG (C.grow hR hup h6 (fun h => by cases h) hS1) (LVs.cs (Or.inl (by rw [gF_nw, if_pos ⟨rfl, rfl⟩])) (hst.tl.grow (fun a c h => (hup a c h).1)))
theorem J_newq {k l n z i : Nat} {x : Int32} (hk : RK k = (5, n, z)) (h9 : k < 900) (hb : b = false) (hfree : gF μ k l = false) (hcl : Cond.classLink own i (CN z) ∈ gw) (hao : ∀ s : State, Nst s → va_AO (CN z) s) (hn : ¬ x < 0) (hx : x.toNatClampNeg = n) (hby : n * 4 ≤ 536870912) (hd : decode cc pc = .ok (.anewarray i, 3)) (hq : pc + 3 = q) (k0 : J G b cc own maxL d rc rs q lv (vr k l :: st) (nw μ k l)) : J G b cc own maxL d (1 + rc) (n + rs) pc lv (vi x :: st) μ := by
  subst hq; subst hb
  intro p l0 e R s m args below meth c Qf H locs cells slots D Z ρ ρ0 B0 ls hG C hst
  obtain ⟨tys, L, f, hK, hP, hD, hce, hinj, hclo⟩ := C.rel
  have hcs := C.2.2.2.2.2.2.2.2.2.2.2.2.2.2.2.2
  refine va_newq C.1 C.2.1 C.hown (C.hts _ hcl) (hao s C.2.2.2.2.2.1) hK hP hD C.hS C.hA hn hx hby (by omega) (by omega) hd (fun q9 cA H1 hK1 hP1 hD1 hS1 => ?_)
  have hup := nw_up (l := l) hfree q9 ρ
  have h6 : ∀ k9, 900 ≤ k9 → rup ρ k l q9 k9 0 = ρ k9 0 := fun k9 h8 => rup_ne (fun w => by omega)
  have hz : (fun i => (gR (nw μ k l) k l i).map (rup ρ k l q9 z)) = fun _ => none := by
    funext j
    rw [gR_nw, if_pos ⟨rfl, rfl⟩]
    rfl
  have hR := Rel.push (l := l) hK1 (fun _ h => List.mem_append_left _ h) hP1 hD1 hce hinj hclo hfree (by rw [hk]; simp) (by rw [← hz]; exact CellOK.a5 hk (List.mem_append_right _ List.mem_cons_self))
  have e1 : Value.ref q9 :: st.map (ren ρ) = (vr k l :: st).map (ren (rup ρ k l q9)) := by
    rw [List.map_cons, map_ren hst.tl (fun a c h => (hup a c h).2) h6]
    show _ = Value.ref (rup ρ k l q9 k l) :: _
    rw [rup_self]
  rw [e1]
  exact k0 _ _ _ _ _ _ _ _ _ _ _ _ _ _ _ _ _ _ _ _ _ hG (C.grow hR hup h6 (fun h => by cases h) hS1) (LVs.cs (Or.inl (by rw [gF_nw, if_pos ⟨rfl, rfl⟩])) (hst.tl.grow (fun a c h => (hup a c h).1)))
theorem J_off (k0 : LinkOK μ → J G false cc own maxL d rc rs pc lv st μ) : J G true cc own maxL d rc rs pc lv st μ := by
  intro p l0 e R s m args below meth c Qf H locs cells slots D Z ρ ρ0 B0 ls hG C hst
  obtain ⟨a1, a2, a3, a4, a5, a6, a7, a8, a9, a10, a11, a12, a13, a14⟩ := C
  exact k0 (a13 rfl) _ _ _ _ _ _ _ _ _ _ _ _ _ _ _ _ _ _ _ _ _ hG ⟨a1, a2, a3, a4, a5, a6, a7, a8, a9, a10, a11, a12, (fun h => by cases h), a14⟩ hst
theorem J_on (hL : LinkOK μ) (k0 : J G true cc own maxL d rc rs pc lv st μ) : J G false cc own maxL d rc rs pc lv st μ := by
  intro p l0 e R s m args below meth c Qf H locs cells slots D Z ρ ρ0 B0 ls hG C hst
  obtain ⟨a1, a2, a3, a4, a5, a6, a7, a8, a9, a10, a11, a12, a13, a14⟩ := C
  exact k0 _ _ _ _ _ _ _ _ _ _ _ _ _ _ _ _ _ _ _ _ _ hG ⟨a1, a2, a3, a4, a5, a6, a7, a8, a9, a10, a11, a12, (fun _ => hL), a14⟩ hst
end J11
