section JCL
variable {G : GT} {b : Bool} {cc : ByteArray} {own : String} {maxL d rc rs pc q : Nat} {lv : List (Nat × AV)} {st : List AV} {μ : Mem}
theorem Rel.moved {D : va_G} {Z : Nat} {u U : State} {H : Heap} {ρ : MA} (hvm : u.vm.Alike U.vm) (h : Rel D Z u H ρ μ) : Rel D Z U H ρ μ := by
  obtain ⟨tys, L, f, hK, h2⟩ := h
  exact ⟨tys, L, f, va_K.moved hvm hK, h2⟩
theorem AOA.moved {u U : State} (hvm : u.vm.Alike U.vm) (h : AOA u) : AOA U := by
  have h2 : (Cond.arrayOver (.array .int)).before #[] (u.setVm U.vm) = true := by rw [Cond.arrayOver_setVmC hvm]; exact h
  unfold AOA
  simp only [Cond.before, Cond.holds, Cond.value, State.vm_setVm] at h2 ⊢
  exact h2
theorem Nst.warm {s U : State} (hW : s.WarmedH U.vm) (h : Nst s) : Nst U := by
  obtain ⟨h1, h2, h3, h4⟩ := h
  refine ⟨fun w hw => ?_, h2.moved hW.alike, h3.moved hW.alike, h4.moved hW.alike⟩
  have h9 := h1 w hw
  simp only [nws, List.mem_cons, List.not_mem_nil, or_false] at hw
  rcases hw with rfl | rfl | rfl | rfl | rfl | rfl | rfl | rfl | rfl | rfl | rfl | rfl | rfl | rfl | rfl | rfl | rfl | rfl | rfl | rfl | rfl <;> exact va_Nw.warmM hW h9
theorem Nst.blind {U U' : State} (hv : U.vm = U'.vm) (h : Nst U) : Nst U' := by
  obtain ⟨h1, h2, h3, h4⟩ := h
  have ha : U.vm.Alike U'.vm := by rw [hv]; exact Vm.Alike.refl _
  refine ⟨fun w hw => ?_, h2.moved ha, h3.moved ha, h4.moved ha⟩
  have h9 := h1 w hw
  simp only [nws, List.mem_cons, List.not_mem_nil, or_false] at hw
  rcases hw with rfl | rfl | rfl | rfl | rfl | rfl | rfl | rfl | rfl | rfl | rfl | rfl | rfl | rfl | rfl | rfl | rfl | rfl | rfl | rfl | rfl <;> exact va_Nw.same rfl hv h9
theorem Stt.go {Z : Nat} {ρ : MA} {s U : State} {H : Heap} (h : Stt Z ρ s) (hvm : s.vm.Alike U.vm) (hH : U.heap = H) (hk : ∀ q : Nat, q < s.heap.size → ¬ Z ≤ q → H[q]? = s.heap[q]?) : Stt Z ρ U := by
  obtain ⟨h1, h2, h3, h4⟩ := h
  unfold Stt
  rw [hH]
  exact ⟨(h1.kept hk).moved hvm, (h2.kept hk).moved hvm, (h3.kept hk).moved hvm, (h4.kept hk).moved hvm⟩
theorem Stt.ren {Z : Nat} {ρ ρ' : MA} {s : State} (h : Stt Z ρ s) (hr : ∀ k, 900 ≤ k → ρ' k 0 = ρ k 0) : Stt Z ρ' s := by
  unfold Stt at h ⊢
  rw [hr 900 (by decide), hr 901 (by decide)]
  exact h
theorem Pq.blind {D : va_G} {Z : Nat} {ρ : MA} {as : List AV} : FrameBlind (Pq b D Z ρ as μ) := by
  intro a U g mk h
  obtain ⟨h1, h2, h3, h4, h5, h6, h7⟩ := h
  exact ⟨h1, Rel.moved (u := U) (U := U.calling g mk a) (Vm.Alike.refl U.vm) h2, Nst.blind (U := U) (U' := U.calling g mk a) rfl h3, Stt.go (s := U) (U := U.calling g mk a) h4 (Vm.Alike.refl U.vm) rfl (fun _ _ _ => rfl), h5, h6, h7⟩
theorem run_go {p : Program} {l0 : Launch} {e : Env} {R : Room} {s : State} {m : MethodId} {args : Array Value} {below : List Frame} {meth : Method} {c : Code} {Qf : State → Prop} {H : Heap} {locs : List Loc} {cells slots mc ms : Nat} {ls : Array Slot} {st0 rest : List Value} {Q : Option AV → Mem → Prop} {D : va_G} {Z : Nat} {ρ : MA} {B : Nat → Nat → Bool} {a : Array Value}
    (hr : va_Run p l0 e R s m args below meth c H locs cells slots mc ms (F0 m pc ls st0) rest (Qc b Q D Z ρ B a) (fun q => Z ≤ q)) (hS : va_S (fun q => Z ≤ q) s.heap H locs)
    (kk : ∀ (v : Option AV) (ρ' : MA) (ν : Mem) (t : State) (H1 : Heap) (locs1 : List Loc), t.heap = H1 → s.vm.Alike t.vm → Q v ν → Rel D Z t H1 ρ' ν → (∀ k l, B k l = true → gF ν k l = true ∧ ρ' k l = ρ k l) → (∀ k, 900 ≤ k → ρ' k 0 = ρ k 0) → (b = true → LinkOK ν) → LVs ν v.toList → va_S (fun q => Z ≤ q) s.heap H1 locs1 →
      W p l0 e R s m args below meth c H1 locs1 (cells + mc) (slots + ms) Qf (F0 m (pc + 3) ls ((v.map (ren ρ')).toList ++ rest))) : W p l0 e R s m args below meth c H locs cells slots Qf (F0 m pc ls st0) := by
  intro T hT X
  obtain ⟨v, st₀, t, T', L, h0, X', hL, e1, e2, ⟨⟨w, ρ', ν, hv, hq, hrel, h5, h6, h7, h8⟩, hz, hk⟩, st⟩ := hr T hT X
  cases hv
  rw [h0] at hz hk
  obtain ⟨t2, a1, b1⟩ := kk w ρ' ν t T'.heap (locs ++ L) e1.symm (by rw [← e2]; exact X'.warmed.alike) hq (by rw [e1]; exact hrel) h5 h6 h7 h8
    ⟨Nat.le_trans hS.1 (by rw [e1]; exact hz), fun q h1 h2 => by rw [e1, hk q (Nat.lt_of_lt_of_le h1 hS.1) h2]; exact hS.2.1 q h1 h2, fun q hq => by
      rcases List.mem_append.mp hq with h | h
      · exact hS.2.2 q h
      · exact hL q h⟩ T' rfl X'
  exact ⟨t2, st t2 a1, b1⟩
def catA (v : AV) : Nat := if isL v then 2 else 1
theorem ren_catA (ρ : MA) (v : AV) : (ren ρ v).category = catA v := by
  match v with
  | .inl x => rfl
  | .inr (.inl x) => rfl
  | .inr (.inr none) => rfl
  | .inr (.inr (some q)) => rfl
theorem cat_sum (ρ : MA) (st : List AV) : ((st.map (ren ρ)).map fun v => v.category).sum = (st.map catA).sum := by
  induction st with
  | nil => rfl
  | cons a l ih => simp only [List.map_cons, List.sum_cons, ih, ren_catA]
theorem ren_eq {ρ ρ' : MA} {v : AV} (hv : LV μ v) (h1 : ∀ k l, gF μ k l = true → ρ' k l = ρ k l) (h2 : ∀ k, 900 ≤ k → ρ' k 0 = ρ k 0) : ren ρ' v = ren ρ v := by
  match v, hv with
  | .inl x, _ => rfl
  | .inr (.inl x), _ => rfl
  | .inr (.inr none), _ => rfl
  | .inr (.inr (some (k, l))), hv =>
    rcases hv with hv | hv
    · show Value.ref (ρ' k l) = .ref (ρ k l)
      rw [h1 k l hv]
    · obtain ⟨h3, h4⟩ := hv
      show Value.ref (ρ' k l) = .ref (ρ k l)
      have h4 : l = 0 := h4
      rw [h4, h2 k h3]
theorem LV.up {ν : Mem} {v : AV} (hv : LV μ v) (h1 : ∀ k l, gF μ k l = true → gF ν k l = true) : LV ν v := by
  match v, hv with
  | .inl x, _ => trivial
  | .inr (.inl x), _ => trivial
  | .inr (.inr none), _ => trivial
  | .inr (.inr (some (k, l))), hv =>
    rcases hv with hv | hv
    · exact Or.inl (h1 k l hv)
    · exact Or.inr hv
/-- the context behind a call -/
theorem Cx.back {p : Program} {R : Room} {s t : State} {m : MethodId} {args : Array Value} {c : Code} {H H1 : Heap} {locs locs1 : List Loc} {cells slots mc ms : Nat} {D : va_G} {Z : Nat} {ρ ρ0 ρ' : MA} {B0 : Nat → Nat → Bool} {ls : Array Slot} {ν : Mem}
    (C : Cx b cc own maxL d (mc + rc) (ms + rs) p R s m args c H locs cells slots D Z ρ ρ0 B0 ls lv μ) (hvm : s.vm.Alike t.vm) (hR : Rel D Z t H1 ρ' ν) (h5 : ∀ k l, gF μ k l = true → gF ν k l = true ∧ ρ' k l = ρ k l) (h6 : ∀ k, 900 ≤ k → ρ' k 0 = ρ k 0) (h7 : b = true → LinkOK ν) (hS : va_S (fun q => Z ≤ q) s.heap H1 locs1) :
    Cx b cc own maxL d rc rs p R s m args c H1 locs1 (cells + mc) (slots + ms) D Z ρ' ρ0 B0 ls lv ν := by
  obtain ⟨a1, a2, a3, a4, a5, a6, a7, a8, a9, a10, a11, a12, a13, a14, a15, a16, a17, a18⟩ := C
  refine ⟨a1, a2, a3, a4, a5, a6, a7.ren h6, hR.moved hvm.symm, hS, a10, fun k l h => ?_, fun k h => (h6 k h).trans (a12 k h), h7, fun z hz => (a14 z hz).up (fun k l h => (h5 k l h).1), ?_, a16, by omega, by omega⟩
  · obtain ⟨g1, g2⟩ := a11 k l h
    exact ⟨(h5 k l g1).1, (h5 k l g1).2.trans g2⟩
  · have e : (lv.map fun q => (q.1, ren ρ' q.2)) = lv.map fun q => (q.1, ren ρ q.2) := List.map_congr_left fun z hz => by
      rw [ren_eq (a14 z hz) (fun k l h => (h5 k l h).2) h6]
    rw [e]
    exact a15
theorem good_gw {w : Cond} (h : w ∈ gw) : w ∈ gw ∧ ((w.onTables && w.keeps) = true ∨ ∃ ty, w = .arrayClass ty) := ⟨h, good_of_word (List.mem_filter.mp h).2⟩
theorem goodIn_gw {w : Cond} (h : w ∈ gw) : GoodIn gw (w :: gw) := fun x hx => by
  rcases List.mem_cons.mp hx with rfl | hx
  · exact good_gw h
  · exact good_gw hx
theorem LVs.app {a c : List AV} (h : LVs μ (a ++ c)) : LVs μ a ∧ LVs μ c := ⟨fun v hv => h v (List.mem_append_left _ hv), fun v hv => h v (List.mem_append_right _ hv)⟩

theorem J_callS {y : MethodName} {cy : ByteArray} {mL D0 mc ms i : Nat} {ret : Option FieldType} {as : List AV} {Q : Option AV → Mem → Prop} {n : Nat} (hstat : Cond.static y ∈ gw) (hM : JM b D0 y cy mL ret mc ms as μ Q) (hD : D0 + 1 ≤ d) (hmL : mL ≤ 41) (hl : Cond.methodLink own i y ∈ gw) (hcode : Cond.code y cy mL ret ∈ gw) (hini : Cond.initialized y.cls ∈ gw) (hy : y.cls ≠ "java/lang/invoke/MethodHandle" ∧ y.cls ≠ "java/lang/invoke/VarHandle" ∧ (parseMethodDescriptor y.desc).map (fun d => d.parameters.length) = some n) (hn : as.length = n) (h8 : (st.map catA).sum ≤ 8) (hd : decode cc pc = .ok (.invokestatic i, 3)) (hq : pc + 3 = q) (k0 : ∀ v ν, Q v ν → J G b cc own maxL d rc rs q lv (v.toList ++ st) ν) : J G b cc own maxL d (mc + rc) (ms + rs) pc lv (as.reverse ++ st) μ := by
  subst hq
  intro p l0 e R s m args below meth c Qf H locs cells slots D Z ρ ρ0 B0 ls hG C hst
  have hRl := C.2.2.2.2.2.2.2.2.2.2.2.2.2.2.2.1
  have hcs := C.2.2.2.2.2.2.2.2.2.2.2.2.2.2.2.2
  have hsp := hst.app
  have hla : LVs μ as := fun v hv => hsp.1 v (List.mem_reverse.mpr hv)
  have hls2 := hsp.2
  have hpre : ∀ U : State, U.heap = H → s.WarmedH U.vm → Pq b D Z ρ as μ ((as).map (ren ρ)).toArray U := fun U hU hW => ⟨rfl, by rw [hU]; exact C.rel.moved hW.alike, C.2.2.2.2.2.1.warm hW, C.2.2.2.2.2.2.1.go hW.alike hU C.hS.2.1, by rw [hU]; exact Nat.le_trans C.2.2.2.2.2.2.2.2.2.1 C.hS.1, C.2.2.2.2.2.2.2.2.2.2.2.2.1, hla⟩
  refine run_go (mc := mc) (ms := ms) (rest := st.map (ren ρ)) (va_runS (As := as.map (ren ρ)) (rest := st.map (ren ρ)) (rm := Rm (d - 1) mc ms) ⟨C.1, C.2.1, C.2.2.1, C.hown, C.hts⟩ (hM (d - 1) (by omega) l0 D Z ρ) ⟨(callB_of n C.hts (goodIn_gw hcode) rfl rfl rfl (C.hts _ hini) (C.hts _ hl) hy ⟨show d - 1 + 1 ≤ R.frames by have := hRl.1; omega, show 8 + (mL + 11) + 60 * (d - 1) ≤ R.locals by have := hRl.2; omega⟩), C.hts _ hstat⟩ ⟨Pq.blind, hpre⟩ rfl (by rw [List.length_map]; exact hn) C.hls.1 (by show (as.reverse ++ st).map (ren ρ) = _; rw [List.map_append, List.map_reverse]) (lv_room (by rw [cat_sum]; exact h8)) hd ⟨by omega, by omega⟩) C.hS (fun v ρ' ν t H1 locs1 ht hvm hQ hR h5 h6 h7 h8 hS => ?_)
  have hst2 : st.map (ren ρ) = st.map (ren ρ') := List.map_congr_left fun z hz => (ren_eq (hls2 z hz) (fun k l h => (h5 k l h).2) h6).symm
  have hvt : (v.map (ren ρ')).toList = v.toList.map (ren ρ') := by cases v <;> rfl
  rw [hst2, hvt, ← List.map_append]
  exact k0 v ν hQ _ _ _ _ _ _ _ _ _ _ _ _ _ _ _ _ _ _ _ _ _ hG (C.back hvm hR h5 h6 h7 hS) (fun z hz => by
    rcases List.mem_append.mp hz with hz | hz
    · exact h8 z hz
    · exact (hls2 z hz).up (fun k l h => (h5 k l h).1))
theorem J_callSN {y : MethodName} {cy : ByteArray} {mL D0 mc ms i : Nat} {ret : Option FieldType} {as : List AV} {Q : Option AV → Mem → Prop} {n : Nat} (hstat : Cond.static y ∈ gw) (hM : JM b D0 y cy mL ret mc ms as μ Q) (hD : D0 + 1 ≤ d) (hmL : mL ≤ 41) {host : String} (hnl : Cond.methodLinkNest own i y host ∈ nws) (hcode : Cond.code y cy mL ret ∈ gw) (hini : Cond.initialized y.cls ∈ gw) (hy : y.cls ≠ "java/lang/invoke/MethodHandle" ∧ y.cls ≠ "java/lang/invoke/VarHandle" ∧ (parseMethodDescriptor y.desc).map (fun d => d.parameters.length) = some n) (hn : as.length = n) (h8 : (st.map catA).sum ≤ 8) (hd : decode cc pc = .ok (.invokestatic i, 3)) (hq : pc + 3 = q) (k0 : ∀ v ν, Q v ν → J G b cc own maxL d rc rs q lv (v.toList ++ st) ν) : J G b cc own maxL d (mc + rc) (ms + rs) pc lv (as.reverse ++ st) μ := by
  subst hq
  intro p l0 e R s m args below meth c Qf H locs cells slots D Z ρ ρ0 B0 ls hG C hst
  have hRl := C.2.2.2.2.2.2.2.2.2.2.2.2.2.2.2.1
  have hcs := C.2.2.2.2.2.2.2.2.2.2.2.2.2.2.2.2
  have hsp := hst.app
  have hla : LVs μ as := fun v hv => hsp.1 v (List.mem_reverse.mpr hv)
  have hls2 := hsp.2
  have hpre : ∀ U : State, U.heap = H → s.WarmedH U.vm → Pq b D Z ρ as μ ((as).map (ren ρ)).toArray U := fun U hU hW => ⟨rfl, by rw [hU]; exact C.rel.moved hW.alike, C.2.2.2.2.2.1.warm hW, C.2.2.2.2.2.2.1.go hW.alike hU C.hS.2.1, by rw [hU]; exact Nat.le_trans C.2.2.2.2.2.2.2.2.2.1 C.hS.1, C.2.2.2.2.2.2.2.2.2.2.2.2.1, hla⟩
  refine run_go (mc := mc) (ms := ms) (rest := st.map (ren ρ)) (va_runSN (As := as.map (ren ρ)) (rest := st.map (ren ρ)) (rm := Rm (d - 1) mc ms) ⟨C.1, C.2.1, C.2.2.1, C.hown, C.hts⟩ (hM (d - 1) (by omega) l0 D Z ρ) ⟨(va_cnB n C.hts (goodIn_gw hcode) rfl rfl rfl (C.2.2.2.2.2.1.1 _ hnl) (C.hts _ hini) hy ⟨show d - 1 + 1 ≤ R.frames by have := hRl.1; omega, show 8 + (mL + 11) + 60 * (d - 1) ≤ R.locals by have := hRl.2; omega⟩), C.hts _ hstat, trivial⟩ ⟨Pq.blind, hpre⟩ rfl (by rw [List.length_map]; exact hn) C.hls.1 (by show (as.reverse ++ st).map (ren ρ) = _; rw [List.map_append, List.map_reverse]) (lv_room (by rw [cat_sum]; exact h8)) hd ⟨by omega, by omega⟩) C.hS (fun v ρ' ν t H1 locs1 ht hvm hQ hR h5 h6 h7 h8 hS => ?_)
  have hst2 : st.map (ren ρ) = st.map (ren ρ') := List.map_congr_left fun z hz => (ren_eq (hls2 z hz) (fun k l h => (h5 k l h).2) h6).symm
  have hvt : (v.map (ren ρ')).toList = v.toList.map (ren ρ') := by cases v <;> rfl
  rw [hst2, hvt, ← List.map_append]
  exact k0 v ν hQ _ _ _ _ _ _ _ _ _ _ _ _ _ _ _ _ _ _ _ _ _ hG (C.back hvm hR h5 h6 h7 hS) (fun z hz => by
    rcases List.mem_append.mp hz with hz | hz
    · exact h8 z hz
    · exact (hls2 z hz).up (fun k l h => (h5 k l h).1))
theorem J_callV {y : MethodName} {cy : ByteArray} {mL D0 mc ms i : Nat} {ret : Option FieldType} {as : List AV} {Q : Option AV → Mem → Prop} {n : Nat} {k l N : Nat} {T : u_T} (h13 : k < 13) (hcl : classes[k]? = some (y.cls, T, N)) (hinst : Cond.instanceMethod y ∈ gw) (hsel : Cond.selects y.cls y y ∈ gw) (hM : JM b D0 y cy mL ret mc ms (vr k l :: as) μ Q) (hD : D0 + 1 ≤ d) (hmL : mL ≤ 41) (hl : Cond.methodLink own i y ∈ gw) (hcode : Cond.code y cy mL ret ∈ gw) (hini : Cond.initialized y.cls ∈ gw) (hy : y.cls ≠ "java/lang/invoke/MethodHandle" ∧ y.cls ≠ "java/lang/invoke/VarHandle" ∧ (parseMethodDescriptor y.desc).map (fun d => d.parameters.length) = some n) (hn : as.length = n) (h8 : (st.map catA).sum ≤ 8) (hd : decode cc pc = .ok (.invokevirtual i, 3)) (hq : pc + 3 = q) (k0 : ∀ v ν, Q v ν → J G b cc own maxL d rc rs q lv (v.toList ++ st) ν) : J G b cc own maxL d (mc + rc) (ms + rs) pc lv (as.reverse ++ (vr k l :: st)) μ := by
  subst hq
  intro p l0 e R s m args below meth c Qf H locs cells slots D Z ρ ρ0 B0 ls hG C hst
  have hRl := C.2.2.2.2.2.2.2.2.2.2.2.2.2.2.2.1
  have hcs := C.2.2.2.2.2.2.2.2.2.2.2.2.2.2.2.2
  have hsp := hst.app
  have hla : LVs μ (vr k l :: as) := LVs.cs hsp.2.hd (fun v hv => hsp.1 v (List.mem_reverse.mpr hv))
  have hls2 := hsp.2.tl
  have hpre : ∀ U : State, U.heap = H → s.WarmedH U.vm → Pq b D Z ρ (vr k l :: as) μ (((vr k l :: as)).map (ren ρ)).toArray U := fun U hU hW => ⟨rfl, by rw [hU]; exact C.rel.moved hW.alike, C.2.2.2.2.2.1.warm hW, C.2.2.2.2.2.2.1.go hW.alike hU C.hS.2.1, by rw [hU]; exact Nat.le_trans C.2.2.2.2.2.2.2.2.2.1 C.hS.1, C.2.2.2.2.2.2.2.2.2.2.2.2.1, hla⟩
  have hF := (hsp.2.hd).live (Nat.lt_trans h13 (by decide))
  obtain ⟨tys, L, f, q0, hK, hP, hD9, hce, hinj, hclo, hm, hq0, hok⟩ := C.rel.at hF
  have he : (va_pl L f)[q0]? = some (ρ k l, .inr (k, fvs ρ μ k l)) := by rw [hq0, hok.1 h13]
  have hrc := va_recv hK hP hcl he
  refine run_go (mc := mc) (ms := ms) (rest := st.map (ren ρ)) (va_runV (As := as.map (ren ρ)) (rest := st.map (ren ρ)) (rm := Rm (d - 1) mc ms) ⟨C.1, C.2.1, C.2.2.1, C.hown, C.hts⟩ (hM (d - 1) (by omega) l0 D Z ρ) ⟨(callB_of n C.hts (goodIn_gw hcode) rfl rfl rfl (C.hts _ hini) (C.hts _ hl) hy ⟨show d - 1 + 1 ≤ R.frames by have := hRl.1; omega, show 8 + (mL + 11) + 60 * (d - 1) ≤ R.locals by have := hRl.2; omega⟩), C.hts _ hinst, C.hts _ hsel⟩ ⟨Pq.blind, hrc, hpre⟩ rfl (by rw [List.length_map]; exact hn) C.hls.1 (by show (as.reverse ++ (vr k l :: st)).map (ren ρ) = _; rw [List.map_append, List.map_reverse]; rfl) (lv_room (by rw [cat_sum]; exact h8)) hd ⟨by omega, by omega⟩) C.hS (fun v ρ' ν t H1 locs1 ht hvm hQ hR h5 h6 h7 h8 hS => ?_)
  have hst2 : st.map (ren ρ) = st.map (ren ρ') := List.map_congr_left fun z hz => (ren_eq (hls2 z hz) (fun k l h => (h5 k l h).2) h6).symm
  have hvt : (v.map (ren ρ')).toList = v.toList.map (ren ρ') := by cases v <;> rfl
  rw [hst2, hvt, ← List.map_append]
  exact k0 v ν hQ _ _ _ _ _ _ _ _ _ _ _ _ _ _ _ _ _ _ _ _ _ hG (C.back hvm hR h5 h6 h7 hS) (fun z hz => by
    rcases List.mem_append.mp hz with hz | hz
    · exact h8 z hz
    · exact (hls2 z hz).up (fun k l h => (h5 k l h).1))
theorem J_callI {y : MethodName} {cy : ByteArray} {mL D0 mc ms i : Nat} {as : List AV} {Q : Option AV → Mem → Prop} {n : Nat} {k l : Nat} (hk9 : k < 900) (hinst : Cond.instanceMethod y ∈ gw) (hy1 : y.name = "<init>") (hM : JM b D0 y cy mL none mc ms (vr k l :: as) μ Q) (hD : D0 + 1 ≤ d) (hmL : mL ≤ 41) (hl : Cond.methodLink own i y ∈ gw) (hcode : Cond.code y cy mL none ∈ gw) (hini : Cond.initialized y.cls ∈ gw) (hy : y.cls ≠ "java/lang/invoke/MethodHandle" ∧ y.cls ≠ "java/lang/invoke/VarHandle" ∧ (parseMethodDescriptor y.desc).map (fun d => d.parameters.length) = some n) (hn : as.length = n) (h8 : (st.map catA).sum ≤ 8) (hd : decode cc pc = .ok (.invokespecial i, 3)) (hq : pc + 3 = q) (k0 : ∀ v ν, Q v ν → J G b cc own maxL d rc rs q lv (v.toList ++ st) ν) : J G b cc own maxL d (mc + rc) (ms + rs) pc lv (as.reverse ++ (vr k l :: st)) μ := by
  subst hq
  intro p l0 e R s m args below meth c Qf H locs cells slots D Z ρ ρ0 B0 ls hG C hst
  have hRl := C.2.2.2.2.2.2.2.2.2.2.2.2.2.2.2.1
  have hcs := C.2.2.2.2.2.2.2.2.2.2.2.2.2.2.2.2
  have hsp := hst.app
  have hla : LVs μ (vr k l :: as) := LVs.cs hsp.2.hd (fun v hv => hsp.1 v (List.mem_reverse.mpr hv))
  have hls2 := hsp.2.tl
  have hpre : ∀ U : State, U.heap = H → s.WarmedH U.vm → Pq b D Z ρ (vr k l :: as) μ (((vr k l :: as)).map (ren ρ)).toArray U := fun U hU hW => ⟨rfl, by rw [hU]; exact C.rel.moved hW.alike, C.2.2.2.2.2.1.warm hW, C.2.2.2.2.2.2.1.go hW.alike hU C.hS.2.1, by rw [hU]; exact Nat.le_trans C.2.2.2.2.2.2.2.2.2.1 C.hS.1, C.2.2.2.2.2.2.2.2.2.2.2.2.1, hla⟩
  refine run_go (mc := mc) (ms := ms) (rest := st.map (ren ρ)) (va_runI (As := as.map (ren ρ)) (rest := st.map (ren ρ)) (rm := Rm (d - 1) mc ms) ⟨C.1, C.2.1, C.2.2.1, C.hown, C.hts⟩ (hM (d - 1) (by omega) l0 D Z ρ) ⟨(callB_of n C.hts (goodIn_gw hcode) rfl rfl rfl (C.hts _ hini) (C.hts _ hl) hy ⟨show d - 1 + 1 ≤ R.frames by have := hRl.1; omega, show 8 + (mL + 11) + 60 * (d - 1) ≤ R.locals by have := hRl.2; omega⟩), hy1, C.hts _ hinst⟩ ⟨Pq.blind, hpre⟩ rfl (by rw [List.length_map]; exact hn) C.hls.1 (by show (as.reverse ++ (vr k l :: st)).map (ren ρ) = _; rw [List.map_append, List.map_reverse]; rfl) (lv_room (by rw [cat_sum]; exact h8)) hd ⟨by omega, by omega⟩) C.hS (fun v ρ' ν t H1 locs1 ht hvm hQ hR h5 h6 h7 h8 hS => ?_)
  have hst2 : st.map (ren ρ) = st.map (ren ρ') := List.map_congr_left fun z hz => (ren_eq (hls2 z hz) (fun k l h => (h5 k l h).2) h6).symm
  have hvt : (v.map (ren ρ')).toList = v.toList.map (ren ρ') := by cases v <;> rfl
  rw [hst2, hvt, ← List.map_append]
  exact k0 v ν hQ _ _ _ _ _ _ _ _ _ _ _ _ _ _ _ _ _ _ _ _ _ hG (C.back hvm hR h5 h6 h7 hS) (fun z hz => by
    rcases List.mem_append.mp hz with hz | hz
    · exact h8 z hz
    · exact (hls2 z hz).up (fun k l h => (h5 k l h).1))
theorem J_callIN {y : MethodName} {cy : ByteArray} {mL D0 mc ms i : Nat} {as : List AV} {Q : Option AV → Mem → Prop} {n : Nat} {k l : Nat} (hk9 : k < 900) (hinst : Cond.instanceMethod y ∈ gw) (hy1 : y.name = "<init>") (hM : JM b D0 y cy mL none mc ms (vr k l :: as) μ Q) (hD : D0 + 1 ≤ d) (hmL : mL ≤ 41) {host : String} (hnl : Cond.methodLinkNest own i y host ∈ nws) (hcode : Cond.code y cy mL none ∈ gw) (hini : Cond.initialized y.cls ∈ gw) (hy : y.cls ≠ "java/lang/invoke/MethodHandle" ∧ y.cls ≠ "java/lang/invoke/VarHandle" ∧ (parseMethodDescriptor y.desc).map (fun d => d.parameters.length) = some n) (hn : as.length = n) (h8 : (st.map catA).sum ≤ 8) (hd : decode cc pc = .ok (.invokespecial i, 3)) (hq : pc + 3 = q) (k0 : ∀ v ν, Q v ν → J G b cc own maxL d rc rs q lv (v.toList ++ st) ν) : J G b cc own maxL d (mc + rc) (ms + rs) pc lv (as.reverse ++ (vr k l :: st)) μ := by
  subst hq
  intro p l0 e R s m args below meth c Qf H locs cells slots D Z ρ ρ0 B0 ls hG C hst
  have hRl := C.2.2.2.2.2.2.2.2.2.2.2.2.2.2.2.1
  have hcs := C.2.2.2.2.2.2.2.2.2.2.2.2.2.2.2.2
  have hsp := hst.app
  have hla : LVs μ (vr k l :: as) := LVs.cs hsp.2.hd (fun v hv => hsp.1 v (List.mem_reverse.mpr hv))
  have hls2 := hsp.2.tl
  have hpre : ∀ U : State, U.heap = H → s.WarmedH U.vm → Pq b D Z ρ (vr k l :: as) μ (((vr k l :: as)).map (ren ρ)).toArray U := fun U hU hW => ⟨rfl, by rw [hU]; exact C.rel.moved hW.alike, C.2.2.2.2.2.1.warm hW, C.2.2.2.2.2.2.1.go hW.alike hU C.hS.2.1, by rw [hU]; exact Nat.le_trans C.2.2.2.2.2.2.2.2.2.1 C.hS.1, C.2.2.2.2.2.2.2.2.2.2.2.2.1, hla⟩
  refine run_go (mc := mc) (ms := ms) (rest := st.map (ren ρ)) (va_runIN (As := as.map (ren ρ)) (rest := st.map (ren ρ)) (rm := Rm (d - 1) mc ms) ⟨C.1, C.2.1, C.2.2.1, C.hown, C.hts⟩ (hM (d - 1) (by omega) l0 D Z ρ) ⟨(va_cnB n C.hts (goodIn_gw hcode) rfl rfl rfl (C.2.2.2.2.2.1.1 _ hnl) (C.hts _ hini) hy ⟨show d - 1 + 1 ≤ R.frames by have := hRl.1; omega, show 8 + (mL + 11) + 60 * (d - 1) ≤ R.locals by have := hRl.2; omega⟩), hy1, C.hts _ hinst⟩ ⟨Pq.blind, hpre⟩ rfl (by rw [List.length_map]; exact hn) C.hls.1 (by show (as.reverse ++ (vr k l :: st)).map (ren ρ) = _; rw [List.map_append, List.map_reverse]; rfl) (lv_room (by rw [cat_sum]; exact h8)) hd ⟨by omega, by omega⟩) C.hS (fun v ρ' ν t H1 locs1 ht hvm hQ hR h5 h6 h7 h8 hS => ?_)
  have hst2 : st.map (ren ρ) = st.map (ren ρ') := List.map_congr_left fun z hz => (ren_eq (hls2 z hz) (fun k l h => (h5 k l h).2) h6).symm
  have hvt : (v.map (ren ρ')).toList = v.toList.map (ren ρ') := by cases v <;> rfl
  rw [hst2, hvt, ← List.map_append]
  exact k0 v ν hQ _ _ _ _ _ _ _ _ _ _ _ _ _ _ _ _ _ _ _ _ _ hG (C.back hvm hR h5 h6 h7 hS) (fun z hz => by
    rcases List.mem_append.mp hz with hz | hz
    · exact h8 z hz
    · exact (hls2 z hz).up (fun k l h => (h5 k l h).1))
theorem J_objInit {k l i : Nat} (hd1 : 1 ≤ d) (h8 : (st.map catA).sum ≤ 8) (hl : Cond.methodLink own i Lib.objectInit ∈ gw) (hin : Cond.instanceMethod Lib.objectInit ∈ gw) (hco : Cond.code Lib.objectInit ⟨#[0xb1]⟩ 1 none ∈ gw) (hd : decode cc pc = .ok (.invokespecial i, 3)) (hq : pc + 3 = q) (k0 : J G b cc own maxL d rc rs q lv st μ) : J G b cc own maxL d rc rs pc lv (vr k l :: st) μ := by
  subst hq
  intro p l0 e R s m args below meth c Qf H locs cells slots D Z ρ ρ0 B0 ls hG C hst
  have hRl := C.2.2.2.2.2.2.2.2.2.2.2.2.2.2.2.1
  refine W.objInit C.1 C.2.1 C.hown (C.hts _ hl) (C.hts _ hin) (C.hts _ hco) rfl (C.hls.1.trans C.2.2.1.symm) rfl hd (Nat.le_trans hd1 hRl.1) ?_ ?_
  · have h9 := lv_room (m := m) (pc := pc) (ls := ls) (rest := st.map (ren ρ)) (st := st.map (ren ρ)) (by rw [cat_sum]; exact h8)
    have h10 : 2 * (F0 m pc ls (List.map (ren ρ) (vr k l :: st))).monitorRoom = 2 * (F0 m pc ls (st.map (ren ρ))).monitorRoom := rfl
    omega
  · exact k0 _ _ _ _ _ _ _ _ _ _ _ _ _ _ _ _ _ _ _ _ _ hG C hst.tl
theorem J_iret {b' : Bool} {Q : Option AV → Mem → Prop} {nm : String} {x : Int32} (hb : b = b') (hq : Q (some (vi x)) μ) (hd : decode cc pc = .ok (.ireturn, 1)) : J (GM b' Q (some .int) nm) b cc own maxL d rc rs pc lv [vi x] μ := by
  intro p l0 e R s m args below meth c Qf H locs cells slots D Z ρ ρ0 B0 ls hG C hst
  subst hb
  obtain ⟨hrt, hlk, hnm, rfl⟩ := hG
  have hcs := C.2.2.2.2.2.2.2.2.2.2.2.2.2.2.2.2
  refine W.widen (k := R.cells) (n := R.slots) (by omega) (by omega) ?_
  refine W.iret C.1 C.2.1 hrt (fun t ht hW => ⟨⟨some (vi x), ρ, μ, rfl, hq, by rw [ht]; exact C.rel.moved hW.alike, C.2.2.2.2.2.2.2.2.2.2.1, C.2.2.2.2.2.2.2.2.2.2.2.1, C.2.2.2.2.2.2.2.2.2.2.2.2.1, hst⟩, C.hS.F ht⟩) C.hS.2.2 hd hlk
theorem J_zret {b' : Bool} {Q : Option AV → Mem → Prop} {nm : String} {x : Int32} (hz : x = 0 ∨ x = 1) (hb : b = b') (hq : Q (some (vi x)) μ) (hd : decode cc pc = .ok (.ireturn, 1)) : J (GM b' Q (some .boolean) nm) b cc own maxL d rc rs pc lv [vi x] μ := by
  intro p l0 e R s m args below meth c Qf H locs cells slots D Z ρ ρ0 B0 ls hG C hst
  subst hb
  obtain ⟨hrt, hlk, hnm, rfl⟩ := hG
  have hcs := C.2.2.2.2.2.2.2.2.2.2.2.2.2.2.2.2
  refine W.widen (k := R.cells) (n := R.slots) (by omega) (by omega) ?_
  refine W.zret C.1 C.2.1 hrt (by rcases hz with rfl | rfl <;> rfl) (fun t ht hW => ⟨⟨some (vi x), ρ, μ, rfl, hq, by rw [ht]; exact C.rel.moved hW.alike, C.2.2.2.2.2.2.2.2.2.2.1, C.2.2.2.2.2.2.2.2.2.2.2.1, C.2.2.2.2.2.2.2.2.2.2.2.2.1, hst⟩, C.hS.F ht⟩) C.hS.2.2 hd hlk
theorem J_lret {b' : Bool} {Q : Option AV → Mem → Prop} {nm : String} {x : Int64} (hb : b = b') (hq : Q (some (vl x)) μ) (hd : decode cc pc = .ok (.lreturn, 1)) : J (GM b' Q (some .long) nm) b cc own maxL d rc rs pc lv [vl x] μ := by
  intro p l0 e R s m args below meth c Qf H locs cells slots D Z ρ ρ0 B0 ls hG C hst
  subst hb
  obtain ⟨hrt, hlk, hnm, rfl⟩ := hG
  have hcs := C.2.2.2.2.2.2.2.2.2.2.2.2.2.2.2.2
  refine W.widen (k := R.cells) (n := R.slots) (by omega) (by omega) ?_
  refine W.lret C.1 C.2.1 hrt (fun t ht hW => ⟨⟨some (vl x), ρ, μ, rfl, hq, by rw [ht]; exact C.rel.moved hW.alike, C.2.2.2.2.2.2.2.2.2.2.1, C.2.2.2.2.2.2.2.2.2.2.2.1, C.2.2.2.2.2.2.2.2.2.2.2.2.1, hst⟩, C.hS.F ht⟩) C.hS.2.2 hd hlk
theorem J_vret {b' : Bool} {Q : Option AV → Mem → Prop} {nm : String}  (hb : b = b') (hq : Q none μ) (hd : decode cc pc = .ok (.return_, 1)) : J (GM b' Q none nm) b cc own maxL d rc rs pc lv [] μ := by
  intro p l0 e R s m args below meth c Qf H locs cells slots D Z ρ ρ0 B0 ls hG C hst
  subst hb
  obtain ⟨hrt, hlk, hnm, rfl⟩ := hG
  have hcs := C.2.2.2.2.2.2.2.2.2.2.2.2.2.2.2.2
  refine W.widen (k := R.cells) (n := R.slots) (by omega) (by omega) ?_
  refine W.vret C.1 C.2.1 hrt (fun t ht hW => ⟨⟨none, ρ, μ, rfl, hq, by rw [ht]; exact C.rel.moved hW.alike, C.2.2.2.2.2.2.2.2.2.2.1, C.2.2.2.2.2.2.2.2.2.2.2.1, C.2.2.2.2.2.2.2.2.2.2.2.2.1, (fun _ h => by cases h)⟩, C.hS.F ht⟩) C.hS.2.2 hd hlk
theorem J_aret {b' : Bool} {Q : Option AV → Mem → Prop} {nm : String} {k9 : Nat} {x : Option Nat} {C9 : String} (hb : b = b') (hq : Q (some (vo k9 x)) μ) (hd : decode cc pc = .ok (.areturn, 1)) : J (GM b' Q (some (.object C9)) nm) b cc own maxL d rc rs pc lv [vo k9 x] μ := by
  intro p l0 e R s m args below meth c Qf H locs cells slots D Z ρ ρ0 B0 ls hG C hst
  subst hb
  obtain ⟨hrt, hlk, hnm, rfl⟩ := hG
  have hcs := C.2.2.2.2.2.2.2.2.2.2.2.2.2.2.2.2
  refine W.widen (k := R.cells) (n := R.slots) (by omega) (by omega) ?_
  refine W.aret C.1 C.2.1 hrt (Or.inl ⟨_, rfl⟩) (by cases x; exact Or.inl rfl; exact Or.inr ⟨_, rfl⟩) (fun t ht hW => ⟨⟨some (vo k9 x), ρ, μ, rfl, hq, by rw [ht]; exact C.rel.moved hW.alike, C.2.2.2.2.2.2.2.2.2.2.1, C.2.2.2.2.2.2.2.2.2.2.2.1, C.2.2.2.2.2.2.2.2.2.2.2.2.1, hst⟩, C.hS.F ht⟩) C.hS.2.2 hd hlk
def lva : Nat → List AV → List (Nat × AV)
  | _, [] => []
  | i, v :: vs => (i, v) :: lva (if isL v then i + 2 else i + 1) vs
theorem lva_map (ρ : MA) (as : List AV) : ∀ i, lv_args i (as.map (ren ρ)) = (lva i as).map fun q => (q.1, ren ρ q.2) := by
  induction as with
  | nil => intro i; rfl
  | cons a l ih =>
    intro i
    simp only [List.map_cons, lv_args, lva, ih, ren_catA, catA]
    cases isL a <;> rfl
theorem lva_in (as : List AV) : ∀ i, ∀ q ∈ lva i as, q.2 ∈ as := by
  induction as with
  | nil => intro i q h; cases h
  | cons a l ih =>
    intro i q h
    rcases List.mem_cons.mp h with rfl | h
    · exact List.mem_cons_self
    · exact List.mem_cons_of_mem _ (ih _ q h)
theorem ofWF {l : Launch} {y : MethodName} {ws ws' : List Cond} {rm : Room} {Pc : Array Value → State → Prop} {Qc : Array Value → State → Outcome → State → Prop} {mc ms : Nat} {free : Addr → Prop} {cc : ByteArray} {maxL : Nat} {ret : Option FieldType}
    (hy : plainFor y = true) (hw : ws = Cond.code y cc maxL ret :: ws')
    (body : ∀ p e s m args below meth c s₁, BodyLoose p l y (headSpec ws rm) cc maxL ret e s m args below meth c s₁ → c.maxLocals = maxL → Pc args s →
      W p l e (headSpec ws rm).room s m args below meth c s.heap [] 0 0 (MQ below Qc args s mc ms free) (entryFrame m args maxL)) : Met l y ws rm Pc Qc mc ms free := by
  refine MetFree.of_bodySF (code := cc) (maxLocals := maxL) (ret := ret) hy ?_ ?_
  · intro args s m h hn
    obtain ⟨meth, c, h1, h2, h3, h4, h5, h6, -, -⟩ := Cond.code_spec hn (atoms_spec (ws := ws) h _ (by rw [hw]; exact List.mem_cons_self))
    exact ⟨meth, c, h1, h2, h3, h4, h5, h6⟩
  · intro p e s m args below meth c s₁ B hml hP _
    have hh0 : s₁.heap = s.heap := by rw [B.state]; rfl
    obtain ⟨t, a1, o, b1, b2, b3⟩ := body p e s m args below meth c s₁ B hml hP s₁ hh0 (Stand.of_body B)
    exact ⟨t, o, a1, b1, b2, ⟨b3.1, b3.2⟩⟩
theorem JM.of {D0 : Nat} {y : MethodName} {ret : Option FieldType} {as : List AV} {Q : Option AV → Mem → Prop} (hy : plainFor y = true) (hl : ∀ ρ : MA, (lg_sl (as.map (ren ρ))).length ≤ maxL) (k : J (GM b Q ret y.name) b cc y.cls maxL D0 rc rs 0 (lva 0 as) [] μ) : JM b D0 y cc maxL ret rc rs as μ Q := by
  intro d9 hd9 l0 D Z ρ
  refine ofWF (cc := cc) (maxL := maxL) (ret := ret) hy rfl ?_
  intro p e s m args below meth c s₁ B hml hv
  obtain ⟨rfl, hRel, hN, hSt, hZ, hL, hLV⟩ := hv
  have hts := atoms_spec (ws := Cond.code y cc maxL ret :: gw) B.pre
  have hown : s.vm.findClass y.cls = some m.cls := findClass_of_methodNamed B.named
  have hnm : meth.name = y.name := (name_of_methodNamed B.named B.method).1
  have hls := lv_entry (as.map (ren ρ)) (n := maxL) (hl ρ)
  rw [lg_entry_eq]
  generalize (lg_sl (as.map (ren ρ)) ++ List.replicate (maxL - (lg_sl (as.map (ren ρ))).length) Slot.unset).toArray = ls at hls ⊢
  rw [lva_map] at hls
  exact k p l0 e _ s m _ below meth c _ s.heap [] 0 0 D Z ρ ρ (gF μ) ls ⟨B.returns, B.notSynchronized, hnm, rfl⟩ ⟨B.exec, B.bytes, hml, hown, fun w hw => hts w (List.mem_cons_of_mem _ hw), hN, hSt, hRel, va_S.rf, hZ, fun k l h => ⟨h, rfl⟩, fun _ _ => rfl, hL, fun q hq => hLV _ (lva_in as 0 q hq), hls, ⟨hd9, Nat.mul_le_mul_left 60 hd9⟩, by show 0 + rc ≤ rc; omega, by show 0 + rs ≤ rs; omega⟩ (fun _ h => by cases h)
theorem JM.mono {D0 : Nat} {y : MethodName} {ret : Option FieldType} {as : List AV} {Q Q' : Option AV → Mem → Prop} (h : JM b D0 y cc maxL ret rc rs as μ Q) (hq : ∀ v ν, Q v ν → Q' v ν) : JM b D0 y cc maxL ret rc rs as μ Q' := by
  intro d9 hd9 l0 D Z ρ p e ha hc hk s m args below hf h1 h2 h3
  obtain ⟨k, o, g1, g2, g3, ⟨⟨v, ρ', ν, e1, e2, e3⟩, g5⟩, g6⟩ := h d9 hd9 l0 D Z ρ p e ha hc hk s m args below hf h1 h2 h3
  exact ⟨k, o, g1, g2, g3, ⟨⟨v, ρ', ν, e1, hq v ν e2, e3⟩, g5⟩, g6⟩
end JCL
