section JR
variable {G : GT} {b : Bool} {cc : ByteArray} {own : String} {maxL d rc rs pc q : Nat} {lv : List (Nat × AV)} {st : List AV} {μ : Mem}
theorem ren_cat (ρ : MA) (v : AV) : ((ren ρ v).category == 2) = (match v with | .inr (.inl _) => true | _ => false) := by
  match v with
  | .inl x => rfl
  | .inr (.inl x) => rfl
  | .inr (.inr none) => rfl
  | .inr (.inr (some q)) => rfl
def isL (v : AV) : Bool := match v with
  | .inr (.inl _) => true
  | _ => false
theorem ren_isL (ρ : MA) (v : AV) : ((ren ρ v).category == 2) = isL v := ren_cat ρ v
def fl1 (n : Nat) (lv : List (Nat × AV)) : List (Nat × AV) := lv.filter (fun q => !(q.1 == n) && !(q.1 + 1 == n && isL q.2))
def fl2 (n : Nat) (lv : List (Nat × AV)) : List (Nat × AV) := lv.filter (fun q => !(q.1 == n) && (!(q.1 == n + 1) && !(q.1 + 1 == n && isL q.2)))
theorem fl1_map (ρ : MA) (n : Nat) (lv : List (Nat × AV)) : (lv.map fun q => (q.1, ren ρ q.2)).filter (fun q => !(q.1 == n) && !(q.1 + 1 == n && q.2.category == 2)) = (fl1 n lv).map fun q => (q.1, ren ρ q.2) := by
  induction lv with
  | nil => rfl
  | cons a l ih =>
    simp only [fl1, List.map_cons, List.filter_cons, ren_isL] at ih ⊢
    split <;> simp_all
theorem fl2_map (ρ : MA) (n : Nat) (lv : List (Nat × AV)) : (lv.map fun q => (q.1, ren ρ q.2)).filter (fun q => !(q.1 == n) && (!(q.1 == n + 1) && !(q.1 + 1 == n && q.2.category == 2))) = (fl2 n lv).map fun q => (q.1, ren ρ q.2) := by
  induction lv with
  | nil => rfl
  | cons a l ih =>
    simp only [fl2, List.map_cons, List.filter_cons, ren_isL] at ih ⊢
    split <;> simp_all
theorem fl1_in {n : Nat} {lv : List (Nat × AV)} {x : Nat × AV} (h : x ∈ fl1 n lv) : x ∈ lv := (List.mem_filter.mp h).1
theorem fl2_in {n : Nat} {lv : List (Nat × AV)} {x : Nat × AV} (h : x ∈ fl2 n lv) : x ∈ lv := (List.mem_filter.mp h).1
theorem lv_get {ρ : MA} {ls : Array Slot} {n : Nat} {v : AV} (h : lv_has ls maxL (lv.map fun q => (q.1, ren ρ q.2))) (j : Nat) (hl : lv[j]? = some (n, v)) : ls[n]? = some (.val (ren ρ v)) :=
  lv_at h j (by rw [List.getElem?_map, hl]; rfl)
/-- the context with other locals -/
theorem Cx.loc {p : Program} {R : Room} {s : State} {m : MethodId} {args : Array Value} {c : Code} {H : Heap} {locs : List Loc} {cells slots : Nat} {D : va_G} {Z : Nat} {ρ ρ0 : MA} {B0 : Nat → Nat → Bool} {ls ls' : Array Slot} {lv' : List (Nat × AV)}
    (C : Cx b cc own maxL d rc rs p R s m args c H locs cells slots D Z ρ ρ0 B0 ls lv μ) (h1 : ∀ q ∈ lv', LV μ q.2) (h2 : lv_has ls' maxL (lv'.map fun q => (q.1, ren ρ q.2))) : Cx b cc own maxL d rc rs p R s m args c H locs cells slots D Z ρ ρ0 B0 ls' lv' μ := by
  obtain ⟨a1, a2, a3, a4, a5, a6, a7, a8, a9, a10, a11, a12, a13, -, -, a16, a17, a18⟩ := C
  exact ⟨a1, a2, a3, a4, a5, a6, a7, a8, a9, a10, a11, a12, a13, h1, h2, a16, a17, a18⟩
theorem Cx.hlv {p : Program} {R : Room} {s : State} {m : MethodId} {args : Array Value} {c : Code} {H : Heap} {locs : List Loc} {cells slots : Nat} {D : va_G} {Z : Nat} {ρ ρ0 : MA} {B0 : Nat → Nat → Bool} {ls : Array Slot}
    (C : Cx b cc own maxL d rc rs p R s m args c H locs cells slots D Z ρ ρ0 B0 ls lv μ) : ∀ q ∈ lv, LV μ q.2 := C.2.2.2.2.2.2.2.2.2.2.2.2.2.1
theorem Cx.hls {p : Program} {R : Room} {s : State} {m : MethodId} {args : Array Value} {c : Code} {H : Heap} {locs : List Loc} {cells slots : Nat} {D : va_G} {Z : Nat} {ρ ρ0 : MA} {B0 : Nat → Nat → Bool} {ls : Array Slot}
    (C : Cx b cc own maxL d rc rs p R s m args c H locs cells slots D Z ρ ρ0 B0 ls lv μ) : lv_has ls maxL (lv.map fun q => (q.1, ren ρ q.2)) := C.2.2.2.2.2.2.2.2.2.2.2.2.2.2.1
theorem Cx.hown {p : Program} {R : Room} {s : State} {m : MethodId} {args : Array Value} {c : Code} {H : Heap} {locs : List Loc} {cells slots : Nat} {D : va_G} {Z : Nat} {ρ ρ0 : MA} {B0 : Nat → Nat → Bool} {ls : Array Slot}
    (C : Cx b cc own maxL d rc rs p R s m args c H locs cells slots D Z ρ ρ0 B0 ls lv μ) : s.vm.findClass own = some m.cls := C.2.2.2.1
theorem Cx.hts {p : Program} {R : Room} {s : State} {m : MethodId} {args : Array Value} {c : Code} {H : Heap} {locs : List Loc} {cells slots : Nat} {D : va_G} {Z : Nat} {ρ ρ0 : MA} {B0 : Nat → Nat → Bool} {ls : Array Slot}
    (C : Cx b cc own maxL d rc rs p R s m args c H locs cells slots D Z ρ ρ0 B0 ls lv μ) : ∀ w ∈ gw, w.before args s = true := C.2.2.2.2.1

theorem J_iconst {n : Int} {v : Int32} (hd : decode cc pc = .ok (.iconst n, 1)) (hv : Int32.ofInt n = v) (hq : pc + 1 = q) (k : J G b cc own maxL d rc rs q lv (vi v :: st) μ) : J G b cc own maxL d rc rs pc lv st μ := by
  subst hq
  intro p l e R s m args below meth c Qf H locs cells slots D Z ρ ρ0 B0 ls hG C hst
  exact lv_iconst C.1 C.2.1 hd hv (k _ _ _ _ _ _ _ _ _ _ _ _ _ _ _ _ _ _ _ _ _ hG C hst.i)
theorem J_bipush {n : Int} {v : Int32} (hd : decode cc pc = .ok (.bipush n, 2)) (hv : (Int8.ofInt n).toInt32 = v) (hq : pc + 2 = q) (k : J G b cc own maxL d rc rs q lv (vi v :: st) μ) : J G b cc own maxL d rc rs pc lv st μ := by
  subst hq
  intro p l e R s m args below meth c Qf H locs cells slots D Z ρ ρ0 B0 ls hG C hst
  exact lv_bipush C.1 C.2.1 hd hv (k _ _ _ _ _ _ _ _ _ _ _ _ _ _ _ _ _ _ _ _ _ hG C hst.i)
theorem J_sipush {n : Int} {v : Int32} (hd : decode cc pc = .ok (.sipush n, 3)) (hv : (Int16.ofInt n).toInt32 = v) (hq : pc + 3 = q) (k : J G b cc own maxL d rc rs q lv (vi v :: st) μ) : J G b cc own maxL d rc rs pc lv st μ := by
  subst hq
  intro p l e R s m args below meth c Qf H locs cells slots D Z ρ ρ0 B0 ls hG C hst
  exact lv_sipush C.1 C.2.1 hd hv (k _ _ _ _ _ _ _ _ _ _ _ _ _ _ _ _ _ _ _ _ _ hG C hst.i)
theorem J_lconst {n : Fin 2} {v : Int64} (hd : decode cc pc = .ok (.lconst n, 1)) (hv : Int64.ofNat (n : Nat) = v) (hq : pc + 1 = q) (k : J G b cc own maxL d rc rs q lv (vl v :: st) μ) : J G b cc own maxL d rc rs pc lv st μ := by
  subst hq
  intro p l e R s m args below meth c Qf H locs cells slots D Z ρ ρ0 B0 ls hG C hst
  exact lv_lconst C.1 C.2.1 hd hv (k _ _ _ _ _ _ _ _ _ _ _ _ _ _ _ _ _ _ _ _ _ hG C hst.l)
theorem J_ldc {i : Nat} {v : Int32} (hd : decode cc pc = .ok (.ldc i, 2)) (hc : Cond.constant own i v ∈ gw) (hq : pc + 2 = q) (k : J G b cc own maxL d rc rs q lv (vi v :: st) μ) : J G b cc own maxL d rc rs pc lv st μ := by
  subst hq
  intro p l e R s m args below meth c Qf H locs cells slots D Z ρ ρ0 B0 ls hG C hst
  exact lv_ldc C.1 C.2.1 C.hown (C.hts _ hc) hd (k _ _ _ _ _ _ _ _ _ _ _ _ _ _ _ _ _ _ _ _ _ hG C hst.i)
theorem J_ldcw {i : Nat} {v : Int32} (hd : decode cc pc = .ok (.ldc_w i, 3)) (hc : Cond.constant own i v ∈ gw) (hq : pc + 3 = q) (k : J G b cc own maxL d rc rs q lv (vi v :: st) μ) : J G b cc own maxL d rc rs pc lv st μ := by
  subst hq
  intro p l e R s m args below meth c Qf H locs cells slots D Z ρ ρ0 B0 ls hG C hst
  exact lv_ldcw C.1 C.2.1 C.hown (C.hts _ hc) hd (k _ _ _ _ _ _ _ _ _ _ _ _ _ _ _ _ _ _ _ _ _ hG C hst.i)
theorem J_ldc2 {i : Nat} {v : Int64} (hd : decode cc pc = .ok (.ldc2_w i, 3)) (hc : Cond.constantLong own i v ∈ gw) (hq : pc + 3 = q) (k : J G b cc own maxL d rc rs q lv (vl v :: st) μ) : J G b cc own maxL d rc rs pc lv st μ := by
  subst hq
  intro p l e R s m args below meth c Qf H locs cells slots D Z ρ ρ0 B0 ls hG C hst
  exact lv_ldc2 C.1 C.2.1 C.hown (C.hts _ hc) hd (k _ _ _ _ _ _ _ _ _ _ _ _ _ _ _ _ _ _ _ _ _ hG C hst.l)
theorem J_null  (hd : decode cc pc = .ok (.aconst_null, 1)) (hq : pc + 1 = q) (k : J G b cc own maxL d rc rs q lv (vn :: st) μ) : J G b cc own maxL d rc rs pc lv st μ := by
  subst hq
  intro p l e R s m args below meth c Qf H locs cells slots D Z ρ ρ0 B0 ls hG C hst
  exact lv_null C.1 C.2.1 hd (k _ _ _ _ _ _ _ _ _ _ _ _ _ _ _ _ _ _ _ _ _ hG C hst.n)
theorem J_iadd {x y : Int32} (hd : decode cc pc = .ok (.iadd, 1)) (hq : pc + 1 = q) (k : J G b cc own maxL d rc rs q lv (vi (x + y) :: st) μ) : J G b cc own maxL d rc rs pc lv (vi y :: vi x :: st) μ := by
  subst hq
  intro p l e R s m args below meth c Qf H locs cells slots D Z ρ ρ0 B0 ls hG C hst
  exact lv_iadd C.1 C.2.1 hd (k _ _ _ _ _ _ _ _ _ _ _ _ _ _ _ _ _ _ _ _ _ hG C hst.tl.tl.i)
theorem J_isub {x y : Int32} (hd : decode cc pc = .ok (.isub, 1)) (hq : pc + 1 = q) (k : J G b cc own maxL d rc rs q lv (vi (x - y) :: st) μ) : J G b cc own maxL d rc rs pc lv (vi y :: vi x :: st) μ := by
  subst hq
  intro p l e R s m args below meth c Qf H locs cells slots D Z ρ ρ0 B0 ls hG C hst
  exact lv_isub C.1 C.2.1 hd (k _ _ _ _ _ _ _ _ _ _ _ _ _ _ _ _ _ _ _ _ _ hG C hst.tl.tl.i)
theorem J_imul {x y : Int32} (hd : decode cc pc = .ok (.imul, 1)) (hq : pc + 1 = q) (k : J G b cc own maxL d rc rs q lv (vi (x * y) :: st) μ) : J G b cc own maxL d rc rs pc lv (vi y :: vi x :: st) μ := by
  subst hq
  intro p l e R s m args below meth c Qf H locs cells slots D Z ρ ρ0 B0 ls hG C hst
  exact lv_imul C.1 C.2.1 hd (k _ _ _ _ _ _ _ _ _ _ _ _ _ _ _ _ _ _ _ _ _ hG C hst.tl.tl.i)
theorem J_iand {x y : Int32} (hd : decode cc pc = .ok (.iand, 1)) (hq : pc + 1 = q) (k : J G b cc own maxL d rc rs q lv (vi (x &&& y) :: st) μ) : J G b cc own maxL d rc rs pc lv (vi y :: vi x :: st) μ := by
  subst hq
  intro p l e R s m args below meth c Qf H locs cells slots D Z ρ ρ0 B0 ls hG C hst
  exact lv_iand C.1 C.2.1 hd (k _ _ _ _ _ _ _ _ _ _ _ _ _ _ _ _ _ _ _ _ _ hG C hst.tl.tl.i)
theorem J_ladd {x y : Int64} (hd : decode cc pc = .ok (.ladd, 1)) (hq : pc + 1 = q) (k : J G b cc own maxL d rc rs q lv (vl (x + y) :: st) μ) : J G b cc own maxL d rc rs pc lv (vl y :: vl x :: st) μ := by
  subst hq
  intro p l e R s m args below meth c Qf H locs cells slots D Z ρ ρ0 B0 ls hG C hst
  exact lv_ladd C.1 C.2.1 hd (k _ _ _ _ _ _ _ _ _ _ _ _ _ _ _ _ _ _ _ _ _ hG C hst.tl.tl.l)
theorem J_lsub {x y : Int64} (hd : decode cc pc = .ok (.lsub, 1)) (hq : pc + 1 = q) (k : J G b cc own maxL d rc rs q lv (vl (x - y) :: st) μ) : J G b cc own maxL d rc rs pc lv (vl y :: vl x :: st) μ := by
  subst hq
  intro p l e R s m args below meth c Qf H locs cells slots D Z ρ ρ0 B0 ls hG C hst
  exact lv_lsub C.1 C.2.1 hd (k _ _ _ _ _ _ _ _ _ _ _ _ _ _ _ _ _ _ _ _ _ hG C hst.tl.tl.l)
theorem J_lmul {x y : Int64} (hd : decode cc pc = .ok (.lmul, 1)) (hq : pc + 1 = q) (k : J G b cc own maxL d rc rs q lv (vl (x * y) :: st) μ) : J G b cc own maxL d rc rs pc lv (vl y :: vl x :: st) μ := by
  subst hq
  intro p l e R s m args below meth c Qf H locs cells slots D Z ρ ρ0 B0 ls hG C hst
  exact lv_lmul C.1 C.2.1 hd (k _ _ _ _ _ _ _ _ _ _ _ _ _ _ _ _ _ _ _ _ _ hG C hst.tl.tl.l)
theorem J_land {x y : Int64} (hd : decode cc pc = .ok (.land, 1)) (hq : pc + 1 = q) (k : J G b cc own maxL d rc rs q lv (vl (x &&& y) :: st) μ) : J G b cc own maxL d rc rs pc lv (vl y :: vl x :: st) μ := by
  subst hq
  intro p l e R s m args below meth c Qf H locs cells slots D Z ρ ρ0 B0 ls hG C hst
  exact lv_land C.1 C.2.1 hd (k _ _ _ _ _ _ _ _ _ _ _ _ _ _ _ _ _ _ _ _ _ hG C hst.tl.tl.l)
theorem J_lxor {x y : Int64} (hd : decode cc pc = .ok (.lxor, 1)) (hq : pc + 1 = q) (k : J G b cc own maxL d rc rs q lv (vl (x ^^^ y) :: st) μ) : J G b cc own maxL d rc rs pc lv (vl y :: vl x :: st) μ := by
  subst hq
  intro p l e R s m args below meth c Qf H locs cells slots D Z ρ ρ0 B0 ls hG C hst
  exact lv_lxor C.1 C.2.1 hd (k _ _ _ _ _ _ _ _ _ _ _ _ _ _ _ _ _ _ _ _ _ hG C hst.tl.tl.l)
theorem J_idiv {x y : Int32} (hd : decode cc pc = .ok (.idiv, 1)) (hn : ¬ y = 0) (hq : pc + 1 = q) (k : J G b cc own maxL d rc rs q lv (vi (x / y) :: st) μ) : J G b cc own maxL d rc rs pc lv (vi y :: vi x :: st) μ := by
  subst hq
  intro p l e R s m args below meth c Qf H locs cells slots D Z ρ ρ0 B0 ls hG C hst
  exact lv_idiv C.1 C.2.1 hd hn (k _ _ _ _ _ _ _ _ _ _ _ _ _ _ _ _ _ _ _ _ _ hG C hst.tl.tl.i)
theorem J_irem {x y : Int32} (hd : decode cc pc = .ok (.irem, 1)) (hn : ¬ y = 0) (hq : pc + 1 = q) (k : J G b cc own maxL d rc rs q lv (vi (x - x / y * y) :: st) μ) : J G b cc own maxL d rc rs pc lv (vi y :: vi x :: st) μ := by
  subst hq
  intro p l e R s m args below meth c Qf H locs cells slots D Z ρ ρ0 B0 ls hG C hst
  exact lv_irem C.1 C.2.1 hd hn (k _ _ _ _ _ _ _ _ _ _ _ _ _ _ _ _ _ _ _ _ _ hG C hst.tl.tl.i)
theorem J_ldiv {x y : Int64} (hd : decode cc pc = .ok (.ldiv, 1)) (hn : ¬ y = 0) (hq : pc + 1 = q) (k : J G b cc own maxL d rc rs q lv (vl (x / y) :: st) μ) : J G b cc own maxL d rc rs pc lv (vl y :: vl x :: st) μ := by
  subst hq
  intro p l e R s m args below meth c Qf H locs cells slots D Z ρ ρ0 B0 ls hG C hst
  exact lv_ldiv C.1 C.2.1 hd hn (k _ _ _ _ _ _ _ _ _ _ _ _ _ _ _ _ _ _ _ _ _ hG C hst.tl.tl.l)
theorem J_lrem {x y : Int64} (hd : decode cc pc = .ok (.lrem, 1)) (hn : ¬ y = 0) (hq : pc + 1 = q) (k : J G b cc own maxL d rc rs q lv (vl (x - x / y * y) :: st) μ) : J G b cc own maxL d rc rs pc lv (vl y :: vl x :: st) μ := by
  subst hq
  intro p l e R s m args below meth c Qf H locs cells slots D Z ρ ρ0 B0 ls hG C hst
  exact lv_lrem C.1 C.2.1 hd hn (k _ _ _ _ _ _ _ _ _ _ _ _ _ _ _ _ _ _ _ _ _ hG C hst.tl.tl.l)
theorem J_lneg {x : Int64} (hd : decode cc pc = .ok (.lneg, 1)) (hq : pc + 1 = q) (k : J G b cc own maxL d rc rs q lv (vl (-x) :: st) μ) : J G b cc own maxL d rc rs pc lv (vl x :: st) μ := by
  subst hq
  intro p l e R s m args below meth c Qf H locs cells slots D Z ρ ρ0 B0 ls hG C hst
  exact lv_lneg C.1 C.2.1 hd (k _ _ _ _ _ _ _ _ _ _ _ _ _ _ _ _ _ _ _ _ _ hG C hst.tl.l)
theorem J_lshl {x : Int64} {y : Int32} (hd : decode cc pc = .ok (.lshl, 1)) (hq : pc + 1 = q) (k : J G b cc own maxL d rc rs q lv (vl (x <<< (y.toInt64 &&& 63)) :: st) μ) : J G b cc own maxL d rc rs pc lv (vi y :: vl x :: st) μ := by
  subst hq
  intro p l e R s m args below meth c Qf H locs cells slots D Z ρ ρ0 B0 ls hG C hst
  exact lv_lshl C.1 C.2.1 hd rfl (k _ _ _ _ _ _ _ _ _ _ _ _ _ _ _ _ _ _ _ _ _ hG C hst.tl.tl.l)
theorem J_lshr {x : Int64} {y : Int32} (hd : decode cc pc = .ok (.lshr, 1)) (hq : pc + 1 = q) (k : J G b cc own maxL d rc rs q lv (vl (x >>> (y.toInt64 &&& 63)) :: st) μ) : J G b cc own maxL d rc rs pc lv (vi y :: vl x :: st) μ := by
  subst hq
  intro p l e R s m args below meth c Qf H locs cells slots D Z ρ ρ0 B0 ls hG C hst
  exact lv_lshr C.1 C.2.1 hd rfl (k _ _ _ _ _ _ _ _ _ _ _ _ _ _ _ _ _ _ _ _ _ hG C hst.tl.tl.l)
theorem J_i2l {x : Int32} (hd : decode cc pc = .ok (.i2l, 1)) (hq : pc + 1 = q) (k : J G b cc own maxL d rc rs q lv (vl x.toInt64 :: st) μ) : J G b cc own maxL d rc rs pc lv (vi x :: st) μ := by
  subst hq
  intro p l e R s m args below meth c Qf H locs cells slots D Z ρ ρ0 B0 ls hG C hst
  exact lv_i2l C.1 C.2.1 hd rfl (k _ _ _ _ _ _ _ _ _ _ _ _ _ _ _ _ _ _ _ _ _ hG C hst.tl.l)
theorem J_l2i {x : Int64} (hd : decode cc pc = .ok (.l2i, 1)) (hq : pc + 1 = q) (k : J G b cc own maxL d rc rs q lv (vi x.toInt32 :: st) μ) : J G b cc own maxL d rc rs pc lv (vl x :: st) μ := by
  subst hq
  intro p l e R s m args below meth c Qf H locs cells slots D Z ρ ρ0 B0 ls hG C hst
  exact lv_l2i C.1 C.2.1 hd rfl (k _ _ _ _ _ _ _ _ _ _ _ _ _ _ _ _ _ _ _ _ _ hG C hst.tl.i)
theorem J_dupI {x : Int32} (hd : decode cc pc = .ok (.dup, 1)) (hq : pc + 1 = q) (k : J G b cc own maxL d rc rs q lv (vi x :: vi x :: st) μ) : J G b cc own maxL d rc rs pc lv (vi x :: st) μ := by
  subst hq
  intro p l e R s m args below meth c Qf H locs cells slots D Z ρ ρ0 B0 ls hG C hst
  exact lv_dup C.1 C.2.1 hd rfl (k _ _ _ _ _ _ _ _ _ _ _ _ _ _ _ _ _ _ _ _ _ hG C hst.i)
theorem J_dupR {k' l' : Nat} (hd : decode cc pc = .ok (.dup, 1)) (hq : pc + 1 = q) (k : J G b cc own maxL d rc rs q lv (vr k' l' :: vr k' l' :: st) μ) : J G b cc own maxL d rc rs pc lv (vr k' l' :: st) μ := by
  subst hq
  intro p l e R s m args below meth c Qf H locs cells slots D Z ρ ρ0 B0 ls hG C hst
  exact lv_dup C.1 C.2.1 hd rfl (k _ _ _ _ _ _ _ _ _ _ _ _ _ _ _ _ _ _ _ _ _ hG C (LVs.cs hst.hd hst))
theorem J_popI {x : Int32} (hd : decode cc pc = .ok (.pop, 1)) (hq : pc + 1 = q) (k : J G b cc own maxL d rc rs q lv st μ) : J G b cc own maxL d rc rs pc lv (vi x :: st) μ := by
  subst hq
  intro p l e R s m args below meth c Qf H locs cells slots D Z ρ ρ0 B0 ls hG C hst
  exact lv_pop C.1 C.2.1 hd rfl (k _ _ _ _ _ _ _ _ _ _ _ _ _ _ _ _ _ _ _ _ _ hG C hst.tl)
theorem J_dup2IR {x : Int32} {k' l' : Nat} (hd : decode cc pc = .ok (.dup2, 1)) (hq : pc + 1 = q) (k : J G b cc own maxL d rc rs q lv (vi x :: vr k' l' :: vi x :: vr k' l' :: st) μ) : J G b cc own maxL d rc rs pc lv (vi x :: vr k' l' :: st) μ := by
  subst hq
  intro p l e R s m args below meth c Qf H locs cells slots D Z ρ ρ0 B0 ls hG C hst
  exact lv_dup2_11 C.1 C.2.1 hd rfl rfl (k _ _ _ _ _ _ _ _ _ _ _ _ _ _ _ _ _ _ _ _ _ hG C (LVs.cs (v := vi x) trivial (LVs.cs hst.tl.hd hst)))
theorem J_iload_n {f : Fin 4} {n : Nat} {x : Int32} (j : Nat) (hd : decode cc pc = .ok (.iload_n f, 1)) (hf : (f : Nat) = n) (hl : lv[j]? = some (n, vi x)) (hq : pc + 1 = q) (k : J G b cc own maxL d rc rs q lv (vi x :: st) μ) : J G b cc own maxL d rc rs pc lv st μ := by
  subst hq
  intro p l e R s m args below meth c Qf H locs cells slots D Z ρ ρ0 B0 ls hG C hst
  exact lv_iload_n C.1 C.2.1 hd hf (lv_get C.hls j hl) (k _ _ _ _ _ _ _ _ _ _ _ _ _ _ _ _ _ _ _ _ _ hG C hst.i)
theorem J_iload {n : Nat} {x : Int32} (j : Nat) (hd : decode cc pc = .ok (.iload n, 2)) (hl : lv[j]? = some (n, vi x)) (hq : pc + 2 = q) (k : J G b cc own maxL d rc rs q lv (vi x :: st) μ) : J G b cc own maxL d rc rs pc lv st μ := by
  subst hq
  intro p l e R s m args below meth c Qf H locs cells slots D Z ρ ρ0 B0 ls hG C hst
  exact lv_iload C.1 C.2.1 hd (lv_get C.hls j hl) (k _ _ _ _ _ _ _ _ _ _ _ _ _ _ _ _ _ _ _ _ _ hG C hst.i)
theorem J_lload_n {f : Fin 4} {n : Nat} {x : Int64} (j : Nat) (hd : decode cc pc = .ok (.lload_n f, 1)) (hf : (f : Nat) = n) (hl : lv[j]? = some (n, vl x)) (hq : pc + 1 = q) (k : J G b cc own maxL d rc rs q lv (vl x :: st) μ) : J G b cc own maxL d rc rs pc lv st μ := by
  subst hq
  intro p l e R s m args below meth c Qf H locs cells slots D Z ρ ρ0 B0 ls hG C hst
  exact lv_lload_n C.1 C.2.1 hd hf (lv_get C.hls j hl) (k _ _ _ _ _ _ _ _ _ _ _ _ _ _ _ _ _ _ _ _ _ hG C hst.l)
theorem J_lload {n : Nat} {x : Int64} (j : Nat) (hd : decode cc pc = .ok (.lload n, 2)) (hl : lv[j]? = some (n, vl x)) (hq : pc + 2 = q) (k : J G b cc own maxL d rc rs q lv (vl x :: st) μ) : J G b cc own maxL d rc rs pc lv st μ := by
  subst hq
  intro p l e R s m args below meth c Qf H locs cells slots D Z ρ ρ0 B0 ls hG C hst
  exact lv_lload C.1 C.2.1 hd (lv_get C.hls j hl) (k _ _ _ _ _ _ _ _ _ _ _ _ _ _ _ _ _ _ _ _ _ hG C hst.l)
theorem J_aload_n {f : Fin 4} {n : Nat} {o : Option (Nat × Nat)} (j : Nat) (hd : decode cc pc = .ok (.aload_n f, 1)) (hf : (f : Nat) = n) (hl : lv[j]? = some (n, (Sum.inr (Sum.inr o) : AV))) (hq : pc + 1 = q) (k : J G b cc own maxL d rc rs q lv ((Sum.inr (Sum.inr o) : AV) :: st) μ) : J G b cc own maxL d rc rs pc lv st μ := by
  subst hq
  intro p l e R s m args below meth c Qf H locs cells slots D Z ρ ρ0 B0 ls hG C hst
  have hv : LV μ (Sum.inr (Sum.inr o)) := C.hlv _ (List.mem_of_getElem? hl)
  cases o with
  | none => exact lv_aload_nN C.1 C.2.1 hd hf (lv_get C.hls j hl) (k _ _ _ _ _ _ _ _ _ _ _ _ _ _ _ _ _ _ _ _ _ hG C (LVs.cs hv hst))
  | some z => exact lv_aload_n C.1 C.2.1 hd hf (lv_get C.hls j hl) (k _ _ _ _ _ _ _ _ _ _ _ _ _ _ _ _ _ _ _ _ _ hG C (LVs.cs hv hst))
theorem J_aload {n : Nat} {o : Option (Nat × Nat)} (j : Nat) (hd : decode cc pc = .ok (.aload n, 2)) (hl : lv[j]? = some (n, (Sum.inr (Sum.inr o) : AV))) (hq : pc + 2 = q) (k : J G b cc own maxL d rc rs q lv ((Sum.inr (Sum.inr o) : AV) :: st) μ) : J G b cc own maxL d rc rs pc lv st μ := by
  subst hq
  intro p l e R s m args below meth c Qf H locs cells slots D Z ρ ρ0 B0 ls hG C hst
  have hv : LV μ (Sum.inr (Sum.inr o)) := C.hlv _ (List.mem_of_getElem? hl)
  cases o with
  | none => exact lv_aloadN C.1 C.2.1 hd (lv_get C.hls j hl) (k _ _ _ _ _ _ _ _ _ _ _ _ _ _ _ _ _ _ _ _ _ hG C (LVs.cs hv hst))
  | some z => exact lv_aload C.1 C.2.1 hd (lv_get C.hls j hl) (k _ _ _ _ _ _ _ _ _ _ _ _ _ _ _ _ _ _ _ _ _ hG C (LVs.cs hv hst))
theorem J_istore_n {f : Fin 4} {n : Nat} {x : Int32} {lv' : List (Nat × AV)} (hd : decode cc pc = .ok (.istore_n f, 1)) (hf : (f : Nat) = n) (hn : n < maxL) (hl : (n, vi x) :: fl1 n lv = lv') (hq : pc + 1 = q) (k : J G b cc own maxL d rc rs q lv' st μ) : J G b cc own maxL d rc rs pc lv (vi x :: st) μ := by
  subst hq; subst hl
  intro p l e R s m args below meth c Qf H locs cells slots D Z ρ ρ0 B0 ls hG C hst
  refine lv_istore_n C.1 C.2.1 hd hf C.hls hn rfl (fun ls1 h1 => k _ _ _ _ _ _ _ _ _ _ _ _ _ _ _ _ _ _ _ _ _ hG (C.loc (fun z hz => ?_) (by rw [fl1_map] at h1; exact h1)) hst.tl)
  rcases List.mem_cons.mp hz with rfl | hz
  · trivial
  · exact C.hlv _ (fl1_in hz)
theorem J_istore {n : Nat} {x : Int32} {lv' : List (Nat × AV)} (hd : decode cc pc = .ok (.istore n, 2)) (hn : n < maxL) (hl : (n, vi x) :: fl1 n lv = lv') (hq : pc + 2 = q) (k : J G b cc own maxL d rc rs q lv' st μ) : J G b cc own maxL d rc rs pc lv (vi x :: st) μ := by
  subst hq; subst hl
  intro p l e R s m args below meth c Qf H locs cells slots D Z ρ ρ0 B0 ls hG C hst
  refine lv_istore C.1 C.2.1 hd C.hls hn rfl (fun ls1 h1 => k _ _ _ _ _ _ _ _ _ _ _ _ _ _ _ _ _ _ _ _ _ hG (C.loc (fun z hz => ?_) (by rw [fl1_map] at h1; exact h1)) hst.tl)
  rcases List.mem_cons.mp hz with rfl | hz
  · trivial
  · exact C.hlv _ (fl1_in hz)
theorem J_lstore_n {f : Fin 4} {n : Nat} {x : Int64} {lv' : List (Nat × AV)} (hd : decode cc pc = .ok (.lstore_n f, 1)) (hf : (f : Nat) = n) (hn : n + 1 < maxL) (hl : (n, vl x) :: fl2 n lv = lv') (hq : pc + 1 = q) (k : J G b cc own maxL d rc rs q lv' st μ) : J G b cc own maxL d rc rs pc lv (vl x :: st) μ := by
  subst hq; subst hl
  intro p l e R s m args below meth c Qf H locs cells slots D Z ρ ρ0 B0 ls hG C hst
  refine lv_lstore_n C.1 C.2.1 hd hf C.hls hn rfl (fun ls1 h1 => k _ _ _ _ _ _ _ _ _ _ _ _ _ _ _ _ _ _ _ _ _ hG (C.loc (fun z hz => ?_) (by rw [fl2_map] at h1; exact h1)) hst.tl)
  rcases List.mem_cons.mp hz with rfl | hz
  · trivial
  · exact C.hlv _ (fl2_in hz)
theorem J_lstore {n : Nat} {x : Int64} {lv' : List (Nat × AV)} (hd : decode cc pc = .ok (.lstore n, 2)) (hn : n + 1 < maxL) (hl : (n, vl x) :: fl2 n lv = lv') (hq : pc + 2 = q) (k : J G b cc own maxL d rc rs q lv' st μ) : J G b cc own maxL d rc rs pc lv (vl x :: st) μ := by
  subst hq; subst hl
  intro p l e R s m args below meth c Qf H locs cells slots D Z ρ ρ0 B0 ls hG C hst
  refine lv_lstore C.1 C.2.1 hd C.hls hn rfl (fun ls1 h1 => k _ _ _ _ _ _ _ _ _ _ _ _ _ _ _ _ _ _ _ _ _ hG (C.loc (fun z hz => ?_) (by rw [fl2_map] at h1; exact h1)) hst.tl)
  rcases List.mem_cons.mp hz with rfl | hz
  · trivial
  · exact C.hlv _ (fl2_in hz)
theorem J_astore_n {f : Fin 4} {n : Nat} {o : Option (Nat × Nat)} {lv' : List (Nat × AV)} (hd : decode cc pc = .ok (.astore_n f, 1)) (hf : (f : Nat) = n) (hn : n < maxL) (hl : (n, (Sum.inr (Sum.inr o) : AV)) :: fl1 n lv = lv') (hq : pc + 1 = q) (k : J G b cc own maxL d rc rs q lv' st μ) : J G b cc own maxL d rc rs pc lv ((Sum.inr (Sum.inr o) : AV) :: st) μ := by
  subst hq; subst hl
  intro p l e R s m args below meth c Qf H locs cells slots D Z ρ ρ0 B0 ls hG C hst
  have hz9 : ∀ z ∈ (n, (Sum.inr (Sum.inr o) : AV)) :: fl1 n lv, LV μ z.2 := fun z hz => by
    rcases List.mem_cons.mp hz with rfl | hz
    · exact hst.hd
    · exact C.hlv _ (fl1_in hz)
  cases o with
  | none => exact lv_astore_nN C.1 C.2.1 hd hf C.hls hn rfl (fun ls1 h1 => k _ _ _ _ _ _ _ _ _ _ _ _ _ _ _ _ _ _ _ _ _ hG (C.loc hz9 (by rw [fl1_map] at h1; exact h1)) hst.tl)
  | some z => exact lv_astore_n C.1 C.2.1 hd hf C.hls hn rfl (fun ls1 h1 => k _ _ _ _ _ _ _ _ _ _ _ _ _ _ _ _ _ _ _ _ _ hG (C.loc hz9 (by rw [fl1_map] at h1; exact h1)) hst.tl)
theorem J_astore {n : Nat} {o : Option (Nat × Nat)} {lv' : List (Nat × AV)} (hd : decode cc pc = .ok (.astore n, 2)) (hn : n < maxL) (hl : (n, (Sum.inr (Sum.inr o) : AV)) :: fl1 n lv = lv') (hq : pc + 2 = q) (k : J G b cc own maxL d rc rs q lv' st μ) : J G b cc own maxL d rc rs pc lv ((Sum.inr (Sum.inr o) : AV) :: st) μ := by
  subst hq; subst hl
  intro p l e R s m args below meth c Qf H locs cells slots D Z ρ ρ0 B0 ls hG C hst
  have hz9 : ∀ z ∈ (n, (Sum.inr (Sum.inr o) : AV)) :: fl1 n lv, LV μ z.2 := fun z hz => by
    rcases List.mem_cons.mp hz with rfl | hz
    · exact hst.hd
    · exact C.hlv _ (fl1_in hz)
  cases o with
  | none => exact lv_astoreN C.1 C.2.1 hd C.hls hn rfl (fun ls1 h1 => k _ _ _ _ _ _ _ _ _ _ _ _ _ _ _ _ _ _ _ _ _ hG (C.loc hz9 (by rw [fl1_map] at h1; exact h1)) hst.tl)
  | some z => exact lv_astore C.1 C.2.1 hd C.hls hn rfl (fun ls1 h1 => k _ _ _ _ _ _ _ _ _ _ _ _ _ _ _ _ _ _ _ _ _ hG (C.loc hz9 (by rw [fl1_map] at h1; exact h1)) hst.tl)
theorem J_iinc {n : Nat} {i : Int} {x v : Int32} {lv' : List (Nat × AV)} (j : Nat) (hd : decode cc pc = .ok (.iinc n i, 3)) (hk : lv[j]? = some (n, vi x)) (hv : x + Int32.ofInt i = v) (hn : n < maxL) (hl : (n, vi v) :: fl1 n lv = lv') (hq : pc + 3 = q) (k : J G b cc own maxL d rc rs q lv' st μ) : J G b cc own maxL d rc rs pc lv st μ := by
  subst hq; subst hl
  intro p l e R s m args below meth c Qf H locs cells slots D Z ρ ρ0 B0 ls hG C hst
  refine lv_iinc (k := j) (x := x) C.1 C.2.1 hd C.hls (by rw [List.getElem?_map, hk]; rfl) hv hn rfl (fun ls1 h1 => k _ _ _ _ _ _ _ _ _ _ _ _ _ _ _ _ _ _ _ _ _ hG (C.loc (fun z hz => ?_) (by rw [fl1_map] at h1; exact h1)) hst)
  rcases List.mem_cons.mp hz with rfl | hz
  · trivial
  · exact C.hlv _ (fl1_in hz)
theorem J_sub {lv' : List (Nat × AV)} (hs : ∀ z ∈ lv', z ∈ lv) (k : J G b cc own maxL d rc rs pc lv' st μ) : J G b cc own maxL d rc rs pc lv st μ := by
  intro p l e R s m args below meth c Qf H locs cells slots D Z ρ ρ0 B0 ls hG C hst
  exact k _ _ _ _ _ _ _ _ _ _ _ _ _ _ _ _ _ _ _ _ _ hG (C.loc (fun z hz => C.hlv z (hs z hz)) ⟨C.hls.1, C.hls.2.1, fun z hz => by
    obtain ⟨w, hw, rfl⟩ := List.mem_map.mp hz
    exact C.hls.2.2 _ (List.mem_map.mpr ⟨w, hs w hw, rfl⟩)⟩) hst
theorem J_if_eq {x : Int32} {off : Int} {tgt : Nat} (hd : decode cc pc = .ok (.ifCond .eq off, 3)) (ht : (pc : Int) + off = (tgt : Int)) (hq : pc + 3 = q) (kt : x = 0 → J G b cc own maxL d rc rs tgt lv st μ) (kf : ¬ x = 0 → J G b cc own maxL d rc rs q lv st μ) : J G b cc own maxL d rc rs pc lv (vi x :: st) μ := by
  subst hq
  intro p l e R s m args below meth c Qf H locs cells slots D Z ρ ρ0 B0 ls hG C hst
  exact lv_if_eq C.1 C.2.1 hd ht (fun h => kt h _ _ _ _ _ _ _ _ _ _ _ _ _ _ _ _ _ _ _ _ _ hG C hst.tl) (fun h => kf h _ _ _ _ _ _ _ _ _ _ _ _ _ _ _ _ _ _ _ _ _ hG C hst.tl)
theorem J_icmp_eq {x y : Int32} {off : Int} {tgt : Nat} (hd : decode cc pc = .ok (.if_icmp .eq off, 3)) (ht : (pc : Int) + off = (tgt : Int)) (hq : pc + 3 = q) (kt : x = y → J G b cc own maxL d rc rs tgt lv st μ) (kf : ¬ x = y → J G b cc own maxL d rc rs q lv st μ) : J G b cc own maxL d rc rs pc lv (vi y :: vi x :: st) μ := by
  subst hq
  intro p l e R s m args below meth c Qf H locs cells slots D Z ρ ρ0 B0 ls hG C hst
  exact lv_icmp_eq C.1 C.2.1 hd ht (fun h => kt h _ _ _ _ _ _ _ _ _ _ _ _ _ _ _ _ _ _ _ _ _ hG C hst.tl.tl) (fun h => kf h _ _ _ _ _ _ _ _ _ _ _ _ _ _ _ _ _ _ _ _ _ hG C hst.tl.tl)
theorem J_if_ne {x : Int32} {off : Int} {tgt : Nat} (hd : decode cc pc = .ok (.ifCond .ne off, 3)) (ht : (pc : Int) + off = (tgt : Int)) (hq : pc + 3 = q) (kt : ¬ x = 0 → J G b cc own maxL d rc rs tgt lv st μ) (kf : x = 0 → J G b cc own maxL d rc rs q lv st μ) : J G b cc own maxL d rc rs pc lv (vi x :: st) μ := by
  subst hq
  intro p l e R s m args below meth c Qf H locs cells slots D Z ρ ρ0 B0 ls hG C hst
  exact lv_if_ne C.1 C.2.1 hd ht (fun h => kt h _ _ _ _ _ _ _ _ _ _ _ _ _ _ _ _ _ _ _ _ _ hG C hst.tl) (fun h => kf h _ _ _ _ _ _ _ _ _ _ _ _ _ _ _ _ _ _ _ _ _ hG C hst.tl)
theorem J_icmp_ne {x y : Int32} {off : Int} {tgt : Nat} (hd : decode cc pc = .ok (.if_icmp .ne off, 3)) (ht : (pc : Int) + off = (tgt : Int)) (hq : pc + 3 = q) (kt : ¬ x = y → J G b cc own maxL d rc rs tgt lv st μ) (kf : x = y → J G b cc own maxL d rc rs q lv st μ) : J G b cc own maxL d rc rs pc lv (vi y :: vi x :: st) μ := by
  subst hq
  intro p l e R s m args below meth c Qf H locs cells slots D Z ρ ρ0 B0 ls hG C hst
  exact lv_icmp_ne C.1 C.2.1 hd ht (fun h => kt h _ _ _ _ _ _ _ _ _ _ _ _ _ _ _ _ _ _ _ _ _ hG C hst.tl.tl) (fun h => kf h _ _ _ _ _ _ _ _ _ _ _ _ _ _ _ _ _ _ _ _ _ hG C hst.tl.tl)
theorem J_if_lt {x : Int32} {off : Int} {tgt : Nat} (hd : decode cc pc = .ok (.ifCond .lt off, 3)) (ht : (pc : Int) + off = (tgt : Int)) (hq : pc + 3 = q) (kt : x < 0 → J G b cc own maxL d rc rs tgt lv st μ) (kf : ¬ x < 0 → J G b cc own maxL d rc rs q lv st μ) : J G b cc own maxL d rc rs pc lv (vi x :: st) μ := by
  subst hq
  intro p l e R s m args below meth c Qf H locs cells slots D Z ρ ρ0 B0 ls hG C hst
  exact lv_if_lt C.1 C.2.1 hd ht (fun h => kt h _ _ _ _ _ _ _ _ _ _ _ _ _ _ _ _ _ _ _ _ _ hG C hst.tl) (fun h => kf h _ _ _ _ _ _ _ _ _ _ _ _ _ _ _ _ _ _ _ _ _ hG C hst.tl)
theorem J_icmp_lt {x y : Int32} {off : Int} {tgt : Nat} (hd : decode cc pc = .ok (.if_icmp .lt off, 3)) (ht : (pc : Int) + off = (tgt : Int)) (hq : pc + 3 = q) (kt : x < y → J G b cc own maxL d rc rs tgt lv st μ) (kf : ¬ x < y → J G b cc own maxL d rc rs q lv st μ) : J G b cc own maxL d rc rs pc lv (vi y :: vi x :: st) μ := by
  subst hq
  intro p l e R s m args below meth c Qf H locs cells slots D Z ρ ρ0 B0 ls hG C hst
  exact lv_icmp_lt C.1 C.2.1 hd ht (fun h => kt h _ _ _ _ _ _ _ _ _ _ _ _ _ _ _ _ _ _ _ _ _ hG C hst.tl.tl) (fun h => kf h _ _ _ _ _ _ _ _ _ _ _ _ _ _ _ _ _ _ _ _ _ hG C hst.tl.tl)
theorem J_if_ge {x : Int32} {off : Int} {tgt : Nat} (hd : decode cc pc = .ok (.ifCond .ge off, 3)) (ht : (pc : Int) + off = (tgt : Int)) (hq : pc + 3 = q) (kt : 0 ≤ x → J G b cc own maxL d rc rs tgt lv st μ) (kf : ¬ 0 ≤ x → J G b cc own maxL d rc rs q lv st μ) : J G b cc own maxL d rc rs pc lv (vi x :: st) μ := by
  subst hq
  intro p l e R s m args below meth c Qf H locs cells slots D Z ρ ρ0 B0 ls hG C hst
  exact lv_if_ge C.1 C.2.1 hd ht (fun h => kt h _ _ _ _ _ _ _ _ _ _ _ _ _ _ _ _ _ _ _ _ _ hG C hst.tl) (fun h => kf h _ _ _ _ _ _ _ _ _ _ _ _ _ _ _ _ _ _ _ _ _ hG C hst.tl)
theorem J_icmp_ge {x y : Int32} {off : Int} {tgt : Nat} (hd : decode cc pc = .ok (.if_icmp .ge off, 3)) (ht : (pc : Int) + off = (tgt : Int)) (hq : pc + 3 = q) (kt : y ≤ x → J G b cc own maxL d rc rs tgt lv st μ) (kf : ¬ y ≤ x → J G b cc own maxL d rc rs q lv st μ) : J G b cc own maxL d rc rs pc lv (vi y :: vi x :: st) μ := by
  subst hq
  intro p l e R s m args below meth c Qf H locs cells slots D Z ρ ρ0 B0 ls hG C hst
  exact lv_icmp_ge C.1 C.2.1 hd ht (fun h => kt h _ _ _ _ _ _ _ _ _ _ _ _ _ _ _ _ _ _ _ _ _ hG C hst.tl.tl) (fun h => kf h _ _ _ _ _ _ _ _ _ _ _ _ _ _ _ _ _ _ _ _ _ hG C hst.tl.tl)
theorem J_if_gt {x : Int32} {off : Int} {tgt : Nat} (hd : decode cc pc = .ok (.ifCond .gt off, 3)) (ht : (pc : Int) + off = (tgt : Int)) (hq : pc + 3 = q) (kt : 0 < x → J G b cc own maxL d rc rs tgt lv st μ) (kf : ¬ 0 < x → J G b cc own maxL d rc rs q lv st μ) : J G b cc own maxL d rc rs pc lv (vi x :: st) μ := by
  subst hq
  intro p l e R s m args below meth c Qf H locs cells slots D Z ρ ρ0 B0 ls hG C hst
  exact lv_if_gt C.1 C.2.1 hd ht (fun h => kt h _ _ _ _ _ _ _ _ _ _ _ _ _ _ _ _ _ _ _ _ _ hG C hst.tl) (fun h => kf h _ _ _ _ _ _ _ _ _ _ _ _ _ _ _ _ _ _ _ _ _ hG C hst.tl)
theorem J_icmp_gt {x y : Int32} {off : Int} {tgt : Nat} (hd : decode cc pc = .ok (.if_icmp .gt off, 3)) (ht : (pc : Int) + off = (tgt : Int)) (hq : pc + 3 = q) (kt : y < x → J G b cc own maxL d rc rs tgt lv st μ) (kf : ¬ y < x → J G b cc own maxL d rc rs q lv st μ) : J G b cc own maxL d rc rs pc lv (vi y :: vi x :: st) μ := by
  subst hq
  intro p l e R s m args below meth c Qf H locs cells slots D Z ρ ρ0 B0 ls hG C hst
  exact lv_icmp_gt C.1 C.2.1 hd ht (fun h => kt h _ _ _ _ _ _ _ _ _ _ _ _ _ _ _ _ _ _ _ _ _ hG C hst.tl.tl) (fun h => kf h _ _ _ _ _ _ _ _ _ _ _ _ _ _ _ _ _ _ _ _ _ hG C hst.tl.tl)
theorem J_if_le {x : Int32} {off : Int} {tgt : Nat} (hd : decode cc pc = .ok (.ifCond .le off, 3)) (ht : (pc : Int) + off = (tgt : Int)) (hq : pc + 3 = q) (kt : x ≤ 0 → J G b cc own maxL d rc rs tgt lv st μ) (kf : ¬ x ≤ 0 → J G b cc own maxL d rc rs q lv st μ) : J G b cc own maxL d rc rs pc lv (vi x :: st) μ := by
  subst hq
  intro p l e R s m args below meth c Qf H locs cells slots D Z ρ ρ0 B0 ls hG C hst
  exact lv_if_le C.1 C.2.1 hd ht (fun h => kt h _ _ _ _ _ _ _ _ _ _ _ _ _ _ _ _ _ _ _ _ _ hG C hst.tl) (fun h => kf h _ _ _ _ _ _ _ _ _ _ _ _ _ _ _ _ _ _ _ _ _ hG C hst.tl)
theorem J_icmp_le {x y : Int32} {off : Int} {tgt : Nat} (hd : decode cc pc = .ok (.if_icmp .le off, 3)) (ht : (pc : Int) + off = (tgt : Int)) (hq : pc + 3 = q) (kt : x ≤ y → J G b cc own maxL d rc rs tgt lv st μ) (kf : ¬ x ≤ y → J G b cc own maxL d rc rs q lv st μ) : J G b cc own maxL d rc rs pc lv (vi y :: vi x :: st) μ := by
  subst hq
  intro p l e R s m args below meth c Qf H locs cells slots D Z ρ ρ0 B0 ls hG C hst
  exact lv_icmp_le C.1 C.2.1 hd ht (fun h => kt h _ _ _ _ _ _ _ _ _ _ _ _ _ _ _ _ _ _ _ _ _ hG C hst.tl.tl) (fun h => kf h _ _ _ _ _ _ _ _ _ _ _ _ _ _ _ _ _ _ _ _ _ hG C hst.tl.tl)
theorem lc_eq {x y : Int64} : lg_cmp x y = 0 ↔ x = y := by
  unfold lg_cmp
  split
  · rename_i h; constructor
    · intro q; exact absurd q (by decide)
    · rintro rfl; exact absurd h Int64.lt_irrefl
  · split
    · rename_i h; simp [h]
    · rename_i h; constructor
      · intro q; exact absurd q (by decide)
      · intro q; exact absurd q h
theorem lc_lt {x y : Int64} : lg_cmp x y < 0 ↔ x < y := by
  unfold lg_cmp
  split
  · rename_i h; constructor
    · intro q; exact absurd q (by decide)
    · intro q; exact absurd (Int64.lt_trans h q) Int64.lt_irrefl
  · split
    · rename_i h; subst h; constructor
      · intro q; exact absurd q (by decide)
      · intro q; exact absurd q Int64.lt_irrefl
    · rename_i h1 h2; constructor
      · intro _
        have h3 := Int64.not_lt.mp h1
        exact Int64.lt_of_le_of_ne h3 h2
      · intro _; decide
theorem lc_gt {x y : Int64} : 0 < lg_cmp x y ↔ y < x := by
  unfold lg_cmp
  split
  · rename_i h; constructor
    · intro _; exact h
    · intro _; decide
  · split
    · rename_i h; subst h; constructor
      · intro q; exact absurd q (by decide)
      · intro q; exact absurd q Int64.lt_irrefl
    · rename_i h1 h2; constructor
      · intro q; exact absurd q (by decide)
      · intro q; exact absurd q h1
theorem lc_ge {x y : Int64} : 0 ≤ lg_cmp x y ↔ y ≤ x := by
  rw [← Int32.not_lt, ← Int64.not_lt, lc_lt]
theorem lc_le {x y : Int64} : lg_cmp x y ≤ 0 ↔ x ≤ y := by
  rw [← Int32.not_lt, ← Int64.not_lt, lc_gt]
theorem J_lif_eq {x y : Int64} {off : Int} {tgt : Nat} (hd1 : decode cc pc = .ok (.lcmp, 1)) (hd : decode cc (pc + 1) = .ok (.ifCond .eq off, 3)) (ht : ((pc + 1 : Nat) : Int) + off = (tgt : Int)) (hq : pc + 1 + 3 = q) (kt : x = y → J G b cc own maxL d rc rs tgt lv st μ) (kf : ¬ x = y → J G b cc own maxL d rc rs q lv st μ) : J G b cc own maxL d rc rs pc lv (vl y :: vl x :: st) μ := by
  subst hq
  intro p l e R s m args below meth c Qf H locs cells slots D Z ρ ρ0 B0 ls hG C hst
  exact W.lcmp C.1 C.2.1 hd1 (lv_if_eq C.1 C.2.1 hd ht (fun h => kt (lc_eq.mp h) _ _ _ _ _ _ _ _ _ _ _ _ _ _ _ _ _ _ _ _ _ hG C hst.tl.tl) (fun h => kf (fun z => h (lc_eq.mpr z)) _ _ _ _ _ _ _ _ _ _ _ _ _ _ _ _ _ _ _ _ _ hG C hst.tl.tl))
theorem J_lif_ne {x y : Int64} {off : Int} {tgt : Nat} (hd1 : decode cc pc = .ok (.lcmp, 1)) (hd : decode cc (pc + 1) = .ok (.ifCond .ne off, 3)) (ht : ((pc + 1 : Nat) : Int) + off = (tgt : Int)) (hq : pc + 1 + 3 = q) (kt : ¬ x = y → J G b cc own maxL d rc rs tgt lv st μ) (kf : x = y → J G b cc own maxL d rc rs q lv st μ) : J G b cc own maxL d rc rs pc lv (vl y :: vl x :: st) μ := by
  subst hq
  intro p l e R s m args below meth c Qf H locs cells slots D Z ρ ρ0 B0 ls hG C hst
  exact W.lcmp C.1 C.2.1 hd1 (lv_if_ne C.1 C.2.1 hd ht (fun h => kt (fun z => h (lc_eq.mpr z)) _ _ _ _ _ _ _ _ _ _ _ _ _ _ _ _ _ _ _ _ _ hG C hst.tl.tl) (fun h => kf (lc_eq.mp h) _ _ _ _ _ _ _ _ _ _ _ _ _ _ _ _ _ _ _ _ _ hG C hst.tl.tl))
theorem J_lif_lt {x y : Int64} {off : Int} {tgt : Nat} (hd1 : decode cc pc = .ok (.lcmp, 1)) (hd : decode cc (pc + 1) = .ok (.ifCond .lt off, 3)) (ht : ((pc + 1 : Nat) : Int) + off = (tgt : Int)) (hq : pc + 1 + 3 = q) (kt : x < y → J G b cc own maxL d rc rs tgt lv st μ) (kf : ¬ x < y → J G b cc own maxL d rc rs q lv st μ) : J G b cc own maxL d rc rs pc lv (vl y :: vl x :: st) μ := by
  subst hq
  intro p l e R s m args below meth c Qf H locs cells slots D Z ρ ρ0 B0 ls hG C hst
  exact W.lcmp C.1 C.2.1 hd1 (lv_if_lt C.1 C.2.1 hd ht (fun h => kt (lc_lt.mp h) _ _ _ _ _ _ _ _ _ _ _ _ _ _ _ _ _ _ _ _ _ hG C hst.tl.tl) (fun h => kf (fun z => h (lc_lt.mpr z)) _ _ _ _ _ _ _ _ _ _ _ _ _ _ _ _ _ _ _ _ _ hG C hst.tl.tl))
theorem J_lif_ge {x y : Int64} {off : Int} {tgt : Nat} (hd1 : decode cc pc = .ok (.lcmp, 1)) (hd : decode cc (pc + 1) = .ok (.ifCond .ge off, 3)) (ht : ((pc + 1 : Nat) : Int) + off = (tgt : Int)) (hq : pc + 1 + 3 = q) (kt : y ≤ x → J G b cc own maxL d rc rs tgt lv st μ) (kf : ¬ y ≤ x → J G b cc own maxL d rc rs q lv st μ) : J G b cc own maxL d rc rs pc lv (vl y :: vl x :: st) μ := by
  subst hq
  intro p l e R s m args below meth c Qf H locs cells slots D Z ρ ρ0 B0 ls hG C hst
  exact W.lcmp C.1 C.2.1 hd1 (lv_if_ge C.1 C.2.1 hd ht (fun h => kt (lc_ge.mp h) _ _ _ _ _ _ _ _ _ _ _ _ _ _ _ _ _ _ _ _ _ hG C hst.tl.tl) (fun h => kf (fun z => h (lc_ge.mpr z)) _ _ _ _ _ _ _ _ _ _ _ _ _ _ _ _ _ _ _ _ _ hG C hst.tl.tl))
theorem J_lif_gt {x y : Int64} {off : Int} {tgt : Nat} (hd1 : decode cc pc = .ok (.lcmp, 1)) (hd : decode cc (pc + 1) = .ok (.ifCond .gt off, 3)) (ht : ((pc + 1 : Nat) : Int) + off = (tgt : Int)) (hq : pc + 1 + 3 = q) (kt : y < x → J G b cc own maxL d rc rs tgt lv st μ) (kf : ¬ y < x → J G b cc own maxL d rc rs q lv st μ) : J G b cc own maxL d rc rs pc lv (vl y :: vl x :: st) μ := by
  subst hq
  intro p l e R s m args below meth c Qf H locs cells slots D Z ρ ρ0 B0 ls hG C hst
  exact W.lcmp C.1 C.2.1 hd1 (lv_if_gt C.1 C.2.1 hd ht (fun h => kt (lc_gt.mp h) _ _ _ _ _ _ _ _ _ _ _ _ _ _ _ _ _ _ _ _ _ hG C hst.tl.tl) (fun h => kf (fun z => h (lc_gt.mpr z)) _ _ _ _ _ _ _ _ _ _ _ _ _ _ _ _ _ _ _ _ _ hG C hst.tl.tl))
theorem J_lif_le {x y : Int64} {off : Int} {tgt : Nat} (hd1 : decode cc pc = .ok (.lcmp, 1)) (hd : decode cc (pc + 1) = .ok (.ifCond .le off, 3)) (ht : ((pc + 1 : Nat) : Int) + off = (tgt : Int)) (hq : pc + 1 + 3 = q) (kt : x ≤ y → J G b cc own maxL d rc rs tgt lv st μ) (kf : ¬ x ≤ y → J G b cc own maxL d rc rs q lv st μ) : J G b cc own maxL d rc rs pc lv (vl y :: vl x :: st) μ := by
  subst hq
  intro p l e R s m args below meth c Qf H locs cells slots D Z ρ ρ0 B0 ls hG C hst
  exact W.lcmp C.1 C.2.1 hd1 (lv_if_le C.1 C.2.1 hd ht (fun h => kt (lc_le.mp h) _ _ _ _ _ _ _ _ _ _ _ _ _ _ _ _ _ _ _ _ _ hG C hst.tl.tl) (fun h => kf (fun z => h (lc_le.mpr z)) _ _ _ _ _ _ _ _ _ _ _ _ _ _ _ _ _ _ _ _ _ hG C hst.tl.tl))
theorem J_goto {off : Int} (hd : decode cc pc = .ok (.goto off, 3)) (ht : (pc : Int) + off = (q : Int)) (k : J G b cc own maxL d rc rs q lv st μ) : J G b cc own maxL d rc rs pc lv st μ := by
  intro p l e R s m args below meth c Qf H locs cells slots D Z ρ ρ0 B0 ls hG C hst
  exact lv_goto C.1 C.2.1 hd ht (k _ _ _ _ _ _ _ _ _ _ _ _ _ _ _ _ _ _ _ _ _ hG C hst)
theorem J_ifnull {o : Option (Nat × Nat)} {off : Int} {tgt : Nat} (hd : decode cc pc = .ok (.ifnull off, 3)) (ht : (pc : Int) + off = (tgt : Int)) (hq : pc + 3 = q) (kt : o = none → J G b cc own maxL d rc rs tgt lv st μ) (kf : ∀ z, o = some z → J G b cc own maxL d rc rs q lv st μ) : J G b cc own maxL d rc rs pc lv ((Sum.inr (Sum.inr o) : AV) :: st) μ := by
  subst hq
  intro p l e R s m args below meth c Qf H locs cells slots D Z ρ ρ0 B0 ls hG C hst
  cases o with
  | none => exact lv_ifnullN C.1 C.2.1 hd ht (kt rfl _ _ _ _ _ _ _ _ _ _ _ _ _ _ _ _ _ _ _ _ _ hG C hst.tl)
  | some z => exact lv_ifnull C.1 C.2.1 hd (kf z rfl _ _ _ _ _ _ _ _ _ _ _ _ _ _ _ _ _ _ _ _ _ hG C hst.tl)
theorem J_ifnonnull {o : Option (Nat × Nat)} {off : Int} {tgt : Nat} (hd : decode cc pc = .ok (.ifnonnull off, 3)) (ht : (pc : Int) + off = (tgt : Int)) (hq : pc + 3 = q) (kt : ∀ z, o = some z → J G b cc own maxL d rc rs tgt lv st μ) (kf : o = none → J G b cc own maxL d rc rs q lv st μ) : J G b cc own maxL d rc rs pc lv ((Sum.inr (Sum.inr o) : AV) :: st) μ := by
  subst hq
  intro p l e R s m args below meth c Qf H locs cells slots D Z ρ ρ0 B0 ls hG C hst
  cases o with
  | none => exact lv_ifnonnullN C.1 C.2.1 hd (kf rfl _ _ _ _ _ _ _ _ _ _ _ _ _ _ _ _ _ _ _ _ _ hG C hst.tl)
  | some z => exact lv_ifnonnull C.1 C.2.1 hd ht (kt z rfl _ _ _ _ _ _ _ _ _ _ _ _ _ _ _ _ _ _ _ _ _ hG C hst.tl)
theorem J_swOut {dflt lo hi : Int} {offs : Array Int} {len : Nat} {x : Int32} {tgt : Nat} (hd : decode cc pc = .ok (.tableswitch dflt lo hi offs, len)) (h : x.toInt < lo ∨ hi < x.toInt) (ht : (pc : Int) + dflt = (tgt : Int)) (k : J G b cc own maxL d rc rs tgt lv st μ) : J G b cc own maxL d rc rs pc lv (vi x :: st) μ := by
  intro p l e R s m args below meth c Qf H locs cells slots D Z ρ ρ0 B0 ls hG C hst
  exact lv_tableOut C.1 C.2.1 hd h ht (k _ _ _ _ _ _ _ _ _ _ _ _ _ _ _ _ _ _ _ _ _ hG C hst.tl)
theorem J_swIn {dflt lo hi : Int} {offs : Array Int} {len : Nat} {x : Int32} {off : Int} {tgt : Nat} (hd : decode cc pc = .ok (.tableswitch dflt lo hi offs, len)) (h1 : ¬ x.toInt < lo) (h2 : ¬ hi < x.toInt) (ho : offs[(x.toInt - lo).toNat]? = some off) (ht : (pc : Int) + off = (tgt : Int)) (k : J G b cc own maxL d rc rs tgt lv st μ) : J G b cc own maxL d rc rs pc lv (vi x :: st) μ := by
  intro p l e R s m args below meth c Qf H locs cells slots D Z ρ ρ0 B0 ls hG C hst
  exact lv_tableIn C.1 C.2.1 hd h1 h2 ho ht (k _ _ _ _ _ _ _ _ _ _ _ _ _ _ _ _ _ _ _ _ _ hG C hst.tl)
theorem J_swL {dflt : Int} {ps : Array (Int × Int)} {len : Nat} {x : Int32} {off : Int} {tgt : Nat} (hd : decode cc pc = .ok (.lookupswitch dflt ps, len)) (hp : (ps.toList.zip (ps.toList.drop 1)).all (fun (a, next) => a.1 < next.1) = true) (ho : Op.lookupswitch.offset ps.toList dflt x.toInt = off) (ht : (pc : Int) + off = (tgt : Int)) (k : J G b cc own maxL d rc rs tgt lv st μ) : J G b cc own maxL d rc rs pc lv (vi x :: st) μ := by
  intro p l e R s m args below meth c Qf H locs cells slots D Z ρ ρ0 B0 ls hG C hst
  exact lv_lookup C.1 C.2.1 hd hp ho ht (k _ _ _ _ _ _ _ _ _ _ _ _ _ _ _ _ _ _ _ _ _ hG C hst.tl)
end JR
