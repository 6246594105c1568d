def ap {α β : Type} (x : α) (f : α → β) : β := f x
theorem ap_eq {α β : Type} {x : α} {f : α → β} {y : β} (h : ap x f = y) : ∃ a, a = x ∧ f a = y := ⟨x, rfl, h⟩
theorem bd_some {α β : Type} {x : Option α} {f : α → Option β} {y : β} (h : x.bind f = some y) : ∃ a, x = some a ∧ f a = some y := by
  cases x with
  | none => cases h
  | some a => exact ⟨a, rfl, h⟩
def gu {α : Type} (i : Int32) (n : Nat) (x : Option α) : Option α := if 0 ≤ i.toInt ∧ i.toInt < (n : Int) then x else none
theorem gu_some {α : Type} {i : Int32} {n : Nat} {x : Option α} {y : α} (h : gu i n x = some y) : (0 ≤ i.toInt ∧ i.toInt < (n : Int)) ∧ x = some y := by
  unfold gu at h
  split at h
  · rename_i c; exact ⟨c, h⟩
  · cases h
def gz {α : Type} (y : Int32) (x : Option α) : Option α := if y = 0 then none else x
theorem gz_some {α : Type} {i : Int32} {x : Option α} {y : α} (h : gz i x = some y) : ¬ i = 0 ∧ x = some y := by
  unfold gz at h
  split at h
  · cases h
  · rename_i c; exact ⟨c, h⟩
def gzl {α : Type} (y : Int64) (x : Option α) : Option α := if y = 0 then none else x
theorem gzl_some {α : Type} {i : Int64} {x : Option α} {y : α} (h : gzl i x = some y) : ¬ i = 0 ∧ x = some y := by
  unfold gzl at h
  split at h
  · cases h
  · rename_i c; exact ⟨c, h⟩
/-- System.arraycopy's conditions -/
def gcp {α : Type} (sp dp m : Int32) (n : Nat) (x : Option α) : Option α := if (¬ sp < 0 ∧ ¬ dp < 0 ∧ ¬ m < 0) ∧ sp.toNatClampNeg + m.toNatClampNeg ≤ n ∧ dp.toNatClampNeg + m.toNatClampNeg ≤ n then x else none
theorem gcp_some {α : Type} {sp dp m : Int32} {n : Nat} {x : Option α} {y : α} (h : gcp sp dp m n x = some y) : ((¬ sp < 0 ∧ ¬ dp < 0 ∧ ¬ m < 0) ∧ sp.toNatClampNeg + m.toNatClampNeg ≤ n ∧ dp.toNatClampNeg + m.toNatClampNeg ≤ n) ∧ x = some y := by
  unfold gcp at h
  split at h
  · rename_i c; exact ⟨c, h⟩
  · cases h
def b2i (B : Bool) : Int32 := if B then 1 else 0
theorem b2i01 (B : Bool) : b2i B = 0 ∨ b2i B = 1 := by cases B <;> simp [b2i]
theorem b2i_f {B : Bool} (h : b2i B = 0) : B = false := by cases B with | false => rfl | true => exact absurd h (by decide)
theorem b2i_t {B : Bool} (h : ¬ b2i B = 0) : B = true := by cases B with | true => rfl | false => exact absurd rfl h
def zb (x : Int32) : Option Bool := if x = 0 then some false else if x = 1 then some true else none
theorem zb_some {x : Int32} {α : Type} {f : Bool → Option α} {y : α} (h : (zb x).bind f = some y) : ∃ B, x = b2i B ∧ f B = some y := by
  unfold zb at h
  split at h
  · rename_i c; exact ⟨false, c, h⟩
  · split at h
    · rename_i c; exact ⟨true, c, h⟩
    · cases h
def z01 {α : Type} (x : Int32) (y : Option α) : Option α := if x = 0 ∨ x = 1 then y else none
theorem z01_some {α : Type} {i : Int32} {x : Option α} {y : α} (h : z01 i x = some y) : (i = 0 ∨ i = 1) ∧ x = some y := by
  unfold z01 at h
  split at h
  · rename_i c; exact ⟨c, h⟩
  · cases h
theorem iB_f {B : Bool} (hc : B = false) {α : Type} (x y : α) : (if B = true then x else y) = y := by subst hc; rfl
theorem iB_t {B : Bool} (hc : B = true) {α : Type} (x y : α) : (if B = true then x else y) = x := by subst hc; rfl
def oc {α β : Type} (o : Option α) (a : β) (f : α → β) : β := match o with
  | none => a
  | some y => f y
theorem oc_none {α β : Type} (a : β) (f : α → β) : oc none a f = a := rfl
theorem oc_some {α β : Type} (y : α) (a : β) (f : α → β) : oc (some y) a f = f y := rfl
def FU : Nat := 100000
section J8
variable {G : GT} {b : Bool} {cc : ByteArray} {own : String} {maxL d rc rs pc q : Nat} {lv : List (Nat × AV)} {st : List AV} {μ : Mem}
theorem J_nmI {x e : Int32} (h : x = e) (k : J G b cc own maxL d rc rs pc lv (vi x :: st) μ) : J G b cc own maxL d rc rs pc lv (vi e :: st) μ := by subst h; exact k
theorem J_nmL {x e : Int64} (h : x = e) (k : J G b cc own maxL d rc rs pc lv (vl x :: st) μ) : J G b cc own maxL d rc rs pc lv (vl e :: st) μ := by subst h; exact k
theorem J_nmO {x e : Option Nat} {k9 : Nat} (h : x = e) (k : J G b cc own maxL d rc rs pc lv (vo k9 x :: st) μ) : J G b cc own maxL d rc rs pc lv (vo k9 e :: st) μ := by subst h; exact k
theorem J_nmM {x e : Mem} (h : x = e) (k : J G b cc own maxL d rc rs pc lv st x) : J G b cc own maxL d rc rs pc lv st e := by subst h; exact k
theorem J_pick {lv' : List (Nat × AV)} (ks : List Nat) (hp : ks.filterMap (fun k => lv[k]?) = lv') (k : J G b cc own maxL d rc rs pc lv' st μ) : J G b cc own maxL d rc rs pc lv st μ := by
  refine J_sub (fun z hz => ?_) k
  rw [← hp] at hz
  obtain ⟨i, -, hi⟩ := List.mem_filterMap.mp hz
  exact List.mem_of_getElem? hi
theorem J_ifB_eq {B : Bool} {off : Int} {tgt : Nat} (hd : decode cc pc = .ok (.ifCond .eq off, 3)) (ht : (pc : Int) + off = (tgt : Int)) (hq : pc + 3 = q) (kt : B = false → J G b cc own maxL d rc rs tgt lv st μ) (kf : B = true → J G b cc own maxL d rc rs q lv st μ) : J G b cc own maxL d rc rs pc lv (vi (b2i B) :: st) μ := J_if_eq hd ht hq (fun h => kt (b2i_f h)) (fun h => kf (b2i_t h))
theorem J_ifB_ne {B : Bool} {off : Int} {tgt : Nat} (hd : decode cc pc = .ok (.ifCond .ne off, 3)) (ht : (pc : Int) + off = (tgt : Int)) (hq : pc + 3 = q) (kt : B = true → J G b cc own maxL d rc rs tgt lv st μ) (kf : B = false → J G b cc own maxL d rc rs q lv st μ) : J G b cc own maxL d rc rs pc lv (vi (b2i B) :: st) μ := J_if_ne hd ht hq (fun h => kt (b2i_t h)) (fun h => kf (b2i_f h))
theorem J_nullO {x : Option Nat} {k9 : Nat} {off : Int} {tgt : Nat} (hd : decode cc pc = .ok (.ifnull off, 3)) (ht : (pc : Int) + off = (tgt : Int)) (hq : pc + 3 = q) (kt : x = none → J G b cc own maxL d rc rs tgt lv st μ) (kf : ∀ y, x = some y → J G b cc own maxL d rc rs q lv st μ) : J G b cc own maxL d rc rs pc lv (vo k9 x :: st) μ :=
  J_ifnull hd ht hq (fun h => kt (by cases x with | none => rfl | some y => cases h)) (fun z h => by cases x with | none => cases h | some y => exact kf y rfl)
theorem J_nonnullO {x : Option Nat} {k9 : Nat} {off : Int} {tgt : Nat} (hd : decode cc pc = .ok (.ifnonnull off, 3)) (ht : (pc : Int) + off = (tgt : Int)) (hq : pc + 3 = q) (kt : ∀ y, x = some y → J G b cc own maxL d rc rs tgt lv st μ) (kf : x = none → J G b cc own maxL d rc rs q lv st μ) : J G b cc own maxL d rc rs pc lv (vo k9 x :: st) μ :=
  J_ifnonnull hd ht hq (fun z h => by cases x with | none => cases h | some y => exact kt y rfl) (fun h => kf (by cases x with | none => rfl | some y => cases h))
theorem J_callSq {y : MethodName} {cy : ByteArray} {mL D0 mc ms i : Nat} {ret : Option FieldType} {as : List AV} {n : Nat} {ν : Mem} {v : AV} (hstat : Cond.static y ∈ gw) (hM : JM b D0 y cy mL ret mc ms as μ (QQ (some v) ν)) (hD : D0 + 1 ≤ d) (hmL : mL ≤ 41) (hl : Cond.methodLink own i y ∈ gw) (hcode : Cond.code y cy mL ret ∈ gw) (hini : Cond.initialized y.cls ∈ gw) (hy : y.cls ≠ "java/lang/invoke/MethodHandle" ∧ y.cls ≠ "java/lang/invoke/VarHandle" ∧ (parseMethodDescriptor y.desc).map (fun d => d.parameters.length) = some n) (hn : as.length = n) (h8 : (st.map catA).sum ≤ 8) (hd : decode cc pc = .ok (.invokestatic i, 3)) (hq : pc + 3 = q) (k0 : J G b cc own maxL d rc rs q lv (v :: st) ν) : J G b cc own maxL d (mc + rc) (ms + rs) pc lv (as.reverse ++ st) μ :=
  J_callS hstat hM hD hmL hl hcode hini hy hn h8 hd hq (fun v9 ν9 h9 => by obtain ⟨rfl, rfl⟩ := h9; exact k0)
theorem J_callSv {y : MethodName} {cy : ByteArray} {mL D0 mc ms i : Nat} {ret : Option FieldType} {as : List AV} {n : Nat} {ν : Mem} (hstat : Cond.static y ∈ gw) (hM : JM b D0 y cy mL ret mc ms as μ (QQ none ν)) (hD : D0 + 1 ≤ d) (hmL : mL ≤ 41) (hl : Cond.methodLink own i y ∈ gw) (hcode : Cond.code y cy mL ret ∈ gw) (hini : Cond.initialized y.cls ∈ gw) (hy : y.cls ≠ "java/lang/invoke/MethodHandle" ∧ y.cls ≠ "java/lang/invoke/VarHandle" ∧ (parseMethodDescriptor y.desc).map (fun d => d.parameters.length) = some n) (hn : as.length = n) (h8 : (st.map catA).sum ≤ 8) (hd : decode cc pc = .ok (.invokestatic i, 3)) (hq : pc + 3 = q) (k0 : J G b cc own maxL d rc rs q lv st ν) : J G b cc own maxL d (mc + rc) (ms + rs) pc lv (as.reverse ++ st) μ :=
  J_callS hstat hM hD hmL hl hcode hini hy hn h8 hd hq (fun v9 ν9 h9 => by obtain ⟨rfl, rfl⟩ := h9; exact k0)
theorem J_callSNq {y : MethodName} {cy : ByteArray} {mL D0 mc ms i : Nat} {ret : Option FieldType} {as : List AV} {n : Nat} {ν : Mem} {v : AV} (hstat : Cond.static y ∈ gw) (hM : JM b D0 y cy mL ret mc ms as μ (QQ (some v) ν)) (hD : D0 + 1 ≤ d) (hmL : mL ≤ 41) {host : String} (hnl : Cond.methodLinkNest own i y host ∈ nws) (hcode : Cond.code y cy mL ret ∈ gw) (hini : Cond.initialized y.cls ∈ gw) (hy : y.cls ≠ "java/lang/invoke/MethodHandle" ∧ y.cls ≠ "java/lang/invoke/VarHandle" ∧ (parseMethodDescriptor y.desc).map (fun d => d.parameters.length) = some n) (hn : as.length = n) (h8 : (st.map catA).sum ≤ 8) (hd : decode cc pc = .ok (.invokestatic i, 3)) (hq : pc + 3 = q) (k0 : J G b cc own maxL d rc rs q lv (v :: st) ν) : J G b cc own maxL d (mc + rc) (ms + rs) pc lv (as.reverse ++ st) μ :=
  J_callSN hstat hM hD hmL hnl hcode hini hy hn h8 hd hq (fun v9 ν9 h9 => by obtain ⟨rfl, rfl⟩ := h9; exact k0)
theorem J_callSNv {y : MethodName} {cy : ByteArray} {mL D0 mc ms i : Nat} {ret : Option FieldType} {as : List AV} {n : Nat} {ν : Mem} (hstat : Cond.static y ∈ gw) (hM : JM b D0 y cy mL ret mc ms as μ (QQ none ν)) (hD : D0 + 1 ≤ d) (hmL : mL ≤ 41) {host : String} (hnl : Cond.methodLinkNest own i y host ∈ nws) (hcode : Cond.code y cy mL ret ∈ gw) (hini : Cond.initialized y.cls ∈ gw) (hy : y.cls ≠ "java/lang/invoke/MethodHandle" ∧ y.cls ≠ "java/lang/invoke/VarHandle" ∧ (parseMethodDescriptor y.desc).map (fun d => d.parameters.length) = some n) (hn : as.length = n) (h8 : (st.map catA).sum ≤ 8) (hd : decode cc pc = .ok (.invokestatic i, 3)) (hq : pc + 3 = q) (k0 : J G b cc own maxL d rc rs q lv st ν) : J G b cc own maxL d (mc + rc) (ms + rs) pc lv (as.reverse ++ st) μ :=
  J_callSN hstat hM hD hmL hnl hcode hini hy hn h8 hd hq (fun v9 ν9 h9 => by obtain ⟨rfl, rfl⟩ := h9; exact k0)
theorem J_callVq {y : MethodName} {cy : ByteArray} {mL D0 mc ms i : Nat} {ret : Option FieldType} {as : List AV} {n : Nat} {ν : Mem} {v : AV} {k l N : Nat} {T : u_T} (h13 : k < 13) (hcl : classes[k]? = some (y.cls, T, N)) (hinst : Cond.instanceMethod y ∈ gw) (hsel : Cond.selects y.cls y y ∈ gw) (hM : JM b D0 y cy mL ret mc ms (vr k l :: as) μ (QQ (some v) ν)) (hD : D0 + 1 ≤ d) (hmL : mL ≤ 41) (hl : Cond.methodLink own i y ∈ gw) (hcode : Cond.code y cy mL ret ∈ gw) (hini : Cond.initialized y.cls ∈ gw) (hy : y.cls ≠ "java/lang/invoke/MethodHandle" ∧ y.cls ≠ "java/lang/invoke/VarHandle" ∧ (parseMethodDescriptor y.desc).map (fun d => d.parameters.length) = some n) (hn : as.length = n) (h8 : (st.map catA).sum ≤ 8) (hd : decode cc pc = .ok (.invokevirtual i, 3)) (hq : pc + 3 = q) (k0 : J G b cc own maxL d rc rs q lv (v :: st) ν) : J G b cc own maxL d (mc + rc) (ms + rs) pc lv (as.reverse ++ (vr k l :: st)) μ :=
  J_callV h13 hcl hinst hsel hM hD hmL hl hcode hini hy hn h8 hd hq (fun v9 ν9 h9 => by obtain ⟨rfl, rfl⟩ := h9; exact k0)
theorem J_callVv {y : MethodName} {cy : ByteArray} {mL D0 mc ms i : Nat} {ret : Option FieldType} {as : List AV} {n : Nat} {ν : Mem} {k l N : Nat} {T : u_T} (h13 : k < 13) (hcl : classes[k]? = some (y.cls, T, N)) (hinst : Cond.instanceMethod y ∈ gw) (hsel : Cond.selects y.cls y y ∈ gw) (hM : JM b D0 y cy mL ret mc ms (vr k l :: as) μ (QQ none ν)) (hD : D0 + 1 ≤ d) (hmL : mL ≤ 41) (hl : Cond.methodLink own i y ∈ gw) (hcode : Cond.code y cy mL ret ∈ gw) (hini : Cond.initialized y.cls ∈ gw) (hy : y.cls ≠ "java/lang/invoke/MethodHandle" ∧ y.cls ≠ "java/lang/invoke/VarHandle" ∧ (parseMethodDescriptor y.desc).map (fun d => d.parameters.length) = some n) (hn : as.length = n) (h8 : (st.map catA).sum ≤ 8) (hd : decode cc pc = .ok (.invokevirtual i, 3)) (hq : pc + 3 = q) (k0 : J G b cc own maxL d rc rs q lv st ν) : J G b cc own maxL d (mc + rc) (ms + rs) pc lv (as.reverse ++ (vr k l :: st)) μ :=
  J_callV h13 hcl hinst hsel hM hD hmL hl hcode hini hy hn h8 hd hq (fun v9 ν9 h9 => by obtain ⟨rfl, rfl⟩ := h9; exact k0)
theorem J_callIv {y : MethodName} {cy : ByteArray} {mL D0 mc ms i : Nat} {as : List AV} {n : Nat} {ν : Mem} {k l : Nat} (hk9 : k < 900) (hinst : Cond.instanceMethod y ∈ gw) (hy1 : y.name = "<init>") (hM : JM b D0 y cy mL none mc ms (vr k l :: as) μ (QQ none ν)) (hD : D0 + 1 ≤ d) (hmL : mL ≤ 41) (hl : Cond.methodLink own i y ∈ gw) (hcode : Cond.code y cy mL none ∈ gw) (hini : Cond.initialized y.cls ∈ gw) (hy : y.cls ≠ "java/lang/invoke/MethodHandle" ∧ y.cls ≠ "java/lang/invoke/VarHandle" ∧ (parseMethodDescriptor y.desc).map (fun d => d.parameters.length) = some n) (hn : as.length = n) (h8 : (st.map catA).sum ≤ 8) (hd : decode cc pc = .ok (.invokespecial i, 3)) (hq : pc + 3 = q) (k0 : J G b cc own maxL d rc rs q lv st ν) : J G b cc own maxL d (mc + rc) (ms + rs) pc lv (as.reverse ++ (vr k l :: st)) μ :=
  J_callI hk9 hinst hy1 hM hD hmL hl hcode hini hy hn h8 hd hq (fun v9 ν9 h9 => by obtain ⟨rfl, rfl⟩ := h9; exact k0)
theorem J_callINv {y : MethodName} {cy : ByteArray} {mL D0 mc ms i : Nat} {as : List AV} {n : Nat} {ν : Mem} {k l : Nat} (hk9 : k < 900) (hinst : Cond.instanceMethod y ∈ gw) (hy1 : y.name = "<init>") (hM : JM b D0 y cy mL none mc ms (vr k l :: as) μ (QQ none ν)) (hD : D0 + 1 ≤ d) (hmL : mL ≤ 41) {host : String} (hnl : Cond.methodLinkNest own i y host ∈ nws) (hcode : Cond.code y cy mL none ∈ gw) (hini : Cond.initialized y.cls ∈ gw) (hy : y.cls ≠ "java/lang/invoke/MethodHandle" ∧ y.cls ≠ "java/lang/invoke/VarHandle" ∧ (parseMethodDescriptor y.desc).map (fun d => d.parameters.length) = some n) (hn : as.length = n) (h8 : (st.map catA).sum ≤ 8) (hd : decode cc pc = .ok (.invokespecial i, 3)) (hq : pc + 3 = q) (k0 : J G b cc own maxL d rc rs q lv st ν) : J G b cc own maxL d (mc + rc) (ms + rs) pc lv (as.reverse ++ (vr k l :: st)) μ :=
  J_callIN hk9 hinst hy1 hM hD hmL hnl hcode hini hy hn h8 hd hq (fun v9 ν9 h9 => by obtain ⟨rfl, rfl⟩ := h9; exact k0)
end J8
theorem iw_0 : ∀ w ∈ u_ws R_0 T_0 6, w ∈ gw := by
  intro w hw
  obtain ⟨k, hk, rfl⟩ := List.mem_map.mp hw
  have hk := List.mem_range.mp hk
  match k, hk with
  | 0, _ => exact g_179
  | 1, _ => exact g_181
  | 2, _ => exact g_183
  | 3, _ => exact g_185
  | 4, _ => exact g_187
  | 5, _ => exact g_189
  | k + 6, h => exact absurd h (by omega)
theorem cd_0 : CD 0 R_0 T_0 6 := ⟨by decide, rfl, rfl, iw_0, ⟨ty_0, tyok_0⟩, nm_0⟩
theorem iw_1 : ∀ w ∈ u_ws R_1 T_1 7, w ∈ gw := by
  intro w hw
  obtain ⟨k, hk, rfl⟩ := List.mem_map.mp hw
  have hk := List.mem_range.mp hk
  match k, hk with
  | 0, _ => exact g_42
  | 1, _ => exact g_44
  | 2, _ => exact g_46
  | 3, _ => exact g_48
  | 4, _ => exact g_50
  | 5, _ => exact g_52
  | 6, _ => exact g_54
  | k + 7, h => exact absurd h (by omega)
theorem cd_1 : CD 1 R_1 T_1 7 := ⟨by decide, rfl, rfl, iw_1, ⟨ty_1, tyok_1⟩, nm_1⟩
theorem iw_2 : ∀ w ∈ u_ws R_2 T_2 9, w ∈ gw := by
  intro w hw
  obtain ⟨k, hk, rfl⟩ := List.mem_map.mp hw
  have hk := List.mem_range.mp hk
  match k, hk with
  | 0, _ => exact g_118
  | 1, _ => exact g_120
  | 2, _ => exact g_122
  | 3, _ => exact g_124
  | 4, _ => exact g_126
  | 5, _ => exact g_128
  | 6, _ => exact g_130
  | 7, _ => exact g_132
  | 8, _ => exact g_134
  | k + 9, h => exact absurd h (by omega)
theorem cd_2 : CD 2 R_2 T_2 9 := ⟨by decide, rfl, rfl, iw_2, ⟨ty_2, tyok_2⟩, nm_2⟩
theorem iw_3 : ∀ w ∈ u_ws R_3 T_3 2, w ∈ gw := by
  intro w hw
  obtain ⟨k, hk, rfl⟩ := List.mem_map.mp hw
  have hk := List.mem_range.mp hk
  match k, hk with
  | 0, _ => exact g_206
  | 1, _ => exact g_208
  | k + 2, h => exact absurd h (by omega)
theorem cd_3 : CD 3 R_3 T_3 2 := ⟨by decide, rfl, rfl, iw_3, ⟨ty_3, tyok_3⟩, nm_3⟩
theorem iw_4 : ∀ w ∈ u_ws R_4 T_4 10, w ∈ gw := by
  intro w hw
  obtain ⟨k, hk, rfl⟩ := List.mem_map.mp hw
  have hk := List.mem_range.mp hk
  match k, hk with
  | 0, _ => exact g_408
  | 1, _ => exact g_410
  | 2, _ => exact g_412
  | 3, _ => exact g_414
  | 4, _ => exact g_416
  | 5, _ => exact g_418
  | 6, _ => exact g_420
  | 7, _ => exact g_422
  | 8, _ => exact g_424
  | 9, _ => exact g_426
  | k + 10, h => exact absurd h (by omega)
theorem cd_4 : CD 4 R_4 T_4 10 := ⟨by decide, rfl, rfl, iw_4, ⟨ty_4, tyok_4⟩, nm_4⟩
theorem iw_5 : ∀ w ∈ u_ws R_5 T_5 10, w ∈ gw := by
  intro w hw
  obtain ⟨k, hk, rfl⟩ := List.mem_map.mp hw
  have hk := List.mem_range.mp hk
  match k, hk with
  | 0, _ => exact g_233
  | 1, _ => exact g_235
  | 2, _ => exact g_237
  | 3, _ => exact g_239
  | 4, _ => exact g_241
  | 5, _ => exact g_243
  | 6, _ => exact g_245
  | 7, _ => exact g_247
  | 8, _ => exact g_249
  | 9, _ => exact g_251
  | k + 10, h => exact absurd h (by omega)
theorem cd_5 : CD 5 R_5 T_5 10 := ⟨by decide, rfl, rfl, iw_5, ⟨ty_5, tyok_5⟩, nm_5⟩
theorem iw_6 : ∀ w ∈ u_ws R_6 T_6 7, w ∈ gw := by
  intro w hw
  obtain ⟨k, hk, rfl⟩ := List.mem_map.mp hw
  have hk := List.mem_range.mp hk
  match k, hk with
  | 0, _ => exact g_545
  | 1, _ => exact g_547
  | 2, _ => exact g_549
  | 3, _ => exact g_551
  | 4, _ => exact g_553
  | 5, _ => exact g_555
  | 6, _ => exact g_557
  | k + 7, h => exact absurd h (by omega)
theorem cd_6 : CD 6 R_6 T_6 7 := ⟨by decide, rfl, rfl, iw_6, ⟨ty_6, tyok_6⟩, nm_6⟩
theorem iw_7 : ∀ w ∈ u_ws R_7 T_7 9, w ∈ gw := by
  intro w hw
  obtain ⟨k, hk, rfl⟩ := List.mem_map.mp hw
  have hk := List.mem_range.mp hk
  match k, hk with
  | 0, _ => exact g_82
  | 1, _ => exact g_84
  | 2, _ => exact g_86
  | 3, _ => exact g_88
  | 4, _ => exact g_90
  | 5, _ => exact g_92
  | 6, _ => exact g_94
  | 7, _ => exact g_96
  | 8, _ => exact g_98
  | k + 9, h => exact absurd h (by omega)
theorem cd_7 : CD 7 R_7 T_7 9 := ⟨by decide, rfl, rfl, iw_7, ⟨ty_7, tyok_7⟩, nm_7⟩
theorem iw_8 : ∀ w ∈ u_ws R_8 T_8 3, w ∈ gw := by
  intro w hw
  obtain ⟨k, hk, rfl⟩ := List.mem_map.mp hw
  have hk := List.mem_range.mp hk
  match k, hk with
  | 0, _ => exact g_377
  | 1, _ => exact g_379
  | 2, _ => exact g_381
  | k + 3, h => exact absurd h (by omega)
theorem cd_8 : CD 8 R_8 T_8 3 := ⟨by decide, rfl, rfl, iw_8, ⟨ty_8, tyok_8⟩, nm_8⟩
theorem iw_9 : ∀ w ∈ u_ws R_9 T_9 6, w ∈ gw := by
  intro w hw
  obtain ⟨k, hk, rfl⟩ := List.mem_map.mp hw
  have hk := List.mem_range.mp hk
  match k, hk with
  | 0, _ => exact g_149
  | 1, _ => exact g_151
  | 2, _ => exact g_153
  | 3, _ => exact g_155
  | 4, _ => exact g_157
  | 5, _ => exact g_159
  | k + 6, h => exact absurd h (by omega)
theorem cd_9 : CD 9 R_9 T_9 6 := ⟨by decide, rfl, rfl, iw_9, ⟨ty_9, tyok_9⟩, nm_9⟩
theorem iw_10 : ∀ w ∈ u_ws R_10 T_10 9, w ∈ gw := by
  intro w hw
  obtain ⟨k, hk, rfl⟩ := List.mem_map.mp hw
  have hk := List.mem_range.mp hk
  match k, hk with
  | 0, _ => exact g_345
  | 1, _ => exact g_347
  | 2, _ => exact g_349
  | 3, _ => exact g_351
  | 4, _ => exact g_353
  | 5, _ => exact g_355
  | 6, _ => exact g_357
  | 7, _ => exact g_359
  | 8, _ => exact g_361
  | k + 9, h => exact absurd h (by omega)
theorem cd_10 : CD 10 R_10 T_10 9 := ⟨by decide, rfl, rfl, iw_10, ⟨ty_10, tyok_10⟩, nm_10⟩
theorem iw_11 : ∀ w ∈ u_ws R_11 T_11 12, w ∈ gw := by
  intro w hw
  obtain ⟨k, hk, rfl⟩ := List.mem_map.mp hw
  have hk := List.mem_range.mp hk
  match k, hk with
  | 0, _ => exact g_266
  | 1, _ => exact g_268
  | 2, _ => exact g_270
  | 3, _ => exact g_272
  | 4, _ => exact g_274
  | 5, _ => exact g_276
  | 6, _ => exact g_278
  | 7, _ => exact g_280
  | 8, _ => exact g_282
  | 9, _ => exact g_284
  | 10, _ => exact g_286
  | 11, _ => exact g_288
  | k + 12, h => exact absurd h (by omega)
theorem cd_11 : CD 11 R_11 T_11 12 := ⟨by decide, rfl, rfl, iw_11, ⟨ty_11, tyok_11⟩, nm_11⟩
theorem iw_12 : ∀ w ∈ u_ws R_12 T_12 72, w ∈ gw := by
  intro w hw
  obtain ⟨k, hk, rfl⟩ := List.mem_map.mp hw
  have hk := List.mem_range.mp hk
  match k, hk with
  | 0, _ => exact g_1123
  | 1, _ => exact g_1125
  | 2, _ => exact g_1127
  | 3, _ => exact g_1129
  | 4, _ => exact g_1131
  | 5, _ => exact g_1133
  | 6, _ => exact g_1135
  | 7, _ => exact g_1137
  | 8, _ => exact g_1139
  | 9, _ => exact g_1141
  | 10, _ => exact g_1143
  | 11, _ => exact g_1145
  | 12, _ => exact g_1147
  | 13, _ => exact g_1149
  | 14, _ => exact g_1151
  | 15, _ => exact g_1153
  | 16, _ => exact g_1155
  | 17, _ => exact g_1157
  | 18, _ => exact g_1159
  | 19, _ => exact g_1161
  | 20, _ => exact g_1163
  | 21, _ => exact g_1165
  | 22, _ => exact g_1167
  | 23, _ => exact g_1169
  | 24, _ => exact g_1171
  | 25, _ => exact g_1173
  | 26, _ => exact g_1175
  | 27, _ => exact g_1177
  | 28, _ => exact g_1179
  | 29, _ => exact g_1181
  | 30, _ => exact g_1183
  | 31, _ => exact g_1185
  | 32, _ => exact g_1187
  | 33, _ => exact g_1189
  | 34, _ => exact g_1191
  | 35, _ => exact g_1193
  | 36, _ => exact g_1195
  | 37, _ => exact g_1197
  | 38, _ => exact g_1199
  | 39, _ => exact g_1201
  | 40, _ => exact g_1203
  | 41, _ => exact g_1205
  | 42, _ => exact g_1207
  | 43, _ => exact g_1209
  | 44, _ => exact g_1211
  | 45, _ => exact g_1213
  | 46, _ => exact g_1215
  | 47, _ => exact g_1217
  | 48, _ => exact g_1219
  | 49, _ => exact g_1221
  | 50, _ => exact g_1223
  | 51, _ => exact g_1225
  | 52, _ => exact g_1227
  | 53, _ => exact g_1229
  | 54, _ => exact g_1231
  | 55, _ => exact g_1233
  | 56, _ => exact g_1235
  | 57, _ => exact g_1237
  | 58, _ => exact g_1239
  | 59, _ => exact g_1241
  | 60, _ => exact g_1243
  | 61, _ => exact g_1245
  | 62, _ => exact g_1247
  | 63, _ => exact g_1249
  | 64, _ => exact g_1251
  | 65, _ => exact g_1253
  | 66, _ => exact g_1255
  | 67, _ => exact g_1257
  | 68, _ => exact g_1259
  | 69, _ => exact g_1261
  | 70, _ => exact g_1263
  | 71, _ => exact g_1265
  | k + 72, h => exact absurd h (by omega)
theorem cd_12 : CD 12 R_12 T_12 72 := ⟨by decide, rfl, rfl, iw_12, ⟨ty_12, tyok_12⟩, nm_12⟩
