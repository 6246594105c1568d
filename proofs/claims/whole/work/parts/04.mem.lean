abbrev AV : Type := Int32 ⊕ (Int64 ⊕ Option (Nat × Nat))
abbrev vi (x : Int32) : AV := Sum.inl x
abbrev vl (x : Int64) : AV := Sum.inr (Sum.inl x)
abbrev vr (k l : Nat) : AV := Sum.inr (Sum.inr (some (k, l)))
abbrev vn : AV := Sum.inr (Sum.inr none)
abbrev vo (k : Nat) (o : Option Nat) : AV := Sum.inr (Sum.inr (o.map fun l => (k, l)))
abbrev MA : Type := Nat → Nat → Nat
def ren (ρ : MA) (v : AV) : Value := match v with
  | .inl x => .int x
  | .inr (.inl x) => .long x
  | .inr (.inr none) => .null
  | .inr (.inr (some q)) => .ref (ρ q.1 q.2)
abbrev Mem : Type := (Nat → Nat → Nat → Int32) × (Nat → Nat → Nat → Int64) × (Nat → Nat → Nat → Option Nat) × (Nat → Nat → Bool)
def gI (μ : Mem) (k l j : Nat) : Int32 := μ.1 k l j
def gL (μ : Mem) (k l j : Nat) : Int64 := μ.2.1 k l j
def gR (μ : Mem) (k l j : Nat) : Option Nat := μ.2.2.1 k l j
def gF (μ : Mem) (k l : Nat) : Bool := μ.2.2.2 k l
def sI (μ : Mem) (k l j : Nat) (v : Int32) : Mem := (fun a b c => if a = k ∧ b = l ∧ c = j then v else μ.1 a b c, μ.2)
def sL (μ : Mem) (k l j : Nat) (v : Int64) : Mem := (μ.1, fun a b c => if a = k ∧ b = l ∧ c = j then v else μ.2.1 a b c, μ.2.2)
def sR (μ : Mem) (k l j : Nat) (v : Option Nat) : Mem := (μ.1, μ.2.1, fun a b c => if a = k ∧ b = l ∧ c = j then v else μ.2.2.1 a b c, μ.2.2.2)
/-- a row of longs copied: System.arraycopy -/
def cpL (μ : Mem) (k l k' l' : Nat) (sp dp n : Nat) : Mem := (μ.1, fun a b c => if a = k' ∧ b = l' then va_cpy (μ.2.1 k l) (μ.2.1 k' l') sp dp n c else μ.2.1 a b c, μ.2.2)
/-- a cell more, all 0 -/
def nw (μ : Mem) (k l : Nat) : Mem := (fun a b c => if a = k ∧ b = l then 0 else μ.1 a b c, fun a b c => if a = k ∧ b = l then 0 else μ.2.1 a b c, fun a b c => if a = k ∧ b = l then none else μ.2.2.1 a b c, fun a b => if a = k ∧ b = l then true else μ.2.2.2 a b)
theorem gI_sI (μ : Mem) (k l j : Nat) (v : Int32) (a b c : Nat) : gI (sI μ k l j v) a b c = if a = k ∧ b = l ∧ c = j then v else gI μ a b c := rfl
theorem gI_sL (μ : Mem) (k l j : Nat) (v : Int64) (a b c : Nat) : gI (sL μ k l j v) a b c = gI μ a b c := rfl
theorem gI_sR (μ : Mem) (k l j : Nat) (v : Option Nat) (a b c : Nat) : gI (sR μ k l j v) a b c = gI μ a b c := rfl
theorem gL_sL (μ : Mem) (k l j : Nat) (v : Int64) (a b c : Nat) : gL (sL μ k l j v) a b c = if a = k ∧ b = l ∧ c = j then v else gL μ a b c := rfl
theorem gL_sI (μ : Mem) (k l j : Nat) (v : Int32) (a b c : Nat) : gL (sI μ k l j v) a b c = gL μ a b c := rfl
theorem gL_sR (μ : Mem) (k l j : Nat) (v : Option Nat) (a b c : Nat) : gL (sR μ k l j v) a b c = gL μ a b c := rfl
theorem gR_sR (μ : Mem) (k l j : Nat) (v : Option Nat) (a b c : Nat) : gR (sR μ k l j v) a b c = if a = k ∧ b = l ∧ c = j then v else gR μ a b c := rfl
theorem gR_sI (μ : Mem) (k l j : Nat) (v : Int32) (a b c : Nat) : gR (sI μ k l j v) a b c = gR μ a b c := rfl
theorem gR_sL (μ : Mem) (k l j : Nat) (v : Int64) (a b c : Nat) : gR (sL μ k l j v) a b c = gR μ a b c := rfl
theorem gF_sI (μ : Mem) (k l j : Nat) (v : Int32) (a b : Nat) : gF (sI μ k l j v) a b = gF μ a b := rfl
theorem gF_sL (μ : Mem) (k l j : Nat) (v : Int64) (a b : Nat) : gF (sL μ k l j v) a b = gF μ a b := rfl
theorem gF_sR (μ : Mem) (k l j : Nat) (v : Option Nat) (a b : Nat) : gF (sR μ k l j v) a b = gF μ a b := rfl
def fv (ρ : MA) (μ : Mem) (k l j : Nat) : Value := match (FT k j).1 with
  | 0 => .int (gI μ k l j)
  | 1 => .int (gI μ k l j)
  | 2 => .long (gL μ k l j)
  | _ => ren ρ (vo (FT k j).2 (gR μ k l j))
def fvs (ρ : MA) (μ : Mem) (k l : Nat) : List Value := (List.range (NF k)).map (fv ρ μ k l)
def CellOK (tys : List (ClassId × FieldType)) (ρ : MA) (μ : Mem) (k l : Nat) (e : va_E) : Prop :=
  (k < 13 → e = .inr (k, fvs ρ μ k l)) ∧
  ((RK k).1 = 2 → ∃ cA, (cA, FieldType.int) ∈ tys ∧ e = .inl (cA, (RK k).2.1, .inl (gI μ k l))) ∧
  ((RK k).1 = 3 → ∃ cA, (cA, FieldType.boolean) ∈ tys ∧ e = .inl (cA, (RK k).2.1, .inl (gI μ k l))) ∧
  ((RK k).1 = 4 → ∃ cA, (cA, FieldType.long) ∈ tys ∧ e = .inl (cA, (RK k).2.1, .inr (.inl (gL μ k l)))) ∧
  ((RK k).1 = 5 → ∃ cA, (cA, FieldType.object (CN (RK k).2.2)) ∈ tys ∧ e = .inl (cA, (RK k).2.1, .inr (.inr (.inr (.inr (fun i => (gR μ k l i).map (ρ (RK k).2.2))))))) ∧
  ((RK k).1 = 6 → ∃ cA, (cA, FieldType.array .int) ∈ tys ∧ e = .inl (cA, (RK k).2.1, .inr (.inr (.inr (.inr (fun i => if i < (RK k).2.1 then some (ρ (RK k).2.2 ((RK k).2.1 * l + i)) else none))))))
/-- what the references of live cells lead to is live -/
def Clo (μ : Mem) : Prop := ∀ k l, gF μ k l = true →
  (k < 13 → ∀ j i, j < NF k → (FT k j).1 = 3 → gR μ k l j = some i → gF μ (FT k j).2 i = true) ∧
  ((RK k).1 = 5 → ∀ j i, gR μ k l j = some i → gF μ (RK k).2.2 i = true) ∧
  ((RK k).1 = 6 → ∀ j, j < (RK k).2.1 → gF μ (RK k).2.2 ((RK k).2.1 * l + j) = true)
/-- what is built: a final field of a cell leads to the cell of the same number -/
def LinkOK (μ : Mem) : Prop := ∀ k l, gF μ k l = true → k < 13 → ∀ j, FIN k j = true → gR μ k l j = some l
def LV (μ : Mem) (v : AV) : Prop := match v with
  | .inr (.inr (some q)) => gF μ q.1 q.2 = true ∨ (900 ≤ q.1 ∧ q.2 = 0)
  | _ => True
def LVs (μ : Mem) (st : List AV) : Prop := ∀ v ∈ st, LV μ v
def Rel (D : va_G) (Z : Nat) (s : State) (H : Heap) (ρ : MA) (μ : Mem) : Prop :=
  ∃ (tys : List (ClassId × FieldType)) (L : List Nat) (f : Nat → va_E),
    va_K D classes tys s ∧ va_P D classes (va_pl L f) H ∧ va_D (fun q => Z ≤ q) (va_pl L f) ∧
    (∀ k l, gF μ k l = true → ρ k l ∈ L ∧ CellOK tys ρ μ k l (f (ρ k l))) ∧
    (∀ k l k' l', gF μ k l = true → gF μ k' l' = true → ρ k l = ρ k' l' → k = k' ∧ l = l') ∧ Clo μ
def takes (j : Nat) : Int32 := ([0, 1, 1, 2, 2, 2, 2, 2, 1, 1, 1, 1, 2, 2, 2, 2, 0, 1, 0, 0, 1, 0, 0, 1, 0, 1, 0, 0, 0, 0, 0] : List Int32).getD j 0
def gives (j : Nat) : Int32 := ([1, 2, 0, 2, 1, 1, 1, 1, 1, 1, 1, 1, 1, 1, 1, 1, 0, 0, 0, 0, 0, 1, 1, 0, 1, 0, 0, 0, 0, 0, 0] : List Int32).getD j 0
/-- the static arrays, which nobody writes -/
def Stt (Z : Nat) (ρ : MA) (s : State) : Prop :=
  va_Z "LetterFoundry$Runner" "TAKES" "[I" (.ref (ρ 900 0)) (fun q => Z ≤ q) s s.heap ∧ va_T .int (ρ 900 0) 31 (fun j => .int (takes j)) (fun q => Z ≤ q) s s.heap ∧
  va_Z "LetterFoundry$Runner" "GIVES" "[I" (.ref (ρ 901 0)) (fun q => Z ≤ q) s s.heap ∧ va_T .int (ρ 901 0) 31 (fun j => .int (gives j)) (fun q => Z ≤ q) s s.heap
def AOA (U : State) : Prop := (Cond.arrayOver (.array .int)).before #[] U = true
/-- words of the tables that aren't steady: nest mates, arrays over a class -/
def Nst (s : State) : Prop := (∀ w ∈ nws, va_Nw w s) ∧ va_AO "LetterFoundry$Letter" s ∧ va_AO "LetterFoundry$Part" s ∧ AOA s
abbrev GT : Type := Room → State → Method → List Frame → Array Value → (State → Prop) → va_G → Nat → MA → (Nat → Nat → Bool) → Prop
def Cx (b : Bool) (cc : ByteArray) (own : String) (maxL d rc rs : Nat) (p : Program) (R : Room) (s : State) (m : MethodId) (args : Array Value) (c : Code) (H : Heap) (locs : List Loc) (cells slots : Nat) (D : va_G) (Z : Nat) (ρ ρ0 : MA) (B0 : Nat → Nat → Bool) (ls : Array Slot) (lv : List (Nat × AV)) (μ : Mem) : Prop :=
  p.tables.exec = Jvm.exec ∧ c.code = cc ∧ c.maxLocals = maxL ∧ s.vm.findClass own = some m.cls ∧ (∀ w ∈ gw, w.before args s = true) ∧ Nst s ∧ Stt Z ρ s ∧
  Rel D Z s H ρ μ ∧ va_S (fun q => Z ≤ q) s.heap H locs ∧ Z ≤ s.heap.size ∧
  (∀ k l, B0 k l = true → gF μ k l = true ∧ ρ k l = ρ0 k l) ∧ (∀ k, 900 ≤ k → ρ k 0 = ρ0 k 0) ∧ (b = true → LinkOK μ) ∧
  (∀ q ∈ lv, LV μ q.2) ∧ lv_has ls maxL (lv.map fun q => (q.1, ren ρ q.2)) ∧
  (d ≤ R.frames ∧ 60 * d ≤ R.locals) ∧ cells + rc ≤ R.cells ∧ slots + rs ≤ R.slots
def J (G : GT) (b : Bool) (cc : ByteArray) (own : String) (maxL d rc rs : Nat) (pc : Nat) (lv : List (Nat × AV)) (st : List AV) (μ : Mem) : Prop :=
  ∀ (p : Program) (l : Launch) (e : Env) (R : Room) (s : State) (m : MethodId) (args : Array Value) (below : List Frame) (meth : Method) (c : Code) (Qf : State → Prop) (H : Heap) (locs : List Loc) (cells slots : Nat) (D : va_G) (Z : Nat) (ρ ρ0 : MA) (B0 : Nat → Nat → Bool) (ls : Array Slot),
    G R s meth below args Qf D Z ρ0 B0 → Cx b cc own maxL d rc rs p R s m args c H locs cells slots D Z ρ ρ0 B0 ls lv μ → LVs μ st →
    W p l e R s m args below meth c H locs cells slots Qf (F0 m pc ls (st.map (ren ρ)))
def Rm (d mc ms : Nat) : Room := { frames := d, cells := mc, slots := ms, locals := 60 * d }
def Qc (b : Bool) (Q : Option AV → Mem → Prop) (D : va_G) (Z : Nat) (ρ0 : MA) (B0 : Nat → Nat → Bool) : Array Value → State → Outcome → State → Prop := fun _ st oc t =>
  (∃ (v : Option AV) (ρ : MA) (μ : Mem), oc = .returned (v.map (ren ρ)) ∧ Q v μ ∧ Rel D Z t t.heap ρ μ ∧ (∀ k l, B0 k l = true → gF μ k l = true ∧ ρ k l = ρ0 k l) ∧ (∀ k, 900 ≤ k → ρ k 0 = ρ0 k 0) ∧ (b = true → LinkOK μ) ∧ LVs μ v.toList) ∧ va_F (fun q => Z ≤ q) st t
def GM (b : Bool) (Q : Option AV → Mem → Prop) (ret : Option FieldType) (nm : String) : GT := fun R s meth below args Qf D Z ρ0 B0 =>
  meth.sig.returnType = ret ∧ meth.locks = false ∧ meth.name = nm ∧ Qf = MQ below (Qc b Q D Z ρ0 B0) args s R.cells R.slots (fun q => Z ≤ q)
def Pq (b : Bool) (D : va_G) (Z : Nat) (ρ : MA) (as : List AV) (μ : Mem) : Array Value → State → Prop :=
  va_Pc (as.map (ren ρ)) (fun U => Rel D Z U U.heap ρ μ ∧ Nst U ∧ Stt Z ρ U ∧ Z ≤ U.heap.size ∧ (b = true → LinkOK μ) ∧ LVs μ as)
def JM (b : Bool) (D0 : Nat) (y : MethodName) (cc : ByteArray) (maxL : Nat) (ret : Option FieldType) (rc rs : Nat) (as : List AV) (μ : Mem) (Q : Option AV → Mem → Prop) : Prop :=
  ∀ d, D0 ≤ d → ∀ (l : Launch) (D : va_G) (Z : Nat) (ρ : MA), Met l y (Cond.code y cc maxL ret :: gw) (Rm d rc rs) (Pq b D Z ρ as μ) (Qc b Q D Z ρ (gF μ)) rc rs (fun q => Z ≤ q)
def QQ (v : Option AV) (ν : Mem) : Option AV → Mem → Prop := fun v' ν' => v' = v ∧ ν' = ν
theorem LVs.tl {μ : Mem} {v : AV} {st : List AV} (h : LVs μ (v :: st)) : LVs μ st := fun x hx => h x (List.mem_cons_of_mem _ hx)
theorem LVs.hd {μ : Mem} {v : AV} {st : List AV} (h : LVs μ (v :: st)) : LV μ v := h v List.mem_cons_self
theorem LVs.cs {μ : Mem} {v : AV} {st : List AV} (hv : LV μ v) (h : LVs μ st) : LVs μ (v :: st) := fun x hx => by
  rcases List.mem_cons.mp hx with rfl | hx
  · exact hv
  · exact h x hx
theorem LVs.i {μ : Mem} {x : Int32} {st : List AV} (h : LVs μ st) : LVs μ (vi x :: st) := h.cs (v := vi x) trivial
theorem LVs.l {μ : Mem} {x : Int64} {st : List AV} (h : LVs μ st) : LVs μ (vl x :: st) := h.cs (v := vl x) trivial
theorem LVs.n {μ : Mem} {st : List AV} (h : LVs μ st) : LVs μ (vn :: st) := h.cs (v := vn) trivial
