-- ===== end of PART A; then your names; then what follows =====
/-! THE CLAIM OUT OF ONE WALK OF THE LAW'S BODY. Your part is whole_start (and what it stands on); all else here is the same for every law, but numbers. -/
def R_law : String := "LetterFoundryLaw"
def lw_P (b : Addr) (xs : List Int32) (args : Array Value) (s : State) : Prop := args = #[.ref b] ∧ s.IntsAt b xs ∧ xs.length ≤ 3584 ∧ (Jvm.Cond.and given_1 narrow_1).before args s = true
def lw_Q (_ : Array Value) (s : State) (o : Outcome) (t : State) : Prop := o = .returned (some (.int 1)) ∧ Framed s o t [] 600000 7302250
def lw_Z (below : List Frame) (a : Array Value) (s : State) : State → Prop := fun t => ∃ o, t.status = .running ∧ Ended t below o ∧ lw_Q a s o t
/-- the law's own end, with 1 on the stack, nothing written that was there before, its room as the claim has it -/
theorem lw_ret {p : Program} {l : Launch} {e : Env} {s : State} {m : MethodId} {below : List Frame} {meth : Method} {c : Code} {b : Nat} (hx : p.tables.exec = Jvm.exec) (hb : c.code = code) (hr : meth.sig.returnType = ret) (hlocks : meth.locks = false) {pc : Nat} {H : Heap} {ls : Array Slot} (hdg : decode code pc = .ok (.ireturn, 1)) : W p l e room_1 s m #[Value.ref b] below meth c H [] 600000 7302250 (lw_Z below #[Value.ref b] s) (F0 m pc ls [.int 1]) := by
  intro T hT X
  obtain ⟨fs, hret, hrun, hended, hW, hframe⟩ := X.leave (v := some (.int 1)) (hlocks := hlocks) (fun h => by rw [hr] at h; cases h)
  have hmeth' : T.vm.method? m = some meth := X.method'
  refine ⟨T.setFrames fs, ?_, .returned (some (.int 1)), hrun, hended, rfl, ⟨_, rfl⟩, hW, hframe⟩
  jvm_step X.here [X.here.top, hx, hb, hdg, hmeth', hr, ret, narrow_b1]
  (try refine ⟨rfl, ?_⟩); (try refine ⟨rfl, ?_⟩)
  first | (intro acts; rw [hret _ acts rfl rfl rfl]) | rw [hret _ _ rfl rfl rfl]
  exact Steps.refl _
/-- what holds at the law's entry: the machine, the code, the tables' words (any of lw_tbl by 'hts w (by decide +kernel)'), the script of L ints xs at the cell b, what the Statement gives of the start (any of its parts by flat_of_before) -/
def lw_At (p : Program) (s : State) (m : MethodId) (meth : Method) (c : Code) (b L : Nat) (xs : Nat → Int32) : Prop :=
  p.tables.exec = Jvm.exec ∧ c.code = code ∧ meth.sig.returnType = ret ∧ c.maxLocals = 4 ∧ s.vm.findClass R_law = some m.cls ∧ (∀ w ∈ lw_tbl, w.before #[Value.ref b] s = true) ∧ va_X b L xs s s.heap ∧ b < s.heap.size ∧ meth.locks = false ∧ (Jvm.Cond.and given_1 narrow_1).before #[Value.ref b] s = true

/-- the law's own frame: the script, and what must be reached -/
def GL (L : Nat) (xs : Nat → Int32) : GT := fun R s meth below args Qf D Z ρ0 B0 =>
  R = room_1 ∧ meth.sig.returnType = ret ∧ meth.locks = false ∧ va_X (ρ0 902 0) L xs s s.heap ∧ ρ0 902 0 < s.heap.size ∧ Z = s.heap.size ∧ args = #[Value.ref (ρ0 902 0)] ∧ Qf = lw_Z below args s
section JLW
variable {G : GT} {b : Bool} {cc : ByteArray} {own : String} {maxL d rc rs pc q : Nat} {lv : List (Nat × AV)} {st : List AV} {μ : Mem} {L : Nat} {xs : Nat → Int32}
theorem J_rc {rc2 rs2 : Nat} (h1 : rc2 ≤ rc) (h2 : rs2 ≤ rs) (k : J G b cc own maxL d rc2 rs2 pc lv st μ) : J G b cc own maxL d rc rs pc lv st μ := by
  intro p l0 e R s m args below meth c Qf H locs cells slots D Z ρ ρ0 B0 ls hG C hst
  obtain ⟨a1, a2, a3, a4, a5, a6, a7, a8, a9, a10, a11, a12, a13, a14, a15, a16, a17, a18⟩ := C
  exact k _ _ _ _ _ _ _ _ _ _ _ _ _ _ _ _ _ _ _ _ _ hG ⟨a1, a2, a3, a4, a5, a6, a7, a8, a9, a10, a11, a12, a13, a14, a15, a16, by omega, by omega⟩ hst
theorem J_sld {i : Int32} (hi : 0 ≤ i.toInt ∧ i.toInt < (L : Int)) (hd : decode cc pc = .ok (.iaload, 1)) (hq : pc + 1 = q) (k : J (GL L xs) b cc own maxL d rc rs q lv (vi (xs i.toNatClampNeg) :: st) μ) : J (GL L xs) b cc own maxL d rc rs pc lv (vi i :: vr 902 0 :: st) μ := by
  subst hq
  intro p l0 e R s m args below meth c Qf H locs cells slots D Z ρ ρ0 B0 ls hG C hst
  obtain ⟨hR, hrt, hlk, hX, hbl, hZ, ha, hQ⟩ := id hG
  have he : ρ 902 0 = ρ0 902 0 := C.2.2.2.2.2.2.2.2.2.2.2.1 902 (by decide)
  refine va_sld (b := ρ 902 0) (A := fun q => Z ≤ q) C.1 C.2.1 (by rw [he]; exact hX) (by rw [he]; exact hbl) (by rw [he, hZ]; exact Nat.not_le.mpr hbl) C.hS (vp_in_iff.mpr hi) hd ?_
  exact k _ _ _ _ _ _ _ _ _ _ _ _ _ _ _ _ _ _ _ _ _ hG C hst.tl.tl.i
theorem J_slen (hd : decode cc pc = .ok (.arraylength, 1)) (hq : pc + 1 = q) (k : J (GL L xs) b cc own maxL d rc rs q lv (vi (Int32.ofNat L) :: st) μ) : J (GL L xs) b cc own maxL d rc rs pc lv (vr 902 0 :: st) μ := by
  subst hq
  intro p l0 e R s m args below meth c Qf H locs cells slots D Z ρ ρ0 B0 ls hG C hst
  obtain ⟨hR, hrt, hlk, hX, hbl, hZ, ha, hQ⟩ := id hG
  have he : ρ 902 0 = ρ0 902 0 := C.2.2.2.2.2.2.2.2.2.2.2.1 902 (by decide)
  refine va_slen (b := ρ 902 0) (A := fun q => Z ≤ q) C.1 C.2.1 (by rw [he]; exact hX) (by rw [he]; exact hbl) (by rw [he, hZ]; exact Nat.not_le.mpr hbl) C.hS hd ?_
  exact k _ _ _ _ _ _ _ _ _ _ _ _ _ _ _ _ _ _ _ _ _ hG C hst.tl.i
theorem J_lawret (hd : decode code pc = .ok (.ireturn, 1)) : J (GL L xs) b code own maxL d rc rs pc lv [vi 1] μ := by
  intro p l0 e R s m args below meth c Qf H locs cells slots D Z ρ ρ0 B0 ls hG C hst
  obtain ⟨hR, hrt, hlk, hX, hbl, hZ, ha, hQ⟩ := id hG
  subst hQ
  have hcs := C.2.2.2.2.2.2.2.2.2.2.2.2.2.2.2.2
  refine va_forget (fun q hq => by have := C.hS.2.2 q hq; rw [hZ] at this; exact this) ?_
  rw [hR] at hcs ⊢
  have h1 : cells + rc ≤ 600000 := hcs.1
  have h2 : slots + rs ≤ 7302250 := hcs.2
  refine W.widen (k := 600000) (n := 7302250) (by omega) (by omega) ?_
  rw [ha]
  exact lw_ret C.1 C.2.1 hrt hlk hd
end JLW
