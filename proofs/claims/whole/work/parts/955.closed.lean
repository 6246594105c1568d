theorem ts_add {A B : Nat → Int32} : ∀ r, ts (fun p => A p + B p) r = ts A r + ts B r := by
  intro r
  induction r with
  | zero => rfl
  | succ r ih =>
    show ts (fun p => A p + B p) r + (A (512 - r) + B (512 - r)) = (ts A r + A (512 - r)) + (ts B r + B (512 - r))
    rw [ih]; grind
theorem ts_zero : ∀ r, ts (fun _ => 0) r = 0 := by
  intro r
  induction r with
  | zero => rfl
  | succ r ih => show ts (fun _ => 0) r + 0 = 0; rw [ih]; rfl
theorem ts_ind {v : Nat} {d : Int32} (hv : v ≤ 512) : ∀ r, r ≤ 513 → ts (fun p => if v = p then d else 0) r = if 513 ≤ v + r then d else 0 := by
  intro r
  induction r with
  | zero => intro _; rw [if_neg (by omega)]; rfl
  | succ r ih =>
    intro hr
    show ts (fun p => if v = p then d else 0) r + (if v = 512 - r then d else 0) = _
    rw [ih (by omega)]
    by_cases w : v = 512 - r
    · rw [if_pos w, if_neg (by omega), if_pos (by omega), Int32.zero_add]
    · rw [if_neg w]
      by_cases w2 : 513 ≤ v + r
      · rw [if_pos w2, if_pos (by omega), Int32.add_zero]
      · rw [if_neg w2, if_neg (by omega), Int32.add_zero]
theorem ts_sum {X Y : Nat → Int32} {nx : Nat → Nat} {s y : Int} : ∀ m, ts (fun p => sumI (mk X Y nx s y p) m) 513 = sumI (drk X Y nx s y) m := by
  intro m
  induction m with
  | zero => exact ts_zero 513
  | succ m ih =>
    have hp : nk X Y nx s y m ≤ 512 := by unfold nk; split <;> exact cl_le
    have e := ts_add (A := fun p => sumI (mk X Y nx s y p) m) (B := fun p => mk X Y nx s y p m) 513
    have e2 : ts (fun p => mk X Y nx s y p m) 513 = drk X Y nx s y m := by
      have := ts_ind (d := drk X Y nx s y m) hp 513 (by omega)
      rw [if_pos (by omega)] at this
      exact this
    rw [e2, ih] at e
    exact e
def blw (Y : Nat → Int32) (s y : Int) (k : Nat) : Int32 := if s * (Y k).toInt ≤ y then 1 else 0
theorem dr_bl {X Y : Nat → Int32} {nx : Nat → Nat} {s y : Int} {k : Nat} : drk X Y nx s y k = blw Y s y k - blw Y s y (nx k) := by
  unfold drk blw
  by_cases a : s * (Y k).toInt ≤ y
  · by_cases b : s * (Y (nx k)).toInt ≤ y
    · rw [if_neg (fun z => z.2 b), if_neg (fun z => z.2 a), if_pos a, if_pos b]; rfl
    · rw [if_pos ⟨a, b⟩, if_pos a, if_neg b]; rfl
  · by_cases b : s * (Y (nx k)).toInt ≤ y
    · rw [if_neg (fun z => a z.1), if_pos ⟨b, a⟩, if_neg a, if_pos b]; rfl
    · rw [if_neg (fun z => a z.1), if_neg (fun z => b z.1), if_neg a, if_neg b]; rfl
/-- outlines are closed: the turns of a row come to nothing -/
theorem closed0 {X Y : Nat → Int32} {nx : Nat → Nat} {s y : Int} {b : Nat → Nat} {g : Nat} (b0 : b 0 = 0) (hb : ∀ j, j < g → b j + 2 ≤ b (j + 1)) (hn : ∀ j k, j < g → b j ≤ k → k < b (j + 1) → nx k = if k + 1 = b (j + 1) then b j else k + 1) : ∀ j, j ≤ g → sumI (drk X Y nx s y) (b j) = 0 := by
  intro j
  induction j with
  | zero => intro _; rw [b0]; rfl
  | succ j ih =>
    intro hj
    have h0 := ih (by omega)
    have h2 := hb j (by omega)
    have part : ∀ d, b j + d + 1 ≤ b (j + 1) → sumI (drk X Y nx s y) (b j + d) = blw Y s y (b j) - blw Y s y (b j + d) := by
      intro d
      induction d with
      | zero => intro _; rw [Nat.add_zero, h0]; grind
      | succ d ihd =>
        intro hd
        show sumI (drk X Y nx s y) (b j + d) + drk X Y nx s y (b j + d) = _
        rw [ihd (by omega), dr_bl, hn j (b j + d) (by omega) (by omega) (by omega), if_neg (by omega), show b j + (d + 1) = b j + d + 1 by omega]
        grind
    obtain ⟨e, he⟩ : ∃ e, b (j + 1) = b j + e + 1 := ⟨b (j + 1) - b j - 1, by omega⟩
    rw [he]
    show sumI (drk X Y nx s y) (b j + e) + drk X Y nx s y (b j + e) = 0
    rw [part e (by omega), dr_bl, hn j (b j + e) (by omega) (by omega) (by omega), if_pos he.symm]
    grind
