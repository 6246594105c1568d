theorem sh1 : ((1 : Int32).toInt64 &&& 63) = (1 : Int64) := by decide
theorem sh30 : ((30 : Int32).toInt64 &&& 63) = (30 : Int64) := by decide
theorem shr1 (x : Int64) : (x >>> (1 : Int64)).toInt = x.toInt / 2 := by
  rw [← Int64.toInt_toBitVec, Int64.toBitVec_shiftRight]
  have : (BitVec.smod (1 : Int64).toBitVec 64) = 1#64 := by decide
  rw [this]
  simp [BitVec.sshiftRight', BitVec.toInt_sshiftRight, Int.shiftRight_eq_div_pow]
theorem shl30 (x : Int64) : x <<< (30 : Int64) = x * 1073741824 := by
  apply Int64.toBitVec_inj.mp
  rw [Int64.toBitVec_shiftLeft, Int64.toBitVec_mul]
  have : (BitVec.smod (30 : Int64).toBitVec 64) = 30#64 := by decide
  rw [this]
  have e : (1073741824 : Int64).toBitVec = BitVec.twoPow 64 30 := by decide
  rw [e, BitVec.shiftLeft_eq']
  simp [BitVec.mul_twoPow_eq_shiftLeft]
def av (a b : Int64) : Int64 := (a + b) >>> (1 : Int64)
def am (a b : Int64) : Int64 := (a + b) / 2
/-- the class's number is s times the model's, which is a multiple of P -/
def PR (s P : Int) (X q : Int64) : Prop := X.toInt = s * q.toInt ∧ (∃ a, q.toInt = P * a) ∧ (-18014398509481984 ≤ X.toInt ∧ X.toInt ≤ 18014398509481984) ∧ (-18014398509481984 ≤ q.toInt ∧ q.toInt ≤ 18014398509481984)
theorem pr_weak {s P : Int} {X q : Int64} (h : PR s (2 * P) X q) : PR s P X q := by
  obtain ⟨h1, ⟨a, h2⟩, h3⟩ := h
  exact ⟨h1, ⟨2 * a, by rw [h2, ← Int.mul_assoc, Int.mul_comm P 2]⟩, h3⟩
theorem pr_av {s P : Int} {X q X' q' : Int64} (h : PR s (2 * P) X q) (h' : PR s (2 * P) X' q') : PR s P (av X X') (am q q') := by
  obtain ⟨h1, ⟨a, h2⟩, h3, h4⟩ := h
  obtain ⟨k1, ⟨b, k2⟩, k3, k4⟩ := h'
  have e2 : (2 : Int64).toInt = 2 := by decide
  have eq : (am q q').toInt = P * (a + b) := by
    unfold am
    have es : (q + q').toInt = 2 * (P * (a + b)) := by
      rw [u_add (by omega), h2, k2, Int.mul_add, Int.mul_add, Int.mul_assoc, Int.mul_assoc]
    rw [Int64.toInt_div, es, e2, Int.mul_tdiv_cancel_left _ (by decide)]
    rw [u_add (by omega)] at es
    rw [Int.bmod_eq_of_le] <;> omega
  have e4 : 2 * (am q q').toInt = q.toInt + q'.toInt := by
    rw [eq, h2, k2, Int.mul_add, Int.mul_add, Int.mul_assoc, Int.mul_assoc]
  have e5 : (av X X').toInt = s * (am q q').toInt := by
    unfold av
    rw [shr1, u_add (by omega), h1, k1, ← Int.mul_add, ← e4, show s * (2 * (am q q').toInt) = 2 * (s * (am q q').toInt) by rw [← Int.mul_assoc, Int.mul_comm s 2, Int.mul_assoc], Int.mul_ediv_cancel_left _ (by decide)]
  refine ⟨e5, ⟨a + b, eq⟩, ?_, by omega⟩
  unfold av
  rw [shr1, u_add (by omega)]; omega
theorem gL_cp {μ : Mem} {k sp dp n a l b : Nat} : gL (cpL μ k 0 k 0 sp dp n) a l b = if a = k ∧ l = 0 ∧ dp ≤ b ∧ b < dp + n then gL μ k 0 (sp + (b - dp)) else gL μ a l b := by
  show (if a = k ∧ l = 0 then va_cpy (gL μ k 0) (gL μ k 0) sp dp n b else gL μ a l b) = _
  unfold va_cpy
  by_cases h : a = k ∧ l = 0
  · rw [if_pos h]
    obtain ⟨rfl, rfl⟩ := h
    by_cases h2 : dp ≤ b ∧ b < dp + n
    · rw [if_pos h2, if_pos ⟨rfl, rfl, h2⟩]
    · rw [if_neg h2, if_neg (fun q => h2 q.2.2)]
  · rw [if_neg h, if_neg (fun q => h ⟨q.1, q.2.1⟩)]
/-- a row of the class is made anew, from H on -/
def ROW (K H : Nat) (μ μ' : Mem) : Prop := gI μ' = gI μ ∧ gR μ' = gR μ ∧ gF μ' = gF μ ∧ ∀ a l b, ¬ (a = K ∧ l = 0 ∧ H ≤ b ∧ b < H + 4) → gL μ' a l b = gL μ a l b
theorem row_sL {K H b : Nat} {μ μ' : Mem} {v : Int64} (h : ROW K H μ μ') (hb : H ≤ b ∧ b < H + 4) : ROW K H μ (sL μ' K 0 b v) := ⟨h.1, h.2.1, h.2.2.1, fun a l c q => by rw [gL_sL, if_neg (by omega)]; exact h.2.2.2 a l c q⟩
theorem row_cp {K sp H : Nat} {μ : Mem} : ROW K H μ (cpL μ K 0 K 0 sp H 4) := ⟨rfl, rfl, rfl, fun a l b q => by rw [gL_cp, if_neg q]⟩
theorem gL_eq {μ : Mem} {k l j j' : Nat} {x : Int64} (h : j = j') : gL (sL μ k l j' x) k l j = x := by rw [h, gL_self]
theorem st32 {K H r Y f : Nat} {a2 : Int32} {c : Int32 → Int32 → Mem → Option Mem} {μ : Mem} (h1 : H + r ≤ Y) (h2 : Y < 44) (h3 : 1 ≤ Y) : lp_Fl_firstHalf_32 K 0 44 0 a2 c (f + 1) (nI H) (nI r) (nI Y) μ = lp_Fl_firstHalf_32 K 0 44 0 a2 c f (nI H) (nI r) (nI (Y - 1)) (sL μ K 0 Y (av (gL μ K 0 (Y - 1)) (gL μ K 0 Y))) := by
  have n1 : nI H + nI r = nI (H + r) := nI_add H r
  have m1 : nI Y + -1 = nI (Y - 1) := by rw [← nsub1 (by omega)]; grind
  rw [lp_Fl_firstHalf_32, n1, if_neg (by rw [nlt (by omega) (by omega)]; omega), nsub1 h3, gu_nI (by omega) (by omega), gu_nI (by omega) (by omega), gu_nI (by omega) (by omega), nI_clamp (by omega), nI_clamp (by omega), sh1, m1]
  rfl
theorem ex32 {K H r Y f : Nat} {a2 : Int32} {c : Int32 → Int32 → Mem → Option Mem} {μ : Mem} (h1 : Y < H + r) (h2 : H + r < 100) : lp_Fl_firstHalf_32 K 0 44 0 a2 c (f + 1) (nI H) (nI r) (nI Y) μ = c (nI H) (nI r) μ := by
  have n1 : nI H + nI r = nI (H + r) := nI_add H r
  rw [lp_Fl_firstHalf_32, n1, if_pos (by rw [nlt (by omega) (by omega)]; omega)]
theorem st15 {K H r d f : Nat} {a2 : Int32} {μ : Mem} (h6 : gI μ 1 0 6 = nI d) (h1 : r ≤ d) (hd : d ≤ 3) : lp_Fl_firstHalf_15 K 0 44 0 a2 (f + 1) (nI H) (nI r) μ = lp_Fl_firstHalf_32 K 0 44 0 a2 (mj_Fl_firstHalf_64 K 0 44 0 a2 (lp_Fl_firstHalf_15 K 0 44 0 a2 f)) FU (nI H) (nI r) (nI (H + d)) μ := by
  have n1 : nI H + nI d = nI (H + d) := nI_add H d
  rw [lp_Fl_firstHalf_15, h6, if_neg (by rw [nlt (by omega) (by omega)]; omega), n1]
  rfl
theorem ex15 {K H r d f : Nat} {a2 : Int32} {μ : Mem} (h6 : gI μ 1 0 6 = nI d) (h1 : d < r) (hd : r ≤ 4) : lp_Fl_firstHalf_15 K 0 44 0 a2 (f + 1) (nI H) (nI r) μ = some μ := by
  rw [lp_Fl_firstHalf_15, h6, if_pos (by rw [nlt (by omega) (by omega)]; omega)]
theorem jm64 {K H r f : Nat} {a2 : Int32} {μ : Mem} : mj_Fl_firstHalf_64 K 0 44 0 a2 (lp_Fl_firstHalf_15 K 0 44 0 a2 f) (nI H) (nI r) μ = lp_Fl_firstHalf_15 K 0 44 0 a2 f (nI H) (nI (r + 1)) μ := by
  have n1 : nI r + 1 = nI (r + 1) := nI_add r 1
  unfold mj_Fl_firstHalf_64
  rw [n1]; rfl
theorem half1 {K h d : Nat} {μ : Mem} (hd : d = 2 ∨ d = 3) (hh : h < 10) (h6 : gI μ 1 0 6 = nI d) : ∃ μ', m_Fl_firstHalf K 0 44 0 (nI (4 * h)) μ = some μ' ∧ ROW K (4 * h + 4) μ μ' ∧ gL μ' K 0 (4 * h + 4) = gL μ K 0 (4 * h) ∧ gL μ' K 0 (4 * h + 5) = av (gL μ K 0 (4 * h)) (gL μ K 0 (4 * h + 1)) ∧ gL μ' K 0 (4 * h + 6) = av (av (gL μ K 0 (4 * h)) (gL μ K 0 (4 * h + 1))) (av (gL μ K 0 (4 * h + 1)) (gL μ K 0 (4 * h + 2))) ∧
    (d = 3 → gL μ' K 0 (4 * h + 7) = av (av (av (gL μ K 0 (4 * h)) (gL μ K 0 (4 * h + 1))) (av (gL μ K 0 (4 * h + 1)) (gL μ K 0 (4 * h + 2)))) (av (av (gL μ K 0 (4 * h + 1)) (gL μ K 0 (4 * h + 2))) (av (gL μ K 0 (4 * h + 2)) (gL μ K 0 (4 * h + 3))))) := by
  have n4 : nI (4 * h) + 4 = nI (4 * h + 4) := nI_add _ 4
  have c4 : (4 : Int32).toNatClampNeg = 4 := rfl
  obtain ⟨F, hF⟩ : ∃ F, FU = F + 1 + 1 + 1 + 1 + 1 := ⟨99995, rfl⟩
  have e0 : m_Fl_firstHalf K 0 44 0 (nI (4 * h)) μ = lp_Fl_firstHalf_15 K 0 44 0 (nI (4 * h)) FU (nI (4 * h + 4)) (nI 1) (cpL μ K 0 K 0 (4 * h) (4 * h + 4) 4) := by
    unfold m_Fl_firstHalf
    simp only [ap]
    rw [n4, nI_clamp (by omega), nI_clamp (by omega), c4]
    unfold gcp
    rw [if_pos]
    · rfl
    · rw [nI_clamp (by omega), nI_clamp (by omega), c4]
      refine ⟨⟨?_, ?_, by decide⟩, by omega, by omega⟩
      · rw [show (0 : Int32) = nI 0 from rfl, nlt (by omega) (by omega)]; omega
      · rw [show (0 : Int32) = nI 0 from rfl, nlt (by omega) (by omega)]; omega
  rw [e0]
  have k6 : gI (cpL μ K 0 K 0 (4 * h) (4 * h + 4) 4) 1 0 6 = nI d := h6
  have cA : ∀ b, b = 4 * h + 4 → gL (cpL μ K 0 K 0 (4 * h) (4 * h + 4) 4) K 0 b = gL μ K 0 (4 * h) := fun b h1 => by rw [gL_cp, if_pos ⟨rfl, rfl, by omega, by omega⟩]; congr 1; omega
  have cB : ∀ b, b = 4 * h + 5 → gL (cpL μ K 0 K 0 (4 * h) (4 * h + 4) 4) K 0 b = gL μ K 0 (4 * h + 1) := fun b h1 => by rw [gL_cp, if_pos ⟨rfl, rfl, by omega, by omega⟩]; congr 1; omega
  have cC : ∀ b, b = 4 * h + 6 → gL (cpL μ K 0 K 0 (4 * h) (4 * h + 4) 4) K 0 b = gL μ K 0 (4 * h + 2) := fun b h1 => by rw [gL_cp, if_pos ⟨rfl, rfl, by omega, by omega⟩]; congr 1; omega
  have cD : ∀ b, b = 4 * h + 7 → gL (cpL μ K 0 K 0 (4 * h) (4 * h + 4) 4) K 0 b = gL μ K 0 (4 * h + 3) := fun b h1 => by rw [gL_cp, if_pos ⟨rfl, rfl, by omega, by omega⟩]; congr 1; omega
  have r0 : ROW K (4 * h + 4) μ (cpL μ K 0 K 0 (4 * h) (4 * h + 4) 4) := row_cp
  generalize cpL μ K 0 K 0 (4 * h) (4 * h + 4) 4 = μ0 at *
  rcases hd with rfl | rfl
  · refine ⟨?hW1, ?hE1, ?hR1⟩
    case hE1 =>
      rw [hF]
      rw [st15 (d := 2) (by exact k6) (by omega) (by omega), hF]
      rw [st32 (by omega) (by omega) (by omega), st32 (by omega) (by omega) (by omega), ex32 (by omega) (by omega), jm64]
      rw [st15 (d := 2) (by exact k6) (by omega) (by omega), hF]
      rw [st32 (by omega) (by omega) (by omega), ex32 (by omega) (by omega), jm64]
      rw [ex15 (d := 2) (by exact k6) (by omega) (by omega)]
    case hR1 =>
      refine ⟨row_sL (row_sL (row_sL r0 (by omega)) (by omega)) (by omega), ?_, ?_, ?_, fun q => by omega⟩
      · simp (disch := omega) only [gL_ne2, gL_eq, cA]
      · simp (disch := omega) only [gL_ne2, gL_eq, cA, cB]
      · simp (disch := omega) only [gL_ne2, gL_eq, cA, cB, cC]
  · refine ⟨?hW2, ?hE2, ?hR2⟩
    case hE2 =>
      rw [hF]
      rw [st15 (d := 3) (by exact k6) (by omega) (by omega), hF]
      rw [st32 (by omega) (by omega) (by omega), st32 (by omega) (by omega) (by omega), st32 (by omega) (by omega) (by omega), ex32 (by omega) (by omega), jm64]
      rw [st15 (d := 3) (by exact k6) (by omega) (by omega), hF]
      rw [st32 (by omega) (by omega) (by omega), st32 (by omega) (by omega) (by omega), ex32 (by omega) (by omega), jm64]
      rw [st15 (d := 3) (by exact k6) (by omega) (by omega), hF]
      rw [st32 (by omega) (by omega) (by omega), ex32 (by omega) (by omega), jm64]
      rw [ex15 (d := 3) (by exact k6) (by omega) (by omega)]
    case hR2 =>
      refine ⟨row_sL (row_sL (row_sL (row_sL (row_sL (row_sL r0 (by omega)) (by omega)) (by omega)) (by omega)) (by omega)) (by omega), ?_, ?_, ?_, fun q => ?_⟩
      · simp (disch := omega) only [gL_ne2, gL_eq, cA]
      · simp (disch := omega) only [gL_ne2, gL_eq, cA, cB]
      · simp (disch := omega) only [gL_ne2, gL_eq, cA, cB, cC]
      · simp (disch := omega) only [gL_ne2, gL_eq, cA, cB, cC, cD]
theorem st27 {K H r Y d f : Nat} {a2 : Int32} {c : Int32 → Int32 → Mem → Option Mem} {μ : Mem} (h6 : gI μ 1 0 6 = nI d) (h1 : Y + r ≤ H + d) (h2 : H + d < 44) (hr : r ≤ d) (hr1 : 1 ≤ r) : lp_Fl_secondHalf_27 K 0 44 0 a2 c (f + 1) (nI H) (nI r) (nI Y) μ = lp_Fl_secondHalf_27 K 0 44 0 a2 c f (nI H) (nI r) (nI (Y + 1)) (sL μ K 0 Y (av (gL μ K 0 Y) (gL μ K 0 (Y + 1)))) := by
  have n1 : nI H + nI d = nI (H + d) := nI_add H d
  have n2 : nI (H + d) - nI r = nI (H + d - r) := pk_sub (by omega)
  have n3 : nI Y + 1 = nI (Y + 1) := nI_add Y 1
  rw [lp_Fl_secondHalf_27, h6, n1, n2, if_neg (by rw [nlt (by omega) (by omega)]; omega), n3, gu_nI (by omega) (by omega), gu_nI (by omega) (by omega), gu_nI (by omega) (by omega), nI_clamp (by omega), nI_clamp (by omega), sh1]
  rfl
theorem ex27 {K H r Y d f : Nat} {a2 : Int32} {c : Int32 → Int32 → Mem → Option Mem} {μ : Mem} (h6 : gI μ 1 0 6 = nI d) (h1 : H + d < Y + r) (hr : r ≤ d) (h2 : H + d < 44) (h3 : Y < 100) : lp_Fl_secondHalf_27 K 0 44 0 a2 c (f + 1) (nI H) (nI r) (nI Y) μ = c (nI H) (nI r) μ := by
  have n1 : nI H + nI d = nI (H + d) := nI_add H d
  have n2 : nI (H + d) - nI r = nI (H + d - r) := pk_sub (by omega)
  rw [lp_Fl_secondHalf_27, h6, n1, n2, if_pos (by rw [nlt (by omega) (by omega)]; omega)]
theorem su15 {K H r d f : Nat} {a2 : Int32} {μ : Mem} (h6 : gI μ 1 0 6 = nI d) (h1 : r ≤ d) (hd : d ≤ 3) : lp_Fl_secondHalf_15 K 0 44 0 a2 (f + 1) (nI H) (nI r) μ = lp_Fl_secondHalf_27 K 0 44 0 a2 (mj_Fl_secondHalf_64 K 0 44 0 a2 (lp_Fl_secondHalf_15 K 0 44 0 a2 f)) FU (nI H) (nI r) (nI H) μ := by
  rw [lp_Fl_secondHalf_15, h6, if_neg (by rw [nlt (by omega) (by omega)]; omega)]
theorem eu15 {K H r d f : Nat} {a2 : Int32} {μ : Mem} (h6 : gI μ 1 0 6 = nI d) (h1 : d < r) (hd : r ≤ 4) : lp_Fl_secondHalf_15 K 0 44 0 a2 (f + 1) (nI H) (nI r) μ = some μ := by
  rw [lp_Fl_secondHalf_15, h6, if_pos (by rw [nlt (by omega) (by omega)]; omega)]
theorem ju64 {K H r f : Nat} {a2 : Int32} {μ : Mem} : mj_Fl_secondHalf_64 K 0 44 0 a2 (lp_Fl_secondHalf_15 K 0 44 0 a2 f) (nI H) (nI r) μ = lp_Fl_secondHalf_15 K 0 44 0 a2 f (nI H) (nI (r + 1)) μ := by
  have n1 : nI r + 1 = nI (r + 1) := nI_add r 1
  unfold mj_Fl_secondHalf_64
  rw [n1]; rfl
theorem half2 {K h d : Nat} {μ : Mem} (hd : d = 2 ∨ d = 3) (hh : h < 10) (h6 : gI μ 1 0 6 = nI d) : ∃ μ', m_Fl_secondHalf K 0 44 0 (nI (4 * h)) μ = some μ' ∧ ROW K (4 * h + 4) μ μ' ∧
    (d = 2 → gL μ' K 0 (4 * h + 4) = av (av (gL μ K 0 (4 * h)) (gL μ K 0 (4 * h + 1))) (av (gL μ K 0 (4 * h + 1)) (gL μ K 0 (4 * h + 2))) ∧ gL μ' K 0 (4 * h + 5) = av (gL μ K 0 (4 * h + 1)) (gL μ K 0 (4 * h + 2)) ∧ gL μ' K 0 (4 * h + 6) = gL μ K 0 (4 * h + 2)) ∧
    (d = 3 → gL μ' K 0 (4 * h + 4) = av (av (av (gL μ K 0 (4 * h)) (gL μ K 0 (4 * h + 1))) (av (gL μ K 0 (4 * h + 1)) (gL μ K 0 (4 * h + 2)))) (av (av (gL μ K 0 (4 * h + 1)) (gL μ K 0 (4 * h + 2))) (av (gL μ K 0 (4 * h + 2)) (gL μ K 0 (4 * h + 3)))) ∧ gL μ' K 0 (4 * h + 5) = av (av (gL μ K 0 (4 * h + 1)) (gL μ K 0 (4 * h + 2))) (av (gL μ K 0 (4 * h + 2)) (gL μ K 0 (4 * h + 3))) ∧ gL μ' K 0 (4 * h + 6) = av (gL μ K 0 (4 * h + 2)) (gL μ K 0 (4 * h + 3)) ∧ gL μ' K 0 (4 * h + 7) = gL μ K 0 (4 * h + 3)) := by
  have n4 : nI (4 * h) + 4 = nI (4 * h + 4) := nI_add _ 4
  have c4 : (4 : Int32).toNatClampNeg = 4 := rfl
  obtain ⟨F, hF⟩ : ∃ F, FU = F + 1 + 1 + 1 + 1 + 1 := ⟨99995, rfl⟩
  have e0 : m_Fl_secondHalf K 0 44 0 (nI (4 * h)) μ = lp_Fl_secondHalf_15 K 0 44 0 (nI (4 * h)) FU (nI (4 * h + 4)) (nI 1) (cpL μ K 0 K 0 (4 * h) (4 * h + 4) 4) := by
    unfold m_Fl_secondHalf
    simp only [ap]
    rw [n4, nI_clamp (by omega), nI_clamp (by omega), c4]
    unfold gcp
    rw [if_pos]
    · rfl
    · rw [nI_clamp (by omega), nI_clamp (by omega), c4]
      refine ⟨⟨?_, ?_, by decide⟩, by omega, by omega⟩
      · rw [show (0 : Int32) = nI 0 from rfl, nlt (by omega) (by omega)]; omega
      · rw [show (0 : Int32) = nI 0 from rfl, nlt (by omega) (by omega)]; omega
  rw [e0]
  have k6 : gI (cpL μ K 0 K 0 (4 * h) (4 * h + 4) 4) 1 0 6 = nI d := h6
  have cA : ∀ b, b = 4 * h + 4 → gL (cpL μ K 0 K 0 (4 * h) (4 * h + 4) 4) K 0 b = gL μ K 0 (4 * h) := fun b h1 => by rw [gL_cp, if_pos ⟨rfl, rfl, by omega, by omega⟩]; congr 1; omega
  have cB : ∀ b, b = 4 * h + 5 → gL (cpL μ K 0 K 0 (4 * h) (4 * h + 4) 4) K 0 b = gL μ K 0 (4 * h + 1) := fun b h1 => by rw [gL_cp, if_pos ⟨rfl, rfl, by omega, by omega⟩]; congr 1; omega
  have cC : ∀ b, b = 4 * h + 6 → gL (cpL μ K 0 K 0 (4 * h) (4 * h + 4) 4) K 0 b = gL μ K 0 (4 * h + 2) := fun b h1 => by rw [gL_cp, if_pos ⟨rfl, rfl, by omega, by omega⟩]; congr 1; omega
  have cD : ∀ b, b = 4 * h + 7 → gL (cpL μ K 0 K 0 (4 * h) (4 * h + 4) 4) K 0 b = gL μ K 0 (4 * h + 3) := fun b h1 => by rw [gL_cp, if_pos ⟨rfl, rfl, by omega, by omega⟩]; congr 1; omega
  have r0 : ROW K (4 * h + 4) μ (cpL μ K 0 K 0 (4 * h) (4 * h + 4) 4) := row_cp
  generalize cpL μ K 0 K 0 (4 * h) (4 * h + 4) 4 = μ0 at *
  rcases hd with rfl | rfl
  · refine ⟨?hW3, ?hE3, ?hR3⟩
    case hE3 =>
      rw [hF]
      rw [su15 (d := 2) (by exact k6) (by omega) (by omega), hF]
      rw [st27 (d := 2) (by exact k6) (by omega) (by omega) (by omega) (by omega), st27 (d := 2) (by exact k6) (by omega) (by omega) (by omega) (by omega), ex27 (d := 2) (by exact k6) (by omega) (by omega) (by omega) (by omega), ju64]
      rw [su15 (d := 2) (by exact k6) (by omega) (by omega), hF]
      rw [st27 (d := 2) (by exact k6) (by omega) (by omega) (by omega) (by omega), ex27 (d := 2) (by exact k6) (by omega) (by omega) (by omega) (by omega), ju64]
      rw [eu15 (d := 2) (by exact k6) (by omega) (by omega)]
    case hR3 =>
      refine ⟨row_sL (row_sL (row_sL r0 (by omega)) (by omega)) (by omega), fun _ => ⟨?_, ?_, ?_⟩, fun q => by omega⟩
      · simp (disch := omega) only [gL_ne2, gL_eq, cA, cB, cC]
      · simp (disch := omega) only [gL_ne2, gL_eq, cB, cC]
      · simp (disch := omega) only [gL_ne2, gL_eq, cC]
  · refine ⟨?hW4, ?hE4, ?hR4⟩
    case hE4 =>
      rw [hF]
      rw [su15 (d := 3) (by exact k6) (by omega) (by omega), hF]
      rw [st27 (d := 3) (by exact k6) (by omega) (by omega) (by omega) (by omega), st27 (d := 3) (by exact k6) (by omega) (by omega) (by omega) (by omega), st27 (d := 3) (by exact k6) (by omega) (by omega) (by omega) (by omega), ex27 (d := 3) (by exact k6) (by omega) (by omega) (by omega) (by omega), ju64]
      rw [su15 (d := 3) (by exact k6) (by omega) (by omega), hF]
      rw [st27 (d := 3) (by exact k6) (by omega) (by omega) (by omega) (by omega), st27 (d := 3) (by exact k6) (by omega) (by omega) (by omega) (by omega), ex27 (d := 3) (by exact k6) (by omega) (by omega) (by omega) (by omega), ju64]
      rw [su15 (d := 3) (by exact k6) (by omega) (by omega), hF]
      rw [st27 (d := 3) (by exact k6) (by omega) (by omega) (by omega) (by omega), ex27 (d := 3) (by exact k6) (by omega) (by omega) (by omega) (by omega), ju64]
      rw [eu15 (d := 3) (by exact k6) (by omega) (by omega)]
    case hR4 =>
      refine ⟨row_sL (row_sL (row_sL (row_sL (row_sL (row_sL r0 (by omega)) (by omega)) (by omega)) (by omega)) (by omega)) (by omega), fun q => by omega, fun _ => ⟨?_, ?_, ?_, ?_⟩⟩
      · simp (disch := omega) only [gL_ne2, gL_eq, cA, cB, cC, cD]
      · simp (disch := omega) only [gL_ne2, gL_eq, cB, cC, cD]
      · simp (disch := omega) only [gL_ne2, gL_eq, cC, cD]
      · simp (disch := omega) only [gL_ne2, gL_eq, cD]
