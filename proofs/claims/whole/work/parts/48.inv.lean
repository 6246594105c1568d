/-- outlines of letter l: c closed ones, p points, outline o from e o to e (o + 1) -/
def SF (μ : Mem) (l c p : Nat) (e : Nat → Nat) : Prop := c ≤ 8 ∧ p ≤ 100 ∧ gI μ 10 l 6 = nI c ∧ gI μ 343 0 l = nI c ∧ gI μ 344 0 l = gI μ 10 l 7 ∧ (gI μ 10 l 7 = 0 ∨ gI μ 10 l 7 = 1) ∧ gI μ 10 l 8 = nI p ∧ gI μ 345 0 l = nI p ∧
  e 0 = 0 ∧ (∀ o, o < c → e o + 2 ≤ e (o + 1)) ∧ e c ≤ p ∧ (gI μ 10 l 7 = 0 → e c = p) ∧ (gI μ 10 l 7 = 1 → c < 8) ∧ (∀ o, o < c → gI μ 305 l o = nI (e (o + 1)) ∧ gI μ 346 0 (8 * l + o) = nI (e (o + 1)))
def bI (x : Int32) (a b : Int) : Prop := a ≤ x.toInt ∧ x.toInt ≤ b
def PT (μ : Mem) (l p : Nat) : Prop := ∀ k, k < p → gI μ 347 0 (100 * l + k) = gI μ 300 l k ∧ gI μ 348 0 (100 * l + k) = gI μ 301 l k ∧ gI μ 349 0 (100 * l + k) = gI μ 302 l k ∧ bI (gI μ 300 l k) (-32000) 32000 ∧ bI (gI μ 301 l k) (-32000) 32000 ∧ bI (gI μ 302 l k) 0 2 ∧
  (∀ m, m < 3 → gI μ 350 0 (3 * (100 * l + k) + m) = gI μ 703 (3 * l + m) k ∧ gI μ 351 0 (3 * (100 * l + k) + m) = gI μ 704 (3 * l + m) k ∧ bI (gI μ 703 (3 * l + m) k) (-2000) 2000 ∧ bI (gI μ 704 (3 * l + m) k) (-2000) 2000)
/-- the kinds of an outline from s to t, as they should be -/
def LC (kd : Nat → Int32) (s t : Nat) : Prop := kd s = 0 ∧ ∀ k, s ≤ k → k < t → (kd k = 0 ∨ kd k = 1 ∨ kd k = 2) ∧
  (kd k = 1 → kd (k - 1) = 0 ∧ (k + 1 < t → kd (k + 1) = 0)) ∧
  (kd k = 2 → (kd (k - 1) = 0 ∧ k + 1 < t ∧ kd (k + 1) = 2 ∧ (k + 2 < t → kd (k + 2) = 0)) ∨ (s + 1 < k ∧ kd (k - 1) = 2 ∧ kd (k - 2) = 0 ∧ (k + 1 < t → kd (k + 1) = 0)))
def LSh (μ : Mem) (l : Nat) : Prop := ∃ c p e, SF μ l c p e ∧ PT μ l p ∧ ∀ o, o < c → LC (gI μ 302 l) (e o) (e (o + 1))
/-- the parts of letter l -/
def PS (μ : Mem) (n l pc : Nat) (tg : Nat → Nat) : Prop := pc ≤ 6 ∧ gI μ 4 l 5 = nI pc ∧ gI μ 352 0 l = nI pc ∧ (0 < pc → gI μ 10 l 6 = 0 ∧ gI μ 10 l 7 = 0) ∧ ∀ k, k < pc → tg k < n ∧ gR μ 184 l k = some (6 * l + k) ∧ gR μ 6 (6 * l + k) 0 = some (tg k) ∧ gI μ 353 0 (6 * l + k) = nI (tg k) ∧
  gI μ 355 0 (6 * l + k) = gI μ 6 (6 * l + k) 1 ∧ gI μ 356 0 (6 * l + k) = gI μ 6 (6 * l + k) 2 ∧ bI (gI μ 6 (6 * l + k) 1) (-32000) 32000 ∧ bI (gI μ 6 (6 * l + k) 2) (-32000) 32000 ∧
  (∀ j, j < 4 → gI μ 354 0 (4 * (6 * l + k) + j) = gI μ 6 (6 * l + k) (3 + j) ∧ bI (gI μ 6 (6 * l + k) (3 + j)) (-32768) 32767)
/-- depths, and who is a part -/
def LD (μ : Mem) (n : Nat) : Prop := ∃ dp : Nat → Nat, ∀ l, l < n → (gI μ 4 l 6 = 0 ∨ gI μ 4 l 6 = 1) ∧ dp l ≤ 4 ∧ gI μ 4 l 7 = nI (dp l) ∧
  (∀ k t : Nat, (k : Int) < (gI μ 4 l 5).toInt → gR μ 6 (6 * l + k) 0 = some t → t < n ∧ gI μ 4 t 6 = 1 ∧ dp t + 1 ≤ dp l) ∧
  ((gI μ 4 l 5).toInt = 0 → dp l = 0) ∧ (0 < (gI μ 4 l 5).toInt → ∃ k t : Nat, (k : Int) < (gI μ 4 l 5).toInt ∧ gR μ 6 (6 * l + k) 0 = some t ∧ dp l = dp t + 1) ∧
  (gI μ 4 l 6 = 1 → ∃ a k : Nat, a < n ∧ (k : Int) < (gI μ 4 a 5).toInt ∧ gR μ 6 (6 * a + k) 0 = some l)
/-- the acts of letter l -/
def LA (μ : Mem) (l : Nat) : Prop := ∃ a, a ≤ 100 ∧ gI μ 8 l 2 = nI a ∧ gI μ 357 0 l = nI a ∧ ∀ k, k < a → gI μ 358 0 (100 * l + k) = gI μ 260 l k ∧ bI (gI μ 260 l k) 0 30 ∧ gI μ 359 0 (100 * l + k) = gI μ 261 l k ∧ bI (gI μ 261 l k) (-100000) 100000
def LK (μ : Mem) (l : Nat) : Prop := gI μ 399 0 l = gI μ 4 l 8 ∧ gI μ 400 0 l = gI μ 4 l 9 ∧ bI (gI μ 4 l 8) 0 15 ∧ bI (gI μ 4 l 9) 0 15
def KR (μ : Mem) : Prop := (∀ c d, c < 16 → d < 16 → gI μ 401 0 (16 * c + d) = gI μ 560 c d ∧ bI (gI μ 560 c d) (-2000) 2000) ∧
  (∀ a d, a < 32 → d < 32 → (gI μ 403 0 (32 * a + d) = 0 ∧ gI μ 561 a d = 10000) ∨ (gI μ 403 0 (32 * a + d) = 1 ∧ gI μ 402 0 (32 * a + d) = gI μ 561 a d ∧ bI (gI μ 561 a d) (-2000) 2000))
def WT (μ : Mem) : Prop := ∀ m, m < 3 → gI μ 398 0 m = gI μ 329 0 m ∧ bI (gI μ 329 0 m) (-32768) 32767
def RU (μ : Mem) : Prop := ∃ r, r ≤ 40 ∧ gI μ 5 0 2 = nI r ∧ gI μ 12 0 64 = nI r ∧ ∀ k, k < r → (∀ i, i < 3 → gI μ 405 0 (4 * k + i) = gI μ 600 i k) ∧ gI μ 405 0 (4 * k + 3) = gI μ 201 0 k ∧ bI (gI μ 600 0 k) 0 65535 ∧ bI (gI μ 600 1 k) 0 65535 ∧ bI (gI μ 600 2 k) (-1) 65535 ∧ bI (gI μ 201 0 k) 0 65535
def SG (μ : Mem) : Prop := ∃ s, s ≤ 60 ∧ gI μ 5 0 4 = nI s ∧ gI μ 12 0 66 = nI s ∧ ∀ k, k < s → gI μ 407 0 k = gI μ 203 0 k ∧ bI (gI μ 203 0 k) 0 65535
def PL (n : Nat) (μ : Mem) : Prop := ∃ s, s ≤ 60 ∧ gI μ 5 0 8 = nI s ∧ gI μ 12 0 68 = nI s ∧ (∀ k, k < s → gI μ 409 0 k = gI μ 205 0 k ∧ gI μ 410 0 k = gI μ 206 0 k ∧ gI μ 411 0 k = gI μ 207 0 k ∧ ∃ l, l < n ∧ gI μ 205 0 k = nI l) ∧
  (s = 0 → gI μ 5 0 9 = 0) ∧ (∀ k l, s = k + 1 → gI μ 205 0 k = nI l → gI μ 5 0 9 = gI μ 206 0 k + gI μ 4 l 1)
/-- the polygons i: g of them, the j-th from b j to b (j + 1) -/
def PG (μ : Mem) (i f g : Nat) (b : Nat → Nat) : Prop := f ≤ 500 ∧ gI μ 7 i 4 = nI f ∧ gI μ 12 0 27 = nI f ∧ b 0 = 0 ∧ b g = f ∧ (∀ j, j < g → b j + 2 ≤ b (j + 1)) ∧
  (∀ k, k < f → gI μ 368 0 k = gI μ 240 i k ∧ gI μ 369 0 k = gI μ 241 i k ∧ gI μ 370 0 k = gI μ 242 i k ∧ bI (gI μ 240 i k) (-100000) 100000 ∧ bI (gI μ 241 i k) (-100000) 100000) ∧
  (∀ j k, j < g → b j ≤ k → k < b (j + 1) → gI μ 242 i k = nI j ∧ gI μ 243 i k = nI (if k + 1 = b (j + 1) then b j else k + 1))
def PO (μ : Mem) : Prop := ∃ i j f g b, ((i = 0 ∧ j = 1) ∨ (i = 1 ∧ j = 0)) ∧ gR μ 11 0 3 = some i ∧ gR μ 11 0 4 = some j ∧ PG μ i f g b
/-- the picture -/
def cnt (f : Nat → Int32) : Nat → Nat
  | 0 => 0
  | k + 1 => cnt f k + (if 0 < f k then 1 else 0)
def IM (μ : Mem) : Prop := (∀ k, k < 4096 → gI μ 379 0 k = gI μ 140 0 k ∧ bI (gI μ 140 0 k) 0 64) ∧ (∀ k, k < 513 → gI μ 141 0 k = 0) ∧ gI μ 2 0 4 = nI (cnt (gI μ 140 0) 4096) ∧
  (0 < cnt (gI μ 140 0) 4096 → ∃ i0 i1 j0 j1 : Nat, i1 < 64 ∧ j1 < 64 ∧ gI μ 2 0 5 = nI i0 - 16 ∧ gI μ 2 0 6 = nI j0 - 16 ∧ gI μ 2 0 7 = nI i1 - 16 ∧ gI μ 2 0 8 = nI j1 - 16 ∧
    (∀ k, k < 4096 → 0 < gI μ 140 0 k → i0 ≤ k % 64 ∧ k % 64 ≤ i1 ∧ j0 ≤ k / 64 ∧ k / 64 ≤ j1) ∧
    (∃ k, k < 4096 ∧ 0 < gI μ 140 0 k ∧ k % 64 = i0) ∧ (∃ k, k < 4096 ∧ 0 < gI μ 140 0 k ∧ k % 64 = i1) ∧ (∃ k, k < 4096 ∧ 0 < gI μ 140 0 k ∧ k / 64 = j0) ∧ (∃ k, k < 4096 ∧ 0 < gI μ 140 0 k ∧ k / 64 = j1))
/-- the latest run that answered 0: rows 501, 502 of the fitting i -/
def FI (μ : Mem) : Prop := ∃ i j p, ((i = 0 ∧ j = 1) ∨ (i = 1 ∧ j = 0)) ∧ gR μ 11 0 7 = some i ∧ gR μ 11 0 8 = some j ∧ p ≤ 100 ∧ gI μ 0 i 5 = nI p ∧ gI μ 12 0 53 = nI p ∧
  ∀ k, k < p → gI μ 394 0 k = gI μ 501 (2 * i) k ∧ gI μ 395 0 k = gI μ 501 (2 * i + 1) k ∧ gI μ 396 0 k = gI μ 502 (2 * i) k ∧ gI μ 397 0 k = gI μ 502 (2 * i + 1) k ∧ (gI μ 502 (2 * i) k = 0 ∨ gI μ 502 (2 * i) k = 1) ∧ (gI μ 502 (2 * i + 1) k = 0 ∨ gI μ 502 (2 * i + 1) k = 1)
/-- what isn't live yet -/
def LF (n : Nat) (μ : Mem) : Prop := (∀ l, n ≤ l → gF μ 4 l = false ∧ gF μ 10 l = false ∧ gF μ 8 l = false ∧ gF μ 184 l = false ∧ gF μ 300 l = false ∧ gF μ 301 l = false ∧ gF μ 302 l = false ∧ gF μ 303 l = false ∧ gF μ 304 l = false ∧ gF μ 305 l = false ∧ gF μ 260 l = false ∧ gF μ 261 l = false ∧ (∀ k, k < 3 → gF μ 703 (3 * l + k) = false ∧ gF μ 704 (3 * l + k) = false) ∧ (∀ k, k < 6 → gF μ 6 (6 * l + k) = false)) ∧
  (∀ l k : Nat, l < n → k < 6 → (gI μ 4 l 5).toInt ≤ (k : Int) → gF μ 6 (6 * l + k) = false)
def Inv (μ : Mem) : Prop := ∃ n, IA n μ ∧ (∀ l, l < n → LSh μ l) ∧ (∀ l, l < n → ∃ pc tg, PS μ n l pc tg) ∧ LD μ n ∧ (∀ l, l < n → LA μ l) ∧ (∀ l, l < n → LK μ l) ∧ KR μ ∧ WT μ ∧ RU μ ∧ SG μ ∧ PL n μ ∧ PO μ ∧ IM μ ∧ FI μ ∧ LF n μ
/-- the roles that each of these speaks of -/
theorem eqs {S : List Nat} {μ ν : Mem} (u : Un S μ ν) (k : Nat) (hk : k ∉ S) : gI ν k = gI μ k ∧ gR ν k = gR μ k := ⟨(u.1 k hk).1, (u.1 k hk).2.2⟩
section FRS
variable {S : List Nat} {μ ν : Mem}
theorem IA_fr {n : Nat} (hS : ∀ k ∈ [4, 11, 12, 320, 341, 342], k ∉ S) (u : Un S μ ν) (h : IA n μ) : IA n ν := by
  unfold IA
  rw [(eqs u 4 (hS _ (by simp))).1, (eqs u 11 (hS _ (by simp))).1, (eqs u 12 (hS _ (by simp))).1, (eqs u 341 (hS _ (by simp))).1, (eqs u 342 (hS _ (by simp))).1, (eqs u 320 (hS _ (by simp))).2]
  exact h
theorem LSh_fr {l : Nat} (hS : ∀ k ∈ [10, 300, 301, 302, 305, 343, 344, 345, 346, 347, 348, 349, 350, 351, 703, 704], k ∉ S) (u : Un S μ ν) (h : LSh μ l) : LSh ν l := by
  unfold LSh SF PT
  rw [(eqs u 10 (hS _ (by simp))).1, (eqs u 300 (hS _ (by simp))).1, (eqs u 301 (hS _ (by simp))).1, (eqs u 302 (hS _ (by simp))).1, (eqs u 305 (hS _ (by simp))).1, (eqs u 343 (hS _ (by simp))).1, (eqs u 344 (hS _ (by simp))).1, (eqs u 345 (hS _ (by simp))).1, (eqs u 346 (hS _ (by simp))).1, (eqs u 347 (hS _ (by simp))).1, (eqs u 348 (hS _ (by simp))).1, (eqs u 349 (hS _ (by simp))).1, (eqs u 350 (hS _ (by simp))).1, (eqs u 351 (hS _ (by simp))).1, (eqs u 703 (hS _ (by simp))).1, (eqs u 704 (hS _ (by simp))).1]
  exact h
theorem PS_fr {n l pc : Nat} {tg : Nat → Nat} (hS : ∀ k ∈ [4, 6, 10, 184, 352, 353, 354, 355, 356], k ∉ S) (u : Un S μ ν) (h : PS μ n l pc tg) : PS ν n l pc tg := by
  unfold PS
  rw [(eqs u 4 (hS _ (by simp))).1, (eqs u 6 (hS _ (by simp))).1, (eqs u 6 (hS _ (by simp))).2, (eqs u 10 (hS _ (by simp))).1, (eqs u 184 (hS _ (by simp))).2, (eqs u 352 (hS _ (by simp))).1, (eqs u 353 (hS _ (by simp))).1, (eqs u 354 (hS _ (by simp))).1, (eqs u 355 (hS _ (by simp))).1, (eqs u 356 (hS _ (by simp))).1]
  exact h
theorem LD_fr {n : Nat} (hS : ∀ k ∈ [4, 6], k ∉ S) (u : Un S μ ν) (h : LD μ n) : LD ν n := by
  unfold LD
  rw [(eqs u 4 (hS _ (by simp))).1, (eqs u 6 (hS _ (by simp))).2]
  exact h
theorem LA_fr {l : Nat} (hS : ∀ k ∈ [8, 260, 261, 357, 358, 359], k ∉ S) (u : Un S μ ν) (h : LA μ l) : LA ν l := by
  unfold LA
  rw [(eqs u 8 (hS _ (by simp))).1, (eqs u 260 (hS _ (by simp))).1, (eqs u 261 (hS _ (by simp))).1, (eqs u 357 (hS _ (by simp))).1, (eqs u 358 (hS _ (by simp))).1, (eqs u 359 (hS _ (by simp))).1]
  exact h
theorem LK_fr {l : Nat} (hS : ∀ k ∈ [4, 399, 400], k ∉ S) (u : Un S μ ν) (h : LK μ l) : LK ν l := by
  unfold LK
  rw [(eqs u 4 (hS _ (by simp))).1, (eqs u 399 (hS _ (by simp))).1, (eqs u 400 (hS _ (by simp))).1]
  exact h
theorem KR_fr (hS : ∀ k ∈ [401, 402, 403, 560, 561], k ∉ S) (u : Un S μ ν) (h : KR μ) : KR ν := by
  unfold KR
  rw [(eqs u 401 (hS _ (by simp))).1, (eqs u 402 (hS _ (by simp))).1, (eqs u 403 (hS _ (by simp))).1, (eqs u 560 (hS _ (by simp))).1, (eqs u 561 (hS _ (by simp))).1]
  exact h
theorem WT_fr (hS : ∀ k ∈ [329, 398], k ∉ S) (u : Un S μ ν) (h : WT μ) : WT ν := by
  unfold WT
  rw [(eqs u 329 (hS _ (by simp))).1, (eqs u 398 (hS _ (by simp))).1]
  exact h
theorem RU_fr (hS : ∀ k ∈ [5, 12, 201, 405, 600], k ∉ S) (u : Un S μ ν) (h : RU μ) : RU ν := by
  unfold RU
  rw [(eqs u 5 (hS _ (by simp))).1, (eqs u 12 (hS _ (by simp))).1, (eqs u 201 (hS _ (by simp))).1, (eqs u 405 (hS _ (by simp))).1, (eqs u 600 (hS _ (by simp))).1]
  exact h
theorem SG_fr (hS : ∀ k ∈ [5, 12, 203, 407], k ∉ S) (u : Un S μ ν) (h : SG μ) : SG ν := by
  unfold SG
  rw [(eqs u 5 (hS _ (by simp))).1, (eqs u 12 (hS _ (by simp))).1, (eqs u 203 (hS _ (by simp))).1, (eqs u 407 (hS _ (by simp))).1]
  exact h
theorem PL_fr {n : Nat} (hS : ∀ k ∈ [4, 5, 12, 205, 206, 207, 409, 410, 411], k ∉ S) (u : Un S μ ν) (h : PL n μ) : PL n ν := by
  unfold PL
  rw [(eqs u 4 (hS _ (by simp))).1, (eqs u 5 (hS _ (by simp))).1, (eqs u 12 (hS _ (by simp))).1, (eqs u 205 (hS _ (by simp))).1, (eqs u 206 (hS _ (by simp))).1, (eqs u 207 (hS _ (by simp))).1, (eqs u 409 (hS _ (by simp))).1, (eqs u 410 (hS _ (by simp))).1, (eqs u 411 (hS _ (by simp))).1]
  exact h
theorem IM_fr (hS : ∀ k ∈ [2, 140, 141, 379], k ∉ S) (u : Un S μ ν) (h : IM μ) : IM ν := by
  unfold IM
  rw [(eqs u 2 (hS _ (by simp))).1, (eqs u 140 (hS _ (by simp))).1, (eqs u 141 (hS _ (by simp))).1, (eqs u 379 (hS _ (by simp))).1]
  exact h
theorem PO_fr (hS : ∀ k ∈ [7, 11, 12, 240, 241, 242, 243, 368, 369, 370], k ∉ S) (u : Un S μ ν) (h : PO μ) : PO ν := by
  unfold PO PG
  rw [(eqs u 7 (hS _ (by simp))).1, (eqs u 12 (hS _ (by simp))).1, (eqs u 240 (hS _ (by simp))).1, (eqs u 241 (hS _ (by simp))).1, (eqs u 242 (hS _ (by simp))).1, (eqs u 243 (hS _ (by simp))).1, (eqs u 368 (hS _ (by simp))).1, (eqs u 369 (hS _ (by simp))).1, (eqs u 370 (hS _ (by simp))).1, (eqs u 11 (hS _ (by simp))).2]
  exact h
theorem FI_fr (hS : ∀ k ∈ [0, 11, 12, 394, 395, 396, 397, 501, 502], k ∉ S) (u : Un S μ ν) (h : FI μ) : FI ν := by
  unfold FI
  rw [(eqs u 0 (hS _ (by simp))).1, (eqs u 12 (hS _ (by simp))).1, (eqs u 394 (hS _ (by simp))).1, (eqs u 395 (hS _ (by simp))).1, (eqs u 396 (hS _ (by simp))).1, (eqs u 397 (hS _ (by simp))).1, (eqs u 501 (hS _ (by simp))).1, (eqs u 502 (hS _ (by simp))).1, (eqs u 11 (hS _ (by simp))).2]
  exact h
theorem LF_fr {n : Nat} (hS : ∀ k ∈ [4], k ∉ S) (u : Un S μ ν) (h : LF n μ) : LF n ν := by
  unfold LF
  simp only [u.2]
  rw [(eqs u 4 (hS _ (by simp))).1]
  exact h
end FRS
