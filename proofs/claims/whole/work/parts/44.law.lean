def mj_Law_1463 (L : Nat) (xs : Nat → Int32) (c_18 : Int32 → Mem → Option Bool) (y3 : Int32) (μ : Mem) : Option Bool :=
  ap (y3 + (7 : Int32)) fun x13 =>
  c_18 (x13) μ
theorem tj_Law_1463 (L : Nat) (xs : Nat → Int32) (n : Nat) {c_18 : Int32 → Mem → Option Bool} (hc_18 : ∀ (y3 : Int32) (μ : Mem), c_18 y3 μ = some true → J (GL L xs) true code R_law 4 48 (20 * n) (1200 * n) 18 [(0, vr 902 (0)), (1, vr 11 (0)), (2, vr 12 (0)), (3, vi (y3))] [] μ) (y3 : Int32) (μ : Mem) (h : mj_Law_1463 L xs c_18 y3 μ = some true) : J (GL L xs) true code R_law 4 48 (20 * n) (1200 * n) 1463 [(0, vr 902 (0)), (1, vr 11 (0)), (2, vr 12 (0)), (3, vi (y3))] [] μ := by
  unfold mj_Law_1463 at h
  obtain ⟨x13, hx13, h⟩ := ap_eq h
  refine J_iinc (q := 1466) (v := x13) (lv' := [(3, vi (x13)), (0, vr 902 (0)), (1, vr 11 (0)), (2, vr 12 (0))]) 3 d_Law_1463 rfl (by rw [hx13]; rfl) (by decide) rfl rfl ?_
  refine J_goto (q := 18) d_Law_1466 (by decide) ?_
  refine J_rc (rc2 := 20 * n) (rs2 := 1200 * n) (by omega) (by omega) ?_
  refine J_pick [1, 2, 3, 0] rfl ?_
  exact hc_18 _ _ h
def lp_Law_18 (L : Nat) (xs : Nat → Int32) : Nat → Int32 → Mem → Option Bool
  | 0, _, _ => none
  | n + 1, y3, μ =>
  if (Int32.ofNat L) - ((7 : Int32)) < y3 then
 (some true)
 else
 (gu (y3) L <|
  ap ((xs y3.toNatClampNeg) &&& ((63 : Int32))) fun x309 =>
  if x309 = (0 : Int32) then
 (gu (y3 + (1 : Int32)) L <|
  gu (y3 + (2 : Int32)) L <|
  Option.bind (m_Fo_letter (xs (y3 + (1 : Int32)).toNatClampNeg) (xs (y3 + (2 : Int32)).toNatClampNeg) μ) fun r312 =>
  ap (r312.2) fun μ313 =>
  ap (r312.1) fun x314 =>
  gu (y3 + (1 : Int32)) L <|
  gu (y3 + (2 : Int32)) L <|
  Option.bind (m_Mo_letter (xs (y3 + (1 : Int32)).toNatClampNeg) (xs (y3 + (2 : Int32)).toNatClampNeg) μ313) fun r317 =>
  ap (r317.2) fun μ318 =>
  ap (r317.1) fun x319 =>
  if x314 = x319 then
 (mj_Law_1463 L xs (lp_Law_18 L xs n) (y3) μ318)
 else
 (some false))
 else if x309 = (1 : Int32) then
 (gu (y3 + (1 : Int32)) L <|
  Option.bind (m_Fo_find (xs (y3 + (1 : Int32)).toNatClampNeg) μ) fun r321 =>
  gu (y3 + (1 : Int32)) L <|
  Option.bind (m_Mo_find (xs (y3 + (1 : Int32)).toNatClampNeg) μ) fun r323 =>
  if r321 = r323 then
 (mj_Law_1463 L xs (lp_Law_18 L xs n) (y3) μ)
 else
 (some false))
 else if x309 = (2 : Int32) then
 (gu (y3 + (1 : Int32)) L <|
  Option.bind (m_Fo_outline (xs (y3 + (1 : Int32)).toNatClampNeg) μ) fun r325 =>
  ap (r325.2) fun μ326 =>
  ap (r325.1) fun x327 =>
  gu (y3 + (1 : Int32)) L <|
  Option.bind (m_Mo_outline (xs (y3 + (1 : Int32)).toNatClampNeg) μ326) fun r329 =>
  ap (r329.2) fun μ330 =>
  ap (r329.1) fun x331 =>
  if x327 = x331 then
 (mj_Law_1463 L xs (lp_Law_18 L xs n) (y3) μ330)
 else
 (some false))
 else if x309 = (3 : Int32) then
 (gu (y3 + (1 : Int32)) L <|
  gu (y3 + (2 : Int32)) L <|
  gu (y3 + (3 : Int32)) L <|
  gu (y3 + (4 : Int32)) L <|
  Option.bind (m_Fo_point (xs (y3 + (1 : Int32)).toNatClampNeg) (xs (y3 + (2 : Int32)).toNatClampNeg) (xs (y3 + (3 : Int32)).toNatClampNeg) (xs (y3 + (4 : Int32)).toNatClampNeg) μ) fun r336 =>
  ap (r336.2) fun μ337 =>
  ap (r336.1) fun x338 =>
  gu (y3 + (1 : Int32)) L <|
  gu (y3 + (2 : Int32)) L <|
  gu (y3 + (3 : Int32)) L <|
  gu (y3 + (4 : Int32)) L <|
  Option.bind (m_Mo_point (xs (y3 + (1 : Int32)).toNatClampNeg) (xs (y3 + (2 : Int32)).toNatClampNeg) (xs (y3 + (3 : Int32)).toNatClampNeg) (xs (y3 + (4 : Int32)).toNatClampNeg) μ337) fun r343 =>
  ap (r343.2) fun μ344 =>
  ap (r343.1) fun x345 =>
  if x338 = x345 then
 (mj_Law_1463 L xs (lp_Law_18 L xs n) (y3) μ344)
 else
 (some false))
 else if x309 = (4 : Int32) then
 (gu (y3 + (1 : Int32)) L <|
  Option.bind (m_Fo_close (xs (y3 + (1 : Int32)).toNatClampNeg) μ) fun r347 =>
  ap (r347.2) fun μ348 =>
  ap (r347.1) fun x349 =>
  gu (y3 + (1 : Int32)) L <|
  Option.bind (m_Mo_close (xs (y3 + (1 : Int32)).toNatClampNeg) μ348) fun r351 =>
  ap (r351.2) fun μ352 =>
  ap (r351.1) fun x353 =>
  if x349 = x353 then
 (mj_Law_1463 L xs (lp_Law_18 L xs n) (y3) μ352)
 else
 (some false))
 else if x309 = (5 : Int32) then
 (gu (y3 + (1 : Int32)) L <|
  Option.bind (m_Fo_drop (xs (y3 + (1 : Int32)).toNatClampNeg) μ) fun r355 =>
  ap (r355.2) fun μ356 =>
  ap (r355.1) fun x357 =>
  gu (y3 + (1 : Int32)) L <|
  Option.bind (m_Mo_drop (xs (y3 + (1 : Int32)).toNatClampNeg) μ356) fun r359 =>
  ap (r359.2) fun μ360 =>
  ap (r359.1) fun x361 =>
  if x357 = x361 then
 (mj_Law_1463 L xs (lp_Law_18 L xs n) (y3) μ360)
 else
 (some false))
 else if x309 = (6 : Int32) then
 (gu (y3 + (1 : Int32)) L <|
  gu (y3 + (2 : Int32)) L <|
  gu (y3 + (3 : Int32)) L <|
  gu (y3 + (4 : Int32)) L <|
  Option.bind (m_Fo_move (xs (y3 + (1 : Int32)).toNatClampNeg) (xs (y3 + (2 : Int32)).toNatClampNeg) (xs (y3 + (3 : Int32)).toNatClampNeg) (xs (y3 + (4 : Int32)).toNatClampNeg) μ) fun r366 =>
  ap (r366.2) fun μ367 =>
  gu (y3 + (1 : Int32)) L <|
  gu (y3 + (2 : Int32)) L <|
  gu (y3 + (3 : Int32)) L <|
  gu (y3 + (4 : Int32)) L <|
  Option.bind (m_Mo_move (xs (y3 + (1 : Int32)).toNatClampNeg) (xs (y3 + (2 : Int32)).toNatClampNeg) (xs (y3 + (3 : Int32)).toNatClampNeg) (xs (y3 + (4 : Int32)).toNatClampNeg) μ367) fun r372 =>
  ap (r372.2) fun μ373 =>
  if b2i (r366.1) = b2i (r372.1) then
 (mj_Law_1463 L xs (lp_Law_18 L xs n) (y3) μ373)
 else
 (some false))
 else if x309 = (7 : Int32) then
 (gu (y3 + (1 : Int32)) L <|
  gu (y3 + (2 : Int32)) L <|
  Option.bind (m_Fo_reverse (xs (y3 + (1 : Int32)).toNatClampNeg) (xs (y3 + (2 : Int32)).toNatClampNeg) μ) fun r376 =>
  ap (r376.2) fun μ377 =>
  gu (y3 + (1 : Int32)) L <|
  gu (y3 + (2 : Int32)) L <|
  Option.bind (m_Mo_reverse (xs (y3 + (1 : Int32)).toNatClampNeg) (xs (y3 + (2 : Int32)).toNatClampNeg) μ377) fun r380 =>
  ap (r380.2) fun μ381 =>
  if b2i (r376.1) = b2i (r380.1) then
 (mj_Law_1463 L xs (lp_Law_18 L xs n) (y3) μ381)
 else
 (some false))
 else if x309 = (8 : Int32) then
 (gu (y3 + (1 : Int32)) L <|
  gu (y3 + (2 : Int32)) L <|
  gu (y3 + (3 : Int32)) L <|
  gu (y3 + (4 : Int32)) L <|
  Option.bind (m_Fo_part (xs (y3 + (1 : Int32)).toNatClampNeg) (xs (y3 + (2 : Int32)).toNatClampNeg) (xs (y3 + (3 : Int32)).toNatClampNeg) (xs (y3 + (4 : Int32)).toNatClampNeg) μ) fun r386 =>
  ap (r386.2) fun μ387 =>
  ap (r386.1) fun x388 =>
  gu (y3 + (1 : Int32)) L <|
  gu (y3 + (2 : Int32)) L <|
  gu (y3 + (3 : Int32)) L <|
  gu (y3 + (4 : Int32)) L <|
  Option.bind (m_Mo_part (xs (y3 + (1 : Int32)).toNatClampNeg) (xs (y3 + (2 : Int32)).toNatClampNeg) (xs (y3 + (3 : Int32)).toNatClampNeg) (xs (y3 + (4 : Int32)).toNatClampNeg) μ387) fun r393 =>
  ap (r393.2) fun μ394 =>
  ap (r393.1) fun x395 =>
  if x388 = x395 then
 (mj_Law_1463 L xs (lp_Law_18 L xs n) (y3) μ394)
 else
 (some false))
 else if x309 = (9 : Int32) then
 (gu (y3 + (1 : Int32)) L <|
  gu (y3 + (2 : Int32)) L <|
  gu (y3 + (3 : Int32)) L <|
  gu (y3 + (4 : Int32)) L <|
  gu (y3 + (5 : Int32)) L <|
  gu (y3 + (6 : Int32)) L <|
  Option.bind (m_Fo_matrix (xs (y3 + (1 : Int32)).toNatClampNeg) (xs (y3 + (2 : Int32)).toNatClampNeg) (xs (y3 + (3 : Int32)).toNatClampNeg) (xs (y3 + (4 : Int32)).toNatClampNeg) (xs (y3 + (5 : Int32)).toNatClampNeg) (xs (y3 + (6 : Int32)).toNatClampNeg) μ) fun r402 =>
  ap (r402.2) fun μ403 =>
  gu (y3 + (1 : Int32)) L <|
  gu (y3 + (2 : Int32)) L <|
  gu (y3 + (3 : Int32)) L <|
  gu (y3 + (4 : Int32)) L <|
  gu (y3 + (5 : Int32)) L <|
  gu (y3 + (6 : Int32)) L <|
  Option.bind (m_Mo_matrix (xs (y3 + (1 : Int32)).toNatClampNeg) (xs (y3 + (2 : Int32)).toNatClampNeg) (xs (y3 + (3 : Int32)).toNatClampNeg) (xs (y3 + (4 : Int32)).toNatClampNeg) (xs (y3 + (5 : Int32)).toNatClampNeg) (xs (y3 + (6 : Int32)).toNatClampNeg) μ403) fun r410 =>
  ap (r410.2) fun μ411 =>
  if b2i (r402.1) = b2i (r410.1) then
 (mj_Law_1463 L xs (lp_Law_18 L xs n) (y3) μ411)
 else
 (some false))
 else if x309 = (10 : Int32) then
 (gu (y3 + (1 : Int32)) L <|
  gu (y3 + (2 : Int32)) L <|
  Option.bind (m_Fo_info (xs (y3 + (1 : Int32)).toNatClampNeg) (xs (y3 + (2 : Int32)).toNatClampNeg) μ) fun r414 =>
  gu (y3 + (1 : Int32)) L <|
  gu (y3 + (2 : Int32)) L <|
  Option.bind (m_Mo_info (xs (y3 + (1 : Int32)).toNatClampNeg) (xs (y3 + (2 : Int32)).toNatClampNeg) μ) fun r417 =>
  ap (r417.2) fun μ418 =>
  ap (r417.1) fun x419 =>
  if r414 = x419 then
 (mj_Law_1463 L xs (lp_Law_18 L xs n) (y3) μ418)
 else
 (some false))
 else if x309 = (11 : Int32) then
 (gu (y3 + (1 : Int32)) L <|
  gu (y3 + (2 : Int32)) L <|
  gu (y3 + (3 : Int32)) L <|
  Option.bind (m_Fo_at (xs (y3 + (1 : Int32)).toNatClampNeg) (xs (y3 + (2 : Int32)).toNatClampNeg) (xs (y3 + (3 : Int32)).toNatClampNeg) μ) fun r423 =>
  gu (y3 + (1 : Int32)) L <|
  gu (y3 + (2 : Int32)) L <|
  gu (y3 + (3 : Int32)) L <|
  Option.bind (m_Mo_at (xs (y3 + (1 : Int32)).toNatClampNeg) (xs (y3 + (2 : Int32)).toNatClampNeg) (xs (y3 + (3 : Int32)).toNatClampNeg) μ) fun r427 =>
  if r423 = r427 then
 (mj_Law_1463 L xs (lp_Law_18 L xs n) (y3) μ)
 else
 (some false))
 else if x309 = (12 : Int32) then
 (gu (y3 + (1 : Int32)) L <|
  gu (y3 + (2 : Int32)) L <|
  Option.bind (m_Fo_flatten (xs (y3 + (1 : Int32)).toNatClampNeg) (xs (y3 + (2 : Int32)).toNatClampNeg) μ) fun r430 =>
  ap (r430.2) fun μ431 =>
  ap (r430.1) fun x432 =>
  gu (y3 + (1 : Int32)) L <|
  gu (y3 + (2 : Int32)) L <|
  Option.bind (m_Mo_flatten (xs (y3 + (1 : Int32)).toNatClampNeg) (xs (y3 + (2 : Int32)).toNatClampNeg) μ431) fun r435 =>
  ap (r435.2) fun μ436 =>
  ap (r435.1) fun x437 =>
  if x432 = x437 then
 (mj_Law_1463 L xs (lp_Law_18 L xs n) (y3) μ436)
 else
 (some false))
 else if x309 = (13 : Int32) then
 (gu (y3 + (1 : Int32)) L <|
  gu (y3 + (2 : Int32)) L <|
  Option.bind (m_Fo_flat (xs (y3 + (1 : Int32)).toNatClampNeg) (xs (y3 + (2 : Int32)).toNatClampNeg) μ) fun r440 =>
  gu (y3 + (1 : Int32)) L <|
  gu (y3 + (2 : Int32)) L <|
  Option.bind (m_Mo_flat (xs (y3 + (1 : Int32)).toNatClampNeg) (xs (y3 + (2 : Int32)).toNatClampNeg) μ) fun r443 =>
  if r440 = r443 then
 (mj_Law_1463 L xs (lp_Law_18 L xs n) (y3) μ)
 else
 (some false))
 else if x309 = (14 : Int32) then
 (Option.bind (m_Fo_area  μ) fun r444 =>
  Option.bind (m_Mo_area  μ) fun r445 =>
  if r444 = r445 then
 (mj_Law_1463 L xs (lp_Law_18 L xs n) (y3) μ)
 else
 (some false))
 else if x309 = (15 : Int32) then
 (gu (y3 + (1 : Int32)) L <|
  gu (y3 + (2 : Int32)) L <|
  Option.bind (m_Fo_winding (xs (y3 + (1 : Int32)).toNatClampNeg) (xs (y3 + (2 : Int32)).toNatClampNeg) μ) fun r448 =>
  gu (y3 + (1 : Int32)) L <|
  gu (y3 + (2 : Int32)) L <|
  Option.bind (m_Mo_winding (xs (y3 + (1 : Int32)).toNatClampNeg) (xs (y3 + (2 : Int32)).toNatClampNeg) μ) fun r451 =>
  if r448 = r451 then
 (mj_Law_1463 L xs (lp_Law_18 L xs n) (y3) μ)
 else
 (some false))
 else if x309 = (16 : Int32) then
 (Option.bind (m_Fo_crossings  μ) fun r452 =>
  Option.bind (m_Mo_crossings  μ) fun r453 =>
  if r452 = r453 then
 (mj_Law_1463 L xs (lp_Law_18 L xs n) (y3) μ)
 else
 (some false))
 else if x309 = (17 : Int32) then
 (gu (y3 + (1 : Int32)) L <|
  gu (y3 + (2 : Int32)) L <|
  gu (y3 + (3 : Int32)) L <|
  gu (y3 + (4 : Int32)) L <|
  Option.bind (m_Fo_image (xs (y3 + (1 : Int32)).toNatClampNeg) (xs (y3 + (2 : Int32)).toNatClampNeg) (xs (y3 + (3 : Int32)).toNatClampNeg) (xs (y3 + (4 : Int32)).toNatClampNeg) μ) fun r458 =>
  ap (r458.2) fun μ459 =>
  ap (r458.1) fun x460 =>
  gu (y3 + (1 : Int32)) L <|
  gu (y3 + (2 : Int32)) L <|
  gu (y3 + (3 : Int32)) L <|
  gu (y3 + (4 : Int32)) L <|
  Option.bind (m_Mo_image (xs (y3 + (1 : Int32)).toNatClampNeg) (xs (y3 + (2 : Int32)).toNatClampNeg) (xs (y3 + (3 : Int32)).toNatClampNeg) (xs (y3 + (4 : Int32)).toNatClampNeg) μ459) fun r465 =>
  ap (r465.2) fun μ466 =>
  ap (r465.1) fun x467 =>
  if x460 = x467 then
 (mj_Law_1463 L xs (lp_Law_18 L xs n) (y3) μ466)
 else
 (some false))
 else if x309 = (18 : Int32) then
 (gu (y3 + (1 : Int32)) L <|
  gu (y3 + (2 : Int32)) L <|
  Option.bind (m_Fo_dot (xs (y3 + (1 : Int32)).toNatClampNeg) (xs (y3 + (2 : Int32)).toNatClampNeg) μ) fun r470 =>
  gu (y3 + (1 : Int32)) L <|
  gu (y3 + (2 : Int32)) L <|
  Option.bind (m_Mo_dot (xs (y3 + (1 : Int32)).toNatClampNeg) (xs (y3 + (2 : Int32)).toNatClampNeg) μ) fun r473 =>
  if r470 = r473 then
 (mj_Law_1463 L xs (lp_Law_18 L xs n) (y3) μ)
 else
 (some false))
 else if x309 = (19 : Int32) then
 (gu (y3 + (1 : Int32)) L <|
  gu (y3 + (1 : Int32)) L <|
  Option.bind (m_Mo_box (xs (y3 + (1 : Int32)).toNatClampNeg) μ) fun r476 =>
  if (m_Fo_box (xs (y3 + (1 : Int32)).toNatClampNeg) μ) = r476 then
 (mj_Law_1463 L xs (lp_Law_18 L xs n) (y3) μ)
 else
 (some false))
 else if x309 = (20 : Int32) then
 (gu (y3 + (1 : Int32)) L <|
  gu (y3 + (2 : Int32)) L <|
  gu (y3 + (3 : Int32)) L <|
  Option.bind (m_Fo_act (xs (y3 + (1 : Int32)).toNatClampNeg) (xs (y3 + (2 : Int32)).toNatClampNeg) (xs (y3 + (3 : Int32)).toNatClampNeg) μ) fun r480 =>
  ap (r480.2) fun μ481 =>
  ap (r480.1) fun x482 =>
  gu (y3 + (1 : Int32)) L <|
  gu (y3 + (2 : Int32)) L <|
  gu (y3 + (3 : Int32)) L <|
  Option.bind (m_Mo_act (xs (y3 + (1 : Int32)).toNatClampNeg) (xs (y3 + (2 : Int32)).toNatClampNeg) (xs (y3 + (3 : Int32)).toNatClampNeg) μ481) fun r486 =>
  ap (r486.2) fun μ487 =>
  ap (r486.1) fun x488 =>
  if x482 = x488 then
 (mj_Law_1463 L xs (lp_Law_18 L xs n) (y3) μ487)
 else
 (some false))
 else if x309 = (21 : Int32) then
 (gu (y3 + (1 : Int32)) L <|
  Option.bind (m_Fo_wipe (xs (y3 + (1 : Int32)).toNatClampNeg) μ) fun r490 =>
  ap (r490.2) fun μ491 =>
  ap (r490.1) fun x492 =>
  gu (y3 + (1 : Int32)) L <|
  Option.bind (m_Mo_wipe (xs (y3 + (1 : Int32)).toNatClampNeg) μ491) fun r494 =>
  ap (r494.2) fun μ495 =>
  ap (r494.1) fun x496 =>
  if x492 = x496 then
 (mj_Law_1463 L xs (lp_Law_18 L xs n) (y3) μ495)
 else
 (some false))
 else if x309 = (22 : Int32) then
 (gu (y3 + (1 : Int32)) L <|
  gu (y3 + (2 : Int32)) L <|
  Option.bind (m_Fo_run (xs (y3 + (1 : Int32)).toNatClampNeg) (xs (y3 + (2 : Int32)).toNatClampNeg) μ) fun r499 =>
  ap (r499.2) fun μ500 =>
  ap (r499.1) fun x501 =>
  gu (y3 + (1 : Int32)) L <|
  gu (y3 + (2 : Int32)) L <|
  Option.bind (m_Mo_run (xs (y3 + (1 : Int32)).toNatClampNeg) (xs (y3 + (2 : Int32)).toNatClampNeg) μ500) fun r504 =>
  ap (r504.2) fun μ505 =>
  ap (r504.1) fun x506 =>
  if x501 = x506 then
 (mj_Law_1463 L xs (lp_Law_18 L xs n) (y3) μ505)
 else
 (some false))
 else if x309 = (23 : Int32) then
 (gu (y3 + (1 : Int32)) L <|
  gu (y3 + (2 : Int32)) L <|
  Option.bind (m_Fo_fitted (xs (y3 + (1 : Int32)).toNatClampNeg) (xs (y3 + (2 : Int32)).toNatClampNeg) μ) fun r509 =>
  gu (y3 + (1 : Int32)) L <|
  gu (y3 + (2 : Int32)) L <|
  Option.bind (m_Mo_fitted2 (xs (y3 + (1 : Int32)).toNatClampNeg) (xs (y3 + (2 : Int32)).toNatClampNeg) μ) fun r512 =>
  if r509 = r512 then
 (mj_Law_1463 L xs (lp_Law_18 L xs n) (y3) μ)
 else
 (some false))
 else if x309 = (24 : Int32) then
 (gu (y3 + (1 : Int32)) L <|
  gu (y3 + (2 : Int32)) L <|
  gu (y3 + (3 : Int32)) L <|
  gu (y3 + (4 : Int32)) L <|
  gu (y3 + (5 : Int32)) L <|
  Option.bind (m_Fo_delta (xs (y3 + (1 : Int32)).toNatClampNeg) (xs (y3 + (2 : Int32)).toNatClampNeg) (xs (y3 + (3 : Int32)).toNatClampNeg) (xs (y3 + (4 : Int32)).toNatClampNeg) (xs (y3 + (5 : Int32)).toNatClampNeg) μ) fun r518 =>
  ap (r518.2) fun μ519 =>
  gu (y3 + (1 : Int32)) L <|
  gu (y3 + (2 : Int32)) L <|
  gu (y3 + (3 : Int32)) L <|
  gu (y3 + (4 : Int32)) L <|
  gu (y3 + (5 : Int32)) L <|
  Option.bind (m_Mo_delta (xs (y3 + (1 : Int32)).toNatClampNeg) (xs (y3 + (2 : Int32)).toNatClampNeg) (xs (y3 + (3 : Int32)).toNatClampNeg) (xs (y3 + (4 : Int32)).toNatClampNeg) (xs (y3 + (5 : Int32)).toNatClampNeg) μ519) fun r525 =>
  ap (r525.2) fun μ526 =>
  if b2i (r518.1) = b2i (r525.1) then
 (mj_Law_1463 L xs (lp_Law_18 L xs n) (y3) μ526)
 else
 (some false))
 else if x309 = (25 : Int32) then
 (gu (y3 + (1 : Int32)) L <|
  gu (y3 + (2 : Int32)) L <|
  Option.bind (m_Fo_weight (xs (y3 + (1 : Int32)).toNatClampNeg) (xs (y3 + (2 : Int32)).toNatClampNeg) μ) fun r529 =>
  ap (r529.2) fun μ530 =>
  gu (y3 + (1 : Int32)) L <|
  gu (y3 + (2 : Int32)) L <|
  Option.bind (m_Mo_weight (xs (y3 + (1 : Int32)).toNatClampNeg) (xs (y3 + (2 : Int32)).toNatClampNeg) μ530) fun r533 =>
  ap (r533.2) fun μ534 =>
  if b2i (r529.1) = b2i (r533.1) then
 (mj_Law_1463 L xs (lp_Law_18 L xs n) (y3) μ534)
 else
 (some false))
 else if x309 = (26 : Int32) then
 (gu (y3 + (1 : Int32)) L <|
  gu (y3 + (2 : Int32)) L <|
  gu (y3 + (3 : Int32)) L <|
  Option.bind (m_Fo_mixed (xs (y3 + (1 : Int32)).toNatClampNeg) (xs (y3 + (2 : Int32)).toNatClampNeg) (xs (y3 + (3 : Int32)).toNatClampNeg) μ) fun r538 =>
  gu (y3 + (1 : Int32)) L <|
  gu (y3 + (2 : Int32)) L <|
  gu (y3 + (3 : Int32)) L <|
  Option.bind (m_Mo_mixed (xs (y3 + (1 : Int32)).toNatClampNeg) (xs (y3 + (2 : Int32)).toNatClampNeg) (xs (y3 + (3 : Int32)).toNatClampNeg) μ) fun r542 =>
  if r538 = r542 then
 (mj_Law_1463 L xs (lp_Law_18 L xs n) (y3) μ)
 else
 (some false))
 else if x309 = (27 : Int32) then
 (gu (y3 + (1 : Int32)) L <|
  gu (y3 + (2 : Int32)) L <|
  gu (y3 + (3 : Int32)) L <|
  Option.bind (m_Fo_classOf (xs (y3 + (1 : Int32)).toNatClampNeg) (xs (y3 + (2 : Int32)).toNatClampNeg) (xs (y3 + (3 : Int32)).toNatClampNeg) μ) fun r546 =>
  ap (r546.2) fun μ547 =>
  gu (y3 + (1 : Int32)) L <|
  gu (y3 + (2 : Int32)) L <|
  gu (y3 + (3 : Int32)) L <|
  Option.bind (m_Mo_classOf (xs (y3 + (1 : Int32)).toNatClampNeg) (xs (y3 + (2 : Int32)).toNatClampNeg) (xs (y3 + (3 : Int32)).toNatClampNeg) μ547) fun r551 =>
  ap (r551.2) fun μ552 =>
  if b2i (r546.1) = b2i (r551.1) then
 (mj_Law_1463 L xs (lp_Law_18 L xs n) (y3) μ552)
 else
 (some false))
 else if x309 = (28 : Int32) then
 (gu (y3 + (1 : Int32)) L <|
  gu (y3 + (2 : Int32)) L <|
  gu (y3 + (3 : Int32)) L <|
  Option.bind (m_Fo_kern (xs (y3 + (1 : Int32)).toNatClampNeg) (xs (y3 + (2 : Int32)).toNatClampNeg) (xs (y3 + (3 : Int32)).toNatClampNeg) μ) fun r556 =>
  ap (r556.2) fun μ557 =>
  gu (y3 + (1 : Int32)) L <|
  gu (y3 + (2 : Int32)) L <|
  gu (y3 + (3 : Int32)) L <|
  Option.bind (m_Mo_kern (xs (y3 + (1 : Int32)).toNatClampNeg) (xs (y3 + (2 : Int32)).toNatClampNeg) (xs (y3 + (3 : Int32)).toNatClampNeg) μ557) fun r561 =>
  ap (r561.2) fun μ562 =>
  if b2i (r556.1) = b2i (r561.1) then
 (mj_Law_1463 L xs (lp_Law_18 L xs n) (y3) μ562)
 else
 (some false))
 else if x309 = (29 : Int32) then
 (gu (y3 + (1 : Int32)) L <|
  gu (y3 + (2 : Int32)) L <|
  gu (y3 + (3 : Int32)) L <|
  Option.bind (m_Fo_exception (xs (y3 + (1 : Int32)).toNatClampNeg) (xs (y3 + (2 : Int32)).toNatClampNeg) (xs (y3 + (3 : Int32)).toNatClampNeg) μ) fun r566 =>
  ap (r566.2) fun μ567 =>
  gu (y3 + (1 : Int32)) L <|
  gu (y3 + (2 : Int32)) L <|
  gu (y3 + (3 : Int32)) L <|
  Option.bind (m_Mo_exception (xs (y3 + (1 : Int32)).toNatClampNeg) (xs (y3 + (2 : Int32)).toNatClampNeg) (xs (y3 + (3 : Int32)).toNatClampNeg) μ567) fun r571 =>
  ap (r571.2) fun μ572 =>
  if b2i (r566.1) = b2i (r571.1) then
 (mj_Law_1463 L xs (lp_Law_18 L xs n) (y3) μ572)
 else
 (some false))
 else if x309 = (30 : Int32) then
 (gu (y3 + (1 : Int32)) L <|
  gu (y3 + (2 : Int32)) L <|
  Option.bind (m_Fo_kerning (xs (y3 + (1 : Int32)).toNatClampNeg) (xs (y3 + (2 : Int32)).toNatClampNeg) μ) fun r575 =>
  gu (y3 + (1 : Int32)) L <|
  gu (y3 + (2 : Int32)) L <|
  Option.bind (m_Mo_kerning (xs (y3 + (1 : Int32)).toNatClampNeg) (xs (y3 + (2 : Int32)).toNatClampNeg) μ) fun r578 =>
  if r575 = r578 then
 (mj_Law_1463 L xs (lp_Law_18 L xs n) (y3) μ)
 else
 (some false))
 else if x309 = (31 : Int32) then
 (gu (y3 + (1 : Int32)) L <|
  gu (y3 + (2 : Int32)) L <|
  gu (y3 + (3 : Int32)) L <|
  gu (y3 + (4 : Int32)) L <|
  Option.bind (m_Fo_join (xs (y3 + (1 : Int32)).toNatClampNeg) (xs (y3 + (2 : Int32)).toNatClampNeg) (xs (y3 + (3 : Int32)).toNatClampNeg) (xs (y3 + (4 : Int32)).toNatClampNeg) μ) fun r583 =>
  ap (r583.2) fun μ584 =>
  ap (r583.1) fun x585 =>
  gu (y3 + (1 : Int32)) L <|
  gu (y3 + (2 : Int32)) L <|
  gu (y3 + (3 : Int32)) L <|
  gu (y3 + (4 : Int32)) L <|
  Option.bind (m_Mo_join (xs (y3 + (1 : Int32)).toNatClampNeg) (xs (y3 + (2 : Int32)).toNatClampNeg) (xs (y3 + (3 : Int32)).toNatClampNeg) (xs (y3 + (4 : Int32)).toNatClampNeg) μ584) fun r590 =>
  ap (r590.2) fun μ591 =>
  ap (r590.1) fun x592 =>
  if x585 = x592 then
 (mj_Law_1463 L xs (lp_Law_18 L xs n) (y3) μ591)
 else
 (some false))
 else if x309 = (32 : Int32) then
 (gu (y3 + (1 : Int32)) L <|
  Option.bind (m_Fo_sign (xs (y3 + (1 : Int32)).toNatClampNeg) μ) fun r594 =>
  ap (r594.2) fun μ595 =>
  ap (r594.1) fun x596 =>
  gu (y3 + (1 : Int32)) L <|
  Option.bind (m_Mo_sign (xs (y3 + (1 : Int32)).toNatClampNeg) μ595) fun r598 =>
  ap (r598.2) fun μ599 =>
  ap (r598.1) fun x600 =>
  if x596 = x600 then
 (mj_Law_1463 L xs (lp_Law_18 L xs n) (y3) μ599)
 else
 (some false))
 else if x309 = (33 : Int32) then
 (Option.bind (m_Fo_set  μ) fun r601 =>
  ap (r601.2) fun μ602 =>
  ap (r601.1) fun x603 =>
  Option.bind (m_Mo_set  μ602) fun r604 =>
  ap (r604.2) fun μ605 =>
  ap (r604.1) fun x606 =>
  if x603 = x606 then
 (mj_Law_1463 L xs (lp_Law_18 L xs n) (y3) μ605)
 else
 (some false))
 else if x309 = (34 : Int32) then
 (gu (y3 + (1 : Int32)) L <|
  gu (y3 + (2 : Int32)) L <|
  Option.bind (m_Fo_placed (xs (y3 + (1 : Int32)).toNatClampNeg) (xs (y3 + (2 : Int32)).toNatClampNeg) μ) fun r609 =>
  gu (y3 + (1 : Int32)) L <|
  gu (y3 + (2 : Int32)) L <|
  Option.bind (m_Mo_placed (xs (y3 + (1 : Int32)).toNatClampNeg) (xs (y3 + (2 : Int32)).toNatClampNeg) μ) fun r612 =>
  if r609 = r612 then
 (mj_Law_1463 L xs (lp_Law_18 L xs n) (y3) μ)
 else
 (some false))
 else if x309 = (35 : Int32) then
 (Option.bind (m_Mo_length  μ) fun r613 =>
  if (m_Fo_length  μ) = r613 then
 (mj_Law_1463 L xs (lp_Law_18 L xs n) (y3) μ)
 else
 (some false))
 else (mj_Law_1463 L xs (lp_Law_18 L xs n) (y3) μ))
theorem tl_Law_18 (L : Nat) (xs : Nat → Int32)  : ∀ (n : Nat) (y3 : Int32) (μ : Mem), lp_Law_18 L xs n y3 μ = some true → J (GL L xs) true code R_law 4 48 (20 * n) (1200 * n) 18 [(0, vr 902 (0)), (1, vr 11 (0)), (2, vr 12 (0)), (3, vi (y3))] [] μ := by
  intro n
  induction n with
  | zero => intro _ _ h; cases h
  | succ n ih =>
    intro y3 μ h
    unfold lp_Law_18 at h
    refine J_iload_n (q := 19) 3 d_Law_18 rfl rfl rfl ?_
    refine J_aload_n (q := 20) 0 d_Law_19 rfl rfl rfl ?_
    refine J_slen (q := 21) d_Law_20 rfl ?_
    refine J_bipush (q := 23) (v := (7 : Int32)) d_Law_21 (by decide) rfl ?_
    refine J_isub (q := 24) d_Law_23 rfl ?_
    refine J_icmp_gt (q := 27) (tgt := 1469) d_Law_24 (by decide) rfl (fun hc => ?_) (fun hc => ?_)
    · rw [if_pos hc] at h
      refine J_iconst (q := 1470) (v := (1 : Int32)) d_Law_1469 (by decide) rfl ?_
      exact J_lawret d_Law_1470
    · rw [if_neg hc] at h
      refine J_aload_n (q := 28) 0 d_Law_27 rfl rfl rfl ?_
      refine J_iload_n (q := 29) 3 d_Law_28 rfl rfl rfl ?_
      obtain ⟨hi308, h⟩ := gu_some h
      refine J_sld (q := 30) hi308 d_Law_29 rfl ?_
      refine J_bipush (q := 32) (v := (63 : Int32)) d_Law_30 (by decide) rfl ?_
      refine J_iand (q := 33) d_Law_32 rfl ?_
      obtain ⟨x309, hx309, h⟩ := ap_eq h
      refine J_nmI hx309 ?_
      by_cases hk0 : x309 = (0 : Int32)
      · rw [if_pos hk0] at h
        refine J_swIn (tgt := 192) d_Law_33 (by rw [hk0]; decide) (by rw [hk0]; decide) (by rw [hk0]; rfl) (by decide) ?_
        refine J_aload_n (q := 193) 1 d_Law_192 rfl rfl rfl ?_
        refine J_aload_n (q := 194) 0 d_Law_193 rfl rfl rfl ?_
        refine J_iload_n (q := 195) 3 d_Law_194 rfl rfl rfl ?_
        refine J_iconst (q := 196) (v := (1 : Int32)) d_Law_195 (by decide) rfl ?_
        refine J_iadd (q := 197) d_Law_196 rfl ?_
        obtain ⟨hi310, h⟩ := gu_some h
        refine J_sld (q := 198) hi310 d_Law_197 rfl ?_
        refine J_aload_n (q := 199) 0 d_Law_198 rfl rfl rfl ?_
        refine J_iload_n (q := 200) 3 d_Law_199 rfl rfl rfl ?_
        refine J_iconst (q := 201) (v := (2 : Int32)) d_Law_200 (by decide) rfl ?_
        refine J_iadd (q := 202) d_Law_201 rfl ?_
        obtain ⟨hi311, h⟩ := gu_some h
        refine J_sld (q := 203) hi311 d_Law_202 rfl ?_
        obtain ⟨r312, hr312, h⟩ := bd_some h
        refine J_rc (rc2 := 18 + 20 * n) (rs2 := 1142 + 1200 * n) (by omega) (by omega) ?_
        refine J_callVq (rc := 20 * n) (rs := 1200 * n) (q := 206) (as := [vi (xs (y3 + (1 : Int32)).toNatClampNeg), vi (xs (y3 + (2 : Int32)).toNatClampNeg)]) (st := []) (by decide) rfl g_292 g_293 (t_Fo_letter hr312) (by decide) (by decide) g_291 g_294 g_1 hy_Fo_letter rfl (Nat.le_of_ble_eq_true rfl) d_Law_203 rfl ?_
        obtain ⟨μ313, hμ313, h⟩ := ap_eq h
        refine J_nmM hμ313 ?_
        obtain ⟨x314, hx314, h⟩ := ap_eq h
        refine J_nmI hx314 ?_
        refine J_aload_n (q := 207) 2 d_Law_206 rfl rfl rfl ?_
        refine J_aload_n (q := 208) 0 d_Law_207 rfl rfl rfl ?_
        refine J_iload_n (q := 209) 3 d_Law_208 rfl rfl rfl ?_
        refine J_iconst (q := 210) (v := (1 : Int32)) d_Law_209 (by decide) rfl ?_
        refine J_iadd (q := 211) d_Law_210 rfl ?_
        obtain ⟨hi315, h⟩ := gu_some h
        refine J_sld (q := 212) hi315 d_Law_211 rfl ?_
        refine J_aload_n (q := 213) 0 d_Law_212 rfl rfl rfl ?_
        refine J_iload_n (q := 214) 3 d_Law_213 rfl rfl rfl ?_
        refine J_iconst (q := 215) (v := (2 : Int32)) d_Law_214 (by decide) rfl ?_
        refine J_iadd (q := 216) d_Law_215 rfl ?_
        obtain ⟨hi316, h⟩ := gu_some h
        refine J_sld (q := 217) hi316 d_Law_216 rfl ?_
        obtain ⟨r317, hr317, h⟩ := bd_some h
        refine J_rc (rc2 := 0 + 20 * n) (rs2 := 0 + 1200 * n) (by omega) (by omega) ?_
        refine J_callVq (rc := 20 * n) (rs := 1200 * n) (q := 220) (as := [vi (xs (y3 + (1 : Int32)).toNatClampNeg), vi (xs (y3 + (2 : Int32)).toNatClampNeg)]) (st := [vi (x314)]) (by decide) rfl g_1274 g_1275 (t_Mo_letter hr317) (by decide) (by decide) g_1273 g_1276 g_10 hy_Mo_letter rfl (Nat.le_of_ble_eq_true rfl) d_Law_217 rfl ?_
        obtain ⟨μ318, hμ318, h⟩ := ap_eq h
        refine J_nmM hμ318 ?_
        obtain ⟨x319, hx319, h⟩ := ap_eq h
        refine J_nmI hx319 ?_
        refine J_icmp_eq (q := 223) (tgt := 1463) d_Law_220 (by decide) rfl (fun hc => ?_) (fun hc => ?_)
        · rw [if_pos hc] at h
          refine J_rc (rc2 := 20 * n) (rs2 := 1200 * n) (by omega) (by omega) ?_
          refine J_pick [0, 1, 2, 3] rfl ?_
          exact tj_Law_1463 L xs n ih _ _ h
        · rw [if_neg hc] at h
          refine J_iconst (q := 224) (v := (0 : Int32)) d_Law_223 (by decide) rfl ?_
          cases h
      rw [if_neg hk0] at h
      by_cases hk1 : x309 = (1 : Int32)
      · rw [if_pos hk1] at h
        refine J_swIn (tgt := 225) d_Law_33 (by rw [hk1]; decide) (by rw [hk1]; decide) (by rw [hk1]; rfl) (by decide) ?_
        refine J_aload_n (q := 226) 1 d_Law_225 rfl rfl rfl ?_
        refine J_aload_n (q := 227) 0 d_Law_226 rfl rfl rfl ?_
        refine J_iload_n (q := 228) 3 d_Law_227 rfl rfl rfl ?_
        refine J_iconst (q := 229) (v := (1 : Int32)) d_Law_228 (by decide) rfl ?_
        refine J_iadd (q := 230) d_Law_229 rfl ?_
        obtain ⟨hi320, h⟩ := gu_some h
        refine J_sld (q := 231) hi320 d_Law_230 rfl ?_
        obtain ⟨r321, hr321, h⟩ := bd_some h
        refine J_rc (rc2 := 0 + 20 * n) (rs2 := 0 + 1200 * n) (by omega) (by omega) ?_
        refine J_callVq (rc := 20 * n) (rs := 1200 * n) (q := 234) (as := [vi (xs (y3 + (1 : Int32)).toNatClampNeg)]) (st := []) (by decide) rfl g_304 g_305 (t_Fo_find hr321) (by decide) (by decide) g_429 g_306 g_1 hy_Fo_find rfl (Nat.le_of_ble_eq_true rfl) d_Law_231 rfl ?_
        refine J_aload_n (q := 235) 2 d_Law_234 rfl rfl rfl ?_
        refine J_aload_n (q := 236) 0 d_Law_235 rfl rfl rfl ?_
        refine J_iload_n (q := 237) 3 d_Law_236 rfl rfl rfl ?_
        refine J_iconst (q := 238) (v := (1 : Int32)) d_Law_237 (by decide) rfl ?_
        refine J_iadd (q := 239) d_Law_238 rfl ?_
        obtain ⟨hi322, h⟩ := gu_some h
        refine J_sld (q := 240) hi322 d_Law_239 rfl ?_
        obtain ⟨r323, hr323, h⟩ := bd_some h
        refine J_rc (rc2 := 0 + 20 * n) (rs2 := 0 + 1200 * n) (by omega) (by omega) ?_
        refine J_callVq (rc := 20 * n) (rs := 1200 * n) (q := 243) (as := [vi (xs (y3 + (1 : Int32)).toNatClampNeg)]) (st := [vi (r321)]) (by decide) rfl g_1270 g_1271 (t_Mo_find hr323) (by decide) (by decide) g_1269 g_1272 g_10 hy_Mo_find rfl (Nat.le_of_ble_eq_true rfl) d_Law_240 rfl ?_
        refine J_icmp_eq (q := 246) (tgt := 1463) d_Law_243 (by decide) rfl (fun hc => ?_) (fun hc => ?_)
        · rw [if_pos hc] at h
          refine J_rc (rc2 := 20 * n) (rs2 := 1200 * n) (by omega) (by omega) ?_
          refine J_pick [0, 1, 2, 3] rfl ?_
          exact tj_Law_1463 L xs n ih _ _ h
        · rw [if_neg hc] at h
          refine J_iconst (q := 247) (v := (0 : Int32)) d_Law_246 (by decide) rfl ?_
          cases h
      rw [if_neg hk1] at h
      by_cases hk2 : x309 = (2 : Int32)
      · rw [if_pos hk2] at h
        refine J_swIn (tgt := 248) d_Law_33 (by rw [hk2]; decide) (by rw [hk2]; decide) (by rw [hk2]; rfl) (by decide) ?_
        refine J_aload_n (q := 249) 1 d_Law_248 rfl rfl rfl ?_
        refine J_aload_n (q := 250) 0 d_Law_249 rfl rfl rfl ?_
        refine J_iload_n (q := 251) 3 d_Law_250 rfl rfl rfl ?_
        refine J_iconst (q := 252) (v := (1 : Int32)) d_Law_251 (by decide) rfl ?_
        refine J_iadd (q := 253) d_Law_252 rfl ?_
        obtain ⟨hi324, h⟩ := gu_some h
        refine J_sld (q := 254) hi324 d_Law_253 rfl ?_
        obtain ⟨r325, hr325, h⟩ := bd_some h
        refine J_rc (rc2 := 0 + 20 * n) (rs2 := 0 + 1200 * n) (by omega) (by omega) ?_
        refine J_callVq (rc := 20 * n) (rs := 1200 * n) (q := 257) (as := [vi (xs (y3 + (1 : Int32)).toNatClampNeg)]) (st := []) (by decide) rfl g_431 g_432 (t_Fo_outline hr325) (by decide) (by decide) g_430 g_433 g_1 hy_Fo_outline rfl (Nat.le_of_ble_eq_true rfl) d_Law_254 rfl ?_
        obtain ⟨μ326, hμ326, h⟩ := ap_eq h
        refine J_nmM hμ326 ?_
        obtain ⟨x327, hx327, h⟩ := ap_eq h
        refine J_nmI hx327 ?_
        refine J_aload_n (q := 258) 2 d_Law_257 rfl rfl rfl ?_
        refine J_aload_n (q := 259) 0 d_Law_258 rfl rfl rfl ?_
        refine J_iload_n (q := 260) 3 d_Law_259 rfl rfl rfl ?_
        refine J_iconst (q := 261) (v := (1 : Int32)) d_Law_260 (by decide) rfl ?_
        refine J_iadd (q := 262) d_Law_261 rfl ?_
        obtain ⟨hi328, h⟩ := gu_some h
        refine J_sld (q := 263) hi328 d_Law_262 rfl ?_
        obtain ⟨r329, hr329, h⟩ := bd_some h
        refine J_rc (rc2 := 0 + 20 * n) (rs2 := 0 + 1200 * n) (by omega) (by omega) ?_
        refine J_callVq (rc := 20 * n) (rs := 1200 * n) (q := 266) (as := [vi (xs (y3 + (1 : Int32)).toNatClampNeg)]) (st := [vi (x327)]) (by decide) rfl g_1282 g_1283 (t_Mo_outline hr329) (by decide) (by decide) g_1281 g_1284 g_10 hy_Mo_outline rfl (Nat.le_of_ble_eq_true rfl) d_Law_263 rfl ?_
        obtain ⟨μ330, hμ330, h⟩ := ap_eq h
        refine J_nmM hμ330 ?_
        obtain ⟨x331, hx331, h⟩ := ap_eq h
        refine J_nmI hx331 ?_
        refine J_icmp_eq (q := 269) (tgt := 1463) d_Law_266 (by decide) rfl (fun hc => ?_) (fun hc => ?_)
        · rw [if_pos hc] at h
          refine J_rc (rc2 := 20 * n) (rs2 := 1200 * n) (by omega) (by omega) ?_
          refine J_pick [0, 1, 2, 3] rfl ?_
          exact tj_Law_1463 L xs n ih _ _ h
        · rw [if_neg hc] at h
          refine J_iconst (q := 270) (v := (0 : Int32)) d_Law_269 (by decide) rfl ?_
          cases h
      rw [if_neg hk2] at h
      by_cases hk3 : x309 = (3 : Int32)
      · rw [if_pos hk3] at h
        refine J_swIn (tgt := 271) d_Law_33 (by rw [hk3]; decide) (by rw [hk3]; decide) (by rw [hk3]; rfl) (by decide) ?_
        refine J_aload_n (q := 272) 1 d_Law_271 rfl rfl rfl ?_
        refine J_aload_n (q := 273) 0 d_Law_272 rfl rfl rfl ?_
        refine J_iload_n (q := 274) 3 d_Law_273 rfl rfl rfl ?_
        refine J_iconst (q := 275) (v := (1 : Int32)) d_Law_274 (by decide) rfl ?_
        refine J_iadd (q := 276) d_Law_275 rfl ?_
        obtain ⟨hi332, h⟩ := gu_some h
        refine J_sld (q := 277) hi332 d_Law_276 rfl ?_
        refine J_aload_n (q := 278) 0 d_Law_277 rfl rfl rfl ?_
        refine J_iload_n (q := 279) 3 d_Law_278 rfl rfl rfl ?_
        refine J_iconst (q := 280) (v := (2 : Int32)) d_Law_279 (by decide) rfl ?_
        refine J_iadd (q := 281) d_Law_280 rfl ?_
        obtain ⟨hi333, h⟩ := gu_some h
        refine J_sld (q := 282) hi333 d_Law_281 rfl ?_
        refine J_aload_n (q := 283) 0 d_Law_282 rfl rfl rfl ?_
        refine J_iload_n (q := 284) 3 d_Law_283 rfl rfl rfl ?_
        refine J_iconst (q := 285) (v := (3 : Int32)) d_Law_284 (by decide) rfl ?_
        refine J_iadd (q := 286) d_Law_285 rfl ?_
        obtain ⟨hi334, h⟩ := gu_some h
        refine J_sld (q := 287) hi334 d_Law_286 rfl ?_
        refine J_aload_n (q := 288) 0 d_Law_287 rfl rfl rfl ?_
        refine J_iload_n (q := 289) 3 d_Law_288 rfl rfl rfl ?_
        refine J_iconst (q := 290) (v := (4 : Int32)) d_Law_289 (by decide) rfl ?_
        refine J_iadd (q := 291) d_Law_290 rfl ?_
        obtain ⟨hi335, h⟩ := gu_some h
        refine J_sld (q := 292) hi335 d_Law_291 rfl ?_
        obtain ⟨r336, hr336, h⟩ := bd_some h
        refine J_rc (rc2 := 0 + 20 * n) (rs2 := 0 + 1200 * n) (by omega) (by omega) ?_
        refine J_callVq (rc := 20 * n) (rs := 1200 * n) (q := 295) (as := [vi (xs (y3 + (1 : Int32)).toNatClampNeg), vi (xs (y3 + (2 : Int32)).toNatClampNeg), vi (xs (y3 + (3 : Int32)).toNatClampNeg), vi (xs (y3 + (4 : Int32)).toNatClampNeg)]) (st := []) (by decide) rfl g_443 g_444 (t_Fo_point hr336) (by decide) (by decide) g_442 g_445 g_1 hy_Fo_point rfl (Nat.le_of_ble_eq_true rfl) d_Law_292 rfl ?_
        obtain ⟨μ337, hμ337, h⟩ := ap_eq h
        refine J_nmM hμ337 ?_
        obtain ⟨x338, hx338, h⟩ := ap_eq h
        refine J_nmI hx338 ?_
        refine J_aload_n (q := 296) 2 d_Law_295 rfl rfl rfl ?_
        refine J_aload_n (q := 297) 0 d_Law_296 rfl rfl rfl ?_
        refine J_iload_n (q := 298) 3 d_Law_297 rfl rfl rfl ?_
        refine J_iconst (q := 299) (v := (1 : Int32)) d_Law_298 (by decide) rfl ?_
        refine J_iadd (q := 300) d_Law_299 rfl ?_
        obtain ⟨hi339, h⟩ := gu_some h
        refine J_sld (q := 301) hi339 d_Law_300 rfl ?_
        refine J_aload_n (q := 302) 0 d_Law_301 rfl rfl rfl ?_
        refine J_iload_n (q := 303) 3 d_Law_302 rfl rfl rfl ?_
        refine J_iconst (q := 304) (v := (2 : Int32)) d_Law_303 (by decide) rfl ?_
        refine J_iadd (q := 305) d_Law_304 rfl ?_
        obtain ⟨hi340, h⟩ := gu_some h
        refine J_sld (q := 306) hi340 d_Law_305 rfl ?_
        refine J_aload_n (q := 307) 0 d_Law_306 rfl rfl rfl ?_
        refine J_iload_n (q := 308) 3 d_Law_307 rfl rfl rfl ?_
        refine J_iconst (q := 309) (v := (3 : Int32)) d_Law_308 (by decide) rfl ?_
        refine J_iadd (q := 310) d_Law_309 rfl ?_
        obtain ⟨hi341, h⟩ := gu_some h
        refine J_sld (q := 311) hi341 d_Law_310 rfl ?_
        refine J_aload_n (q := 312) 0 d_Law_311 rfl rfl rfl ?_
        refine J_iload_n (q := 313) 3 d_Law_312 rfl rfl rfl ?_
        refine J_iconst (q := 314) (v := (4 : Int32)) d_Law_313 (by decide) rfl ?_
        refine J_iadd (q := 315) d_Law_314 rfl ?_
        obtain ⟨hi342, h⟩ := gu_some h
        refine J_sld (q := 316) hi342 d_Law_315 rfl ?_
        obtain ⟨r343, hr343, h⟩ := bd_some h
        refine J_rc (rc2 := 0 + 20 * n) (rs2 := 0 + 1200 * n) (by omega) (by omega) ?_
        refine J_callVq (rc := 20 * n) (rs := 1200 * n) (q := 319) (as := [vi (xs (y3 + (1 : Int32)).toNatClampNeg), vi (xs (y3 + (2 : Int32)).toNatClampNeg), vi (xs (y3 + (3 : Int32)).toNatClampNeg), vi (xs (y3 + (4 : Int32)).toNatClampNeg)]) (st := [vi (x338)]) (by decide) rfl g_1290 g_1291 (t_Mo_point hr343) (by decide) (by decide) g_1289 g_1292 g_10 hy_Mo_point rfl (Nat.le_of_ble_eq_true rfl) d_Law_316 rfl ?_
        obtain ⟨μ344, hμ344, h⟩ := ap_eq h
        refine J_nmM hμ344 ?_
        obtain ⟨x345, hx345, h⟩ := ap_eq h
        refine J_nmI hx345 ?_
        refine J_icmp_eq (q := 322) (tgt := 1463) d_Law_319 (by decide) rfl (fun hc => ?_) (fun hc => ?_)
        · rw [if_pos hc] at h
          refine J_rc (rc2 := 20 * n) (rs2 := 1200 * n) (by omega) (by omega) ?_
          refine J_pick [0, 1, 2, 3] rfl ?_
          exact tj_Law_1463 L xs n ih _ _ h
        · rw [if_neg hc] at h
          refine J_iconst (q := 323) (v := (0 : Int32)) d_Law_322 (by decide) rfl ?_
          cases h
      rw [if_neg hk3] at h
      by_cases hk4 : x309 = (4 : Int32)
      · rw [if_pos hk4] at h
        refine J_swIn (tgt := 324) d_Law_33 (by rw [hk4]; decide) (by rw [hk4]; decide) (by rw [hk4]; rfl) (by decide) ?_
        refine J_aload_n (q := 325) 1 d_Law_324 rfl rfl rfl ?_
        refine J_aload_n (q := 326) 0 d_Law_325 rfl rfl rfl ?_
        refine J_iload_n (q := 327) 3 d_Law_326 rfl rfl rfl ?_
        refine J_iconst (q := 328) (v := (1 : Int32)) d_Law_327 (by decide) rfl ?_
        refine J_iadd (q := 329) d_Law_328 rfl ?_
        obtain ⟨hi346, h⟩ := gu_some h
        refine J_sld (q := 330) hi346 d_Law_329 rfl ?_
        obtain ⟨r347, hr347, h⟩ := bd_some h
        refine J_rc (rc2 := 0 + 20 * n) (rs2 := 0 + 1200 * n) (by omega) (by omega) ?_
        refine J_callVq (rc := 20 * n) (rs := 1200 * n) (q := 333) (as := [vi (xs (y3 + (1 : Int32)).toNatClampNeg)]) (st := []) (by decide) rfl g_470 g_471 (t_Fo_close hr347) (by decide) (by decide) g_469 g_472 g_1 hy_Fo_close rfl (Nat.le_of_ble_eq_true rfl) d_Law_330 rfl ?_
        obtain ⟨μ348, hμ348, h⟩ := ap_eq h
        refine J_nmM hμ348 ?_
        obtain ⟨x349, hx349, h⟩ := ap_eq h
        refine J_nmI hx349 ?_
        refine J_aload_n (q := 334) 2 d_Law_333 rfl rfl rfl ?_
        refine J_aload_n (q := 335) 0 d_Law_334 rfl rfl rfl ?_
        refine J_iload_n (q := 336) 3 d_Law_335 rfl rfl rfl ?_
        refine J_iconst (q := 337) (v := (1 : Int32)) d_Law_336 (by decide) rfl ?_
        refine J_iadd (q := 338) d_Law_337 rfl ?_
        obtain ⟨hi350, h⟩ := gu_some h
        refine J_sld (q := 339) hi350 d_Law_338 rfl ?_
        obtain ⟨r351, hr351, h⟩ := bd_some h
        refine J_rc (rc2 := 0 + 20 * n) (rs2 := 0 + 1200 * n) (by omega) (by omega) ?_
        refine J_callVq (rc := 20 * n) (rs := 1200 * n) (q := 342) (as := [vi (xs (y3 + (1 : Int32)).toNatClampNeg)]) (st := [vi (x349)]) (by decide) rfl g_1301 g_1302 (t_Mo_close hr351) (by decide) (by decide) g_1300 g_1303 g_10 hy_Mo_close rfl (Nat.le_of_ble_eq_true rfl) d_Law_339 rfl ?_
        obtain ⟨μ352, hμ352, h⟩ := ap_eq h
        refine J_nmM hμ352 ?_
        obtain ⟨x353, hx353, h⟩ := ap_eq h
        refine J_nmI hx353 ?_
        refine J_icmp_eq (q := 345) (tgt := 1463) d_Law_342 (by decide) rfl (fun hc => ?_) (fun hc => ?_)
        · rw [if_pos hc] at h
          refine J_rc (rc2 := 20 * n) (rs2 := 1200 * n) (by omega) (by omega) ?_
          refine J_pick [0, 1, 2, 3] rfl ?_
          exact tj_Law_1463 L xs n ih _ _ h
        · rw [if_neg hc] at h
          refine J_iconst (q := 346) (v := (0 : Int32)) d_Law_345 (by decide) rfl ?_
          cases h
      rw [if_neg hk4] at h
      by_cases hk5 : x309 = (5 : Int32)
      · rw [if_pos hk5] at h
        refine J_swIn (tgt := 347) d_Law_33 (by rw [hk5]; decide) (by rw [hk5]; decide) (by rw [hk5]; rfl) (by decide) ?_
        refine J_aload_n (q := 348) 1 d_Law_347 rfl rfl rfl ?_
        refine J_aload_n (q := 349) 0 d_Law_348 rfl rfl rfl ?_
        refine J_iload_n (q := 350) 3 d_Law_349 rfl rfl rfl ?_
        refine J_iconst (q := 351) (v := (1 : Int32)) d_Law_350 (by decide) rfl ?_
        refine J_iadd (q := 352) d_Law_351 rfl ?_
        obtain ⟨hi354, h⟩ := gu_some h
        refine J_sld (q := 353) hi354 d_Law_352 rfl ?_
        obtain ⟨r355, hr355, h⟩ := bd_some h
        refine J_rc (rc2 := 0 + 20 * n) (rs2 := 0 + 1200 * n) (by omega) (by omega) ?_
        refine J_callVq (rc := 20 * n) (rs := 1200 * n) (q := 356) (as := [vi (xs (y3 + (1 : Int32)).toNatClampNeg)]) (st := []) (by decide) rfl g_485 g_486 (t_Fo_drop hr355) (by decide) (by decide) g_484 g_487 g_1 hy_Fo_drop rfl (Nat.le_of_ble_eq_true rfl) d_Law_353 rfl ?_
        obtain ⟨μ356, hμ356, h⟩ := ap_eq h
        refine J_nmM hμ356 ?_
        obtain ⟨x357, hx357, h⟩ := ap_eq h
        refine J_nmI hx357 ?_
        refine J_aload_n (q := 357) 2 d_Law_356 rfl rfl rfl ?_
        refine J_aload_n (q := 358) 0 d_Law_357 rfl rfl rfl ?_
        refine J_iload_n (q := 359) 3 d_Law_358 rfl rfl rfl ?_
        refine J_iconst (q := 360) (v := (1 : Int32)) d_Law_359 (by decide) rfl ?_
        refine J_iadd (q := 361) d_Law_360 rfl ?_
        obtain ⟨hi358, h⟩ := gu_some h
        refine J_sld (q := 362) hi358 d_Law_361 rfl ?_
        obtain ⟨r359, hr359, h⟩ := bd_some h
        refine J_rc (rc2 := 0 + 20 * n) (rs2 := 0 + 1200 * n) (by omega) (by omega) ?_
        refine J_callVq (rc := 20 * n) (rs := 1200 * n) (q := 365) (as := [vi (xs (y3 + (1 : Int32)).toNatClampNeg)]) (st := [vi (x357)]) (by decide) rfl g_1309 g_1310 (t_Mo_drop hr359) (by decide) (by decide) g_1308 g_1311 g_10 hy_Mo_drop rfl (Nat.le_of_ble_eq_true rfl) d_Law_362 rfl ?_
        obtain ⟨μ360, hμ360, h⟩ := ap_eq h
        refine J_nmM hμ360 ?_
        obtain ⟨x361, hx361, h⟩ := ap_eq h
        refine J_nmI hx361 ?_
        refine J_icmp_eq (q := 368) (tgt := 1463) d_Law_365 (by decide) rfl (fun hc => ?_) (fun hc => ?_)
        · rw [if_pos hc] at h
          refine J_rc (rc2 := 20 * n) (rs2 := 1200 * n) (by omega) (by omega) ?_
          refine J_pick [0, 1, 2, 3] rfl ?_
          exact tj_Law_1463 L xs n ih _ _ h
        · rw [if_neg hc] at h
          refine J_iconst (q := 369) (v := (0 : Int32)) d_Law_368 (by decide) rfl ?_
          cases h
      rw [if_neg hk5] at h
      by_cases hk6 : x309 = (6 : Int32)
      · rw [if_pos hk6] at h
        refine J_swIn (tgt := 370) d_Law_33 (by rw [hk6]; decide) (by rw [hk6]; decide) (by rw [hk6]; rfl) (by decide) ?_
        refine J_aload_n (q := 371) 1 d_Law_370 rfl rfl rfl ?_
        refine J_aload_n (q := 372) 0 d_Law_371 rfl rfl rfl ?_
        refine J_iload_n (q := 373) 3 d_Law_372 rfl rfl rfl ?_
        refine J_iconst (q := 374) (v := (1 : Int32)) d_Law_373 (by decide) rfl ?_
        refine J_iadd (q := 375) d_Law_374 rfl ?_
        obtain ⟨hi362, h⟩ := gu_some h
        refine J_sld (q := 376) hi362 d_Law_375 rfl ?_
        refine J_aload_n (q := 377) 0 d_Law_376 rfl rfl rfl ?_
        refine J_iload_n (q := 378) 3 d_Law_377 rfl rfl rfl ?_
        refine J_iconst (q := 379) (v := (2 : Int32)) d_Law_378 (by decide) rfl ?_
        refine J_iadd (q := 380) d_Law_379 rfl ?_
        obtain ⟨hi363, h⟩ := gu_some h
        refine J_sld (q := 381) hi363 d_Law_380 rfl ?_
        refine J_aload_n (q := 382) 0 d_Law_381 rfl rfl rfl ?_
        refine J_iload_n (q := 383) 3 d_Law_382 rfl rfl rfl ?_
        refine J_iconst (q := 384) (v := (3 : Int32)) d_Law_383 (by decide) rfl ?_
        refine J_iadd (q := 385) d_Law_384 rfl ?_
        obtain ⟨hi364, h⟩ := gu_some h
        refine J_sld (q := 386) hi364 d_Law_385 rfl ?_
        refine J_aload_n (q := 387) 0 d_Law_386 rfl rfl rfl ?_
        refine J_iload_n (q := 388) 3 d_Law_387 rfl rfl rfl ?_
        refine J_iconst (q := 389) (v := (4 : Int32)) d_Law_388 (by decide) rfl ?_
        refine J_iadd (q := 390) d_Law_389 rfl ?_
        obtain ⟨hi365, h⟩ := gu_some h
        refine J_sld (q := 391) hi365 d_Law_390 rfl ?_
        obtain ⟨r366, hr366, h⟩ := bd_some h
        refine J_rc (rc2 := 0 + 20 * n) (rs2 := 0 + 1200 * n) (by omega) (by omega) ?_
        refine J_callVq (rc := 20 * n) (rs := 1200 * n) (q := 394) (as := [vi (xs (y3 + (1 : Int32)).toNatClampNeg), vi (xs (y3 + (2 : Int32)).toNatClampNeg), vi (xs (y3 + (3 : Int32)).toNatClampNeg), vi (xs (y3 + (4 : Int32)).toNatClampNeg)]) (st := []) (by decide) rfl g_497 g_498 (t_Fo_move hr366) (by decide) (by decide) g_496 g_499 g_1 hy_Fo_move rfl (Nat.le_of_ble_eq_true rfl) d_Law_391 rfl ?_
        obtain ⟨μ367, hμ367, h⟩ := ap_eq h
        refine J_nmM hμ367 ?_
        refine J_aload_n (q := 395) 2 d_Law_394 rfl rfl rfl ?_
        refine J_aload_n (q := 396) 0 d_Law_395 rfl rfl rfl ?_
        refine J_iload_n (q := 397) 3 d_Law_396 rfl rfl rfl ?_
        refine J_iconst (q := 398) (v := (1 : Int32)) d_Law_397 (by decide) rfl ?_
        refine J_iadd (q := 399) d_Law_398 rfl ?_
        obtain ⟨hi368, h⟩ := gu_some h
        refine J_sld (q := 400) hi368 d_Law_399 rfl ?_
        refine J_aload_n (q := 401) 0 d_Law_400 rfl rfl rfl ?_
        refine J_iload_n (q := 402) 3 d_Law_401 rfl rfl rfl ?_
        refine J_iconst (q := 403) (v := (2 : Int32)) d_Law_402 (by decide) rfl ?_
        refine J_iadd (q := 404) d_Law_403 rfl ?_
        obtain ⟨hi369, h⟩ := gu_some h
        refine J_sld (q := 405) hi369 d_Law_404 rfl ?_
        refine J_aload_n (q := 406) 0 d_Law_405 rfl rfl rfl ?_
        refine J_iload_n (q := 407) 3 d_Law_406 rfl rfl rfl ?_
        refine J_iconst (q := 408) (v := (3 : Int32)) d_Law_407 (by decide) rfl ?_
        refine J_iadd (q := 409) d_Law_408 rfl ?_
        obtain ⟨hi370, h⟩ := gu_some h
        refine J_sld (q := 410) hi370 d_Law_409 rfl ?_
        refine J_aload_n (q := 411) 0 d_Law_410 rfl rfl rfl ?_
        refine J_iload_n (q := 412) 3 d_Law_411 rfl rfl rfl ?_
        refine J_iconst (q := 413) (v := (4 : Int32)) d_Law_412 (by decide) rfl ?_
        refine J_iadd (q := 414) d_Law_413 rfl ?_
        obtain ⟨hi371, h⟩ := gu_some h
        refine J_sld (q := 415) hi371 d_Law_414 rfl ?_
        obtain ⟨r372, hr372, h⟩ := bd_some h
        refine J_rc (rc2 := 0 + 20 * n) (rs2 := 0 + 1200 * n) (by omega) (by omega) ?_
        refine J_callVq (rc := 20 * n) (rs := 1200 * n) (q := 418) (as := [vi (xs (y3 + (1 : Int32)).toNatClampNeg), vi (xs (y3 + (2 : Int32)).toNatClampNeg), vi (xs (y3 + (3 : Int32)).toNatClampNeg), vi (xs (y3 + (4 : Int32)).toNatClampNeg)]) (st := [vi (b2i (r366.1))]) (by decide) rfl g_1313 g_1314 (t_Mo_move hr372) (by decide) (by decide) g_1312 g_1315 g_10 hy_Mo_move rfl (Nat.le_of_ble_eq_true rfl) d_Law_415 rfl ?_
        obtain ⟨μ373, hμ373, h⟩ := ap_eq h
        refine J_nmM hμ373 ?_
        refine J_icmp_eq (q := 421) (tgt := 1463) d_Law_418 (by decide) rfl (fun hc => ?_) (fun hc => ?_)
        · rw [if_pos hc] at h
          refine J_rc (rc2 := 20 * n) (rs2 := 1200 * n) (by omega) (by omega) ?_
          refine J_pick [0, 1, 2, 3] rfl ?_
          exact tj_Law_1463 L xs n ih _ _ h
        · rw [if_neg hc] at h
          refine J_iconst (q := 422) (v := (0 : Int32)) d_Law_421 (by decide) rfl ?_
          cases h
      rw [if_neg hk6] at h
      by_cases hk7 : x309 = (7 : Int32)
      · rw [if_pos hk7] at h
        refine J_swIn (tgt := 423) d_Law_33 (by rw [hk7]; decide) (by rw [hk7]; decide) (by rw [hk7]; rfl) (by decide) ?_
        refine J_aload_n (q := 424) 1 d_Law_423 rfl rfl rfl ?_
        refine J_aload_n (q := 425) 0 d_Law_424 rfl rfl rfl ?_
        refine J_iload_n (q := 426) 3 d_Law_425 rfl rfl rfl ?_
        refine J_iconst (q := 427) (v := (1 : Int32)) d_Law_426 (by decide) rfl ?_
        refine J_iadd (q := 428) d_Law_427 rfl ?_
        obtain ⟨hi374, h⟩ := gu_some h
        refine J_sld (q := 429) hi374 d_Law_428 rfl ?_
        refine J_aload_n (q := 430) 0 d_Law_429 rfl rfl rfl ?_
        refine J_iload_n (q := 431) 3 d_Law_430 rfl rfl rfl ?_
        refine J_iconst (q := 432) (v := (2 : Int32)) d_Law_431 (by decide) rfl ?_
        refine J_iadd (q := 433) d_Law_432 rfl ?_
        obtain ⟨hi375, h⟩ := gu_some h
        refine J_sld (q := 434) hi375 d_Law_433 rfl ?_
        obtain ⟨r376, hr376, h⟩ := bd_some h
        refine J_rc (rc2 := 0 + 20 * n) (rs2 := 0 + 1200 * n) (by omega) (by omega) ?_
        refine J_callVq (rc := 20 * n) (rs := 1200 * n) (q := 437) (as := [vi (xs (y3 + (1 : Int32)).toNatClampNeg), vi (xs (y3 + (2 : Int32)).toNatClampNeg)]) (st := []) (by decide) rfl g_505 g_506 (t_Fo_reverse hr376) (by decide) (by decide) g_504 g_507 g_1 hy_Fo_reverse rfl (Nat.le_of_ble_eq_true rfl) d_Law_434 rfl ?_
        obtain ⟨μ377, hμ377, h⟩ := ap_eq h
        refine J_nmM hμ377 ?_
        refine J_aload_n (q := 438) 2 d_Law_437 rfl rfl rfl ?_
        refine J_aload_n (q := 439) 0 d_Law_438 rfl rfl rfl ?_
        refine J_iload_n (q := 440) 3 d_Law_439 rfl rfl rfl ?_
        refine J_iconst (q := 441) (v := (1 : Int32)) d_Law_440 (by decide) rfl ?_
        refine J_iadd (q := 442) d_Law_441 rfl ?_
        obtain ⟨hi378, h⟩ := gu_some h
        refine J_sld (q := 443) hi378 d_Law_442 rfl ?_
        refine J_aload_n (q := 444) 0 d_Law_443 rfl rfl rfl ?_
        refine J_iload_n (q := 445) 3 d_Law_444 rfl rfl rfl ?_
        refine J_iconst (q := 446) (v := (2 : Int32)) d_Law_445 (by decide) rfl ?_
        refine J_iadd (q := 447) d_Law_446 rfl ?_
        obtain ⟨hi379, h⟩ := gu_some h
        refine J_sld (q := 448) hi379 d_Law_447 rfl ?_
        obtain ⟨r380, hr380, h⟩ := bd_some h
        refine J_rc (rc2 := 0 + 20 * n) (rs2 := 0 + 1200 * n) (by omega) (by omega) ?_
        refine J_callVq (rc := 20 * n) (rs := 1200 * n) (q := 451) (as := [vi (xs (y3 + (1 : Int32)).toNatClampNeg), vi (xs (y3 + (2 : Int32)).toNatClampNeg)]) (st := [vi (b2i (r376.1))]) (by decide) rfl g_1321 g_1322 (t_Mo_reverse hr380) (by decide) (by decide) g_1320 g_1323 g_10 hy_Mo_reverse rfl (Nat.le_of_ble_eq_true rfl) d_Law_448 rfl ?_
        obtain ⟨μ381, hμ381, h⟩ := ap_eq h
        refine J_nmM hμ381 ?_
        refine J_icmp_eq (q := 454) (tgt := 1463) d_Law_451 (by decide) rfl (fun hc => ?_) (fun hc => ?_)
        · rw [if_pos hc] at h
          refine J_rc (rc2 := 20 * n) (rs2 := 1200 * n) (by omega) (by omega) ?_
          refine J_pick [0, 1, 2, 3] rfl ?_
          exact tj_Law_1463 L xs n ih _ _ h
        · rw [if_neg hc] at h
          refine J_iconst (q := 455) (v := (0 : Int32)) d_Law_454 (by decide) rfl ?_
          cases h
      rw [if_neg hk7] at h
      by_cases hk8 : x309 = (8 : Int32)
      · rw [if_pos hk8] at h
        refine J_swIn (tgt := 456) d_Law_33 (by rw [hk8]; decide) (by rw [hk8]; decide) (by rw [hk8]; rfl) (by decide) ?_
        refine J_aload_n (q := 457) 1 d_Law_456 rfl rfl rfl ?_
        refine J_aload_n (q := 458) 0 d_Law_457 rfl rfl rfl ?_
        refine J_iload_n (q := 459) 3 d_Law_458 rfl rfl rfl ?_
        refine J_iconst (q := 460) (v := (1 : Int32)) d_Law_459 (by decide) rfl ?_
        refine J_iadd (q := 461) d_Law_460 rfl ?_
        obtain ⟨hi382, h⟩ := gu_some h
        refine J_sld (q := 462) hi382 d_Law_461 rfl ?_
        refine J_aload_n (q := 463) 0 d_Law_462 rfl rfl rfl ?_
        refine J_iload_n (q := 464) 3 d_Law_463 rfl rfl rfl ?_
        refine J_iconst (q := 465) (v := (2 : Int32)) d_Law_464 (by decide) rfl ?_
        refine J_iadd (q := 466) d_Law_465 rfl ?_
        obtain ⟨hi383, h⟩ := gu_some h
        refine J_sld (q := 467) hi383 d_Law_466 rfl ?_
        refine J_aload_n (q := 468) 0 d_Law_467 rfl rfl rfl ?_
        refine J_iload_n (q := 469) 3 d_Law_468 rfl rfl rfl ?_
        refine J_iconst (q := 470) (v := (3 : Int32)) d_Law_469 (by decide) rfl ?_
        refine J_iadd (q := 471) d_Law_470 rfl ?_
        obtain ⟨hi384, h⟩ := gu_some h
        refine J_sld (q := 472) hi384 d_Law_471 rfl ?_
        refine J_aload_n (q := 473) 0 d_Law_472 rfl rfl rfl ?_
        refine J_iload_n (q := 474) 3 d_Law_473 rfl rfl rfl ?_
        refine J_iconst (q := 475) (v := (4 : Int32)) d_Law_474 (by decide) rfl ?_
        refine J_iadd (q := 476) d_Law_475 rfl ?_
        obtain ⟨hi385, h⟩ := gu_some h
        refine J_sld (q := 477) hi385 d_Law_476 rfl ?_
        obtain ⟨r386, hr386, h⟩ := bd_some h
        refine J_rc (rc2 := 1 + 20 * n) (rs2 := 7 + 1200 * n) (by omega) (by omega) ?_
        refine J_callVq (rc := 20 * n) (rs := 1200 * n) (q := 480) (as := [vi (xs (y3 + (1 : Int32)).toNatClampNeg), vi (xs (y3 + (2 : Int32)).toNatClampNeg), vi (xs (y3 + (3 : Int32)).toNatClampNeg), vi (xs (y3 + (4 : Int32)).toNatClampNeg)]) (st := []) (by decide) rfl g_524 g_525 (t_Fo_part hr386) (by decide) (by decide) g_523 g_526 g_1 hy_Fo_part rfl (Nat.le_of_ble_eq_true rfl) d_Law_477 rfl ?_
        obtain ⟨μ387, hμ387, h⟩ := ap_eq h
        refine J_nmM hμ387 ?_
        obtain ⟨x388, hx388, h⟩ := ap_eq h
        refine J_nmI hx388 ?_
        refine J_aload_n (q := 481) 2 d_Law_480 rfl rfl rfl ?_
        refine J_aload_n (q := 482) 0 d_Law_481 rfl rfl rfl ?_
        refine J_iload_n (q := 483) 3 d_Law_482 rfl rfl rfl ?_
        refine J_iconst (q := 484) (v := (1 : Int32)) d_Law_483 (by decide) rfl ?_
        refine J_iadd (q := 485) d_Law_484 rfl ?_
        obtain ⟨hi389, h⟩ := gu_some h
        refine J_sld (q := 486) hi389 d_Law_485 rfl ?_
        refine J_aload_n (q := 487) 0 d_Law_486 rfl rfl rfl ?_
        refine J_iload_n (q := 488) 3 d_Law_487 rfl rfl rfl ?_
        refine J_iconst (q := 489) (v := (2 : Int32)) d_Law_488 (by decide) rfl ?_
        refine J_iadd (q := 490) d_Law_489 rfl ?_
        obtain ⟨hi390, h⟩ := gu_some h
        refine J_sld (q := 491) hi390 d_Law_490 rfl ?_
        refine J_aload_n (q := 492) 0 d_Law_491 rfl rfl rfl ?_
        refine J_iload_n (q := 493) 3 d_Law_492 rfl rfl rfl ?_
        refine J_iconst (q := 494) (v := (3 : Int32)) d_Law_493 (by decide) rfl ?_
        refine J_iadd (q := 495) d_Law_494 rfl ?_
        obtain ⟨hi391, h⟩ := gu_some h
        refine J_sld (q := 496) hi391 d_Law_495 rfl ?_
        refine J_aload_n (q := 497) 0 d_Law_496 rfl rfl rfl ?_
        refine J_iload_n (q := 498) 3 d_Law_497 rfl rfl rfl ?_
        refine J_iconst (q := 499) (v := (4 : Int32)) d_Law_498 (by decide) rfl ?_
        refine J_iadd (q := 500) d_Law_499 rfl ?_
        obtain ⟨hi392, h⟩ := gu_some h
        refine J_sld (q := 501) hi392 d_Law_500 rfl ?_
        obtain ⟨r393, hr393, h⟩ := bd_some h
        refine J_rc (rc2 := 0 + 20 * n) (rs2 := 0 + 1200 * n) (by omega) (by omega) ?_
        refine J_callVq (rc := 20 * n) (rs := 1200 * n) (q := 504) (as := [vi (xs (y3 + (1 : Int32)).toNatClampNeg), vi (xs (y3 + (2 : Int32)).toNatClampNeg), vi (xs (y3 + (3 : Int32)).toNatClampNeg), vi (xs (y3 + (4 : Int32)).toNatClampNeg)]) (st := [vi (x388)]) (by decide) rfl g_1333 g_1334 (t_Mo_part hr393) (by decide) (by decide) g_1332 g_1335 g_10 hy_Mo_part rfl (Nat.le_of_ble_eq_true rfl) d_Law_501 rfl ?_
        obtain ⟨μ394, hμ394, h⟩ := ap_eq h
        refine J_nmM hμ394 ?_
        obtain ⟨x395, hx395, h⟩ := ap_eq h
        refine J_nmI hx395 ?_
        refine J_icmp_eq (q := 507) (tgt := 1463) d_Law_504 (by decide) rfl (fun hc => ?_) (fun hc => ?_)
        · rw [if_pos hc] at h
          refine J_rc (rc2 := 20 * n) (rs2 := 1200 * n) (by omega) (by omega) ?_
          refine J_pick [0, 1, 2, 3] rfl ?_
          exact tj_Law_1463 L xs n ih _ _ h
        · rw [if_neg hc] at h
          refine J_iconst (q := 508) (v := (0 : Int32)) d_Law_507 (by decide) rfl ?_
          cases h
      rw [if_neg hk8] at h
      by_cases hk9 : x309 = (9 : Int32)
      · rw [if_pos hk9] at h
        refine J_swIn (tgt := 509) d_Law_33 (by rw [hk9]; decide) (by rw [hk9]; decide) (by rw [hk9]; rfl) (by decide) ?_
        refine J_aload_n (q := 510) 1 d_Law_509 rfl rfl rfl ?_
        refine J_aload_n (q := 511) 0 d_Law_510 rfl rfl rfl ?_
        refine J_iload_n (q := 512) 3 d_Law_511 rfl rfl rfl ?_
        refine J_iconst (q := 513) (v := (1 : Int32)) d_Law_512 (by decide) rfl ?_
        refine J_iadd (q := 514) d_Law_513 rfl ?_
        obtain ⟨hi396, h⟩ := gu_some h
        refine J_sld (q := 515) hi396 d_Law_514 rfl ?_
        refine J_aload_n (q := 516) 0 d_Law_515 rfl rfl rfl ?_
        refine J_iload_n (q := 517) 3 d_Law_516 rfl rfl rfl ?_
        refine J_iconst (q := 518) (v := (2 : Int32)) d_Law_517 (by decide) rfl ?_
        refine J_iadd (q := 519) d_Law_518 rfl ?_
        obtain ⟨hi397, h⟩ := gu_some h
        refine J_sld (q := 520) hi397 d_Law_519 rfl ?_
        refine J_aload_n (q := 521) 0 d_Law_520 rfl rfl rfl ?_
        refine J_iload_n (q := 522) 3 d_Law_521 rfl rfl rfl ?_
        refine J_iconst (q := 523) (v := (3 : Int32)) d_Law_522 (by decide) rfl ?_
        refine J_iadd (q := 524) d_Law_523 rfl ?_
        obtain ⟨hi398, h⟩ := gu_some h
        refine J_sld (q := 525) hi398 d_Law_524 rfl ?_
        refine J_aload_n (q := 526) 0 d_Law_525 rfl rfl rfl ?_
        refine J_iload_n (q := 527) 3 d_Law_526 rfl rfl rfl ?_
        refine J_iconst (q := 528) (v := (4 : Int32)) d_Law_527 (by decide) rfl ?_
        refine J_iadd (q := 529) d_Law_528 rfl ?_
        obtain ⟨hi399, h⟩ := gu_some h
        refine J_sld (q := 530) hi399 d_Law_529 rfl ?_
        refine J_aload_n (q := 531) 0 d_Law_530 rfl rfl rfl ?_
        refine J_iload_n (q := 532) 3 d_Law_531 rfl rfl rfl ?_
        refine J_iconst (q := 533) (v := (5 : Int32)) d_Law_532 (by decide) rfl ?_
        refine J_iadd (q := 534) d_Law_533 rfl ?_
        obtain ⟨hi400, h⟩ := gu_some h
        refine J_sld (q := 535) hi400 d_Law_534 rfl ?_
        refine J_aload_n (q := 536) 0 d_Law_535 rfl rfl rfl ?_
        refine J_iload_n (q := 537) 3 d_Law_536 rfl rfl rfl ?_
        refine J_bipush (q := 539) (v := (6 : Int32)) d_Law_537 (by decide) rfl ?_
        refine J_iadd (q := 540) d_Law_539 rfl ?_
        obtain ⟨hi401, h⟩ := gu_some h
        refine J_sld (q := 541) hi401 d_Law_540 rfl ?_
        obtain ⟨r402, hr402, h⟩ := bd_some h
        refine J_rc (rc2 := 0 + 20 * n) (rs2 := 0 + 1200 * n) (by omega) (by omega) ?_
        refine J_callVq (rc := 20 * n) (rs := 1200 * n) (q := 544) (as := [vi (xs (y3 + (1 : Int32)).toNatClampNeg), vi (xs (y3 + (2 : Int32)).toNatClampNeg), vi (xs (y3 + (3 : Int32)).toNatClampNeg), vi (xs (y3 + (4 : Int32)).toNatClampNeg), vi (xs (y3 + (5 : Int32)).toNatClampNeg), vi (xs (y3 + (6 : Int32)).toNatClampNeg)]) (st := []) (by decide) rfl g_564 g_565 (t_Fo_matrix hr402) (by decide) (by decide) g_563 g_566 g_1 hy_Fo_matrix rfl (Nat.le_of_ble_eq_true rfl) d_Law_541 rfl ?_
        obtain ⟨μ403, hμ403, h⟩ := ap_eq h
        refine J_nmM hμ403 ?_
        refine J_aload_n (q := 545) 2 d_Law_544 rfl rfl rfl ?_
        refine J_aload_n (q := 546) 0 d_Law_545 rfl rfl rfl ?_
        refine J_iload_n (q := 547) 3 d_Law_546 rfl rfl rfl ?_
        refine J_iconst (q := 548) (v := (1 : Int32)) d_Law_547 (by decide) rfl ?_
        refine J_iadd (q := 549) d_Law_548 rfl ?_
        obtain ⟨hi404, h⟩ := gu_some h
        refine J_sld (q := 550) hi404 d_Law_549 rfl ?_
        refine J_aload_n (q := 551) 0 d_Law_550 rfl rfl rfl ?_
        refine J_iload_n (q := 552) 3 d_Law_551 rfl rfl rfl ?_
        refine J_iconst (q := 553) (v := (2 : Int32)) d_Law_552 (by decide) rfl ?_
        refine J_iadd (q := 554) d_Law_553 rfl ?_
        obtain ⟨hi405, h⟩ := gu_some h
        refine J_sld (q := 555) hi405 d_Law_554 rfl ?_
        refine J_aload_n (q := 556) 0 d_Law_555 rfl rfl rfl ?_
        refine J_iload_n (q := 557) 3 d_Law_556 rfl rfl rfl ?_
        refine J_iconst (q := 558) (v := (3 : Int32)) d_Law_557 (by decide) rfl ?_
        refine J_iadd (q := 559) d_Law_558 rfl ?_
        obtain ⟨hi406, h⟩ := gu_some h
        refine J_sld (q := 560) hi406 d_Law_559 rfl ?_
        refine J_aload_n (q := 561) 0 d_Law_560 rfl rfl rfl ?_
        refine J_iload_n (q := 562) 3 d_Law_561 rfl rfl rfl ?_
        refine J_iconst (q := 563) (v := (4 : Int32)) d_Law_562 (by decide) rfl ?_
        refine J_iadd (q := 564) d_Law_563 rfl ?_
        obtain ⟨hi407, h⟩ := gu_some h
        refine J_sld (q := 565) hi407 d_Law_564 rfl ?_
        refine J_aload_n (q := 566) 0 d_Law_565 rfl rfl rfl ?_
        refine J_iload_n (q := 567) 3 d_Law_566 rfl rfl rfl ?_
        refine J_iconst (q := 568) (v := (5 : Int32)) d_Law_567 (by decide) rfl ?_
        refine J_iadd (q := 569) d_Law_568 rfl ?_
        obtain ⟨hi408, h⟩ := gu_some h
        refine J_sld (q := 570) hi408 d_Law_569 rfl ?_
        refine J_aload_n (q := 571) 0 d_Law_570 rfl rfl rfl ?_
        refine J_iload_n (q := 572) 3 d_Law_571 rfl rfl rfl ?_
        refine J_bipush (q := 574) (v := (6 : Int32)) d_Law_572 (by decide) rfl ?_
        refine J_iadd (q := 575) d_Law_574 rfl ?_
        obtain ⟨hi409, h⟩ := gu_some h
        refine J_sld (q := 576) hi409 d_Law_575 rfl ?_
        obtain ⟨r410, hr410, h⟩ := bd_some h
        refine J_rc (rc2 := 0 + 20 * n) (rs2 := 0 + 1200 * n) (by omega) (by omega) ?_
        refine J_callVq (rc := 20 * n) (rs := 1200 * n) (q := 579) (as := [vi (xs (y3 + (1 : Int32)).toNatClampNeg), vi (xs (y3 + (2 : Int32)).toNatClampNeg), vi (xs (y3 + (3 : Int32)).toNatClampNeg), vi (xs (y3 + (4 : Int32)).toNatClampNeg), vi (xs (y3 + (5 : Int32)).toNatClampNeg), vi (xs (y3 + (6 : Int32)).toNatClampNeg)]) (st := [vi (b2i (r402.1))]) (by decide) rfl g_1341 g_1342 (t_Mo_matrix hr410) (by decide) (by decide) g_1340 g_1343 g_10 hy_Mo_matrix rfl (Nat.le_of_ble_eq_true rfl) d_Law_576 rfl ?_
        obtain ⟨μ411, hμ411, h⟩ := ap_eq h
        refine J_nmM hμ411 ?_
        refine J_icmp_eq (q := 582) (tgt := 1463) d_Law_579 (by decide) rfl (fun hc => ?_) (fun hc => ?_)
        · rw [if_pos hc] at h
          refine J_rc (rc2 := 20 * n) (rs2 := 1200 * n) (by omega) (by omega) ?_
          refine J_pick [0, 1, 2, 3] rfl ?_
          exact tj_Law_1463 L xs n ih _ _ h
        · rw [if_neg hc] at h
          refine J_iconst (q := 583) (v := (0 : Int32)) d_Law_582 (by decide) rfl ?_
          cases h
      rw [if_neg hk9] at h
      by_cases hk10 : x309 = (10 : Int32)
      · rw [if_pos hk10] at h
        refine J_swIn (tgt := 584) d_Law_33 (by rw [hk10]; decide) (by rw [hk10]; decide) (by rw [hk10]; rfl) (by decide) ?_
        refine J_aload_n (q := 585) 1 d_Law_584 rfl rfl rfl ?_
        refine J_aload_n (q := 586) 0 d_Law_585 rfl rfl rfl ?_
        refine J_iload_n (q := 587) 3 d_Law_586 rfl rfl rfl ?_
        refine J_iconst (q := 588) (v := (1 : Int32)) d_Law_587 (by decide) rfl ?_
        refine J_iadd (q := 589) d_Law_588 rfl ?_
        obtain ⟨hi412, h⟩ := gu_some h
        refine J_sld (q := 590) hi412 d_Law_589 rfl ?_
        refine J_aload_n (q := 591) 0 d_Law_590 rfl rfl rfl ?_
        refine J_iload_n (q := 592) 3 d_Law_591 rfl rfl rfl ?_
        refine J_iconst (q := 593) (v := (2 : Int32)) d_Law_592 (by decide) rfl ?_
        refine J_iadd (q := 594) d_Law_593 rfl ?_
        obtain ⟨hi413, h⟩ := gu_some h
        refine J_sld (q := 595) hi413 d_Law_594 rfl ?_
        obtain ⟨r414, hr414, h⟩ := bd_some h
        refine J_rc (rc2 := 0 + 20 * n) (rs2 := 0 + 1200 * n) (by omega) (by omega) ?_
        refine J_callVq (rc := 20 * n) (rs := 1200 * n) (q := 598) (as := [vi (xs (y3 + (1 : Int32)).toNatClampNeg), vi (xs (y3 + (2 : Int32)).toNatClampNeg)]) (st := []) (by decide) rfl g_582 g_583 (t_Fo_info hr414) (by decide) (by decide) g_581 g_584 g_1 hy_Fo_info rfl (Nat.le_of_ble_eq_true rfl) d_Law_595 rfl ?_
        refine J_aload_n (q := 599) 2 d_Law_598 rfl rfl rfl ?_
        refine J_aload_n (q := 600) 0 d_Law_599 rfl rfl rfl ?_
        refine J_iload_n (q := 601) 3 d_Law_600 rfl rfl rfl ?_
        refine J_iconst (q := 602) (v := (1 : Int32)) d_Law_601 (by decide) rfl ?_
        refine J_iadd (q := 603) d_Law_602 rfl ?_
        obtain ⟨hi415, h⟩ := gu_some h
        refine J_sld (q := 604) hi415 d_Law_603 rfl ?_
        refine J_aload_n (q := 605) 0 d_Law_604 rfl rfl rfl ?_
        refine J_iload_n (q := 606) 3 d_Law_605 rfl rfl rfl ?_
        refine J_iconst (q := 607) (v := (2 : Int32)) d_Law_606 (by decide) rfl ?_
        refine J_iadd (q := 608) d_Law_607 rfl ?_
        obtain ⟨hi416, h⟩ := gu_some h
        refine J_sld (q := 609) hi416 d_Law_608 rfl ?_
        obtain ⟨r417, hr417, h⟩ := bd_some h
        refine J_rc (rc2 := 0 + 20 * n) (rs2 := 0 + 1200 * n) (by omega) (by omega) ?_
        refine J_callVq (rc := 20 * n) (rs := 1200 * n) (q := 612) (as := [vi (xs (y3 + (1 : Int32)).toNatClampNeg), vi (xs (y3 + (2 : Int32)).toNatClampNeg)]) (st := [vi (r414)]) (by decide) rfl g_1348 g_1349 (t_Mo_info hr417) (by decide) (by decide) g_1347 g_1350 g_10 hy_Mo_info rfl (Nat.le_of_ble_eq_true rfl) d_Law_609 rfl ?_
        obtain ⟨μ418, hμ418, h⟩ := ap_eq h
        refine J_nmM hμ418 ?_
        obtain ⟨x419, hx419, h⟩ := ap_eq h
        refine J_nmI hx419 ?_
        refine J_icmp_eq (q := 615) (tgt := 1463) d_Law_612 (by decide) rfl (fun hc => ?_) (fun hc => ?_)
        · rw [if_pos hc] at h
          refine J_rc (rc2 := 20 * n) (rs2 := 1200 * n) (by omega) (by omega) ?_
          refine J_pick [0, 1, 2, 3] rfl ?_
          exact tj_Law_1463 L xs n ih _ _ h
        · rw [if_neg hc] at h
          refine J_iconst (q := 616) (v := (0 : Int32)) d_Law_615 (by decide) rfl ?_
          cases h
      rw [if_neg hk10] at h
      by_cases hk11 : x309 = (11 : Int32)
      · rw [if_pos hk11] at h
        refine J_swIn (tgt := 617) d_Law_33 (by rw [hk11]; decide) (by rw [hk11]; decide) (by rw [hk11]; rfl) (by decide) ?_
        refine J_aload_n (q := 618) 1 d_Law_617 rfl rfl rfl ?_
        refine J_aload_n (q := 619) 0 d_Law_618 rfl rfl rfl ?_
        refine J_iload_n (q := 620) 3 d_Law_619 rfl rfl rfl ?_
        refine J_iconst (q := 621) (v := (1 : Int32)) d_Law_620 (by decide) rfl ?_
        refine J_iadd (q := 622) d_Law_621 rfl ?_
        obtain ⟨hi420, h⟩ := gu_some h
        refine J_sld (q := 623) hi420 d_Law_622 rfl ?_
        refine J_aload_n (q := 624) 0 d_Law_623 rfl rfl rfl ?_
        refine J_iload_n (q := 625) 3 d_Law_624 rfl rfl rfl ?_
        refine J_iconst (q := 626) (v := (2 : Int32)) d_Law_625 (by decide) rfl ?_
        refine J_iadd (q := 627) d_Law_626 rfl ?_
        obtain ⟨hi421, h⟩ := gu_some h
        refine J_sld (q := 628) hi421 d_Law_627 rfl ?_
        refine J_aload_n (q := 629) 0 d_Law_628 rfl rfl rfl ?_
        refine J_iload_n (q := 630) 3 d_Law_629 rfl rfl rfl ?_
        refine J_iconst (q := 631) (v := (3 : Int32)) d_Law_630 (by decide) rfl ?_
        refine J_iadd (q := 632) d_Law_631 rfl ?_
        obtain ⟨hi422, h⟩ := gu_some h
        refine J_sld (q := 633) hi422 d_Law_632 rfl ?_
        obtain ⟨r423, hr423, h⟩ := bd_some h
        refine J_rc (rc2 := 0 + 20 * n) (rs2 := 0 + 1200 * n) (by omega) (by omega) ?_
        refine J_callVq (rc := 20 * n) (rs := 1200 * n) (q := 636) (as := [vi (xs (y3 + (1 : Int32)).toNatClampNeg), vi (xs (y3 + (2 : Int32)).toNatClampNeg), vi (xs (y3 + (3 : Int32)).toNatClampNeg)]) (st := []) (by decide) rfl g_588 g_589 (t_Fo_at hr423) (by decide) (by decide) g_587 g_590 g_1 hy_Fo_at rfl (Nat.le_of_ble_eq_true rfl) d_Law_633 rfl ?_
        refine J_aload_n (q := 637) 2 d_Law_636 rfl rfl rfl ?_
        refine J_aload_n (q := 638) 0 d_Law_637 rfl rfl rfl ?_
        refine J_iload_n (q := 639) 3 d_Law_638 rfl rfl rfl ?_
        refine J_iconst (q := 640) (v := (1 : Int32)) d_Law_639 (by decide) rfl ?_
        refine J_iadd (q := 641) d_Law_640 rfl ?_
        obtain ⟨hi424, h⟩ := gu_some h
        refine J_sld (q := 642) hi424 d_Law_641 rfl ?_
        refine J_aload_n (q := 643) 0 d_Law_642 rfl rfl rfl ?_
        refine J_iload_n (q := 644) 3 d_Law_643 rfl rfl rfl ?_
        refine J_iconst (q := 645) (v := (2 : Int32)) d_Law_644 (by decide) rfl ?_
        refine J_iadd (q := 646) d_Law_645 rfl ?_
        obtain ⟨hi425, h⟩ := gu_some h
        refine J_sld (q := 647) hi425 d_Law_646 rfl ?_
        refine J_aload_n (q := 648) 0 d_Law_647 rfl rfl rfl ?_
        refine J_iload_n (q := 649) 3 d_Law_648 rfl rfl rfl ?_
        refine J_iconst (q := 650) (v := (3 : Int32)) d_Law_649 (by decide) rfl ?_
        refine J_iadd (q := 651) d_Law_650 rfl ?_
        obtain ⟨hi426, h⟩ := gu_some h
        refine J_sld (q := 652) hi426 d_Law_651 rfl ?_
        obtain ⟨r427, hr427, h⟩ := bd_some h
        refine J_rc (rc2 := 0 + 20 * n) (rs2 := 0 + 1200 * n) (by omega) (by omega) ?_
        refine J_callVq (rc := 20 * n) (rs := 1200 * n) (q := 655) (as := [vi (xs (y3 + (1 : Int32)).toNatClampNeg), vi (xs (y3 + (2 : Int32)).toNatClampNeg), vi (xs (y3 + (3 : Int32)).toNatClampNeg)]) (st := [vi (r423)]) (by decide) rfl g_1352 g_1353 (t_Mo_at hr427) (by decide) (by decide) g_1351 g_1354 g_10 hy_Mo_at rfl (Nat.le_of_ble_eq_true rfl) d_Law_652 rfl ?_
        refine J_icmp_eq (q := 658) (tgt := 1463) d_Law_655 (by decide) rfl (fun hc => ?_) (fun hc => ?_)
        · rw [if_pos hc] at h
          refine J_rc (rc2 := 20 * n) (rs2 := 1200 * n) (by omega) (by omega) ?_
          refine J_pick [0, 1, 2, 3] rfl ?_
          exact tj_Law_1463 L xs n ih _ _ h
        · rw [if_neg hc] at h
          refine J_iconst (q := 659) (v := (0 : Int32)) d_Law_658 (by decide) rfl ?_
          cases h
      rw [if_neg hk11] at h
      by_cases hk12 : x309 = (12 : Int32)
      · rw [if_pos hk12] at h
        refine J_swIn (tgt := 660) d_Law_33 (by rw [hk12]; decide) (by rw [hk12]; decide) (by rw [hk12]; rfl) (by decide) ?_
        refine J_aload_n (q := 661) 1 d_Law_660 rfl rfl rfl ?_
        refine J_aload_n (q := 662) 0 d_Law_661 rfl rfl rfl ?_
        refine J_iload_n (q := 663) 3 d_Law_662 rfl rfl rfl ?_
        refine J_iconst (q := 664) (v := (1 : Int32)) d_Law_663 (by decide) rfl ?_
        refine J_iadd (q := 665) d_Law_664 rfl ?_
        obtain ⟨hi428, h⟩ := gu_some h
        refine J_sld (q := 666) hi428 d_Law_665 rfl ?_
        refine J_aload_n (q := 667) 0 d_Law_666 rfl rfl rfl ?_
        refine J_iload_n (q := 668) 3 d_Law_667 rfl rfl rfl ?_
        refine J_iconst (q := 669) (v := (2 : Int32)) d_Law_668 (by decide) rfl ?_
        refine J_iadd (q := 670) d_Law_669 rfl ?_
        obtain ⟨hi429, h⟩ := gu_some h
        refine J_sld (q := 671) hi429 d_Law_670 rfl ?_
        obtain ⟨r430, hr430, h⟩ := bd_some h
        refine J_rc (rc2 := 0 + 20 * n) (rs2 := 0 + 1200 * n) (by omega) (by omega) ?_
        refine J_callVq (rc := 20 * n) (rs := 1200 * n) (q := 674) (as := [vi (xs (y3 + (1 : Int32)).toNatClampNeg), vi (xs (y3 + (2 : Int32)).toNatClampNeg)]) (st := []) (by decide) rfl g_597 g_598 (t_Fo_flatten hr430) (by decide) (by decide) g_596 g_599 g_1 hy_Fo_flatten rfl (Nat.le_of_ble_eq_true rfl) d_Law_671 rfl ?_
        obtain ⟨μ431, hμ431, h⟩ := ap_eq h
        refine J_nmM hμ431 ?_
        obtain ⟨x432, hx432, h⟩ := ap_eq h
        refine J_nmI hx432 ?_
        refine J_aload_n (q := 675) 2 d_Law_674 rfl rfl rfl ?_
        refine J_aload_n (q := 676) 0 d_Law_675 rfl rfl rfl ?_
        refine J_iload_n (q := 677) 3 d_Law_676 rfl rfl rfl ?_
        refine J_iconst (q := 678) (v := (1 : Int32)) d_Law_677 (by decide) rfl ?_
        refine J_iadd (q := 679) d_Law_678 rfl ?_
        obtain ⟨hi433, h⟩ := gu_some h
        refine J_sld (q := 680) hi433 d_Law_679 rfl ?_
        refine J_aload_n (q := 681) 0 d_Law_680 rfl rfl rfl ?_
        refine J_iload_n (q := 682) 3 d_Law_681 rfl rfl rfl ?_
        refine J_iconst (q := 683) (v := (2 : Int32)) d_Law_682 (by decide) rfl ?_
        refine J_iadd (q := 684) d_Law_683 rfl ?_
        obtain ⟨hi434, h⟩ := gu_some h
        refine J_sld (q := 685) hi434 d_Law_684 rfl ?_
        obtain ⟨r435, hr435, h⟩ := bd_some h
        refine J_rc (rc2 := 0 + 20 * n) (rs2 := 0 + 1200 * n) (by omega) (by omega) ?_
        refine J_callVq (rc := 20 * n) (rs := 1200 * n) (q := 688) (as := [vi (xs (y3 + (1 : Int32)).toNatClampNeg), vi (xs (y3 + (2 : Int32)).toNatClampNeg)]) (st := [vi (x432)]) (by decide) rfl g_1357 g_1358 (t_Mo_flatten hr435) (by decide) (by decide) g_1356 g_1359 g_10 hy_Mo_flatten rfl (Nat.le_of_ble_eq_true rfl) d_Law_685 rfl ?_
        obtain ⟨μ436, hμ436, h⟩ := ap_eq h
        refine J_nmM hμ436 ?_
        obtain ⟨x437, hx437, h⟩ := ap_eq h
        refine J_nmI hx437 ?_
        refine J_icmp_eq (q := 691) (tgt := 1463) d_Law_688 (by decide) rfl (fun hc => ?_) (fun hc => ?_)
        · rw [if_pos hc] at h
          refine J_rc (rc2 := 20 * n) (rs2 := 1200 * n) (by omega) (by omega) ?_
          refine J_pick [0, 1, 2, 3] rfl ?_
          exact tj_Law_1463 L xs n ih _ _ h
        · rw [if_neg hc] at h
          refine J_iconst (q := 692) (v := (0 : Int32)) d_Law_691 (by decide) rfl ?_
          cases h
      rw [if_neg hk12] at h
      by_cases hk13 : x309 = (13 : Int32)
      · rw [if_pos hk13] at h
        refine J_swIn (tgt := 693) d_Law_33 (by rw [hk13]; decide) (by rw [hk13]; decide) (by rw [hk13]; rfl) (by decide) ?_
        refine J_aload_n (q := 694) 1 d_Law_693 rfl rfl rfl ?_
        refine J_aload_n (q := 695) 0 d_Law_694 rfl rfl rfl ?_
        refine J_iload_n (q := 696) 3 d_Law_695 rfl rfl rfl ?_
        refine J_iconst (q := 697) (v := (1 : Int32)) d_Law_696 (by decide) rfl ?_
        refine J_iadd (q := 698) d_Law_697 rfl ?_
        obtain ⟨hi438, h⟩ := gu_some h
        refine J_sld (q := 699) hi438 d_Law_698 rfl ?_
        refine J_aload_n (q := 700) 0 d_Law_699 rfl rfl rfl ?_
        refine J_iload_n (q := 701) 3 d_Law_700 rfl rfl rfl ?_
        refine J_iconst (q := 702) (v := (2 : Int32)) d_Law_701 (by decide) rfl ?_
        refine J_iadd (q := 703) d_Law_702 rfl ?_
        obtain ⟨hi439, h⟩ := gu_some h
        refine J_sld (q := 704) hi439 d_Law_703 rfl ?_
        obtain ⟨r440, hr440, h⟩ := bd_some h
        refine J_rc (rc2 := 0 + 20 * n) (rs2 := 0 + 1200 * n) (by omega) (by omega) ?_
        refine J_callVq (rc := 20 * n) (rs := 1200 * n) (q := 707) (as := [vi (xs (y3 + (1 : Int32)).toNatClampNeg), vi (xs (y3 + (2 : Int32)).toNatClampNeg)]) (st := []) (by decide) rfl g_692 g_693 (t_Fo_flat hr440) (by decide) (by decide) g_691 g_694 g_1 hy_Fo_flat rfl (Nat.le_of_ble_eq_true rfl) d_Law_704 rfl ?_
        refine J_aload_n (q := 708) 2 d_Law_707 rfl rfl rfl ?_
        refine J_aload_n (q := 709) 0 d_Law_708 rfl rfl rfl ?_
        refine J_iload_n (q := 710) 3 d_Law_709 rfl rfl rfl ?_
        refine J_iconst (q := 711) (v := (1 : Int32)) d_Law_710 (by decide) rfl ?_
        refine J_iadd (q := 712) d_Law_711 rfl ?_
        obtain ⟨hi441, h⟩ := gu_some h
        refine J_sld (q := 713) hi441 d_Law_712 rfl ?_
        refine J_aload_n (q := 714) 0 d_Law_713 rfl rfl rfl ?_
        refine J_iload_n (q := 715) 3 d_Law_714 rfl rfl rfl ?_
        refine J_iconst (q := 716) (v := (2 : Int32)) d_Law_715 (by decide) rfl ?_
        refine J_iadd (q := 717) d_Law_716 rfl ?_
        obtain ⟨hi442, h⟩ := gu_some h
        refine J_sld (q := 718) hi442 d_Law_717 rfl ?_
        obtain ⟨r443, hr443, h⟩ := bd_some h
        refine J_rc (rc2 := 0 + 20 * n) (rs2 := 0 + 1200 * n) (by omega) (by omega) ?_
        refine J_callVq (rc := 20 * n) (rs := 1200 * n) (q := 721) (as := [vi (xs (y3 + (1 : Int32)).toNatClampNeg), vi (xs (y3 + (2 : Int32)).toNatClampNeg)]) (st := [vi (r440)]) (by decide) rfl g_1401 g_1402 (t_Mo_flat hr443) (by decide) (by decide) g_1400 g_1403 g_10 hy_Mo_flat rfl (Nat.le_of_ble_eq_true rfl) d_Law_718 rfl ?_
        refine J_icmp_eq (q := 724) (tgt := 1463) d_Law_721 (by decide) rfl (fun hc => ?_) (fun hc => ?_)
        · rw [if_pos hc] at h
          refine J_rc (rc2 := 20 * n) (rs2 := 1200 * n) (by omega) (by omega) ?_
          refine J_pick [0, 1, 2, 3] rfl ?_
          exact tj_Law_1463 L xs n ih _ _ h
        · rw [if_neg hc] at h
          refine J_iconst (q := 725) (v := (0 : Int32)) d_Law_724 (by decide) rfl ?_
          cases h
      rw [if_neg hk13] at h
      by_cases hk14 : x309 = (14 : Int32)
      · rw [if_pos hk14] at h
        refine J_swIn (tgt := 726) d_Law_33 (by rw [hk14]; decide) (by rw [hk14]; decide) (by rw [hk14]; rfl) (by decide) ?_
        refine J_aload_n (q := 727) 1 d_Law_726 rfl rfl rfl ?_
        obtain ⟨r444, hr444, h⟩ := bd_some h
        refine J_rc (rc2 := 0 + 20 * n) (rs2 := 0 + 1200 * n) (by omega) (by omega) ?_
        refine J_callVq (rc := 20 * n) (rs := 1200 * n) (q := 730) (as := []) (st := []) (by decide) rfl g_697 g_698 (t_Fo_area hr444) (by decide) (by decide) g_696 g_699 g_1 hy_Fo_area rfl (Nat.le_of_ble_eq_true rfl) d_Law_727 rfl ?_
        refine J_aload_n (q := 731) 2 d_Law_730 rfl rfl rfl ?_
        obtain ⟨r445, hr445, h⟩ := bd_some h
        refine J_rc (rc2 := 0 + 20 * n) (rs2 := 0 + 1200 * n) (by omega) (by omega) ?_
        refine J_callVq (rc := 20 * n) (rs := 1200 * n) (q := 734) (as := []) (st := [vl (r444)]) (by decide) rfl g_1406 g_1407 (t_Mo_area hr445) (by decide) (by decide) g_1405 g_1408 g_10 hy_Mo_area rfl (Nat.le_of_ble_eq_true rfl) d_Law_731 rfl ?_
        refine J_lif_eq (q := 738) (tgt := 1463) d_Law_734 d_Law_735 (by decide) rfl (fun hc => ?_) (fun hc => ?_)
        · rw [if_pos hc] at h
          refine J_rc (rc2 := 20 * n) (rs2 := 1200 * n) (by omega) (by omega) ?_
          refine J_pick [0, 1, 2, 3] rfl ?_
          exact tj_Law_1463 L xs n ih _ _ h
        · rw [if_neg hc] at h
          refine J_iconst (q := 739) (v := (0 : Int32)) d_Law_738 (by decide) rfl ?_
          cases h
      rw [if_neg hk14] at h
      by_cases hk15 : x309 = (15 : Int32)
      · rw [if_pos hk15] at h
        refine J_swIn (tgt := 740) d_Law_33 (by rw [hk15]; decide) (by rw [hk15]; decide) (by rw [hk15]; rfl) (by decide) ?_
        refine J_aload_n (q := 741) 1 d_Law_740 rfl rfl rfl ?_
        refine J_aload_n (q := 742) 0 d_Law_741 rfl rfl rfl ?_
        refine J_iload_n (q := 743) 3 d_Law_742 rfl rfl rfl ?_
        refine J_iconst (q := 744) (v := (1 : Int32)) d_Law_743 (by decide) rfl ?_
        refine J_iadd (q := 745) d_Law_744 rfl ?_
        obtain ⟨hi446, h⟩ := gu_some h
        refine J_sld (q := 746) hi446 d_Law_745 rfl ?_
        refine J_aload_n (q := 747) 0 d_Law_746 rfl rfl rfl ?_
        refine J_iload_n (q := 748) 3 d_Law_747 rfl rfl rfl ?_
        refine J_iconst (q := 749) (v := (2 : Int32)) d_Law_748 (by decide) rfl ?_
        refine J_iadd (q := 750) d_Law_749 rfl ?_
        obtain ⟨hi447, h⟩ := gu_some h
        refine J_sld (q := 751) hi447 d_Law_750 rfl ?_
        obtain ⟨r448, hr448, h⟩ := bd_some h
        refine J_rc (rc2 := 0 + 20 * n) (rs2 := 0 + 1200 * n) (by omega) (by omega) ?_
        refine J_callVq (rc := 20 * n) (rs := 1200 * n) (q := 754) (as := [vi (xs (y3 + (1 : Int32)).toNatClampNeg), vi (xs (y3 + (2 : Int32)).toNatClampNeg)]) (st := []) (by decide) rfl g_705 g_706 (t_Fo_winding hr448) (by decide) (by decide) g_704 g_707 g_1 hy_Fo_winding rfl (Nat.le_of_ble_eq_true rfl) d_Law_751 rfl ?_
        refine J_aload_n (q := 755) 2 d_Law_754 rfl rfl rfl ?_
        refine J_aload_n (q := 756) 0 d_Law_755 rfl rfl rfl ?_
        refine J_iload_n (q := 757) 3 d_Law_756 rfl rfl rfl ?_
        refine J_iconst (q := 758) (v := (1 : Int32)) d_Law_757 (by decide) rfl ?_
        refine J_iadd (q := 759) d_Law_758 rfl ?_
        obtain ⟨hi449, h⟩ := gu_some h
        refine J_sld (q := 760) hi449 d_Law_759 rfl ?_
        refine J_aload_n (q := 761) 0 d_Law_760 rfl rfl rfl ?_
        refine J_iload_n (q := 762) 3 d_Law_761 rfl rfl rfl ?_
        refine J_iconst (q := 763) (v := (2 : Int32)) d_Law_762 (by decide) rfl ?_
        refine J_iadd (q := 764) d_Law_763 rfl ?_
        obtain ⟨hi450, h⟩ := gu_some h
        refine J_sld (q := 765) hi450 d_Law_764 rfl ?_
        obtain ⟨r451, hr451, h⟩ := bd_some h
        refine J_rc (rc2 := 0 + 20 * n) (rs2 := 0 + 1200 * n) (by omega) (by omega) ?_
        refine J_callVq (rc := 20 * n) (rs := 1200 * n) (q := 768) (as := [vi (xs (y3 + (1 : Int32)).toNatClampNeg), vi (xs (y3 + (2 : Int32)).toNatClampNeg)]) (st := [vi (r448)]) (by decide) rfl g_1414 g_1415 (t_Mo_winding hr451) (by decide) (by decide) g_1413 g_1416 g_10 hy_Mo_winding rfl (Nat.le_of_ble_eq_true rfl) d_Law_765 rfl ?_
        refine J_icmp_eq (q := 771) (tgt := 1463) d_Law_768 (by decide) rfl (fun hc => ?_) (fun hc => ?_)
        · rw [if_pos hc] at h
          refine J_rc (rc2 := 20 * n) (rs2 := 1200 * n) (by omega) (by omega) ?_
          refine J_pick [0, 1, 2, 3] rfl ?_
          exact tj_Law_1463 L xs n ih _ _ h
        · rw [if_neg hc] at h
          refine J_iconst (q := 772) (v := (0 : Int32)) d_Law_771 (by decide) rfl ?_
          cases h
      rw [if_neg hk15] at h
      by_cases hk16 : x309 = (16 : Int32)
      · rw [if_pos hk16] at h
        refine J_swIn (tgt := 773) d_Law_33 (by rw [hk16]; decide) (by rw [hk16]; decide) (by rw [hk16]; rfl) (by decide) ?_
        refine J_aload_n (q := 774) 1 d_Law_773 rfl rfl rfl ?_
        obtain ⟨r452, hr452, h⟩ := bd_some h
        refine J_rc (rc2 := 0 + 20 * n) (rs2 := 0 + 1200 * n) (by omega) (by omega) ?_
        refine J_callVq (rc := 20 * n) (rs := 1200 * n) (q := 777) (as := []) (st := []) (by decide) rfl g_716 g_717 (t_Fo_crossings hr452) (by decide) (by decide) g_715 g_718 g_1 hy_Fo_crossings rfl (Nat.le_of_ble_eq_true rfl) d_Law_774 rfl ?_
        refine J_aload_n (q := 778) 2 d_Law_777 rfl rfl rfl ?_
        obtain ⟨r453, hr453, h⟩ := bd_some h
        refine J_rc (rc2 := 0 + 20 * n) (rs2 := 0 + 1200 * n) (by omega) (by omega) ?_
        refine J_callVq (rc := 20 * n) (rs := 1200 * n) (q := 781) (as := []) (st := [vi (r452)]) (by decide) rfl g_1421 g_1422 (t_Mo_crossings hr453) (by decide) (by decide) g_1420 g_1423 g_10 hy_Mo_crossings rfl (Nat.le_of_ble_eq_true rfl) d_Law_778 rfl ?_
        refine J_icmp_eq (q := 784) (tgt := 1463) d_Law_781 (by decide) rfl (fun hc => ?_) (fun hc => ?_)
        · rw [if_pos hc] at h
          refine J_rc (rc2 := 20 * n) (rs2 := 1200 * n) (by omega) (by omega) ?_
          refine J_pick [0, 1, 2, 3] rfl ?_
          exact tj_Law_1463 L xs n ih _ _ h
        · rw [if_neg hc] at h
          refine J_iconst (q := 785) (v := (0 : Int32)) d_Law_784 (by decide) rfl ?_
          cases h
      rw [if_neg hk16] at h
      by_cases hk17 : x309 = (17 : Int32)
      · rw [if_pos hk17] at h
        refine J_swIn (tgt := 786) d_Law_33 (by rw [hk17]; decide) (by rw [hk17]; decide) (by rw [hk17]; rfl) (by decide) ?_
        refine J_aload_n (q := 787) 1 d_Law_786 rfl rfl rfl ?_
        refine J_aload_n (q := 788) 0 d_Law_787 rfl rfl rfl ?_
        refine J_iload_n (q := 789) 3 d_Law_788 rfl rfl rfl ?_
        refine J_iconst (q := 790) (v := (1 : Int32)) d_Law_789 (by decide) rfl ?_
        refine J_iadd (q := 791) d_Law_790 rfl ?_
        obtain ⟨hi454, h⟩ := gu_some h
        refine J_sld (q := 792) hi454 d_Law_791 rfl ?_
        refine J_aload_n (q := 793) 0 d_Law_792 rfl rfl rfl ?_
        refine J_iload_n (q := 794) 3 d_Law_793 rfl rfl rfl ?_
        refine J_iconst (q := 795) (v := (2 : Int32)) d_Law_794 (by decide) rfl ?_
        refine J_iadd (q := 796) d_Law_795 rfl ?_
        obtain ⟨hi455, h⟩ := gu_some h
        refine J_sld (q := 797) hi455 d_Law_796 rfl ?_
        refine J_aload_n (q := 798) 0 d_Law_797 rfl rfl rfl ?_
        refine J_iload_n (q := 799) 3 d_Law_798 rfl rfl rfl ?_
        refine J_iconst (q := 800) (v := (3 : Int32)) d_Law_799 (by decide) rfl ?_
        refine J_iadd (q := 801) d_Law_800 rfl ?_
        obtain ⟨hi456, h⟩ := gu_some h
        refine J_sld (q := 802) hi456 d_Law_801 rfl ?_
        refine J_aload_n (q := 803) 0 d_Law_802 rfl rfl rfl ?_
        refine J_iload_n (q := 804) 3 d_Law_803 rfl rfl rfl ?_
        refine J_iconst (q := 805) (v := (4 : Int32)) d_Law_804 (by decide) rfl ?_
        refine J_iadd (q := 806) d_Law_805 rfl ?_
        obtain ⟨hi457, h⟩ := gu_some h
        refine J_sld (q := 807) hi457 d_Law_806 rfl ?_
        obtain ⟨r458, hr458, h⟩ := bd_some h
        refine J_rc (rc2 := 0 + 20 * n) (rs2 := 0 + 1200 * n) (by omega) (by omega) ?_
        refine J_callVq (rc := 20 * n) (rs := 1200 * n) (q := 810) (as := [vi (xs (y3 + (1 : Int32)).toNatClampNeg), vi (xs (y3 + (2 : Int32)).toNatClampNeg), vi (xs (y3 + (3 : Int32)).toNatClampNeg), vi (xs (y3 + (4 : Int32)).toNatClampNeg)]) (st := []) (by decide) rfl g_732 g_733 (t_Fo_image hr458) (by decide) (by decide) g_731 g_734 g_1 hy_Fo_image rfl (Nat.le_of_ble_eq_true rfl) d_Law_807 rfl ?_
        obtain ⟨μ459, hμ459, h⟩ := ap_eq h
        refine J_nmM hμ459 ?_
        obtain ⟨x460, hx460, h⟩ := ap_eq h
        refine J_nmI hx460 ?_
        refine J_aload_n (q := 811) 2 d_Law_810 rfl rfl rfl ?_
        refine J_aload_n (q := 812) 0 d_Law_811 rfl rfl rfl ?_
        refine J_iload_n (q := 813) 3 d_Law_812 rfl rfl rfl ?_
        refine J_iconst (q := 814) (v := (1 : Int32)) d_Law_813 (by decide) rfl ?_
        refine J_iadd (q := 815) d_Law_814 rfl ?_
        obtain ⟨hi461, h⟩ := gu_some h
        refine J_sld (q := 816) hi461 d_Law_815 rfl ?_
        refine J_aload_n (q := 817) 0 d_Law_816 rfl rfl rfl ?_
        refine J_iload_n (q := 818) 3 d_Law_817 rfl rfl rfl ?_
        refine J_iconst (q := 819) (v := (2 : Int32)) d_Law_818 (by decide) rfl ?_
        refine J_iadd (q := 820) d_Law_819 rfl ?_
        obtain ⟨hi462, h⟩ := gu_some h
        refine J_sld (q := 821) hi462 d_Law_820 rfl ?_
        refine J_aload_n (q := 822) 0 d_Law_821 rfl rfl rfl ?_
        refine J_iload_n (q := 823) 3 d_Law_822 rfl rfl rfl ?_
        refine J_iconst (q := 824) (v := (3 : Int32)) d_Law_823 (by decide) rfl ?_
        refine J_iadd (q := 825) d_Law_824 rfl ?_
        obtain ⟨hi463, h⟩ := gu_some h
        refine J_sld (q := 826) hi463 d_Law_825 rfl ?_
        refine J_aload_n (q := 827) 0 d_Law_826 rfl rfl rfl ?_
        refine J_iload_n (q := 828) 3 d_Law_827 rfl rfl rfl ?_
        refine J_iconst (q := 829) (v := (4 : Int32)) d_Law_828 (by decide) rfl ?_
        refine J_iadd (q := 830) d_Law_829 rfl ?_
        obtain ⟨hi464, h⟩ := gu_some h
        refine J_sld (q := 831) hi464 d_Law_830 rfl ?_
        obtain ⟨r465, hr465, h⟩ := bd_some h
        refine J_rc (rc2 := 0 + 20 * n) (rs2 := 0 + 1200 * n) (by omega) (by omega) ?_
        refine J_callVq (rc := 20 * n) (rs := 1200 * n) (q := 834) (as := [vi (xs (y3 + (1 : Int32)).toNatClampNeg), vi (xs (y3 + (2 : Int32)).toNatClampNeg), vi (xs (y3 + (3 : Int32)).toNatClampNeg), vi (xs (y3 + (4 : Int32)).toNatClampNeg)]) (st := [vi (x460)]) (by decide) rfl g_1432 g_1433 (t_Mo_image hr465) (by decide) (by decide) g_1431 g_1434 g_10 hy_Mo_image rfl (Nat.le_of_ble_eq_true rfl) d_Law_831 rfl ?_
        obtain ⟨μ466, hμ466, h⟩ := ap_eq h
        refine J_nmM hμ466 ?_
        obtain ⟨x467, hx467, h⟩ := ap_eq h
        refine J_nmI hx467 ?_
        refine J_icmp_eq (q := 837) (tgt := 1463) d_Law_834 (by decide) rfl (fun hc => ?_) (fun hc => ?_)
        · rw [if_pos hc] at h
          refine J_rc (rc2 := 20 * n) (rs2 := 1200 * n) (by omega) (by omega) ?_
          refine J_pick [0, 1, 2, 3] rfl ?_
          exact tj_Law_1463 L xs n ih _ _ h
        · rw [if_neg hc] at h
          refine J_iconst (q := 838) (v := (0 : Int32)) d_Law_837 (by decide) rfl ?_
          cases h
      rw [if_neg hk17] at h
      by_cases hk18 : x309 = (18 : Int32)
      · rw [if_pos hk18] at h
        refine J_swIn (tgt := 839) d_Law_33 (by rw [hk18]; decide) (by rw [hk18]; decide) (by rw [hk18]; rfl) (by decide) ?_
        refine J_aload_n (q := 840) 1 d_Law_839 rfl rfl rfl ?_
        refine J_aload_n (q := 841) 0 d_Law_840 rfl rfl rfl ?_
        refine J_iload_n (q := 842) 3 d_Law_841 rfl rfl rfl ?_
        refine J_iconst (q := 843) (v := (1 : Int32)) d_Law_842 (by decide) rfl ?_
        refine J_iadd (q := 844) d_Law_843 rfl ?_
        obtain ⟨hi468, h⟩ := gu_some h
        refine J_sld (q := 845) hi468 d_Law_844 rfl ?_
        refine J_aload_n (q := 846) 0 d_Law_845 rfl rfl rfl ?_
        refine J_iload_n (q := 847) 3 d_Law_846 rfl rfl rfl ?_
        refine J_iconst (q := 848) (v := (2 : Int32)) d_Law_847 (by decide) rfl ?_
        refine J_iadd (q := 849) d_Law_848 rfl ?_
        obtain ⟨hi469, h⟩ := gu_some h
        refine J_sld (q := 850) hi469 d_Law_849 rfl ?_
        obtain ⟨r470, hr470, h⟩ := bd_some h
        refine J_rc (rc2 := 0 + 20 * n) (rs2 := 0 + 1200 * n) (by omega) (by omega) ?_
        refine J_callVq (rc := 20 * n) (rs := 1200 * n) (q := 853) (as := [vi (xs (y3 + (1 : Int32)).toNatClampNeg), vi (xs (y3 + (2 : Int32)).toNatClampNeg)]) (st := []) (by decide) rfl g_786 g_787 (t_Fo_dot hr470) (by decide) (by decide) g_785 g_788 g_1 hy_Fo_dot rfl (Nat.le_of_ble_eq_true rfl) d_Law_850 rfl ?_
        refine J_aload_n (q := 854) 2 d_Law_853 rfl rfl rfl ?_
        refine J_aload_n (q := 855) 0 d_Law_854 rfl rfl rfl ?_
        refine J_iload_n (q := 856) 3 d_Law_855 rfl rfl rfl ?_
        refine J_iconst (q := 857) (v := (1 : Int32)) d_Law_856 (by decide) rfl ?_
        refine J_iadd (q := 858) d_Law_857 rfl ?_
        obtain ⟨hi471, h⟩ := gu_some h
        refine J_sld (q := 859) hi471 d_Law_858 rfl ?_
        refine J_aload_n (q := 860) 0 d_Law_859 rfl rfl rfl ?_
        refine J_iload_n (q := 861) 3 d_Law_860 rfl rfl rfl ?_
        refine J_iconst (q := 862) (v := (2 : Int32)) d_Law_861 (by decide) rfl ?_
        refine J_iadd (q := 863) d_Law_862 rfl ?_
        obtain ⟨hi472, h⟩ := gu_some h
        refine J_sld (q := 864) hi472 d_Law_863 rfl ?_
        obtain ⟨r473, hr473, h⟩ := bd_some h
        refine J_rc (rc2 := 0 + 20 * n) (rs2 := 0 + 1200 * n) (by omega) (by omega) ?_
        refine J_callVq (rc := 20 * n) (rs := 1200 * n) (q := 867) (as := [vi (xs (y3 + (1 : Int32)).toNatClampNeg), vi (xs (y3 + (2 : Int32)).toNatClampNeg)]) (st := [vi (r470)]) (by decide) rfl g_1451 g_1452 (t_Mo_dot hr473) (by decide) (by decide) g_1450 g_1453 g_10 hy_Mo_dot rfl (Nat.le_of_ble_eq_true rfl) d_Law_864 rfl ?_
        refine J_icmp_eq (q := 870) (tgt := 1463) d_Law_867 (by decide) rfl (fun hc => ?_) (fun hc => ?_)
        · rw [if_pos hc] at h
          refine J_rc (rc2 := 20 * n) (rs2 := 1200 * n) (by omega) (by omega) ?_
          refine J_pick [0, 1, 2, 3] rfl ?_
          exact tj_Law_1463 L xs n ih _ _ h
        · rw [if_neg hc] at h
          refine J_iconst (q := 871) (v := (0 : Int32)) d_Law_870 (by decide) rfl ?_
          cases h
      rw [if_neg hk18] at h
      by_cases hk19 : x309 = (19 : Int32)
      · rw [if_pos hk19] at h
        refine J_swIn (tgt := 872) d_Law_33 (by rw [hk19]; decide) (by rw [hk19]; decide) (by rw [hk19]; rfl) (by decide) ?_
        refine J_aload_n (q := 873) 1 d_Law_872 rfl rfl rfl ?_
        refine J_aload_n (q := 874) 0 d_Law_873 rfl rfl rfl ?_
        refine J_iload_n (q := 875) 3 d_Law_874 rfl rfl rfl ?_
        refine J_iconst (q := 876) (v := (1 : Int32)) d_Law_875 (by decide) rfl ?_
        refine J_iadd (q := 877) d_Law_876 rfl ?_
        obtain ⟨hi474, h⟩ := gu_some h
        refine J_sld (q := 878) hi474 d_Law_877 rfl ?_
        refine J_rc (rc2 := 0 + 20 * n) (rs2 := 0 + 1200 * n) (by omega) (by omega) ?_
        refine J_callVq (rc := 20 * n) (rs := 1200 * n) (q := 881) (as := [vi (xs (y3 + (1 : Int32)).toNatClampNeg)]) (st := []) (by decide) rfl g_797 g_798 (t_Fo_box rfl) (by decide) (by decide) g_796 g_799 g_1 hy_Fo_box rfl (Nat.le_of_ble_eq_true rfl) d_Law_878 rfl ?_
        refine J_aload_n (q := 882) 2 d_Law_881 rfl rfl rfl ?_
        refine J_aload_n (q := 883) 0 d_Law_882 rfl rfl rfl ?_
        refine J_iload_n (q := 884) 3 d_Law_883 rfl rfl rfl ?_
        refine J_iconst (q := 885) (v := (1 : Int32)) d_Law_884 (by decide) rfl ?_
        refine J_iadd (q := 886) d_Law_885 rfl ?_
        obtain ⟨hi475, h⟩ := gu_some h
        refine J_sld (q := 887) hi475 d_Law_886 rfl ?_
        obtain ⟨r476, hr476, h⟩ := bd_some h
        refine J_rc (rc2 := 0 + 20 * n) (rs2 := 0 + 1200 * n) (by omega) (by omega) ?_
        refine J_callVq (rc := 20 * n) (rs := 1200 * n) (q := 890) (as := [vi (xs (y3 + (1 : Int32)).toNatClampNeg)]) (st := [vi ((m_Fo_box (xs (y3 + (1 : Int32)).toNatClampNeg) μ))]) (by decide) rfl g_1455 g_1456 (t_Mo_box hr476) (by decide) (by decide) g_1454 g_1457 g_10 hy_Mo_box rfl (Nat.le_of_ble_eq_true rfl) d_Law_887 rfl ?_
        refine J_icmp_eq (q := 893) (tgt := 1463) d_Law_890 (by decide) rfl (fun hc => ?_) (fun hc => ?_)
        · rw [if_pos hc] at h
          refine J_rc (rc2 := 20 * n) (rs2 := 1200 * n) (by omega) (by omega) ?_
          refine J_pick [0, 1, 2, 3] rfl ?_
          exact tj_Law_1463 L xs n ih _ _ h
        · rw [if_neg hc] at h
          refine J_iconst (q := 894) (v := (0 : Int32)) d_Law_893 (by decide) rfl ?_
          cases h
      rw [if_neg hk19] at h
      by_cases hk20 : x309 = (20 : Int32)
      · rw [if_pos hk20] at h
        refine J_swIn (tgt := 895) d_Law_33 (by rw [hk20]; decide) (by rw [hk20]; decide) (by rw [hk20]; rfl) (by decide) ?_
        refine J_aload_n (q := 896) 1 d_Law_895 rfl rfl rfl ?_
        refine J_aload_n (q := 897) 0 d_Law_896 rfl rfl rfl ?_
        refine J_iload_n (q := 898) 3 d_Law_897 rfl rfl rfl ?_
        refine J_iconst (q := 899) (v := (1 : Int32)) d_Law_898 (by decide) rfl ?_
        refine J_iadd (q := 900) d_Law_899 rfl ?_
        obtain ⟨hi477, h⟩ := gu_some h
        refine J_sld (q := 901) hi477 d_Law_900 rfl ?_
        refine J_aload_n (q := 902) 0 d_Law_901 rfl rfl rfl ?_
        refine J_iload_n (q := 903) 3 d_Law_902 rfl rfl rfl ?_
        refine J_iconst (q := 904) (v := (2 : Int32)) d_Law_903 (by decide) rfl ?_
        refine J_iadd (q := 905) d_Law_904 rfl ?_
        obtain ⟨hi478, h⟩ := gu_some h
        refine J_sld (q := 906) hi478 d_Law_905 rfl ?_
        refine J_aload_n (q := 907) 0 d_Law_906 rfl rfl rfl ?_
        refine J_iload_n (q := 908) 3 d_Law_907 rfl rfl rfl ?_
        refine J_iconst (q := 909) (v := (3 : Int32)) d_Law_908 (by decide) rfl ?_
        refine J_iadd (q := 910) d_Law_909 rfl ?_
        obtain ⟨hi479, h⟩ := gu_some h
        refine J_sld (q := 911) hi479 d_Law_910 rfl ?_
        obtain ⟨r480, hr480, h⟩ := bd_some h
        refine J_rc (rc2 := 0 + 20 * n) (rs2 := 0 + 1200 * n) (by omega) (by omega) ?_
        refine J_callVq (rc := 20 * n) (rs := 1200 * n) (q := 914) (as := [vi (xs (y3 + (1 : Int32)).toNatClampNeg), vi (xs (y3 + (2 : Int32)).toNatClampNeg), vi (xs (y3 + (3 : Int32)).toNatClampNeg)]) (st := []) (by decide) rfl g_805 g_806 (t_Fo_act hr480) (by decide) (by decide) g_804 g_807 g_1 hy_Fo_act rfl (Nat.le_of_ble_eq_true rfl) d_Law_911 rfl ?_
        obtain ⟨μ481, hμ481, h⟩ := ap_eq h
        refine J_nmM hμ481 ?_
        obtain ⟨x482, hx482, h⟩ := ap_eq h
        refine J_nmI hx482 ?_
        refine J_aload_n (q := 915) 2 d_Law_914 rfl rfl rfl ?_
        refine J_aload_n (q := 916) 0 d_Law_915 rfl rfl rfl ?_
        refine J_iload_n (q := 917) 3 d_Law_916 rfl rfl rfl ?_
        refine J_iconst (q := 918) (v := (1 : Int32)) d_Law_917 (by decide) rfl ?_
        refine J_iadd (q := 919) d_Law_918 rfl ?_
        obtain ⟨hi483, h⟩ := gu_some h
        refine J_sld (q := 920) hi483 d_Law_919 rfl ?_
        refine J_aload_n (q := 921) 0 d_Law_920 rfl rfl rfl ?_
        refine J_iload_n (q := 922) 3 d_Law_921 rfl rfl rfl ?_
        refine J_iconst (q := 923) (v := (2 : Int32)) d_Law_922 (by decide) rfl ?_
        refine J_iadd (q := 924) d_Law_923 rfl ?_
        obtain ⟨hi484, h⟩ := gu_some h
        refine J_sld (q := 925) hi484 d_Law_924 rfl ?_
        refine J_aload_n (q := 926) 0 d_Law_925 rfl rfl rfl ?_
        refine J_iload_n (q := 927) 3 d_Law_926 rfl rfl rfl ?_
        refine J_iconst (q := 928) (v := (3 : Int32)) d_Law_927 (by decide) rfl ?_
        refine J_iadd (q := 929) d_Law_928 rfl ?_
        obtain ⟨hi485, h⟩ := gu_some h
        refine J_sld (q := 930) hi485 d_Law_929 rfl ?_
        obtain ⟨r486, hr486, h⟩ := bd_some h
        refine J_rc (rc2 := 0 + 20 * n) (rs2 := 0 + 1200 * n) (by omega) (by omega) ?_
        refine J_callVq (rc := 20 * n) (rs := 1200 * n) (q := 933) (as := [vi (xs (y3 + (1 : Int32)).toNatClampNeg), vi (xs (y3 + (2 : Int32)).toNatClampNeg), vi (xs (y3 + (3 : Int32)).toNatClampNeg)]) (st := [vi (x482)]) (by decide) rfl g_1459 g_1460 (t_Mo_act hr486) (by decide) (by decide) g_1458 g_1461 g_10 hy_Mo_act rfl (Nat.le_of_ble_eq_true rfl) d_Law_930 rfl ?_
        obtain ⟨μ487, hμ487, h⟩ := ap_eq h
        refine J_nmM hμ487 ?_
        obtain ⟨x488, hx488, h⟩ := ap_eq h
        refine J_nmI hx488 ?_
        refine J_icmp_eq (q := 936) (tgt := 1463) d_Law_933 (by decide) rfl (fun hc => ?_) (fun hc => ?_)
        · rw [if_pos hc] at h
          refine J_rc (rc2 := 20 * n) (rs2 := 1200 * n) (by omega) (by omega) ?_
          refine J_pick [0, 1, 2, 3] rfl ?_
          exact tj_Law_1463 L xs n ih _ _ h
        · rw [if_neg hc] at h
          refine J_iconst (q := 937) (v := (0 : Int32)) d_Law_936 (by decide) rfl ?_
          cases h
      rw [if_neg hk20] at h
      by_cases hk21 : x309 = (21 : Int32)
      · rw [if_pos hk21] at h
        refine J_swIn (tgt := 938) d_Law_33 (by rw [hk21]; decide) (by rw [hk21]; decide) (by rw [hk21]; rfl) (by decide) ?_
        refine J_aload_n (q := 939) 1 d_Law_938 rfl rfl rfl ?_
        refine J_aload_n (q := 940) 0 d_Law_939 rfl rfl rfl ?_
        refine J_iload_n (q := 941) 3 d_Law_940 rfl rfl rfl ?_
        refine J_iconst (q := 942) (v := (1 : Int32)) d_Law_941 (by decide) rfl ?_
        refine J_iadd (q := 943) d_Law_942 rfl ?_
        obtain ⟨hi489, h⟩ := gu_some h
        refine J_sld (q := 944) hi489 d_Law_943 rfl ?_
        obtain ⟨r490, hr490, h⟩ := bd_some h
        refine J_rc (rc2 := 0 + 20 * n) (rs2 := 0 + 1200 * n) (by omega) (by omega) ?_
        refine J_callVq (rc := 20 * n) (rs := 1200 * n) (q := 947) (as := [vi (xs (y3 + (1 : Int32)).toNatClampNeg)]) (st := []) (by decide) rfl g_816 g_817 (t_Fo_wipe hr490) (by decide) (by decide) g_815 g_818 g_1 hy_Fo_wipe rfl (Nat.le_of_ble_eq_true rfl) d_Law_944 rfl ?_
        obtain ⟨μ491, hμ491, h⟩ := ap_eq h
        refine J_nmM hμ491 ?_
        obtain ⟨x492, hx492, h⟩ := ap_eq h
        refine J_nmI hx492 ?_
        refine J_aload_n (q := 948) 2 d_Law_947 rfl rfl rfl ?_
        refine J_aload_n (q := 949) 0 d_Law_948 rfl rfl rfl ?_
        refine J_iload_n (q := 950) 3 d_Law_949 rfl rfl rfl ?_
        refine J_iconst (q := 951) (v := (1 : Int32)) d_Law_950 (by decide) rfl ?_
        refine J_iadd (q := 952) d_Law_951 rfl ?_
        obtain ⟨hi493, h⟩ := gu_some h
        refine J_sld (q := 953) hi493 d_Law_952 rfl ?_
        obtain ⟨r494, hr494, h⟩ := bd_some h
        refine J_rc (rc2 := 0 + 20 * n) (rs2 := 0 + 1200 * n) (by omega) (by omega) ?_
        refine J_callVq (rc := 20 * n) (rs := 1200 * n) (q := 956) (as := [vi (xs (y3 + (1 : Int32)).toNatClampNeg)]) (st := [vi (x492)]) (by decide) rfl g_1464 g_1465 (t_Mo_wipe hr494) (by decide) (by decide) g_1463 g_1466 g_10 hy_Mo_wipe rfl (Nat.le_of_ble_eq_true rfl) d_Law_953 rfl ?_
        obtain ⟨μ495, hμ495, h⟩ := ap_eq h
        refine J_nmM hμ495 ?_
        obtain ⟨x496, hx496, h⟩ := ap_eq h
        refine J_nmI hx496 ?_
        refine J_icmp_eq (q := 959) (tgt := 1463) d_Law_956 (by decide) rfl (fun hc => ?_) (fun hc => ?_)
        · rw [if_pos hc] at h
          refine J_rc (rc2 := 20 * n) (rs2 := 1200 * n) (by omega) (by omega) ?_
          refine J_pick [0, 1, 2, 3] rfl ?_
          exact tj_Law_1463 L xs n ih _ _ h
        · rw [if_neg hc] at h
          refine J_iconst (q := 960) (v := (0 : Int32)) d_Law_959 (by decide) rfl ?_
          cases h
      rw [if_neg hk21] at h
      by_cases hk22 : x309 = (22 : Int32)
      · rw [if_pos hk22] at h
        refine J_swIn (tgt := 961) d_Law_33 (by rw [hk22]; decide) (by rw [hk22]; decide) (by rw [hk22]; rfl) (by decide) ?_
        refine J_aload_n (q := 962) 1 d_Law_961 rfl rfl rfl ?_
        refine J_aload_n (q := 963) 0 d_Law_962 rfl rfl rfl ?_
        refine J_iload_n (q := 964) 3 d_Law_963 rfl rfl rfl ?_
        refine J_iconst (q := 965) (v := (1 : Int32)) d_Law_964 (by decide) rfl ?_
        refine J_iadd (q := 966) d_Law_965 rfl ?_
        obtain ⟨hi497, h⟩ := gu_some h
        refine J_sld (q := 967) hi497 d_Law_966 rfl ?_
        refine J_aload_n (q := 968) 0 d_Law_967 rfl rfl rfl ?_
        refine J_iload_n (q := 969) 3 d_Law_968 rfl rfl rfl ?_
        refine J_iconst (q := 970) (v := (2 : Int32)) d_Law_969 (by decide) rfl ?_
        refine J_iadd (q := 971) d_Law_970 rfl ?_
        obtain ⟨hi498, h⟩ := gu_some h
        refine J_sld (q := 972) hi498 d_Law_971 rfl ?_
        obtain ⟨r499, hr499, h⟩ := bd_some h
        refine J_rc (rc2 := 0 + 20 * n) (rs2 := 0 + 1200 * n) (by omega) (by omega) ?_
        refine J_callVq (rc := 20 * n) (rs := 1200 * n) (q := 975) (as := [vi (xs (y3 + (1 : Int32)).toNatClampNeg), vi (xs (y3 + (2 : Int32)).toNatClampNeg)]) (st := []) (by decide) rfl g_824 g_825 (t_Fo_run hr499) (by decide) (by decide) g_823 g_826 g_1 hy_Fo_run rfl (Nat.le_of_ble_eq_true rfl) d_Law_972 rfl ?_
        obtain ⟨μ500, hμ500, h⟩ := ap_eq h
        refine J_nmM hμ500 ?_
        obtain ⟨x501, hx501, h⟩ := ap_eq h
        refine J_nmI hx501 ?_
        refine J_aload_n (q := 976) 2 d_Law_975 rfl rfl rfl ?_
        refine J_aload_n (q := 977) 0 d_Law_976 rfl rfl rfl ?_
        refine J_iload_n (q := 978) 3 d_Law_977 rfl rfl rfl ?_
        refine J_iconst (q := 979) (v := (1 : Int32)) d_Law_978 (by decide) rfl ?_
        refine J_iadd (q := 980) d_Law_979 rfl ?_
        obtain ⟨hi502, h⟩ := gu_some h
        refine J_sld (q := 981) hi502 d_Law_980 rfl ?_
        refine J_aload_n (q := 982) 0 d_Law_981 rfl rfl rfl ?_
        refine J_iload_n (q := 983) 3 d_Law_982 rfl rfl rfl ?_
        refine J_iconst (q := 984) (v := (2 : Int32)) d_Law_983 (by decide) rfl ?_
        refine J_iadd (q := 985) d_Law_984 rfl ?_
        obtain ⟨hi503, h⟩ := gu_some h
        refine J_sld (q := 986) hi503 d_Law_985 rfl ?_
        obtain ⟨r504, hr504, h⟩ := bd_some h
        refine J_rc (rc2 := 0 + 20 * n) (rs2 := 0 + 1200 * n) (by omega) (by omega) ?_
        refine J_callVq (rc := 20 * n) (rs := 1200 * n) (q := 989) (as := [vi (xs (y3 + (1 : Int32)).toNatClampNeg), vi (xs (y3 + (2 : Int32)).toNatClampNeg)]) (st := [vi (x501)]) (by decide) rfl g_1468 g_1469 (t_Mo_run hr504) (by decide) (by decide) g_1467 g_1470 g_10 hy_Mo_run rfl (Nat.le_of_ble_eq_true rfl) d_Law_986 rfl ?_
        obtain ⟨μ505, hμ505, h⟩ := ap_eq h
        refine J_nmM hμ505 ?_
        obtain ⟨x506, hx506, h⟩ := ap_eq h
        refine J_nmI hx506 ?_
        refine J_icmp_eq (q := 992) (tgt := 1463) d_Law_989 (by decide) rfl (fun hc => ?_) (fun hc => ?_)
        · rw [if_pos hc] at h
          refine J_rc (rc2 := 20 * n) (rs2 := 1200 * n) (by omega) (by omega) ?_
          refine J_pick [0, 1, 2, 3] rfl ?_
          exact tj_Law_1463 L xs n ih _ _ h
        · rw [if_neg hc] at h
          refine J_iconst (q := 993) (v := (0 : Int32)) d_Law_992 (by decide) rfl ?_
          cases h
      rw [if_neg hk22] at h
      by_cases hk23 : x309 = (23 : Int32)
      · rw [if_pos hk23] at h
        refine J_swIn (tgt := 994) d_Law_33 (by rw [hk23]; decide) (by rw [hk23]; decide) (by rw [hk23]; rfl) (by decide) ?_
        refine J_aload_n (q := 995) 1 d_Law_994 rfl rfl rfl ?_
        refine J_aload_n (q := 996) 0 d_Law_995 rfl rfl rfl ?_
        refine J_iload_n (q := 997) 3 d_Law_996 rfl rfl rfl ?_
        refine J_iconst (q := 998) (v := (1 : Int32)) d_Law_997 (by decide) rfl ?_
        refine J_iadd (q := 999) d_Law_998 rfl ?_
        obtain ⟨hi507, h⟩ := gu_some h
        refine J_sld (q := 1000) hi507 d_Law_999 rfl ?_
        refine J_aload_n (q := 1001) 0 d_Law_1000 rfl rfl rfl ?_
        refine J_iload_n (q := 1002) 3 d_Law_1001 rfl rfl rfl ?_
        refine J_iconst (q := 1003) (v := (2 : Int32)) d_Law_1002 (by decide) rfl ?_
        refine J_iadd (q := 1004) d_Law_1003 rfl ?_
        obtain ⟨hi508, h⟩ := gu_some h
        refine J_sld (q := 1005) hi508 d_Law_1004 rfl ?_
        obtain ⟨r509, hr509, h⟩ := bd_some h
        refine J_rc (rc2 := 0 + 20 * n) (rs2 := 0 + 1200 * n) (by omega) (by omega) ?_
        refine J_callVq (rc := 20 * n) (rs := 1200 * n) (q := 1008) (as := [vi (xs (y3 + (1 : Int32)).toNatClampNeg), vi (xs (y3 + (2 : Int32)).toNatClampNeg)]) (st := []) (by decide) rfl g_939 g_940 (t_Fo_fitted hr509) (by decide) (by decide) g_938 g_941 g_1 hy_Fo_fitted rfl (Nat.le_of_ble_eq_true rfl) d_Law_1005 rfl ?_
        refine J_aload_n (q := 1009) 2 d_Law_1008 rfl rfl rfl ?_
        refine J_aload_n (q := 1010) 0 d_Law_1009 rfl rfl rfl ?_
        refine J_iload_n (q := 1011) 3 d_Law_1010 rfl rfl rfl ?_
        refine J_iconst (q := 1012) (v := (1 : Int32)) d_Law_1011 (by decide) rfl ?_
        refine J_iadd (q := 1013) d_Law_1012 rfl ?_
        obtain ⟨hi510, h⟩ := gu_some h
        refine J_sld (q := 1014) hi510 d_Law_1013 rfl ?_
        refine J_aload_n (q := 1015) 0 d_Law_1014 rfl rfl rfl ?_
        refine J_iload_n (q := 1016) 3 d_Law_1015 rfl rfl rfl ?_
        refine J_iconst (q := 1017) (v := (2 : Int32)) d_Law_1016 (by decide) rfl ?_
        refine J_iadd (q := 1018) d_Law_1017 rfl ?_
        obtain ⟨hi511, h⟩ := gu_some h
        refine J_sld (q := 1019) hi511 d_Law_1018 rfl ?_
        obtain ⟨r512, hr512, h⟩ := bd_some h
        refine J_rc (rc2 := 0 + 20 * n) (rs2 := 0 + 1200 * n) (by omega) (by omega) ?_
        refine J_callVq (rc := 20 * n) (rs := 1200 * n) (q := 1022) (as := [vi (xs (y3 + (1 : Int32)).toNatClampNeg), vi (xs (y3 + (2 : Int32)).toNatClampNeg)]) (st := [vi (r509)]) (by decide) rfl g_1517 g_1518 (t_Mo_fitted2 hr512) (by decide) (by decide) g_1516 g_1519 g_10 hy_Mo_fitted2 rfl (Nat.le_of_ble_eq_true rfl) d_Law_1019 rfl ?_
        refine J_icmp_eq (q := 1025) (tgt := 1463) d_Law_1022 (by decide) rfl (fun hc => ?_) (fun hc => ?_)
        · rw [if_pos hc] at h
          refine J_rc (rc2 := 20 * n) (rs2 := 1200 * n) (by omega) (by omega) ?_
          refine J_pick [0, 1, 2, 3] rfl ?_
          exact tj_Law_1463 L xs n ih _ _ h
        · rw [if_neg hc] at h
          refine J_iconst (q := 1026) (v := (0 : Int32)) d_Law_1025 (by decide) rfl ?_
          cases h
      rw [if_neg hk23] at h
      by_cases hk24 : x309 = (24 : Int32)
      · rw [if_pos hk24] at h
        refine J_swIn (tgt := 1027) d_Law_33 (by rw [hk24]; decide) (by rw [hk24]; decide) (by rw [hk24]; rfl) (by decide) ?_
        refine J_aload_n (q := 1028) 1 d_Law_1027 rfl rfl rfl ?_
        refine J_aload_n (q := 1029) 0 d_Law_1028 rfl rfl rfl ?_
        refine J_iload_n (q := 1030) 3 d_Law_1029 rfl rfl rfl ?_
        refine J_iconst (q := 1031) (v := (1 : Int32)) d_Law_1030 (by decide) rfl ?_
        refine J_iadd (q := 1032) d_Law_1031 rfl ?_
        obtain ⟨hi513, h⟩ := gu_some h
        refine J_sld (q := 1033) hi513 d_Law_1032 rfl ?_
        refine J_aload_n (q := 1034) 0 d_Law_1033 rfl rfl rfl ?_
        refine J_iload_n (q := 1035) 3 d_Law_1034 rfl rfl rfl ?_
        refine J_iconst (q := 1036) (v := (2 : Int32)) d_Law_1035 (by decide) rfl ?_
        refine J_iadd (q := 1037) d_Law_1036 rfl ?_
        obtain ⟨hi514, h⟩ := gu_some h
        refine J_sld (q := 1038) hi514 d_Law_1037 rfl ?_
        refine J_aload_n (q := 1039) 0 d_Law_1038 rfl rfl rfl ?_
        refine J_iload_n (q := 1040) 3 d_Law_1039 rfl rfl rfl ?_
        refine J_iconst (q := 1041) (v := (3 : Int32)) d_Law_1040 (by decide) rfl ?_
        refine J_iadd (q := 1042) d_Law_1041 rfl ?_
        obtain ⟨hi515, h⟩ := gu_some h
        refine J_sld (q := 1043) hi515 d_Law_1042 rfl ?_
        refine J_aload_n (q := 1044) 0 d_Law_1043 rfl rfl rfl ?_
        refine J_iload_n (q := 1045) 3 d_Law_1044 rfl rfl rfl ?_
        refine J_iconst (q := 1046) (v := (4 : Int32)) d_Law_1045 (by decide) rfl ?_
        refine J_iadd (q := 1047) d_Law_1046 rfl ?_
        obtain ⟨hi516, h⟩ := gu_some h
        refine J_sld (q := 1048) hi516 d_Law_1047 rfl ?_
        refine J_aload_n (q := 1049) 0 d_Law_1048 rfl rfl rfl ?_
        refine J_iload_n (q := 1050) 3 d_Law_1049 rfl rfl rfl ?_
        refine J_iconst (q := 1051) (v := (5 : Int32)) d_Law_1050 (by decide) rfl ?_
        refine J_iadd (q := 1052) d_Law_1051 rfl ?_
        obtain ⟨hi517, h⟩ := gu_some h
        refine J_sld (q := 1053) hi517 d_Law_1052 rfl ?_
        obtain ⟨r518, hr518, h⟩ := bd_some h
        refine J_rc (rc2 := 0 + 20 * n) (rs2 := 0 + 1200 * n) (by omega) (by omega) ?_
        refine J_callVq (rc := 20 * n) (rs := 1200 * n) (q := 1056) (as := [vi (xs (y3 + (1 : Int32)).toNatClampNeg), vi (xs (y3 + (2 : Int32)).toNatClampNeg), vi (xs (y3 + (3 : Int32)).toNatClampNeg), vi (xs (y3 + (4 : Int32)).toNatClampNeg), vi (xs (y3 + (5 : Int32)).toNatClampNeg)]) (st := []) (by decide) rfl g_945 g_946 (t_Fo_delta hr518) (by decide) (by decide) g_944 g_947 g_1 hy_Fo_delta rfl (Nat.le_of_ble_eq_true rfl) d_Law_1053 rfl ?_
        obtain ⟨μ519, hμ519, h⟩ := ap_eq h
        refine J_nmM hμ519 ?_
        refine J_aload_n (q := 1057) 2 d_Law_1056 rfl rfl rfl ?_
        refine J_aload_n (q := 1058) 0 d_Law_1057 rfl rfl rfl ?_
        refine J_iload_n (q := 1059) 3 d_Law_1058 rfl rfl rfl ?_
        refine J_iconst (q := 1060) (v := (1 : Int32)) d_Law_1059 (by decide) rfl ?_
        refine J_iadd (q := 1061) d_Law_1060 rfl ?_
        obtain ⟨hi520, h⟩ := gu_some h
        refine J_sld (q := 1062) hi520 d_Law_1061 rfl ?_
        refine J_aload_n (q := 1063) 0 d_Law_1062 rfl rfl rfl ?_
        refine J_iload_n (q := 1064) 3 d_Law_1063 rfl rfl rfl ?_
        refine J_iconst (q := 1065) (v := (2 : Int32)) d_Law_1064 (by decide) rfl ?_
        refine J_iadd (q := 1066) d_Law_1065 rfl ?_
        obtain ⟨hi521, h⟩ := gu_some h
        refine J_sld (q := 1067) hi521 d_Law_1066 rfl ?_
        refine J_aload_n (q := 1068) 0 d_Law_1067 rfl rfl rfl ?_
        refine J_iload_n (q := 1069) 3 d_Law_1068 rfl rfl rfl ?_
        refine J_iconst (q := 1070) (v := (3 : Int32)) d_Law_1069 (by decide) rfl ?_
        refine J_iadd (q := 1071) d_Law_1070 rfl ?_
        obtain ⟨hi522, h⟩ := gu_some h
        refine J_sld (q := 1072) hi522 d_Law_1071 rfl ?_
        refine J_aload_n (q := 1073) 0 d_Law_1072 rfl rfl rfl ?_
        refine J_iload_n (q := 1074) 3 d_Law_1073 rfl rfl rfl ?_
        refine J_iconst (q := 1075) (v := (4 : Int32)) d_Law_1074 (by decide) rfl ?_
        refine J_iadd (q := 1076) d_Law_1075 rfl ?_
        obtain ⟨hi523, h⟩ := gu_some h
        refine J_sld (q := 1077) hi523 d_Law_1076 rfl ?_
        refine J_aload_n (q := 1078) 0 d_Law_1077 rfl rfl rfl ?_
        refine J_iload_n (q := 1079) 3 d_Law_1078 rfl rfl rfl ?_
        refine J_iconst (q := 1080) (v := (5 : Int32)) d_Law_1079 (by decide) rfl ?_
        refine J_iadd (q := 1081) d_Law_1080 rfl ?_
        obtain ⟨hi524, h⟩ := gu_some h
        refine J_sld (q := 1082) hi524 d_Law_1081 rfl ?_
        obtain ⟨r525, hr525, h⟩ := bd_some h
        refine J_rc (rc2 := 0 + 20 * n) (rs2 := 0 + 1200 * n) (by omega) (by omega) ?_
        refine J_callVq (rc := 20 * n) (rs := 1200 * n) (q := 1085) (as := [vi (xs (y3 + (1 : Int32)).toNatClampNeg), vi (xs (y3 + (2 : Int32)).toNatClampNeg), vi (xs (y3 + (3 : Int32)).toNatClampNeg), vi (xs (y3 + (4 : Int32)).toNatClampNeg), vi (xs (y3 + (5 : Int32)).toNatClampNeg)]) (st := [vi (b2i (r518.1))]) (by decide) rfl g_1522 g_1523 (t_Mo_delta hr525) (by decide) (by decide) g_1521 g_1524 g_10 hy_Mo_delta rfl (Nat.le_of_ble_eq_true rfl) d_Law_1082 rfl ?_
        obtain ⟨μ526, hμ526, h⟩ := ap_eq h
        refine J_nmM hμ526 ?_
        refine J_icmp_eq (q := 1088) (tgt := 1463) d_Law_1085 (by decide) rfl (fun hc => ?_) (fun hc => ?_)
        · rw [if_pos hc] at h
          refine J_rc (rc2 := 20 * n) (rs2 := 1200 * n) (by omega) (by omega) ?_
          refine J_pick [0, 1, 2, 3] rfl ?_
          exact tj_Law_1463 L xs n ih _ _ h
        · rw [if_neg hc] at h
          refine J_iconst (q := 1089) (v := (0 : Int32)) d_Law_1088 (by decide) rfl ?_
          cases h
      rw [if_neg hk24] at h
      by_cases hk25 : x309 = (25 : Int32)
      · rw [if_pos hk25] at h
        refine J_swIn (tgt := 1090) d_Law_33 (by rw [hk25]; decide) (by rw [hk25]; decide) (by rw [hk25]; rfl) (by decide) ?_
        refine J_aload_n (q := 1091) 1 d_Law_1090 rfl rfl rfl ?_
        refine J_aload_n (q := 1092) 0 d_Law_1091 rfl rfl rfl ?_
        refine J_iload_n (q := 1093) 3 d_Law_1092 rfl rfl rfl ?_
        refine J_iconst (q := 1094) (v := (1 : Int32)) d_Law_1093 (by decide) rfl ?_
        refine J_iadd (q := 1095) d_Law_1094 rfl ?_
        obtain ⟨hi527, h⟩ := gu_some h
        refine J_sld (q := 1096) hi527 d_Law_1095 rfl ?_
        refine J_aload_n (q := 1097) 0 d_Law_1096 rfl rfl rfl ?_
        refine J_iload_n (q := 1098) 3 d_Law_1097 rfl rfl rfl ?_
        refine J_iconst (q := 1099) (v := (2 : Int32)) d_Law_1098 (by decide) rfl ?_
        refine J_iadd (q := 1100) d_Law_1099 rfl ?_
        obtain ⟨hi528, h⟩ := gu_some h
        refine J_sld (q := 1101) hi528 d_Law_1100 rfl ?_
        obtain ⟨r529, hr529, h⟩ := bd_some h
        refine J_rc (rc2 := 0 + 20 * n) (rs2 := 0 + 1200 * n) (by omega) (by omega) ?_
        refine J_callVq (rc := 20 * n) (rs := 1200 * n) (q := 1104) (as := [vi (xs (y3 + (1 : Int32)).toNatClampNeg), vi (xs (y3 + (2 : Int32)).toNatClampNeg)]) (st := []) (by decide) rfl g_957 g_958 (t_Fo_weight hr529) (by decide) (by decide) g_956 g_959 g_1 hy_Fo_weight rfl (Nat.le_of_ble_eq_true rfl) d_Law_1101 rfl ?_
        obtain ⟨μ530, hμ530, h⟩ := ap_eq h
        refine J_nmM hμ530 ?_
        refine J_aload_n (q := 1105) 2 d_Law_1104 rfl rfl rfl ?_
        refine J_aload_n (q := 1106) 0 d_Law_1105 rfl rfl rfl ?_
        refine J_iload_n (q := 1107) 3 d_Law_1106 rfl rfl rfl ?_
        refine J_iconst (q := 1108) (v := (1 : Int32)) d_Law_1107 (by decide) rfl ?_
        refine J_iadd (q := 1109) d_Law_1108 rfl ?_
        obtain ⟨hi531, h⟩ := gu_some h
        refine J_sld (q := 1110) hi531 d_Law_1109 rfl ?_
        refine J_aload_n (q := 1111) 0 d_Law_1110 rfl rfl rfl ?_
        refine J_iload_n (q := 1112) 3 d_Law_1111 rfl rfl rfl ?_
        refine J_iconst (q := 1113) (v := (2 : Int32)) d_Law_1112 (by decide) rfl ?_
        refine J_iadd (q := 1114) d_Law_1113 rfl ?_
        obtain ⟨hi532, h⟩ := gu_some h
        refine J_sld (q := 1115) hi532 d_Law_1114 rfl ?_
        obtain ⟨r533, hr533, h⟩ := bd_some h
        refine J_rc (rc2 := 0 + 20 * n) (rs2 := 0 + 1200 * n) (by omega) (by omega) ?_
        refine J_callVq (rc := 20 * n) (rs := 1200 * n) (q := 1118) (as := [vi (xs (y3 + (1 : Int32)).toNatClampNeg), vi (xs (y3 + (2 : Int32)).toNatClampNeg)]) (st := [vi (b2i (r529.1))]) (by decide) rfl g_1526 g_1527 (t_Mo_weight hr533) (by decide) (by decide) g_1525 g_1528 g_10 hy_Mo_weight rfl (Nat.le_of_ble_eq_true rfl) d_Law_1115 rfl ?_
        obtain ⟨μ534, hμ534, h⟩ := ap_eq h
        refine J_nmM hμ534 ?_
        refine J_icmp_eq (q := 1121) (tgt := 1463) d_Law_1118 (by decide) rfl (fun hc => ?_) (fun hc => ?_)
        · rw [if_pos hc] at h
          refine J_rc (rc2 := 20 * n) (rs2 := 1200 * n) (by omega) (by omega) ?_
          refine J_pick [0, 1, 2, 3] rfl ?_
          exact tj_Law_1463 L xs n ih _ _ h
        · rw [if_neg hc] at h
          refine J_iconst (q := 1122) (v := (0 : Int32)) d_Law_1121 (by decide) rfl ?_
          cases h
      rw [if_neg hk25] at h
      by_cases hk26 : x309 = (26 : Int32)
      · rw [if_pos hk26] at h
        refine J_swIn (tgt := 1123) d_Law_33 (by rw [hk26]; decide) (by rw [hk26]; decide) (by rw [hk26]; rfl) (by decide) ?_
        refine J_aload_n (q := 1124) 1 d_Law_1123 rfl rfl rfl ?_
        refine J_aload_n (q := 1125) 0 d_Law_1124 rfl rfl rfl ?_
        refine J_iload_n (q := 1126) 3 d_Law_1125 rfl rfl rfl ?_
        refine J_iconst (q := 1127) (v := (1 : Int32)) d_Law_1126 (by decide) rfl ?_
        refine J_iadd (q := 1128) d_Law_1127 rfl ?_
        obtain ⟨hi535, h⟩ := gu_some h
        refine J_sld (q := 1129) hi535 d_Law_1128 rfl ?_
        refine J_aload_n (q := 1130) 0 d_Law_1129 rfl rfl rfl ?_
        refine J_iload_n (q := 1131) 3 d_Law_1130 rfl rfl rfl ?_
        refine J_iconst (q := 1132) (v := (2 : Int32)) d_Law_1131 (by decide) rfl ?_
        refine J_iadd (q := 1133) d_Law_1132 rfl ?_
        obtain ⟨hi536, h⟩ := gu_some h
        refine J_sld (q := 1134) hi536 d_Law_1133 rfl ?_
        refine J_aload_n (q := 1135) 0 d_Law_1134 rfl rfl rfl ?_
        refine J_iload_n (q := 1136) 3 d_Law_1135 rfl rfl rfl ?_
        refine J_iconst (q := 1137) (v := (3 : Int32)) d_Law_1136 (by decide) rfl ?_
        refine J_iadd (q := 1138) d_Law_1137 rfl ?_
        obtain ⟨hi537, h⟩ := gu_some h
        refine J_sld (q := 1139) hi537 d_Law_1138 rfl ?_
        obtain ⟨r538, hr538, h⟩ := bd_some h
        refine J_rc (rc2 := 0 + 20 * n) (rs2 := 0 + 1200 * n) (by omega) (by omega) ?_
        refine J_callVq (rc := 20 * n) (rs := 1200 * n) (q := 1142) (as := [vi (xs (y3 + (1 : Int32)).toNatClampNeg), vi (xs (y3 + (2 : Int32)).toNatClampNeg), vi (xs (y3 + (3 : Int32)).toNatClampNeg)]) (st := []) (by decide) rfl g_961 g_962 (t_Fo_mixed hr538) (by decide) (by decide) g_960 g_963 g_1 hy_Fo_mixed rfl (Nat.le_of_ble_eq_true rfl) d_Law_1139 rfl ?_
        refine J_aload_n (q := 1143) 2 d_Law_1142 rfl rfl rfl ?_
        refine J_aload_n (q := 1144) 0 d_Law_1143 rfl rfl rfl ?_
        refine J_iload_n (q := 1145) 3 d_Law_1144 rfl rfl rfl ?_
        refine J_iconst (q := 1146) (v := (1 : Int32)) d_Law_1145 (by decide) rfl ?_
        refine J_iadd (q := 1147) d_Law_1146 rfl ?_
        obtain ⟨hi539, h⟩ := gu_some h
        refine J_sld (q := 1148) hi539 d_Law_1147 rfl ?_
        refine J_aload_n (q := 1149) 0 d_Law_1148 rfl rfl rfl ?_
        refine J_iload_n (q := 1150) 3 d_Law_1149 rfl rfl rfl ?_
        refine J_iconst (q := 1151) (v := (2 : Int32)) d_Law_1150 (by decide) rfl ?_
        refine J_iadd (q := 1152) d_Law_1151 rfl ?_
        obtain ⟨hi540, h⟩ := gu_some h
        refine J_sld (q := 1153) hi540 d_Law_1152 rfl ?_
        refine J_aload_n (q := 1154) 0 d_Law_1153 rfl rfl rfl ?_
        refine J_iload_n (q := 1155) 3 d_Law_1154 rfl rfl rfl ?_
        refine J_iconst (q := 1156) (v := (3 : Int32)) d_Law_1155 (by decide) rfl ?_
        refine J_iadd (q := 1157) d_Law_1156 rfl ?_
        obtain ⟨hi541, h⟩ := gu_some h
        refine J_sld (q := 1158) hi541 d_Law_1157 rfl ?_
        obtain ⟨r542, hr542, h⟩ := bd_some h
        refine J_rc (rc2 := 0 + 20 * n) (rs2 := 0 + 1200 * n) (by omega) (by omega) ?_
        refine J_callVq (rc := 20 * n) (rs := 1200 * n) (q := 1161) (as := [vi (xs (y3 + (1 : Int32)).toNatClampNeg), vi (xs (y3 + (2 : Int32)).toNatClampNeg), vi (xs (y3 + (3 : Int32)).toNatClampNeg)]) (st := [vi (r538)]) (by decide) rfl g_1530 g_1531 (t_Mo_mixed hr542) (by decide) (by decide) g_1529 g_1532 g_10 hy_Mo_mixed rfl (Nat.le_of_ble_eq_true rfl) d_Law_1158 rfl ?_
        refine J_icmp_eq (q := 1164) (tgt := 1463) d_Law_1161 (by decide) rfl (fun hc => ?_) (fun hc => ?_)
        · rw [if_pos hc] at h
          refine J_rc (rc2 := 20 * n) (rs2 := 1200 * n) (by omega) (by omega) ?_
          refine J_pick [0, 1, 2, 3] rfl ?_
          exact tj_Law_1463 L xs n ih _ _ h
        · rw [if_neg hc] at h
          refine J_iconst (q := 1165) (v := (0 : Int32)) d_Law_1164 (by decide) rfl ?_
          cases h
      rw [if_neg hk26] at h
      by_cases hk27 : x309 = (27 : Int32)
      · rw [if_pos hk27] at h
        refine J_swIn (tgt := 1166) d_Law_33 (by rw [hk27]; decide) (by rw [hk27]; decide) (by rw [hk27]; rfl) (by decide) ?_
        refine J_aload_n (q := 1167) 1 d_Law_1166 rfl rfl rfl ?_
        refine J_aload_n (q := 1168) 0 d_Law_1167 rfl rfl rfl ?_
        refine J_iload_n (q := 1169) 3 d_Law_1168 rfl rfl rfl ?_
        refine J_iconst (q := 1170) (v := (1 : Int32)) d_Law_1169 (by decide) rfl ?_
        refine J_iadd (q := 1171) d_Law_1170 rfl ?_
        obtain ⟨hi543, h⟩ := gu_some h
        refine J_sld (q := 1172) hi543 d_Law_1171 rfl ?_
        refine J_aload_n (q := 1173) 0 d_Law_1172 rfl rfl rfl ?_
        refine J_iload_n (q := 1174) 3 d_Law_1173 rfl rfl rfl ?_
        refine J_iconst (q := 1175) (v := (2 : Int32)) d_Law_1174 (by decide) rfl ?_
        refine J_iadd (q := 1176) d_Law_1175 rfl ?_
        obtain ⟨hi544, h⟩ := gu_some h
        refine J_sld (q := 1177) hi544 d_Law_1176 rfl ?_
        refine J_aload_n (q := 1178) 0 d_Law_1177 rfl rfl rfl ?_
        refine J_iload_n (q := 1179) 3 d_Law_1178 rfl rfl rfl ?_
        refine J_iconst (q := 1180) (v := (3 : Int32)) d_Law_1179 (by decide) rfl ?_
        refine J_iadd (q := 1181) d_Law_1180 rfl ?_
        obtain ⟨hi545, h⟩ := gu_some h
        refine J_sld (q := 1182) hi545 d_Law_1181 rfl ?_
        obtain ⟨r546, hr546, h⟩ := bd_some h
        refine J_rc (rc2 := 0 + 20 * n) (rs2 := 0 + 1200 * n) (by omega) (by omega) ?_
        refine J_callVq (rc := 20 * n) (rs := 1200 * n) (q := 1185) (as := [vi (xs (y3 + (1 : Int32)).toNatClampNeg), vi (xs (y3 + (2 : Int32)).toNatClampNeg), vi (xs (y3 + (3 : Int32)).toNatClampNeg)]) (st := []) (by decide) rfl g_971 g_972 (t_Fo_classOf hr546) (by decide) (by decide) g_970 g_973 g_1 hy_Fo_classOf rfl (Nat.le_of_ble_eq_true rfl) d_Law_1182 rfl ?_
        obtain ⟨μ547, hμ547, h⟩ := ap_eq h
        refine J_nmM hμ547 ?_
        refine J_aload_n (q := 1186) 2 d_Law_1185 rfl rfl rfl ?_
        refine J_aload_n (q := 1187) 0 d_Law_1186 rfl rfl rfl ?_
        refine J_iload_n (q := 1188) 3 d_Law_1187 rfl rfl rfl ?_
        refine J_iconst (q := 1189) (v := (1 : Int32)) d_Law_1188 (by decide) rfl ?_
        refine J_iadd (q := 1190) d_Law_1189 rfl ?_
        obtain ⟨hi548, h⟩ := gu_some h
        refine J_sld (q := 1191) hi548 d_Law_1190 rfl ?_
        refine J_aload_n (q := 1192) 0 d_Law_1191 rfl rfl rfl ?_
        refine J_iload_n (q := 1193) 3 d_Law_1192 rfl rfl rfl ?_
        refine J_iconst (q := 1194) (v := (2 : Int32)) d_Law_1193 (by decide) rfl ?_
        refine J_iadd (q := 1195) d_Law_1194 rfl ?_
        obtain ⟨hi549, h⟩ := gu_some h
        refine J_sld (q := 1196) hi549 d_Law_1195 rfl ?_
        refine J_aload_n (q := 1197) 0 d_Law_1196 rfl rfl rfl ?_
        refine J_iload_n (q := 1198) 3 d_Law_1197 rfl rfl rfl ?_
        refine J_iconst (q := 1199) (v := (3 : Int32)) d_Law_1198 (by decide) rfl ?_
        refine J_iadd (q := 1200) d_Law_1199 rfl ?_
        obtain ⟨hi550, h⟩ := gu_some h
        refine J_sld (q := 1201) hi550 d_Law_1200 rfl ?_
        obtain ⟨r551, hr551, h⟩ := bd_some h
        refine J_rc (rc2 := 0 + 20 * n) (rs2 := 0 + 1200 * n) (by omega) (by omega) ?_
        refine J_callVq (rc := 20 * n) (rs := 1200 * n) (q := 1204) (as := [vi (xs (y3 + (1 : Int32)).toNatClampNeg), vi (xs (y3 + (2 : Int32)).toNatClampNeg), vi (xs (y3 + (3 : Int32)).toNatClampNeg)]) (st := [vi (b2i (r546.1))]) (by decide) rfl g_1534 g_1535 (t_Mo_classOf hr551) (by decide) (by decide) g_1533 g_1536 g_10 hy_Mo_classOf rfl (Nat.le_of_ble_eq_true rfl) d_Law_1201 rfl ?_
        obtain ⟨μ552, hμ552, h⟩ := ap_eq h
        refine J_nmM hμ552 ?_
        refine J_icmp_eq (q := 1207) (tgt := 1463) d_Law_1204 (by decide) rfl (fun hc => ?_) (fun hc => ?_)
        · rw [if_pos hc] at h
          refine J_rc (rc2 := 20 * n) (rs2 := 1200 * n) (by omega) (by omega) ?_
          refine J_pick [0, 1, 2, 3] rfl ?_
          exact tj_Law_1463 L xs n ih _ _ h
        · rw [if_neg hc] at h
          refine J_iconst (q := 1208) (v := (0 : Int32)) d_Law_1207 (by decide) rfl ?_
          cases h
      rw [if_neg hk27] at h
      by_cases hk28 : x309 = (28 : Int32)
      · rw [if_pos hk28] at h
        refine J_swIn (tgt := 1209) d_Law_33 (by rw [hk28]; decide) (by rw [hk28]; decide) (by rw [hk28]; rfl) (by decide) ?_
        refine J_aload_n (q := 1210) 1 d_Law_1209 rfl rfl rfl ?_
        refine J_aload_n (q := 1211) 0 d_Law_1210 rfl rfl rfl ?_
        refine J_iload_n (q := 1212) 3 d_Law_1211 rfl rfl rfl ?_
        refine J_iconst (q := 1213) (v := (1 : Int32)) d_Law_1212 (by decide) rfl ?_
        refine J_iadd (q := 1214) d_Law_1213 rfl ?_
        obtain ⟨hi553, h⟩ := gu_some h
        refine J_sld (q := 1215) hi553 d_Law_1214 rfl ?_
        refine J_aload_n (q := 1216) 0 d_Law_1215 rfl rfl rfl ?_
        refine J_iload_n (q := 1217) 3 d_Law_1216 rfl rfl rfl ?_
        refine J_iconst (q := 1218) (v := (2 : Int32)) d_Law_1217 (by decide) rfl ?_
        refine J_iadd (q := 1219) d_Law_1218 rfl ?_
        obtain ⟨hi554, h⟩ := gu_some h
        refine J_sld (q := 1220) hi554 d_Law_1219 rfl ?_
        refine J_aload_n (q := 1221) 0 d_Law_1220 rfl rfl rfl ?_
        refine J_iload_n (q := 1222) 3 d_Law_1221 rfl rfl rfl ?_
        refine J_iconst (q := 1223) (v := (3 : Int32)) d_Law_1222 (by decide) rfl ?_
        refine J_iadd (q := 1224) d_Law_1223 rfl ?_
        obtain ⟨hi555, h⟩ := gu_some h
        refine J_sld (q := 1225) hi555 d_Law_1224 rfl ?_
        obtain ⟨r556, hr556, h⟩ := bd_some h
        refine J_rc (rc2 := 0 + 20 * n) (rs2 := 0 + 1200 * n) (by omega) (by omega) ?_
        refine J_callVq (rc := 20 * n) (rs := 1200 * n) (q := 1228) (as := [vi (xs (y3 + (1 : Int32)).toNatClampNeg), vi (xs (y3 + (2 : Int32)).toNatClampNeg), vi (xs (y3 + (3 : Int32)).toNatClampNeg)]) (st := []) (by decide) rfl g_979 g_980 (t_Fo_kern hr556) (by decide) (by decide) g_978 g_981 g_1 hy_Fo_kern rfl (Nat.le_of_ble_eq_true rfl) d_Law_1225 rfl ?_
        obtain ⟨μ557, hμ557, h⟩ := ap_eq h
        refine J_nmM hμ557 ?_
        refine J_aload_n (q := 1229) 2 d_Law_1228 rfl rfl rfl ?_
        refine J_aload_n (q := 1230) 0 d_Law_1229 rfl rfl rfl ?_
        refine J_iload_n (q := 1231) 3 d_Law_1230 rfl rfl rfl ?_
        refine J_iconst (q := 1232) (v := (1 : Int32)) d_Law_1231 (by decide) rfl ?_
        refine J_iadd (q := 1233) d_Law_1232 rfl ?_
        obtain ⟨hi558, h⟩ := gu_some h
        refine J_sld (q := 1234) hi558 d_Law_1233 rfl ?_
        refine J_aload_n (q := 1235) 0 d_Law_1234 rfl rfl rfl ?_
        refine J_iload_n (q := 1236) 3 d_Law_1235 rfl rfl rfl ?_
        refine J_iconst (q := 1237) (v := (2 : Int32)) d_Law_1236 (by decide) rfl ?_
        refine J_iadd (q := 1238) d_Law_1237 rfl ?_
        obtain ⟨hi559, h⟩ := gu_some h
        refine J_sld (q := 1239) hi559 d_Law_1238 rfl ?_
        refine J_aload_n (q := 1240) 0 d_Law_1239 rfl rfl rfl ?_
        refine J_iload_n (q := 1241) 3 d_Law_1240 rfl rfl rfl ?_
        refine J_iconst (q := 1242) (v := (3 : Int32)) d_Law_1241 (by decide) rfl ?_
        refine J_iadd (q := 1243) d_Law_1242 rfl ?_
        obtain ⟨hi560, h⟩ := gu_some h
        refine J_sld (q := 1244) hi560 d_Law_1243 rfl ?_
        obtain ⟨r561, hr561, h⟩ := bd_some h
        refine J_rc (rc2 := 0 + 20 * n) (rs2 := 0 + 1200 * n) (by omega) (by omega) ?_
        refine J_callVq (rc := 20 * n) (rs := 1200 * n) (q := 1247) (as := [vi (xs (y3 + (1 : Int32)).toNatClampNeg), vi (xs (y3 + (2 : Int32)).toNatClampNeg), vi (xs (y3 + (3 : Int32)).toNatClampNeg)]) (st := [vi (b2i (r556.1))]) (by decide) rfl g_1538 g_1539 (t_Mo_kern hr561) (by decide) (by decide) g_1537 g_1540 g_10 hy_Mo_kern rfl (Nat.le_of_ble_eq_true rfl) d_Law_1244 rfl ?_
        obtain ⟨μ562, hμ562, h⟩ := ap_eq h
        refine J_nmM hμ562 ?_
        refine J_icmp_eq (q := 1250) (tgt := 1463) d_Law_1247 (by decide) rfl (fun hc => ?_) (fun hc => ?_)
        · rw [if_pos hc] at h
          refine J_rc (rc2 := 20 * n) (rs2 := 1200 * n) (by omega) (by omega) ?_
          refine J_pick [0, 1, 2, 3] rfl ?_
          exact tj_Law_1463 L xs n ih _ _ h
        · rw [if_neg hc] at h
          refine J_iconst (q := 1251) (v := (0 : Int32)) d_Law_1250 (by decide) rfl ?_
          cases h
      rw [if_neg hk28] at h
      by_cases hk29 : x309 = (29 : Int32)
      · rw [if_pos hk29] at h
        refine J_swIn (tgt := 1252) d_Law_33 (by rw [hk29]; decide) (by rw [hk29]; decide) (by rw [hk29]; rfl) (by decide) ?_
        refine J_aload_n (q := 1253) 1 d_Law_1252 rfl rfl rfl ?_
        refine J_aload_n (q := 1254) 0 d_Law_1253 rfl rfl rfl ?_
        refine J_iload_n (q := 1255) 3 d_Law_1254 rfl rfl rfl ?_
        refine J_iconst (q := 1256) (v := (1 : Int32)) d_Law_1255 (by decide) rfl ?_
        refine J_iadd (q := 1257) d_Law_1256 rfl ?_
        obtain ⟨hi563, h⟩ := gu_some h
        refine J_sld (q := 1258) hi563 d_Law_1257 rfl ?_
        refine J_aload_n (q := 1259) 0 d_Law_1258 rfl rfl rfl ?_
        refine J_iload_n (q := 1260) 3 d_Law_1259 rfl rfl rfl ?_
        refine J_iconst (q := 1261) (v := (2 : Int32)) d_Law_1260 (by decide) rfl ?_
        refine J_iadd (q := 1262) d_Law_1261 rfl ?_
        obtain ⟨hi564, h⟩ := gu_some h
        refine J_sld (q := 1263) hi564 d_Law_1262 rfl ?_
        refine J_aload_n (q := 1264) 0 d_Law_1263 rfl rfl rfl ?_
        refine J_iload_n (q := 1265) 3 d_Law_1264 rfl rfl rfl ?_
        refine J_iconst (q := 1266) (v := (3 : Int32)) d_Law_1265 (by decide) rfl ?_
        refine J_iadd (q := 1267) d_Law_1266 rfl ?_
        obtain ⟨hi565, h⟩ := gu_some h
        refine J_sld (q := 1268) hi565 d_Law_1267 rfl ?_
        obtain ⟨r566, hr566, h⟩ := bd_some h
        refine J_rc (rc2 := 0 + 20 * n) (rs2 := 0 + 1200 * n) (by omega) (by omega) ?_
        refine J_callVq (rc := 20 * n) (rs := 1200 * n) (q := 1271) (as := [vi (xs (y3 + (1 : Int32)).toNatClampNeg), vi (xs (y3 + (2 : Int32)).toNatClampNeg), vi (xs (y3 + (3 : Int32)).toNatClampNeg)]) (st := []) (by decide) rfl g_983 g_984 (t_Fo_exception hr566) (by decide) (by decide) g_982 g_985 g_1 hy_Fo_exception rfl (Nat.le_of_ble_eq_true rfl) d_Law_1268 rfl ?_
        obtain ⟨μ567, hμ567, h⟩ := ap_eq h
        refine J_nmM hμ567 ?_
        refine J_aload_n (q := 1272) 2 d_Law_1271 rfl rfl rfl ?_
        refine J_aload_n (q := 1273) 0 d_Law_1272 rfl rfl rfl ?_
        refine J_iload_n (q := 1274) 3 d_Law_1273 rfl rfl rfl ?_
        refine J_iconst (q := 1275) (v := (1 : Int32)) d_Law_1274 (by decide) rfl ?_
        refine J_iadd (q := 1276) d_Law_1275 rfl ?_
        obtain ⟨hi568, h⟩ := gu_some h
        refine J_sld (q := 1277) hi568 d_Law_1276 rfl ?_
        refine J_aload_n (q := 1278) 0 d_Law_1277 rfl rfl rfl ?_
        refine J_iload_n (q := 1279) 3 d_Law_1278 rfl rfl rfl ?_
        refine J_iconst (q := 1280) (v := (2 : Int32)) d_Law_1279 (by decide) rfl ?_
        refine J_iadd (q := 1281) d_Law_1280 rfl ?_
        obtain ⟨hi569, h⟩ := gu_some h
        refine J_sld (q := 1282) hi569 d_Law_1281 rfl ?_
        refine J_aload_n (q := 1283) 0 d_Law_1282 rfl rfl rfl ?_
        refine J_iload_n (q := 1284) 3 d_Law_1283 rfl rfl rfl ?_
        refine J_iconst (q := 1285) (v := (3 : Int32)) d_Law_1284 (by decide) rfl ?_
        refine J_iadd (q := 1286) d_Law_1285 rfl ?_
        obtain ⟨hi570, h⟩ := gu_some h
        refine J_sld (q := 1287) hi570 d_Law_1286 rfl ?_
        obtain ⟨r571, hr571, h⟩ := bd_some h
        refine J_rc (rc2 := 0 + 20 * n) (rs2 := 0 + 1200 * n) (by omega) (by omega) ?_
        refine J_callVq (rc := 20 * n) (rs := 1200 * n) (q := 1290) (as := [vi (xs (y3 + (1 : Int32)).toNatClampNeg), vi (xs (y3 + (2 : Int32)).toNatClampNeg), vi (xs (y3 + (3 : Int32)).toNatClampNeg)]) (st := [vi (b2i (r566.1))]) (by decide) rfl g_1545 g_1546 (t_Mo_exception hr571) (by decide) (by decide) g_1544 g_1547 g_10 hy_Mo_exception rfl (Nat.le_of_ble_eq_true rfl) d_Law_1287 rfl ?_
        obtain ⟨μ572, hμ572, h⟩ := ap_eq h
        refine J_nmM hμ572 ?_
        refine J_icmp_eq (q := 1293) (tgt := 1463) d_Law_1290 (by decide) rfl (fun hc => ?_) (fun hc => ?_)
        · rw [if_pos hc] at h
          refine J_rc (rc2 := 20 * n) (rs2 := 1200 * n) (by omega) (by omega) ?_
          refine J_pick [0, 1, 2, 3] rfl ?_
          exact tj_Law_1463 L xs n ih _ _ h
        · rw [if_neg hc] at h
          refine J_iconst (q := 1294) (v := (0 : Int32)) d_Law_1293 (by decide) rfl ?_
          cases h
      rw [if_neg hk29] at h
      by_cases hk30 : x309 = (30 : Int32)
      · rw [if_pos hk30] at h
        refine J_swIn (tgt := 1295) d_Law_33 (by rw [hk30]; decide) (by rw [hk30]; decide) (by rw [hk30]; rfl) (by decide) ?_
        refine J_aload_n (q := 1296) 1 d_Law_1295 rfl rfl rfl ?_
        refine J_aload_n (q := 1297) 0 d_Law_1296 rfl rfl rfl ?_
        refine J_iload_n (q := 1298) 3 d_Law_1297 rfl rfl rfl ?_
        refine J_iconst (q := 1299) (v := (1 : Int32)) d_Law_1298 (by decide) rfl ?_
        refine J_iadd (q := 1300) d_Law_1299 rfl ?_
        obtain ⟨hi573, h⟩ := gu_some h
        refine J_sld (q := 1301) hi573 d_Law_1300 rfl ?_
        refine J_aload_n (q := 1302) 0 d_Law_1301 rfl rfl rfl ?_
        refine J_iload_n (q := 1303) 3 d_Law_1302 rfl rfl rfl ?_
        refine J_iconst (q := 1304) (v := (2 : Int32)) d_Law_1303 (by decide) rfl ?_
        refine J_iadd (q := 1305) d_Law_1304 rfl ?_
        obtain ⟨hi574, h⟩ := gu_some h
        refine J_sld (q := 1306) hi574 d_Law_1305 rfl ?_
        obtain ⟨r575, hr575, h⟩ := bd_some h
        refine J_rc (rc2 := 0 + 20 * n) (rs2 := 0 + 1200 * n) (by omega) (by omega) ?_
        refine J_callVq (rc := 20 * n) (rs := 1200 * n) (q := 1309) (as := [vi (xs (y3 + (1 : Int32)).toNatClampNeg), vi (xs (y3 + (2 : Int32)).toNatClampNeg)]) (st := []) (by decide) rfl g_987 g_988 (t_Fo_kerning hr575) (by decide) (by decide) g_986 g_989 g_1 hy_Fo_kerning rfl (Nat.le_of_ble_eq_true rfl) d_Law_1306 rfl ?_
        refine J_aload_n (q := 1310) 2 d_Law_1309 rfl rfl rfl ?_
        refine J_aload_n (q := 1311) 0 d_Law_1310 rfl rfl rfl ?_
        refine J_iload_n (q := 1312) 3 d_Law_1311 rfl rfl rfl ?_
        refine J_iconst (q := 1313) (v := (1 : Int32)) d_Law_1312 (by decide) rfl ?_
        refine J_iadd (q := 1314) d_Law_1313 rfl ?_
        obtain ⟨hi576, h⟩ := gu_some h
        refine J_sld (q := 1315) hi576 d_Law_1314 rfl ?_
        refine J_aload_n (q := 1316) 0 d_Law_1315 rfl rfl rfl ?_
        refine J_iload_n (q := 1317) 3 d_Law_1316 rfl rfl rfl ?_
        refine J_iconst (q := 1318) (v := (2 : Int32)) d_Law_1317 (by decide) rfl ?_
        refine J_iadd (q := 1319) d_Law_1318 rfl ?_
        obtain ⟨hi577, h⟩ := gu_some h
        refine J_sld (q := 1320) hi577 d_Law_1319 rfl ?_
        obtain ⟨r578, hr578, h⟩ := bd_some h
        refine J_rc (rc2 := 0 + 20 * n) (rs2 := 0 + 1200 * n) (by omega) (by omega) ?_
        refine J_callVq (rc := 20 * n) (rs := 1200 * n) (q := 1323) (as := [vi (xs (y3 + (1 : Int32)).toNatClampNeg), vi (xs (y3 + (2 : Int32)).toNatClampNeg)]) (st := [vi (r575)]) (by decide) rfl g_1549 g_1550 (t_Mo_kerning hr578) (by decide) (by decide) g_1548 g_1551 g_10 hy_Mo_kerning rfl (Nat.le_of_ble_eq_true rfl) d_Law_1320 rfl ?_
        refine J_icmp_eq (q := 1326) (tgt := 1463) d_Law_1323 (by decide) rfl (fun hc => ?_) (fun hc => ?_)
        · rw [if_pos hc] at h
          refine J_rc (rc2 := 20 * n) (rs2 := 1200 * n) (by omega) (by omega) ?_
          refine J_pick [0, 1, 2, 3] rfl ?_
          exact tj_Law_1463 L xs n ih _ _ h
        · rw [if_neg hc] at h
          refine J_iconst (q := 1327) (v := (0 : Int32)) d_Law_1326 (by decide) rfl ?_
          cases h
      rw [if_neg hk30] at h
      by_cases hk31 : x309 = (31 : Int32)
      · rw [if_pos hk31] at h
        refine J_swIn (tgt := 1328) d_Law_33 (by rw [hk31]; decide) (by rw [hk31]; decide) (by rw [hk31]; rfl) (by decide) ?_
        refine J_aload_n (q := 1329) 1 d_Law_1328 rfl rfl rfl ?_
        refine J_aload_n (q := 1330) 0 d_Law_1329 rfl rfl rfl ?_
        refine J_iload_n (q := 1331) 3 d_Law_1330 rfl rfl rfl ?_
        refine J_iconst (q := 1332) (v := (1 : Int32)) d_Law_1331 (by decide) rfl ?_
        refine J_iadd (q := 1333) d_Law_1332 rfl ?_
        obtain ⟨hi579, h⟩ := gu_some h
        refine J_sld (q := 1334) hi579 d_Law_1333 rfl ?_
        refine J_aload_n (q := 1335) 0 d_Law_1334 rfl rfl rfl ?_
        refine J_iload_n (q := 1336) 3 d_Law_1335 rfl rfl rfl ?_
        refine J_iconst (q := 1337) (v := (2 : Int32)) d_Law_1336 (by decide) rfl ?_
        refine J_iadd (q := 1338) d_Law_1337 rfl ?_
        obtain ⟨hi580, h⟩ := gu_some h
        refine J_sld (q := 1339) hi580 d_Law_1338 rfl ?_
        refine J_aload_n (q := 1340) 0 d_Law_1339 rfl rfl rfl ?_
        refine J_iload_n (q := 1341) 3 d_Law_1340 rfl rfl rfl ?_
        refine J_iconst (q := 1342) (v := (3 : Int32)) d_Law_1341 (by decide) rfl ?_
        refine J_iadd (q := 1343) d_Law_1342 rfl ?_
        obtain ⟨hi581, h⟩ := gu_some h
        refine J_sld (q := 1344) hi581 d_Law_1343 rfl ?_
        refine J_aload_n (q := 1345) 0 d_Law_1344 rfl rfl rfl ?_
        refine J_iload_n (q := 1346) 3 d_Law_1345 rfl rfl rfl ?_
        refine J_iconst (q := 1347) (v := (4 : Int32)) d_Law_1346 (by decide) rfl ?_
        refine J_iadd (q := 1348) d_Law_1347 rfl ?_
        obtain ⟨hi582, h⟩ := gu_some h
        refine J_sld (q := 1349) hi582 d_Law_1348 rfl ?_
        obtain ⟨r583, hr583, h⟩ := bd_some h
        refine J_rc (rc2 := 0 + 20 * n) (rs2 := 0 + 1200 * n) (by omega) (by omega) ?_
        refine J_callVq (rc := 20 * n) (rs := 1200 * n) (q := 1352) (as := [vi (xs (y3 + (1 : Int32)).toNatClampNeg), vi (xs (y3 + (2 : Int32)).toNatClampNeg), vi (xs (y3 + (3 : Int32)).toNatClampNeg), vi (xs (y3 + (4 : Int32)).toNatClampNeg)]) (st := []) (by decide) rfl g_996 g_997 (t_Fo_join hr583) (by decide) (by decide) g_995 g_998 g_1 hy_Fo_join rfl (Nat.le_of_ble_eq_true rfl) d_Law_1349 rfl ?_
        obtain ⟨μ584, hμ584, h⟩ := ap_eq h
        refine J_nmM hμ584 ?_
        obtain ⟨x585, hx585, h⟩ := ap_eq h
        refine J_nmI hx585 ?_
        refine J_aload_n (q := 1353) 2 d_Law_1352 rfl rfl rfl ?_
        refine J_aload_n (q := 1354) 0 d_Law_1353 rfl rfl rfl ?_
        refine J_iload_n (q := 1355) 3 d_Law_1354 rfl rfl rfl ?_
        refine J_iconst (q := 1356) (v := (1 : Int32)) d_Law_1355 (by decide) rfl ?_
        refine J_iadd (q := 1357) d_Law_1356 rfl ?_
        obtain ⟨hi586, h⟩ := gu_some h
        refine J_sld (q := 1358) hi586 d_Law_1357 rfl ?_
        refine J_aload_n (q := 1359) 0 d_Law_1358 rfl rfl rfl ?_
        refine J_iload_n (q := 1360) 3 d_Law_1359 rfl rfl rfl ?_
        refine J_iconst (q := 1361) (v := (2 : Int32)) d_Law_1360 (by decide) rfl ?_
        refine J_iadd (q := 1362) d_Law_1361 rfl ?_
        obtain ⟨hi587, h⟩ := gu_some h
        refine J_sld (q := 1363) hi587 d_Law_1362 rfl ?_
        refine J_aload_n (q := 1364) 0 d_Law_1363 rfl rfl rfl ?_
        refine J_iload_n (q := 1365) 3 d_Law_1364 rfl rfl rfl ?_
        refine J_iconst (q := 1366) (v := (3 : Int32)) d_Law_1365 (by decide) rfl ?_
        refine J_iadd (q := 1367) d_Law_1366 rfl ?_
        obtain ⟨hi588, h⟩ := gu_some h
        refine J_sld (q := 1368) hi588 d_Law_1367 rfl ?_
        refine J_aload_n (q := 1369) 0 d_Law_1368 rfl rfl rfl ?_
        refine J_iload_n (q := 1370) 3 d_Law_1369 rfl rfl rfl ?_
        refine J_iconst (q := 1371) (v := (4 : Int32)) d_Law_1370 (by decide) rfl ?_
        refine J_iadd (q := 1372) d_Law_1371 rfl ?_
        obtain ⟨hi589, h⟩ := gu_some h
        refine J_sld (q := 1373) hi589 d_Law_1372 rfl ?_
        obtain ⟨r590, hr590, h⟩ := bd_some h
        refine J_rc (rc2 := 0 + 20 * n) (rs2 := 0 + 1200 * n) (by omega) (by omega) ?_
        refine J_callVq (rc := 20 * n) (rs := 1200 * n) (q := 1376) (as := [vi (xs (y3 + (1 : Int32)).toNatClampNeg), vi (xs (y3 + (2 : Int32)).toNatClampNeg), vi (xs (y3 + (3 : Int32)).toNatClampNeg), vi (xs (y3 + (4 : Int32)).toNatClampNeg)]) (st := [vi (x585)]) (by decide) rfl g_1553 g_1554 (t_Mo_join hr590) (by decide) (by decide) g_1552 g_1555 g_10 hy_Mo_join rfl (Nat.le_of_ble_eq_true rfl) d_Law_1373 rfl ?_
        obtain ⟨μ591, hμ591, h⟩ := ap_eq h
        refine J_nmM hμ591 ?_
        obtain ⟨x592, hx592, h⟩ := ap_eq h
        refine J_nmI hx592 ?_
        refine J_icmp_eq (q := 1379) (tgt := 1463) d_Law_1376 (by decide) rfl (fun hc => ?_) (fun hc => ?_)
        · rw [if_pos hc] at h
          refine J_rc (rc2 := 20 * n) (rs2 := 1200 * n) (by omega) (by omega) ?_
          refine J_pick [0, 1, 2, 3] rfl ?_
          exact tj_Law_1463 L xs n ih _ _ h
        · rw [if_neg hc] at h
          refine J_iconst (q := 1380) (v := (0 : Int32)) d_Law_1379 (by decide) rfl ?_
          cases h
      rw [if_neg hk31] at h
      by_cases hk32 : x309 = (32 : Int32)
      · rw [if_pos hk32] at h
        refine J_swIn (tgt := 1381) d_Law_33 (by rw [hk32]; decide) (by rw [hk32]; decide) (by rw [hk32]; rfl) (by decide) ?_
        refine J_aload_n (q := 1382) 1 d_Law_1381 rfl rfl rfl ?_
        refine J_aload_n (q := 1383) 0 d_Law_1382 rfl rfl rfl ?_
        refine J_iload_n (q := 1384) 3 d_Law_1383 rfl rfl rfl ?_
        refine J_iconst (q := 1385) (v := (1 : Int32)) d_Law_1384 (by decide) rfl ?_
        refine J_iadd (q := 1386) d_Law_1385 rfl ?_
        obtain ⟨hi593, h⟩ := gu_some h
        refine J_sld (q := 1387) hi593 d_Law_1386 rfl ?_
        obtain ⟨r594, hr594, h⟩ := bd_some h
        refine J_rc (rc2 := 0 + 20 * n) (rs2 := 0 + 1200 * n) (by omega) (by omega) ?_
        refine J_callVq (rc := 20 * n) (rs := 1200 * n) (q := 1390) (as := [vi (xs (y3 + (1 : Int32)).toNatClampNeg)]) (st := []) (by decide) rfl g_1004 g_1005 (t_Fo_sign hr594) (by decide) (by decide) g_1003 g_1006 g_1 hy_Fo_sign rfl (Nat.le_of_ble_eq_true rfl) d_Law_1387 rfl ?_
        obtain ⟨μ595, hμ595, h⟩ := ap_eq h
        refine J_nmM hμ595 ?_
        obtain ⟨x596, hx596, h⟩ := ap_eq h
        refine J_nmI hx596 ?_
        refine J_aload_n (q := 1391) 2 d_Law_1390 rfl rfl rfl ?_
        refine J_aload_n (q := 1392) 0 d_Law_1391 rfl rfl rfl ?_
        refine J_iload_n (q := 1393) 3 d_Law_1392 rfl rfl rfl ?_
        refine J_iconst (q := 1394) (v := (1 : Int32)) d_Law_1393 (by decide) rfl ?_
        refine J_iadd (q := 1395) d_Law_1394 rfl ?_
        obtain ⟨hi597, h⟩ := gu_some h
        refine J_sld (q := 1396) hi597 d_Law_1395 rfl ?_
        obtain ⟨r598, hr598, h⟩ := bd_some h
        refine J_rc (rc2 := 0 + 20 * n) (rs2 := 0 + 1200 * n) (by omega) (by omega) ?_
        refine J_callVq (rc := 20 * n) (rs := 1200 * n) (q := 1399) (as := [vi (xs (y3 + (1 : Int32)).toNatClampNeg)]) (st := [vi (x596)]) (by decide) rfl g_1557 g_1558 (t_Mo_sign hr598) (by decide) (by decide) g_1556 g_1559 g_10 hy_Mo_sign rfl (Nat.le_of_ble_eq_true rfl) d_Law_1396 rfl ?_
        obtain ⟨μ599, hμ599, h⟩ := ap_eq h
        refine J_nmM hμ599 ?_
        obtain ⟨x600, hx600, h⟩ := ap_eq h
        refine J_nmI hx600 ?_
        refine J_icmp_eq (q := 1402) (tgt := 1463) d_Law_1399 (by decide) rfl (fun hc => ?_) (fun hc => ?_)
        · rw [if_pos hc] at h
          refine J_rc (rc2 := 20 * n) (rs2 := 1200 * n) (by omega) (by omega) ?_
          refine J_pick [0, 1, 2, 3] rfl ?_
          exact tj_Law_1463 L xs n ih _ _ h
        · rw [if_neg hc] at h
          refine J_iconst (q := 1403) (v := (0 : Int32)) d_Law_1402 (by decide) rfl ?_
          cases h
      rw [if_neg hk32] at h
      by_cases hk33 : x309 = (33 : Int32)
      · rw [if_pos hk33] at h
        refine J_swIn (tgt := 1404) d_Law_33 (by rw [hk33]; decide) (by rw [hk33]; decide) (by rw [hk33]; rfl) (by decide) ?_
        refine J_aload_n (q := 1405) 1 d_Law_1404 rfl rfl rfl ?_
        obtain ⟨r601, hr601, h⟩ := bd_some h
        refine J_rc (rc2 := 0 + 20 * n) (rs2 := 0 + 1200 * n) (by omega) (by omega) ?_
        refine J_callVq (rc := 20 * n) (rs := 1200 * n) (q := 1408) (as := []) (st := []) (by decide) rfl g_1012 g_1013 (t_Fo_set hr601) (by decide) (by decide) g_1011 g_1014 g_1 hy_Fo_set rfl (Nat.le_of_ble_eq_true rfl) d_Law_1405 rfl ?_
        obtain ⟨μ602, hμ602, h⟩ := ap_eq h
        refine J_nmM hμ602 ?_
        obtain ⟨x603, hx603, h⟩ := ap_eq h
        refine J_nmI hx603 ?_
        refine J_aload_n (q := 1409) 2 d_Law_1408 rfl rfl rfl ?_
        obtain ⟨r604, hr604, h⟩ := bd_some h
        refine J_rc (rc2 := 0 + 20 * n) (rs2 := 0 + 1200 * n) (by omega) (by omega) ?_
        refine J_callVq (rc := 20 * n) (rs := 1200 * n) (q := 1412) (as := []) (st := [vi (x603)]) (by decide) rfl g_1561 g_1562 (t_Mo_set hr604) (by decide) (by decide) g_1560 g_1563 g_10 hy_Mo_set rfl (Nat.le_of_ble_eq_true rfl) d_Law_1409 rfl ?_
        obtain ⟨μ605, hμ605, h⟩ := ap_eq h
        refine J_nmM hμ605 ?_
        obtain ⟨x606, hx606, h⟩ := ap_eq h
        refine J_nmI hx606 ?_
        refine J_icmp_eq (q := 1415) (tgt := 1463) d_Law_1412 (by decide) rfl (fun hc => ?_) (fun hc => ?_)
        · rw [if_pos hc] at h
          refine J_rc (rc2 := 20 * n) (rs2 := 1200 * n) (by omega) (by omega) ?_
          refine J_pick [0, 1, 2, 3] rfl ?_
          exact tj_Law_1463 L xs n ih _ _ h
        · rw [if_neg hc] at h
          refine J_iconst (q := 1416) (v := (0 : Int32)) d_Law_1415 (by decide) rfl ?_
          cases h
      rw [if_neg hk33] at h
      by_cases hk34 : x309 = (34 : Int32)
      · rw [if_pos hk34] at h
        refine J_swIn (tgt := 1417) d_Law_33 (by rw [hk34]; decide) (by rw [hk34]; decide) (by rw [hk34]; rfl) (by decide) ?_
        refine J_aload_n (q := 1418) 1 d_Law_1417 rfl rfl rfl ?_
        refine J_aload_n (q := 1419) 0 d_Law_1418 rfl rfl rfl ?_
        refine J_iload_n (q := 1420) 3 d_Law_1419 rfl rfl rfl ?_
        refine J_iconst (q := 1421) (v := (1 : Int32)) d_Law_1420 (by decide) rfl ?_
        refine J_iadd (q := 1422) d_Law_1421 rfl ?_
        obtain ⟨hi607, h⟩ := gu_some h
        refine J_sld (q := 1423) hi607 d_Law_1422 rfl ?_
        refine J_aload_n (q := 1424) 0 d_Law_1423 rfl rfl rfl ?_
        refine J_iload_n (q := 1425) 3 d_Law_1424 rfl rfl rfl ?_
        refine J_iconst (q := 1426) (v := (2 : Int32)) d_Law_1425 (by decide) rfl ?_
        refine J_iadd (q := 1427) d_Law_1426 rfl ?_
        obtain ⟨hi608, h⟩ := gu_some h
        refine J_sld (q := 1428) hi608 d_Law_1427 rfl ?_
        obtain ⟨r609, hr609, h⟩ := bd_some h
        refine J_rc (rc2 := 0 + 20 * n) (rs2 := 0 + 1200 * n) (by omega) (by omega) ?_
        refine J_callVq (rc := 20 * n) (rs := 1200 * n) (q := 1431) (as := [vi (xs (y3 + (1 : Int32)).toNatClampNeg), vi (xs (y3 + (2 : Int32)).toNatClampNeg)]) (st := []) (by decide) rfl g_1038 g_1039 (t_Fo_placed hr609) (by decide) (by decide) g_1037 g_1040 g_1 hy_Fo_placed rfl (Nat.le_of_ble_eq_true rfl) d_Law_1428 rfl ?_
        refine J_aload_n (q := 1432) 2 d_Law_1431 rfl rfl rfl ?_
        refine J_aload_n (q := 1433) 0 d_Law_1432 rfl rfl rfl ?_
        refine J_iload_n (q := 1434) 3 d_Law_1433 rfl rfl rfl ?_
        refine J_iconst (q := 1435) (v := (1 : Int32)) d_Law_1434 (by decide) rfl ?_
        refine J_iadd (q := 1436) d_Law_1435 rfl ?_
        obtain ⟨hi610, h⟩ := gu_some h
        refine J_sld (q := 1437) hi610 d_Law_1436 rfl ?_
        refine J_aload_n (q := 1438) 0 d_Law_1437 rfl rfl rfl ?_
        refine J_iload_n (q := 1439) 3 d_Law_1438 rfl rfl rfl ?_
        refine J_iconst (q := 1440) (v := (2 : Int32)) d_Law_1439 (by decide) rfl ?_
        refine J_iadd (q := 1441) d_Law_1440 rfl ?_
        obtain ⟨hi611, h⟩ := gu_some h
        refine J_sld (q := 1442) hi611 d_Law_1441 rfl ?_
        obtain ⟨r612, hr612, h⟩ := bd_some h
        refine J_rc (rc2 := 0 + 20 * n) (rs2 := 0 + 1200 * n) (by omega) (by omega) ?_
        refine J_callVq (rc := 20 * n) (rs := 1200 * n) (q := 1445) (as := [vi (xs (y3 + (1 : Int32)).toNatClampNeg), vi (xs (y3 + (2 : Int32)).toNatClampNeg)]) (st := [vi (r609)]) (by decide) rfl g_1578 g_1579 (t_Mo_placed hr612) (by decide) (by decide) g_1577 g_1580 g_10 hy_Mo_placed rfl (Nat.le_of_ble_eq_true rfl) d_Law_1442 rfl ?_
        refine J_icmp_eq (q := 1448) (tgt := 1463) d_Law_1445 (by decide) rfl (fun hc => ?_) (fun hc => ?_)
        · rw [if_pos hc] at h
          refine J_rc (rc2 := 20 * n) (rs2 := 1200 * n) (by omega) (by omega) ?_
          refine J_pick [0, 1, 2, 3] rfl ?_
          exact tj_Law_1463 L xs n ih _ _ h
        · rw [if_neg hc] at h
          refine J_iconst (q := 1449) (v := (0 : Int32)) d_Law_1448 (by decide) rfl ?_
          cases h
      rw [if_neg hk34] at h
      by_cases hk35 : x309 = (35 : Int32)
      · rw [if_pos hk35] at h
        refine J_swIn (tgt := 1450) d_Law_33 (by rw [hk35]; decide) (by rw [hk35]; decide) (by rw [hk35]; rfl) (by decide) ?_
        refine J_aload_n (q := 1451) 1 d_Law_1450 rfl rfl rfl ?_
        refine J_rc (rc2 := 0 + 20 * n) (rs2 := 0 + 1200 * n) (by omega) (by omega) ?_
        refine J_callVq (rc := 20 * n) (rs := 1200 * n) (q := 1454) (as := []) (st := []) (by decide) rfl g_1042 g_1043 (t_Fo_length rfl) (by decide) (by decide) g_1041 g_1044 g_1 hy_Fo_length rfl (Nat.le_of_ble_eq_true rfl) d_Law_1451 rfl ?_
        refine J_aload_n (q := 1455) 2 d_Law_1454 rfl rfl rfl ?_
        obtain ⟨r613, hr613, h⟩ := bd_some h
        refine J_rc (rc2 := 0 + 20 * n) (rs2 := 0 + 1200 * n) (by omega) (by omega) ?_
        refine J_callVq (rc := 20 * n) (rs := 1200 * n) (q := 1458) (as := []) (st := [vi ((m_Fo_length  μ))]) (by decide) rfl g_1582 g_1583 (t_Mo_length hr613) (by decide) (by decide) g_1581 g_1584 g_10 hy_Mo_length rfl (Nat.le_of_ble_eq_true rfl) d_Law_1455 rfl ?_
        refine J_icmp_eq (q := 1461) (tgt := 1463) d_Law_1458 (by decide) rfl (fun hc => ?_) (fun hc => ?_)
        · rw [if_pos hc] at h
          refine J_rc (rc2 := 20 * n) (rs2 := 1200 * n) (by omega) (by omega) ?_
          refine J_pick [0, 1, 2, 3] rfl ?_
          exact tj_Law_1463 L xs n ih _ _ h
        · rw [if_neg hc] at h
          refine J_iconst (q := 1462) (v := (0 : Int32)) d_Law_1461 (by decide) rfl ?_
          cases h
      rw [if_neg hk35] at h
      refine J_swOut (tgt := 1463) d_Law_33 (by have e0 := lv_neT hk0 (a := 0) (by decide); have e1 := lv_neT hk1 (a := 1) (by decide); have e2 := lv_neT hk2 (a := 2) (by decide); have e3 := lv_neT hk3 (a := 3) (by decide); have e4 := lv_neT hk4 (a := 4) (by decide); have e5 := lv_neT hk5 (a := 5) (by decide); have e6 := lv_neT hk6 (a := 6) (by decide); have e7 := lv_neT hk7 (a := 7) (by decide); have e8 := lv_neT hk8 (a := 8) (by decide); have e9 := lv_neT hk9 (a := 9) (by decide); have e10 := lv_neT hk10 (a := 10) (by decide); have e11 := lv_neT hk11 (a := 11) (by decide); have e12 := lv_neT hk12 (a := 12) (by decide); have e13 := lv_neT hk13 (a := 13) (by decide); have e14 := lv_neT hk14 (a := 14) (by decide); have e15 := lv_neT hk15 (a := 15) (by decide); have e16 := lv_neT hk16 (a := 16) (by decide); have e17 := lv_neT hk17 (a := 17) (by decide); have e18 := lv_neT hk18 (a := 18) (by decide); have e19 := lv_neT hk19 (a := 19) (by decide); have e20 := lv_neT hk20 (a := 20) (by decide); have e21 := lv_neT hk21 (a := 21) (by decide); have e22 := lv_neT hk22 (a := 22) (by decide); have e23 := lv_neT hk23 (a := 23) (by decide); have e24 := lv_neT hk24 (a := 24) (by decide); have e25 := lv_neT hk25 (a := 25) (by decide); have e26 := lv_neT hk26 (a := 26) (by decide); have e27 := lv_neT hk27 (a := 27) (by decide); have e28 := lv_neT hk28 (a := 28) (by decide); have e29 := lv_neT hk29 (a := 29) (by decide); have e30 := lv_neT hk30 (a := 30) (by decide); have e31 := lv_neT hk31 (a := 31) (by decide); have e32 := lv_neT hk32 (a := 32) (by decide); have e33 := lv_neT hk33 (a := 33) (by decide); have e34 := lv_neT hk34 (a := 34) (by decide); have e35 := lv_neT hk35 (a := 35) (by decide); omega) (by decide) ?_
      refine J_rc (rc2 := 20 * n) (rs2 := 1200 * n) (by omega) (by omega) ?_
      refine J_pick [0, 1, 2, 3] rfl ?_
      exact tj_Law_1463 L xs n ih _ _ h
