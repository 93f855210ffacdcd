/-! turns of the law -/
section LAWTA
variable {p : Program} {l : Launch} {e : Env} {s : State} {mi : MethodId} {below : List Frame} {meth : Method} {c : Code} {H : Heap} {locs : List Loc} {cells slots : Nat} {Q : State → Prop}
variable {D : va_G} {K : Nat → ClassId} {h : Nat} {hs : Nat → Nat} {as ax : Nat → Nat → Nat} {g : Nat} {ag la : Nat → Nat} {b L : Nat} {sc : Nat → Int32} {ls : Array Slot} {i : Nat} {pc : Nat} {st : List Value}
variable {xs sh : Nat → zS} {m : zS} {n : Nat → Option Nat} {ok ot : wO}
set_option maxHeartbeats 4000000 in
set_option maxRecDepth 100000 in
theorem lc_copy (C : lC p s mi meth c D K b L sc) (hl : lv_has ls 4 [(0, .ref b), (1, .ref h), (2, .ref g), (3, .int (nI i))]) (hi : i + 6 ≤ L) (St : lS s D K h hs as ax g ag la H locs cells slots xs sh m n ok ot i)
    (next : ∀ (H : Heap) (locs : List Loc) (cells slots : Nat) (xs sh : Nat → zS) (m : zS) (n : Nat → Option Nat) (ok ot : wO), lS s D K h hs as ax g ag la H locs cells slots xs sh m n ok ot (i + 6) → W p l e room_1 s mi #[Value.ref b] below meth c H locs cells slots Q (F0 mi 1962 ls [])) : W p l e room_1 s mi #[Value.ref b] below meth c H locs cells slots Q (F0 mi 368 ls []) := by
  obtain ⟨C0, hX, hbl, hL⟩ := id C
  obtain ⟨hx, hb, hr, hml, hown, hts, hlocks, hK, hT⟩ := id C0
  obtain ⟨hP, hD, hS, sim, hn, hc⟩ := St
  have hA : ∀ q : Nat, s.heap.size ≤ q → (fun q : Nat => s.heap.size ≤ q) q := fun _ z => z
  have hf : cells + 0 ≤ room_1.cells ∧ slots + 0 ≤ room_1.slots := ⟨by show cells ≤ 600000; omega, by show slots ≤ 7302250; omega⟩
  refine lv_aload_n hx hb dL_law_368 rfl (lv_at hl 1 rfl) ?_
  refine l_arg C hS hl hi 1 (by decide) rfl dL_law_369 dL_law_370 dL_law_371 dL_law_372 dL_law_373 ?_
  refine l_arg C hS hl hi 2 (by decide) rfl dL_law_374 dL_law_375 dL_law_376 dL_law_377 dL_law_378 ?_
  refine l_arg C hS hl hi 3 (by decide) rfl dL_law_379 dL_law_380 dL_law_381 dL_law_382 dL_law_383 ?_
  refine l_arg C hS hl hi 4 (by decide) rfl dL_law_384 dL_law_385 dL_law_386 dL_law_387 dL_law_388 ?_
  refine l_arg C hS hl hi 5 (by decide) rfl dL_law_389 dL_law_390 dL_law_391 dL_law_392 dL_law_393 ?_
  unfold lW at hP hD
  generalize hR : (wX8 K g ag n la m ++ ([] : va_W)) ++ (wOpt K ok ++ wOpt K ot) = R at hP hD
  refine xend_rw_i (wf := fun (u : (zS) × (Nat → zS)) => wX7 K h (ax 0) hs u.1 ++ (wPl K hs as u.2 ++ (([] : va_W)))) (xRunV (As := [.int (sc (i + 1)), .int (sc (i + 2)), .int (sc (i + 3)), .int (sc (i + 4)), .int (sc (i + 5))]) (rest := []) C0 (c_X7_copy (L_copy sim (sc (i + 1)) (sc (i + 2)) (sc (i + 3)) (sc (i + 4)) (sc (i + 5)))) k_X7_copy mw_209 ⟨rfl, rfl⟩ ⟨Nat.le_of_ble_eq_true rfl, Nat.le_of_ble_eq_true rfl⟩ hP hD (bpl lLs [0, 11]) lG_0_11 lD_0_11 rfl rfl hl rfl rfl (Nat.le_of_ble_eq_true rfl) dL_law_394 hf) hP hD hS hA (bpl lLs [0, 11]) lG_0_11 lD_0_11 (fun u => rfl) (fun r u H locs hw hP hD hS => ?_)
  rw [lE_0_11_11] at hP hD
  subst hR
  refine lv_aload_n hx hb dL_law_397 rfl (lv_at hl 2 rfl) ?_
  refine l_arg C hS hl hi 1 (by decide) rfl dL_law_398 dL_law_399 dL_law_400 dL_law_401 dL_law_402 ?_
  refine l_arg C hS hl hi 2 (by decide) rfl dL_law_403 dL_law_404 dL_law_405 dL_law_406 dL_law_407 ?_
  refine l_arg C hS hl hi 3 (by decide) rfl dL_law_408 dL_law_409 dL_law_410 dL_law_411 dL_law_412 ?_
  refine l_arg C hS hl hi 4 (by decide) rfl dL_law_413 dL_law_414 dL_law_415 dL_law_416 dL_law_417 ?_
  refine l_arg C hS hl hi 5 (by decide) rfl dL_law_418 dL_law_419 dL_law_420 dL_law_421 dL_law_422 ?_
  refine xend_rw_i_mid (wf := fun (u : zS) => wX8 K g ag n la u ++ ([] : va_W)) (xRunV_mid (As := [.int (sc (i + 1)), .int (sc (i + 2)), .int (sc (i + 3)), .int (sc (i + 4)), .int (sc (i + 5))]) (rest := [.int r]) C0 (c_X8_copy hw) k_X8_copy mw_222 ⟨rfl, rfl⟩ ⟨Nat.le_of_ble_eq_true rfl, Nat.le_of_ble_eq_true rfl⟩ hP hD rfl rfl hl rfl rfl (Nat.le_of_ble_eq_true rfl) dL_law_423 hf) hP hD hS hA (fun u => rfl) (fun r2 u2 H locs hw hP hD hS => ?_)
  refine lv_icmp_eq (tgt := 1962) hx hb dL_law_426 (by decide) (fun _ => ?_) (fun z => absurd hw.1.symm z)
  exact next _ _ _ _ _ _ _ _ _ _ ⟨hP, hD, hS, hw.2, hn, ⟨by omega, by omega⟩⟩
set_option maxHeartbeats 4000000 in
set_option maxRecDepth 100000 in
theorem lc_holds (C : lC p s mi meth c D K b L sc) (hl : lv_has ls 4 [(0, .ref b), (1, .ref h), (2, .ref g), (3, .int (nI i))]) (hi : i + 6 ≤ L) (St : lS s D K h hs as ax g ag la H locs cells slots xs sh m n ok ot i)
    (next : ∀ (H : Heap) (locs : List Loc) (cells slots : Nat) (xs sh : Nat → zS) (m : zS) (n : Nat → Option Nat) (ok ot : wO), lS s D K h hs as ax g ag la H locs cells slots xs sh m n ok ot (i + 6) → W p l e room_1 s mi #[Value.ref b] below meth c H locs cells slots Q (F0 mi 1962 ls [])) : W p l e room_1 s mi #[Value.ref b] below meth c H locs cells slots Q (F0 mi 465 ls []) := by
  obtain ⟨C0, hX, hbl, hL⟩ := id C
  obtain ⟨hx, hb, hr, hml, hown, hts, hlocks, hK, hT⟩ := id C0
  obtain ⟨hP, hD, hS, sim, hn, hc⟩ := St
  have hA : ∀ q : Nat, s.heap.size ≤ q → (fun q : Nat => s.heap.size ≤ q) q := fun _ z => z
  have hf : cells + 0 ≤ room_1.cells ∧ slots + 0 ≤ room_1.slots := ⟨by show cells ≤ 600000; omega, by show slots ≤ 7302250; omega⟩
  refine lv_aload_n hx hb dL_law_465 rfl (lv_at hl 1 rfl) ?_
  refine l_arg C hS hl hi 1 (by decide) rfl dL_law_466 dL_law_467 dL_law_468 dL_law_469 dL_law_470 ?_
  unfold lW at hP hD
  generalize hR : (wX8 K g ag n la m ++ ([] : va_W)) ++ (wOpt K ok ++ wOpt K ot) = R at hP hD
  refine xend_ro_i (xRunV (As := [.int (sc (i + 1))]) (rest := []) C0 (c_X7_holds (L_holds sim (sc (i + 1)))) k_X7_holds mw_238 ⟨rfl, rfl⟩ ⟨Nat.le_of_ble_eq_true rfl, Nat.le_of_ble_eq_true rfl⟩ hP hD (bpl lLs [0, 11]) lG_0_11 lD_0_11 rfl rfl hl rfl rfl (Nat.le_of_ble_eq_true rfl) dL_law_471 hf) (fun r hw => ?_)
  subst hR
  refine lv_aload_n hx hb dL_law_474 rfl (lv_at hl 2 rfl) ?_
  refine l_arg C hS hl hi 1 (by decide) rfl dL_law_475 dL_law_476 dL_law_477 dL_law_478 dL_law_479 ?_
  refine xend_ro_i (xRunV_mid (As := [.int (sc (i + 1))]) (rest := [.int r]) C0 (c_X8_holds hw) k_X8_holds mw_242 ⟨rfl, rfl⟩ ⟨Nat.le_of_ble_eq_true rfl, Nat.le_of_ble_eq_true rfl⟩ hP hD rfl rfl hl rfl rfl (Nat.le_of_ble_eq_true rfl) dL_law_480 hf) (fun r2 hw => ?_)
  refine lv_icmp_eq (tgt := 1962) hx hb dL_law_483 (by decide) (fun _ => ?_) (fun z => absurd hw.symm z)
  exact next _ _ _ _ _ _ _ _ _ _ ⟨hP, hD, hS, sim, hn, ⟨by omega, by omega⟩⟩
theorem lG_0_11_1 {R : va_W} : (bpl lLs [0, 11, 1]).map (fun i => (bfl (lB K h hs as ax xs sh) ++ R)[i]?) = (wX7 K h (ax 0) hs (xs 0) ++ (wPl K hs as sh ++ (wX1 K (ax 0 0) (ax 1) (xs 1)))).map some :=
  (b_get lB_len [0, 11, 1] (show ∀ j ∈ [0, 11, 1], j < 12 by decide)).trans (congrArg (List.map some) (show wX7 K h (ax 0) hs (xs 0) ++ (wPl K hs as sh ++ (wX1 K (ax 0 0) (ax 1) (xs 1) ++ (([] : va_W)))) = wX7 K h (ax 0) hs (xs 0) ++ (wPl K hs as sh ++ (wX1 K (ax 0 0) (ax 1) (xs 1))) by rw [List.append_nil]))
theorem lD_0_11_1 : va_nd (bpl lLs [0, 11, 1]) = true := by decide +kernel
theorem lE_0_11_1_110 {R : va_W} {y0 : zS} {y1 : Nat → zS} : xset (bfl (lB K h hs as ax xs sh) ++ R) (bpl lLs [0, 11, 1]) (wX7 K h (ax 0) hs y0 ++ (wPl K hs as y1 ++ (wX1 K (ax 0 0) (ax 1) (xs 1)))) = bfl (lB K h hs as ax (va_up xs 0 y0) y1) ++ R := by
  have q := b_set (R := R) [0, 11, 1] [wX7 K h (ax 0) hs y0, wPl K hs as y1, wX1 K (ax 0 0) (ax 1) (xs 1)] (lB K h hs as ax xs sh) lB_len (show ∀ j ∈ [0, 11, 1], j < 12 by decide) ⟨rfl, rfl, rfl, trivial⟩
  have q0 : bfl [wX7 K h (ax 0) hs y0, wPl K hs as y1, wX1 K (ax 0 0) (ax 1) (xs 1)] = wX7 K h (ax 0) hs y0 ++ (wPl K hs as y1 ++ (wX1 K (ax 0 0) (ax 1) (xs 1))) := by
    show wX7 K h (ax 0) hs y0 ++ (wPl K hs as y1 ++ (wX1 K (ax 0 0) (ax 1) (xs 1) ++ (([] : va_W)))) = _
    rw [List.append_nil]
  rw [q0] at q
  exact q
set_option maxHeartbeats 4000000 in
set_option maxRecDepth 100000 in
theorem lc_show (C : lC p s mi meth c D K b L sc) (hl : lv_has ls 4 [(0, .ref b), (1, .ref h), (2, .ref g), (3, .int (nI i))]) (hi : i + 6 ≤ L) (St : lS s D K h hs as ax g ag la H locs cells slots xs sh m n ok ot i)
    (next : ∀ (H : Heap) (locs : List Loc) (cells slots : Nat) (xs sh : Nat → zS) (m : zS) (n : Nat → Option Nat) (ok ot : wO), lS s D K h hs as ax g ag la H locs cells slots xs sh m n ok ot (i + 6) → W p l e room_1 s mi #[Value.ref b] below meth c H locs cells slots Q (F0 mi 1962 ls [])) : W p l e room_1 s mi #[Value.ref b] below meth c H locs cells slots Q (F0 mi 488 ls []) := by
  obtain ⟨C0, hX, hbl, hL⟩ := id C
  obtain ⟨hx, hb, hr, hml, hown, hts, hlocks, hK, hT⟩ := id C0
  obtain ⟨hP, hD, hS, sim, hn, hc⟩ := St
  have hA : ∀ q : Nat, s.heap.size ≤ q → (fun q : Nat => s.heap.size ≤ q) q := fun _ z => z
  have hf : cells + 0 ≤ room_1.cells ∧ slots + 0 ≤ room_1.slots := ⟨by show cells ≤ 600000; omega, by show slots ≤ 7302250; omega⟩
  refine lv_aload_n hx hb dL_law_488 rfl (lv_at hl 1 rfl) ?_
  refine l_arg C hS hl hi 1 (by decide) rfl dL_law_489 dL_law_490 dL_law_491 dL_law_492 dL_law_493 ?_
  refine l_arg C hS hl hi 2 (by decide) rfl dL_law_494 dL_law_495 dL_law_496 dL_law_497 dL_law_498 ?_
  unfold lW at hP hD
  generalize hR : (wX8 K g ag n la m ++ ([] : va_W)) ++ (wOpt K ok ++ wOpt K ot) = R at hP hD
  refine xend_rw_i (wf := fun (u : (zS) × (Nat → zS)) => wX7 K h (ax 0) hs u.1 ++ (wPl K hs as u.2 ++ (wX1 K (ax 0 0) (ax 1) (xs 1)))) (xRunV (As := [.int (sc (i + 1)), .int (sc (i + 2))]) (rest := []) C0 (c_X7_show (L_show sim (sc (i + 1)) (sc (i + 2)))) k_X7_show mw_246 ⟨rfl, rfl⟩ ⟨Nat.le_of_ble_eq_true rfl, Nat.le_of_ble_eq_true rfl⟩ hP hD (bpl lLs [0, 11, 1]) lG_0_11_1 lD_0_11_1 rfl rfl hl rfl rfl (Nat.le_of_ble_eq_true rfl) dL_law_499 hf) hP hD hS hA (bpl lLs [0, 11, 1]) lG_0_11_1 lD_0_11_1 (fun u => rfl) (fun r u H locs hw hP hD hS => ?_)
  rw [lE_0_11_1_110] at hP hD
  subst hR
  refine lv_aload_n hx hb dL_law_502 rfl (lv_at hl 2 rfl) ?_
  refine l_arg C hS hl hi 1 (by decide) rfl dL_law_503 dL_law_504 dL_law_505 dL_law_506 dL_law_507 ?_
  refine l_arg C hS hl hi 2 (by decide) rfl dL_law_508 dL_law_509 dL_law_510 dL_law_511 dL_law_512 ?_
  refine xend_rw_i_mid (wf := fun (u : zS) => wX8 K g ag n la u ++ ([] : va_W)) (xRunV_mid (As := [.int (sc (i + 1)), .int (sc (i + 2))]) (rest := [.int r]) C0 (c_X8_show hw) k_X8_show mw_258 ⟨rfl, rfl⟩ ⟨Nat.le_of_ble_eq_true rfl, Nat.le_of_ble_eq_true rfl⟩ hP hD rfl rfl hl rfl rfl (Nat.le_of_ble_eq_true rfl) dL_law_513 hf) hP hD hS hA (fun u => rfl) (fun r2 u2 H locs hw hP hD hS => ?_)
  refine lv_icmp_eq (tgt := 1962) hx hb dL_law_516 (by decide) (fun _ => ?_) (fun z => absurd hw.1.symm z)
  exact next _ _ _ _ _ _ _ _ _ _ ⟨hP, hD, hS, hw.2, hn, ⟨by omega, by omega⟩⟩
theorem lE_0_11_1_100 {R : va_W} {y0 : zS} : xset (bfl (lB K h hs as ax xs sh) ++ R) (bpl lLs [0, 11, 1]) (wX7 K h (ax 0) hs y0 ++ (wPl K hs as sh ++ (wX1 K (ax 0 0) (ax 1) (xs 1)))) = bfl (lB K h hs as ax (va_up xs 0 y0) sh) ++ R := by
  have q := b_set (R := R) [0, 11, 1] [wX7 K h (ax 0) hs y0, wPl K hs as sh, wX1 K (ax 0 0) (ax 1) (xs 1)] (lB K h hs as ax xs sh) lB_len (show ∀ j ∈ [0, 11, 1], j < 12 by decide) ⟨rfl, rfl, rfl, trivial⟩
  have q0 : bfl [wX7 K h (ax 0) hs y0, wPl K hs as sh, wX1 K (ax 0 0) (ax 1) (xs 1)] = wX7 K h (ax 0) hs y0 ++ (wPl K hs as sh ++ (wX1 K (ax 0 0) (ax 1) (xs 1))) := by
    show wX7 K h (ax 0) hs y0 ++ (wPl K hs as sh ++ (wX1 K (ax 0 0) (ax 1) (xs 1) ++ (([] : va_W)))) = _
    rw [List.append_nil]
  rw [q0] at q
  exact q
set_option maxHeartbeats 4000000 in
set_option maxRecDepth 100000 in
theorem lc_says (C : lC p s mi meth c D K b L sc) (hl : lv_has ls 4 [(0, .ref b), (1, .ref h), (2, .ref g), (3, .int (nI i))]) (hi : i + 6 ≤ L) (St : lS s D K h hs as ax g ag la H locs cells slots xs sh m n ok ot i)
    (next : ∀ (H : Heap) (locs : List Loc) (cells slots : Nat) (xs sh : Nat → zS) (m : zS) (n : Nat → Option Nat) (ok ot : wO), lS s D K h hs as ax g ag la H locs cells slots xs sh m n ok ot (i + 6) → W p l e room_1 s mi #[Value.ref b] below meth c H locs cells slots Q (F0 mi 1962 ls [])) : W p l e room_1 s mi #[Value.ref b] below meth c H locs cells slots Q (F0 mi 521 ls []) := by
  obtain ⟨C0, hX, hbl, hL⟩ := id C
  obtain ⟨hx, hb, hr, hml, hown, hts, hlocks, hK, hT⟩ := id C0
  obtain ⟨hP, hD, hS, sim, hn, hc⟩ := St
  have hA : ∀ q : Nat, s.heap.size ≤ q → (fun q : Nat => s.heap.size ≤ q) q := fun _ z => z
  have hf : cells + 0 ≤ room_1.cells ∧ slots + 0 ≤ room_1.slots := ⟨by show cells ≤ 600000; omega, by show slots ≤ 7302250; omega⟩
  refine lv_aload_n hx hb dL_law_521 rfl (lv_at hl 1 rfl) ?_
  refine l_arg C hS hl hi 1 (by decide) rfl dL_law_522 dL_law_523 dL_law_524 dL_law_525 dL_law_526 ?_
  refine l_arg C hS hl hi 2 (by decide) rfl dL_law_527 dL_law_528 dL_law_529 dL_law_530 dL_law_531 ?_
  unfold lW at hP hD
  generalize hR : (wX8 K g ag n la m ++ ([] : va_W)) ++ (wOpt K ok ++ wOpt K ot) = R at hP hD
  refine xend_rw_i (wf := fun (u : (zS)) => wX7 K h (ax 0) hs u ++ (wPl K hs as sh ++ (wX1 K (ax 0 0) (ax 1) (xs 1)))) (xRunV (As := [.int (sc (i + 1)), .int (sc (i + 2))]) (rest := []) C0 (c_X7_says (L_says sim (sc (i + 1)) (sc (i + 2)))) k_X7_says mw_267 ⟨rfl, rfl⟩ ⟨Nat.le_of_ble_eq_true rfl, Nat.le_of_ble_eq_true rfl⟩ hP hD (bpl lLs [0, 11, 1]) lG_0_11_1 lD_0_11_1 rfl rfl hl rfl rfl (Nat.le_of_ble_eq_true rfl) dL_law_532 hf) hP hD hS hA (bpl lLs [0, 11, 1]) lG_0_11_1 lD_0_11_1 (fun u => rfl) (fun r u H locs hw hP hD hS => ?_)
  rw [lE_0_11_1_100] at hP hD
  subst hR
  refine lv_aload_n hx hb dL_law_535 rfl (lv_at hl 2 rfl) ?_
  refine l_arg C hS hl hi 1 (by decide) rfl dL_law_536 dL_law_537 dL_law_538 dL_law_539 dL_law_540 ?_
  refine l_arg C hS hl hi 2 (by decide) rfl dL_law_541 dL_law_542 dL_law_543 dL_law_544 dL_law_545 ?_
  refine xend_rw_i_mid (wf := fun (u : zS) => wX8 K g ag n la u ++ ([] : va_W)) (xRunV_mid (As := [.int (sc (i + 1)), .int (sc (i + 2))]) (rest := [.int r]) C0 (c_X8_says hw) k_X8_says mw_326 ⟨rfl, rfl⟩ ⟨Nat.le_of_ble_eq_true rfl, Nat.le_of_ble_eq_true rfl⟩ hP hD rfl rfl hl rfl rfl (Nat.le_of_ble_eq_true rfl) dL_law_546 hf) hP hD hS hA (fun u => rfl) (fun r2 u2 H locs hw hP hD hS => ?_)
  refine lv_icmp_eq (tgt := 1962) hx hb dL_law_549 (by decide) (fun _ => ?_) (fun z => absurd hw.1.symm z)
  exact next _ _ _ _ _ _ _ _ _ _ ⟨hP, hD, hS, hw.2, hn, ⟨by omega, by omega⟩⟩
theorem lG_0_1 {R : va_W} : (bpl lLs [0, 1]).map (fun i => (bfl (lB K h hs as ax xs sh) ++ R)[i]?) = (wX7 K h (ax 0) hs (xs 0) ++ (wX1 K (ax 0 0) (ax 1) (xs 1))).map some :=
  (b_get lB_len [0, 1] (show ∀ j ∈ [0, 1], j < 12 by decide)).trans (congrArg (List.map some) (show wX7 K h (ax 0) hs (xs 0) ++ (wX1 K (ax 0 0) (ax 1) (xs 1) ++ (([] : va_W))) = wX7 K h (ax 0) hs (xs 0) ++ (wX1 K (ax 0 0) (ax 1) (xs 1)) by rw [List.append_nil]))
theorem lD_0_1 : va_nd (bpl lLs [0, 1]) = true := by decide +kernel
theorem lE_0_1_11 {R : va_W} {y0 : zS} {y1 : zS} : xset (bfl (lB K h hs as ax xs sh) ++ R) (bpl lLs [0, 1]) (wX7 K h (ax 0) hs y0 ++ (wX1 K (ax 0 0) (ax 1) y1)) = bfl (lB K h hs as ax (va_up (va_up xs 0 y0) 1 y1) sh) ++ R := by
  have q := b_set (R := R) [0, 1] [wX7 K h (ax 0) hs y0, wX1 K (ax 0 0) (ax 1) y1] (lB K h hs as ax xs sh) lB_len (show ∀ j ∈ [0, 1], j < 12 by decide) ⟨rfl, rfl, trivial⟩
  have q0 : bfl [wX7 K h (ax 0) hs y0, wX1 K (ax 0 0) (ax 1) y1] = wX7 K h (ax 0) hs y0 ++ (wX1 K (ax 0 0) (ax 1) y1) := by
    show wX7 K h (ax 0) hs y0 ++ (wX1 K (ax 0 0) (ax 1) y1 ++ (([] : va_W))) = _
    rw [List.append_nil]
  rw [q0] at q
  exact q
set_option maxHeartbeats 4000000 in
set_option maxRecDepth 100000 in
theorem lc_rows (C : lC p s mi meth c D K b L sc) (hl : lv_has ls 4 [(0, .ref b), (1, .ref h), (2, .ref g), (3, .int (nI i))]) (hi : i + 6 ≤ L) (St : lS s D K h hs as ax g ag la H locs cells slots xs sh m n ok ot i)
    (next : ∀ (H : Heap) (locs : List Loc) (cells slots : Nat) (xs sh : Nat → zS) (m : zS) (n : Nat → Option Nat) (ok ot : wO), lS s D K h hs as ax g ag la H locs cells slots xs sh m n ok ot (i + 6) → W p l e room_1 s mi #[Value.ref b] below meth c H locs cells slots Q (F0 mi 1962 ls [])) : W p l e room_1 s mi #[Value.ref b] below meth c H locs cells slots Q (F0 mi 554 ls []) := by
  obtain ⟨C0, hX, hbl, hL⟩ := id C
  obtain ⟨hx, hb, hr, hml, hown, hts, hlocks, hK, hT⟩ := id C0
  obtain ⟨hP, hD, hS, sim, hn, hc⟩ := St
  have hA : ∀ q : Nat, s.heap.size ≤ q → (fun q : Nat => s.heap.size ≤ q) q := fun _ z => z
  have hf : cells + 0 ≤ room_1.cells ∧ slots + 0 ≤ room_1.slots := ⟨by show cells ≤ 600000; omega, by show slots ≤ 7302250; omega⟩
  refine lv_aload_n hx hb dL_law_554 rfl (lv_at hl 1 rfl) ?_
  refine l_arg C hS hl hi 1 (by decide) rfl dL_law_555 dL_law_556 dL_law_557 dL_law_558 dL_law_559 ?_
  unfold lW at hP hD
  generalize hR : (wX8 K g ag n la m ++ ([] : va_W)) ++ (wOpt K ok ++ wOpt K ot) = R at hP hD
  refine xend_rw_i (wf := fun (u : (zS) × (zS)) => wX7 K h (ax 0) hs u.1 ++ (wX1 K (ax 0 0) (ax 1) u.2)) (xRunV (As := [.int (sc (i + 1))]) (rest := []) C0 (c_X7_rows (L_rows sim (sc (i + 1)))) k_X7_rows mw_356 ⟨rfl, rfl⟩ ⟨Nat.le_of_ble_eq_true rfl, Nat.le_of_ble_eq_true rfl⟩ hP hD (bpl lLs [0, 1]) lG_0_1 lD_0_1 rfl rfl hl rfl rfl (Nat.le_of_ble_eq_true rfl) dL_law_560 hf) hP hD hS hA (bpl lLs [0, 1]) lG_0_1 lD_0_1 (fun u => rfl) (fun r u H locs hw hP hD hS => ?_)
  rw [lE_0_1_11] at hP hD
  subst hR
  refine lv_aload_n hx hb dL_law_563 rfl (lv_at hl 2 rfl) ?_
  refine l_arg C hS hl hi 1 (by decide) rfl dL_law_564 dL_law_565 dL_law_566 dL_law_567 dL_law_568 ?_
  refine xend_rw_i_mid (wf := fun (u : zS) => wX8 K g ag n la u ++ ([] : va_W)) (xRunV_mid (As := [.int (sc (i + 1))]) (rest := [.int r]) C0 (c_X8_rows hw) k_X8_rows mw_365 ⟨rfl, rfl⟩ ⟨Nat.le_of_ble_eq_true rfl, Nat.le_of_ble_eq_true rfl⟩ hP hD rfl rfl hl rfl rfl (Nat.le_of_ble_eq_true rfl) dL_law_569 hf) hP hD hS hA (fun u => rfl) (fun r2 u2 H locs hw hP hD hS => ?_)
  refine lv_icmp_eq (tgt := 1962) hx hb dL_law_572 (by decide) (fun _ => ?_) (fun z => absurd hw.1.symm z)
  exact next _ _ _ _ _ _ _ _ _ _ ⟨hP, hD, hS, hw.2, hn, ⟨by omega, by omega⟩⟩
set_option maxHeartbeats 4000000 in
set_option maxRecDepth 100000 in
theorem lc_pupil (C : lC p s mi meth c D K b L sc) (hl : lv_has ls 4 [(0, .ref b), (1, .ref h), (2, .ref g), (3, .int (nI i))]) (hi : i + 6 ≤ L) (St : lS s D K h hs as ax g ag la H locs cells slots xs sh m n ok ot i)
    (next : ∀ (H : Heap) (locs : List Loc) (cells slots : Nat) (xs sh : Nat → zS) (m : zS) (n : Nat → Option Nat) (ok ot : wO), lS s D K h hs as ax g ag la H locs cells slots xs sh m n ok ot (i + 6) → W p l e room_1 s mi #[Value.ref b] below meth c H locs cells slots Q (F0 mi 1962 ls [])) : W p l e room_1 s mi #[Value.ref b] below meth c H locs cells slots Q (F0 mi 577 ls []) := by
  obtain ⟨C0, hX, hbl, hL⟩ := id C
  obtain ⟨hx, hb, hr, hml, hown, hts, hlocks, hK, hT⟩ := id C0
  obtain ⟨hP, hD, hS, sim, hn, hc⟩ := St
  have hA : ∀ q : Nat, s.heap.size ≤ q → (fun q : Nat => s.heap.size ≤ q) q := fun _ z => z
  have hf : cells + 0 ≤ room_1.cells ∧ slots + 0 ≤ room_1.slots := ⟨by show cells ≤ 600000; omega, by show slots ≤ 7302250; omega⟩
  refine lv_aload_n hx hb dL_law_577 rfl (lv_at hl 1 rfl) ?_
  refine l_arg C hS hl hi 1 (by decide) rfl dL_law_578 dL_law_579 dL_law_580 dL_law_581 dL_law_582 ?_
  refine l_arg C hS hl hi 2 (by decide) rfl dL_law_583 dL_law_584 dL_law_585 dL_law_586 dL_law_587 ?_
  refine l_arg C hS hl hi 3 (by decide) rfl dL_law_588 dL_law_589 dL_law_590 dL_law_591 dL_law_592 ?_
  unfold lW at hP hD
  generalize hR : (wX8 K g ag n la m ++ ([] : va_W)) ++ (wOpt K ok ++ wOpt K ot) = R at hP hD
  refine xend_rw_i (wf := fun (u : (zS) × (zS)) => wX7 K h (ax 0) hs u.1 ++ (wX1 K (ax 0 0) (ax 1) u.2)) (xRunV (As := [.int (sc (i + 1)), .int (sc (i + 2)), .int (sc (i + 3))]) (rest := []) C0 (c_X7_pupil (L_pupil sim (sc (i + 1)) (sc (i + 2)) (sc (i + 3)))) k_X7_pupil mw_370 ⟨rfl, rfl⟩ ⟨Nat.le_of_ble_eq_true rfl, Nat.le_of_ble_eq_true rfl⟩ hP hD (bpl lLs [0, 1]) lG_0_1 lD_0_1 rfl rfl hl rfl rfl (Nat.le_of_ble_eq_true rfl) dL_law_593 hf) hP hD hS hA (bpl lLs [0, 1]) lG_0_1 lD_0_1 (fun u => rfl) (fun r u H locs hw hP hD hS => ?_)
  rw [lE_0_1_11] at hP hD
  subst hR
  refine lv_aload_n hx hb dL_law_596 rfl (lv_at hl 2 rfl) ?_
  refine l_arg C hS hl hi 1 (by decide) rfl dL_law_597 dL_law_598 dL_law_599 dL_law_600 dL_law_601 ?_
  refine l_arg C hS hl hi 2 (by decide) rfl dL_law_602 dL_law_603 dL_law_604 dL_law_605 dL_law_606 ?_
  refine l_arg C hS hl hi 3 (by decide) rfl dL_law_607 dL_law_608 dL_law_609 dL_law_610 dL_law_611 ?_
  refine xend_rw_i_mid (wf := fun (u : zS) => wX8 K g ag n la u ++ ([] : va_W)) (xRunV_mid (As := [.int (sc (i + 1)), .int (sc (i + 2)), .int (sc (i + 3))]) (rest := [.int r]) C0 (c_X8_pupil hw) k_X8_pupil mw_408 ⟨rfl, rfl⟩ ⟨Nat.le_of_ble_eq_true rfl, Nat.le_of_ble_eq_true rfl⟩ hP hD rfl rfl hl rfl rfl (Nat.le_of_ble_eq_true rfl) dL_law_612 hf) hP hD hS hA (fun u => rfl) (fun r2 u2 H locs hw hP hD hS => ?_)
  refine lv_icmp_eq (tgt := 1962) hx hb dL_law_615 (by decide) (fun _ => ?_) (fun z => absurd hw.1.symm z)
  exact next _ _ _ _ _ _ _ _ _ _ ⟨hP, hD, hS, hw.2, hn, ⟨by omega, by omega⟩⟩
set_option maxHeartbeats 4000000 in
set_option maxRecDepth 100000 in
theorem lc_move (C : lC p s mi meth c D K b L sc) (hl : lv_has ls 4 [(0, .ref b), (1, .ref h), (2, .ref g), (3, .int (nI i))]) (hi : i + 6 ≤ L) (St : lS s D K h hs as ax g ag la H locs cells slots xs sh m n ok ot i)
    (next : ∀ (H : Heap) (locs : List Loc) (cells slots : Nat) (xs sh : Nat → zS) (m : zS) (n : Nat → Option Nat) (ok ot : wO), lS s D K h hs as ax g ag la H locs cells slots xs sh m n ok ot (i + 6) → W p l e room_1 s mi #[Value.ref b] below meth c H locs cells slots Q (F0 mi 1962 ls [])) : W p l e room_1 s mi #[Value.ref b] below meth c H locs cells slots Q (F0 mi 679 ls []) := by
  obtain ⟨C0, hX, hbl, hL⟩ := id C
  obtain ⟨hx, hb, hr, hml, hown, hts, hlocks, hK, hT⟩ := id C0
  obtain ⟨hP, hD, hS, sim, hn, hc⟩ := St
  have hA : ∀ q : Nat, s.heap.size ≤ q → (fun q : Nat => s.heap.size ≤ q) q := fun _ z => z
  have hf : cells + 0 ≤ room_1.cells ∧ slots + 0 ≤ room_1.slots := ⟨by show cells ≤ 600000; omega, by show slots ≤ 7302250; omega⟩
  refine lv_aload_n hx hb dL_law_679 rfl (lv_at hl 1 rfl) ?_
  refine l_arg C hS hl hi 1 (by decide) rfl dL_law_680 dL_law_681 dL_law_682 dL_law_683 dL_law_684 ?_
  refine l_arg C hS hl hi 2 (by decide) rfl dL_law_685 dL_law_686 dL_law_687 dL_law_688 dL_law_689 ?_
  unfold lW at hP hD
  generalize hR : (wX8 K g ag n la m ++ ([] : va_W)) ++ (wOpt K ok ++ wOpt K ot) = R at hP hD
  refine xend_rw_i (wf := fun (u : (zS) × (zS)) => wX7 K h (ax 0) hs u.1 ++ (wX1 K (ax 0 0) (ax 1) u.2)) (xRunV (As := [.int (sc (i + 1)), .int (sc (i + 2))]) (rest := []) C0 (c_X7_move (L_move sim (sc (i + 1)) (sc (i + 2)))) k_X7_move mw_457 ⟨rfl, rfl⟩ ⟨Nat.le_of_ble_eq_true rfl, Nat.le_of_ble_eq_true rfl⟩ hP hD (bpl lLs [0, 1]) lG_0_1 lD_0_1 rfl rfl hl rfl rfl (Nat.le_of_ble_eq_true rfl) dL_law_690 hf) hP hD hS hA (bpl lLs [0, 1]) lG_0_1 lD_0_1 (fun u => rfl) (fun r u H locs hw hP hD hS => ?_)
  rw [lE_0_1_11] at hP hD
  subst hR
  refine lv_aload_n hx hb dL_law_693 rfl (lv_at hl 2 rfl) ?_
  refine l_arg C hS hl hi 1 (by decide) rfl dL_law_694 dL_law_695 dL_law_696 dL_law_697 dL_law_698 ?_
  refine l_arg C hS hl hi 2 (by decide) rfl dL_law_699 dL_law_700 dL_law_701 dL_law_702 dL_law_703 ?_
  refine xend_rw_i_mid (wf := fun (u : zS) => wX8 K g ag n la u ++ ([] : va_W)) (xRunV_mid (As := [.int (sc (i + 1)), .int (sc (i + 2))]) (rest := [.int r]) C0 (c_X8_move hw) k_X8_move mw_465 ⟨rfl, rfl⟩ ⟨Nat.le_of_ble_eq_true rfl, Nat.le_of_ble_eq_true rfl⟩ hP hD rfl rfl hl rfl rfl (Nat.le_of_ble_eq_true rfl) dL_law_704 hf) hP hD hS hA (fun u => rfl) (fun r2 u2 H locs hw hP hD hS => ?_)
  refine lv_icmp_eq (tgt := 1962) hx hb dL_law_707 (by decide) (fun _ => ?_) (fun z => absurd hw.1.symm z)
  exact next _ _ _ _ _ _ _ _ _ _ ⟨hP, hD, hS, hw.2, hn, ⟨by omega, by omega⟩⟩
set_option maxHeartbeats 4000000 in
set_option maxRecDepth 100000 in
theorem lc_master (C : lC p s mi meth c D K b L sc) (hl : lv_has ls 4 [(0, .ref b), (1, .ref h), (2, .ref g), (3, .int (nI i))]) (hi : i + 6 ≤ L) (St : lS s D K h hs as ax g ag la H locs cells slots xs sh m n ok ot i)
    (next : ∀ (H : Heap) (locs : List Loc) (cells slots : Nat) (xs sh : Nat → zS) (m : zS) (n : Nat → Option Nat) (ok ot : wO), lS s D K h hs as ax g ag la H locs cells slots xs sh m n ok ot (i + 6) → W p l e room_1 s mi #[Value.ref b] below meth c H locs cells slots Q (F0 mi 1962 ls [])) : W p l e room_1 s mi #[Value.ref b] below meth c H locs cells slots Q (F0 mi 712 ls []) := by
  obtain ⟨C0, hX, hbl, hL⟩ := id C
  obtain ⟨hx, hb, hr, hml, hown, hts, hlocks, hK, hT⟩ := id C0
  obtain ⟨hP, hD, hS, sim, hn, hc⟩ := St
  have hA : ∀ q : Nat, s.heap.size ≤ q → (fun q : Nat => s.heap.size ≤ q) q := fun _ z => z
  have hf : cells + 0 ≤ room_1.cells ∧ slots + 0 ≤ room_1.slots := ⟨by show cells ≤ 600000; omega, by show slots ≤ 7302250; omega⟩
  refine lv_aload_n hx hb dL_law_712 rfl (lv_at hl 1 rfl) ?_
  refine l_arg C hS hl hi 1 (by decide) rfl dL_law_713 dL_law_714 dL_law_715 dL_law_716 dL_law_717 ?_
  refine l_arg C hS hl hi 2 (by decide) rfl dL_law_718 dL_law_719 dL_law_720 dL_law_721 dL_law_722 ?_
  unfold lW at hP hD
  generalize hR : (wX8 K g ag n la m ++ ([] : va_W)) ++ (wOpt K ok ++ wOpt K ot) = R at hP hD
  refine xend_rw_i (wf := fun (u : (zS) × (zS)) => wX7 K h (ax 0) hs u.1 ++ (wX1 K (ax 0 0) (ax 1) u.2)) (xRunV (As := [.int (sc (i + 1)), .int (sc (i + 2))]) (rest := []) C0 (c_X7_master (L_master sim (sc (i + 1)) (sc (i + 2)))) k_X7_master mw_469 ⟨rfl, rfl⟩ ⟨Nat.le_of_ble_eq_true rfl, Nat.le_of_ble_eq_true rfl⟩ hP hD (bpl lLs [0, 1]) lG_0_1 lD_0_1 rfl rfl hl rfl rfl (Nat.le_of_ble_eq_true rfl) dL_law_723 hf) hP hD hS hA (bpl lLs [0, 1]) lG_0_1 lD_0_1 (fun u => rfl) (fun r u H locs hw hP hD hS => ?_)
  rw [lE_0_1_11] at hP hD
  subst hR
  refine lv_aload_n hx hb dL_law_726 rfl (lv_at hl 2 rfl) ?_
  refine l_arg C hS hl hi 1 (by decide) rfl dL_law_727 dL_law_728 dL_law_729 dL_law_730 dL_law_731 ?_
  refine l_arg C hS hl hi 2 (by decide) rfl dL_law_732 dL_law_733 dL_law_734 dL_law_735 dL_law_736 ?_
  refine xend_rw_i_mid (wf := fun (u : zS) => wX8 K g ag n la u ++ ([] : va_W)) (xRunV_mid (As := [.int (sc (i + 1)), .int (sc (i + 2))]) (rest := [.int r]) C0 (c_X8_master hw) k_X8_master mw_479 ⟨rfl, rfl⟩ ⟨Nat.le_of_ble_eq_true rfl, Nat.le_of_ble_eq_true rfl⟩ hP hD rfl rfl hl rfl rfl (Nat.le_of_ble_eq_true rfl) dL_law_737 hf) hP hD hS hA (fun u => rfl) (fun r2 u2 H locs hw hP hD hS => ?_)
  refine lv_icmp_eq (tgt := 1962) hx hb dL_law_740 (by decide) (fun _ => ?_) (fun z => absurd hw.1.symm z)
  exact next _ _ _ _ _ _ _ _ _ _ ⟨hP, hD, hS, hw.2, hn, ⟨by omega, by omega⟩⟩
theorem lG_0_6 {R : va_W} : (bpl lLs [0, 6]).map (fun i => (bfl (lB K h hs as ax xs sh) ++ R)[i]?) = (wX7 K h (ax 0) hs (xs 0) ++ (wX3 K (ax 0 7) (ax 6) (xs 6))).map some :=
  (b_get lB_len [0, 6] (show ∀ j ∈ [0, 6], j < 12 by decide)).trans (congrArg (List.map some) (show wX7 K h (ax 0) hs (xs 0) ++ (wX3 K (ax 0 7) (ax 6) (xs 6) ++ (([] : va_W))) = wX7 K h (ax 0) hs (xs 0) ++ (wX3 K (ax 0 7) (ax 6) (xs 6)) by rw [List.append_nil]))
theorem lD_0_6 : va_nd (bpl lLs [0, 6]) = true := by decide +kernel
theorem lE_0_6_11 {R : va_W} {y0 : zS} {y1 : zS} : xset (bfl (lB K h hs as ax xs sh) ++ R) (bpl lLs [0, 6]) (wX7 K h (ax 0) hs y0 ++ (wX3 K (ax 0 7) (ax 6) y1)) = bfl (lB K h hs as ax (va_up (va_up xs 0 y0) 6 y1) sh) ++ R := by
  have q := b_set (R := R) [0, 6] [wX7 K h (ax 0) hs y0, wX3 K (ax 0 7) (ax 6) y1] (lB K h hs as ax xs sh) lB_len (show ∀ j ∈ [0, 6], j < 12 by decide) ⟨rfl, rfl, trivial⟩
  have q0 : bfl [wX7 K h (ax 0) hs y0, wX3 K (ax 0 7) (ax 6) y1] = wX7 K h (ax 0) hs y0 ++ (wX3 K (ax 0 7) (ax 6) y1) := by
    show wX7 K h (ax 0) hs y0 ++ (wX3 K (ax 0 7) (ax 6) y1 ++ (([] : va_W))) = _
    rw [List.append_nil]
  rw [q0] at q
  exact q
set_option maxHeartbeats 4000000 in
set_option maxRecDepth 100000 in
theorem lc_feed (C : lC p s mi meth c D K b L sc) (hl : lv_has ls 4 [(0, .ref b), (1, .ref h), (2, .ref g), (3, .int (nI i))]) (hi : i + 6 ≤ L) (St : lS s D K h hs as ax g ag la H locs cells slots xs sh m n ok ot i)
    (next : ∀ (H : Heap) (locs : List Loc) (cells slots : Nat) (xs sh : Nat → zS) (m : zS) (n : Nat → Option Nat) (ok ot : wO), lS s D K h hs as ax g ag la H locs cells slots xs sh m n ok ot (i + 6) → W p l e room_1 s mi #[Value.ref b] below meth c H locs cells slots Q (F0 mi 1962 ls [])) : W p l e room_1 s mi #[Value.ref b] below meth c H locs cells slots Q (F0 mi 745 ls []) := by
  obtain ⟨C0, hX, hbl, hL⟩ := id C
  obtain ⟨hx, hb, hr, hml, hown, hts, hlocks, hK, hT⟩ := id C0
  obtain ⟨hP, hD, hS, sim, hn, hc⟩ := St
  have hA : ∀ q : Nat, s.heap.size ≤ q → (fun q : Nat => s.heap.size ≤ q) q := fun _ z => z
  have hf : cells + 0 ≤ room_1.cells ∧ slots + 0 ≤ room_1.slots := ⟨by show cells ≤ 600000; omega, by show slots ≤ 7302250; omega⟩
  refine lv_aload_n hx hb dL_law_745 rfl (lv_at hl 1 rfl) ?_
  refine l_arg C hS hl hi 1 (by decide) rfl dL_law_746 dL_law_747 dL_law_748 dL_law_749 dL_law_750 ?_
  unfold lW at hP hD
  generalize hR : (wX8 K g ag n la m ++ ([] : va_W)) ++ (wOpt K ok ++ wOpt K ot) = R at hP hD
  refine xend_rw_i (wf := fun (u : (zS) × (zS)) => wX7 K h (ax 0) hs u.1 ++ (wX3 K (ax 0 7) (ax 6) u.2)) (xRunV (As := [.int (sc (i + 1))]) (rest := []) C0 (c_X7_feed (L_feed sim (sc (i + 1)))) k_X7_feed mw_489 ⟨rfl, rfl⟩ ⟨Nat.le_of_ble_eq_true rfl, Nat.le_of_ble_eq_true rfl⟩ hP hD (bpl lLs [0, 6]) lG_0_6 lD_0_6 rfl rfl hl rfl rfl (Nat.le_of_ble_eq_true rfl) dL_law_751 hf) hP hD hS hA (bpl lLs [0, 6]) lG_0_6 lD_0_6 (fun u => rfl) (fun r u H locs hw hP hD hS => ?_)
  rw [lE_0_6_11] at hP hD
  subst hR
  refine lv_aload_n hx hb dL_law_754 rfl (lv_at hl 2 rfl) ?_
  refine l_arg C hS hl hi 1 (by decide) rfl dL_law_755 dL_law_756 dL_law_757 dL_law_758 dL_law_759 ?_
  refine xend_rw_i_mid (wf := fun (u : zS) => wX8 K g ag n la u ++ ([] : va_W)) (xRunV_mid (As := [.int (sc (i + 1))]) (rest := [.int r]) C0 (c_X8_feed hw) k_X8_feed mw_498 ⟨rfl, rfl⟩ ⟨Nat.le_of_ble_eq_true rfl, Nat.le_of_ble_eq_true rfl⟩ hP hD rfl rfl hl rfl rfl (Nat.le_of_ble_eq_true rfl) dL_law_760 hf) hP hD hS hA (fun u => rfl) (fun r2 u2 H locs hw hP hD hS => ?_)
  refine lv_icmp_eq (tgt := 1962) hx hb dL_law_763 (by decide) (fun _ => ?_) (fun z => absurd hw.1.symm z)
  exact next _ _ _ _ _ _ _ _ _ _ ⟨hP, hD, hS, hw.2, hn, ⟨by omega, by omega⟩⟩
theorem lE_0_6_01 {R : va_W} {y1 : zS} : xset (bfl (lB K h hs as ax xs sh) ++ R) (bpl lLs [0, 6]) (wX7 K h (ax 0) hs (xs 0) ++ (wX3 K (ax 0 7) (ax 6) y1)) = bfl (lB K h hs as ax (va_up xs 6 y1) sh) ++ R := by
  have q := b_set (R := R) [0, 6] [wX7 K h (ax 0) hs (xs 0), wX3 K (ax 0 7) (ax 6) y1] (lB K h hs as ax xs sh) lB_len (show ∀ j ∈ [0, 6], j < 12 by decide) ⟨rfl, rfl, trivial⟩
  have q0 : bfl [wX7 K h (ax 0) hs (xs 0), wX3 K (ax 0 7) (ax 6) y1] = wX7 K h (ax 0) hs (xs 0) ++ (wX3 K (ax 0 7) (ax 6) y1) := by
    show wX7 K h (ax 0) hs (xs 0) ++ (wX3 K (ax 0 7) (ax 6) y1 ++ (([] : va_W))) = _
    rw [List.append_nil]
  rw [q0] at q
  exact q
set_option maxHeartbeats 4000000 in
set_option maxRecDepth 100000 in
theorem lc_wipe (C : lC p s mi meth c D K b L sc) (hl : lv_has ls 4 [(0, .ref b), (1, .ref h), (2, .ref g), (3, .int (nI i))]) (hi : i + 6 ≤ L) (St : lS s D K h hs as ax g ag la H locs cells slots xs sh m n ok ot i)
    (next : ∀ (H : Heap) (locs : List Loc) (cells slots : Nat) (xs sh : Nat → zS) (m : zS) (n : Nat → Option Nat) (ok ot : wO), lS s D K h hs as ax g ag la H locs cells slots xs sh m n ok ot (i + 6) → W p l e room_1 s mi #[Value.ref b] below meth c H locs cells slots Q (F0 mi 1962 ls [])) : W p l e room_1 s mi #[Value.ref b] below meth c H locs cells slots Q (F0 mi 768 ls []) := by
  obtain ⟨C0, hX, hbl, hL⟩ := id C
  obtain ⟨hx, hb, hr, hml, hown, hts, hlocks, hK, hT⟩ := id C0
  obtain ⟨hP, hD, hS, sim, hn, hc⟩ := St
  have hA : ∀ q : Nat, s.heap.size ≤ q → (fun q : Nat => s.heap.size ≤ q) q := fun _ z => z
  have hf : cells + 0 ≤ room_1.cells ∧ slots + 0 ≤ room_1.slots := ⟨by show cells ≤ 600000; omega, by show slots ≤ 7302250; omega⟩
  refine lv_aload_n hx hb dL_law_768 rfl (lv_at hl 1 rfl) ?_
  unfold lW at hP hD
  generalize hR : (wX8 K g ag n la m ++ ([] : va_W)) ++ (wOpt K ok ++ wOpt K ot) = R at hP hD
  refine xend_rw_i (wf := fun (u : (zS)) => wX7 K h (ax 0) hs (xs 0) ++ (wX3 K (ax 0 7) (ax 6) u)) (xRunV (As := []) (rest := []) C0 (c_X7_wipe (L_wipe sim )) k_X7_wipe mw_504 ⟨rfl, rfl⟩ ⟨Nat.le_of_ble_eq_true rfl, Nat.le_of_ble_eq_true rfl⟩ hP hD (bpl lLs [0, 6]) lG_0_6 lD_0_6 rfl rfl hl rfl rfl (Nat.le_of_ble_eq_true rfl) dL_law_769 hf) hP hD hS hA (bpl lLs [0, 6]) lG_0_6 lD_0_6 (fun u => rfl) (fun r u H locs hw hP hD hS => ?_)
  rw [lE_0_6_01] at hP hD
  subst hR
  refine lv_aload_n hx hb dL_law_772 rfl (lv_at hl 2 rfl) ?_
  refine xend_rw_i_mid (wf := fun (u : zS) => wX8 K g ag n la u ++ ([] : va_W)) (xRunV_mid (As := []) (rest := [.int r]) C0 (c_X8_wipe hw) k_X8_wipe mw_508 ⟨rfl, rfl⟩ ⟨Nat.le_of_ble_eq_true rfl, Nat.le_of_ble_eq_true rfl⟩ hP hD rfl rfl hl rfl rfl (Nat.le_of_ble_eq_true rfl) dL_law_773 hf) hP hD hS hA (fun u => rfl) (fun r2 u2 H locs hw hP hD hS => ?_)
  refine lv_icmp_eq (tgt := 1962) hx hb dL_law_776 (by decide) (fun _ => ?_) (fun z => absurd hw.1.symm z)
  exact next _ _ _ _ _ _ _ _ _ _ ⟨hP, hD, hS, hw.2, hn, ⟨by omega, by omega⟩⟩
theorem lE_0_1_10 {R : va_W} {y0 : zS} : xset (bfl (lB K h hs as ax xs sh) ++ R) (bpl lLs [0, 1]) (wX7 K h (ax 0) hs y0 ++ (wX1 K (ax 0 0) (ax 1) (xs 1))) = bfl (lB K h hs as ax (va_up xs 0 y0) sh) ++ R := by
  have q := b_set (R := R) [0, 1] [wX7 K h (ax 0) hs y0, wX1 K (ax 0 0) (ax 1) (xs 1)] (lB K h hs as ax xs sh) lB_len (show ∀ j ∈ [0, 1], j < 12 by decide) ⟨rfl, rfl, trivial⟩
  have q0 : bfl [wX7 K h (ax 0) hs y0, wX1 K (ax 0 0) (ax 1) (xs 1)] = wX7 K h (ax 0) hs y0 ++ (wX1 K (ax 0 0) (ax 1) (xs 1)) := by
    show wX7 K h (ax 0) hs y0 ++ (wX1 K (ax 0 0) (ax 1) (xs 1) ++ (([] : va_W))) = _
    rw [List.append_nil]
  rw [q0] at q
  exact q
set_option maxHeartbeats 4000000 in
set_option maxRecDepth 100000 in
theorem lc_pupilOf (C : lC p s mi meth c D K b L sc) (hl : lv_has ls 4 [(0, .ref b), (1, .ref h), (2, .ref g), (3, .int (nI i))]) (hi : i + 6 ≤ L) (St : lS s D K h hs as ax g ag la H locs cells slots xs sh m n ok ot i)
    (next : ∀ (H : Heap) (locs : List Loc) (cells slots : Nat) (xs sh : Nat → zS) (m : zS) (n : Nat → Option Nat) (ok ot : wO), lS s D K h hs as ax g ag la H locs cells slots xs sh m n ok ot (i + 6) → W p l e room_1 s mi #[Value.ref b] below meth c H locs cells slots Q (F0 mi 1962 ls [])) : W p l e room_1 s mi #[Value.ref b] below meth c H locs cells slots Q (F0 mi 794 ls []) := by
  obtain ⟨C0, hX, hbl, hL⟩ := id C
  obtain ⟨hx, hb, hr, hml, hown, hts, hlocks, hK, hT⟩ := id C0
  obtain ⟨hP, hD, hS, sim, hn, hc⟩ := St
  have hA : ∀ q : Nat, s.heap.size ≤ q → (fun q : Nat => s.heap.size ≤ q) q := fun _ z => z
  have hf : cells + 0 ≤ room_1.cells ∧ slots + 0 ≤ room_1.slots := ⟨by show cells ≤ 600000; omega, by show slots ≤ 7302250; omega⟩
  refine lv_aload_n hx hb dL_law_794 rfl (lv_at hl 1 rfl) ?_
  refine l_arg C hS hl hi 1 (by decide) rfl dL_law_795 dL_law_796 dL_law_797 dL_law_798 dL_law_799 ?_
  refine l_arg C hS hl hi 2 (by decide) rfl dL_law_800 dL_law_801 dL_law_802 dL_law_803 dL_law_804 ?_
  unfold lW at hP hD
  generalize hR : (wX8 K g ag n la m ++ ([] : va_W)) ++ (wOpt K ok ++ wOpt K ot) = R at hP hD
  refine xend_rw_i (wf := fun (u : (zS)) => wX7 K h (ax 0) hs u ++ (wX1 K (ax 0 0) (ax 1) (xs 1))) (xRunV (As := [.int (sc (i + 1)), .int (sc (i + 2))]) (rest := []) C0 (c_X7_pupilOf (L_pupilOf sim (sc (i + 1)) (sc (i + 2)))) k_X7_pupilOf mw_703 ⟨rfl, rfl⟩ ⟨Nat.le_of_ble_eq_true rfl, Nat.le_of_ble_eq_true rfl⟩ hP hD (bpl lLs [0, 1]) lG_0_1 lD_0_1 rfl rfl hl rfl rfl (Nat.le_of_ble_eq_true rfl) dL_law_805 hf) hP hD hS hA (bpl lLs [0, 1]) lG_0_1 lD_0_1 (fun u => rfl) (fun r u H locs hw hP hD hS => ?_)
  rw [lE_0_1_10] at hP hD
  subst hR
  refine lv_aload_n hx hb dL_law_808 rfl (lv_at hl 2 rfl) ?_
  refine l_arg C hS hl hi 1 (by decide) rfl dL_law_809 dL_law_810 dL_law_811 dL_law_812 dL_law_813 ?_
  refine l_arg C hS hl hi 2 (by decide) rfl dL_law_814 dL_law_815 dL_law_816 dL_law_817 dL_law_818 ?_
  refine xend_rw_i_mid (wf := fun (u : zS) => wX8 K g ag n la u ++ ([] : va_W)) (xRunV_mid (As := [.int (sc (i + 1)), .int (sc (i + 2))]) (rest := [.int r]) C0 (c_X8_pupilOf hw) k_X8_pupilOf mw_709 ⟨rfl, rfl⟩ ⟨Nat.le_of_ble_eq_true rfl, Nat.le_of_ble_eq_true rfl⟩ hP hD rfl rfl hl rfl rfl (Nat.le_of_ble_eq_true rfl) dL_law_819 hf) hP hD hS hA (fun u => rfl) (fun r2 u2 H locs hw hP hD hS => ?_)
  refine lv_icmp_eq (tgt := 1962) hx hb dL_law_822 (by decide) (fun _ => ?_) (fun z => absurd hw.1.symm z)
  exact next _ _ _ _ _ _ _ _ _ _ ⟨hP, hD, hS, hw.2, hn, ⟨by omega, by omega⟩⟩
end LAWTA
