/-! turns of the law -/
section LAWTS
variable {p : Program} {l : Launch} {e : Env} {s : State} {mi : MethodId} {below : List Frame} {meth : Method} {c : Code} {H : Heap} {locs : List Loc} {cells slots : Nat} {Q : State → Prop}
variable {D : va_G} {K : Nat → ClassId} {h : Nat} {hs : Nat → Nat} {as ax : Nat → Nat → Nat} {g : Nat} {ag la : Nat → Nat} {b L : Nat} {sc : Nat → Int32} {ls : Array Slot} {i : Nat} {pc : Nat} {st : List Value}
variable {xs sh : Nat → zS} {m : zS} {n : Nat → Option Nat} {ok ot : wO}
set_option maxHeartbeats 4000000 in
set_option maxRecDepth 100000 in
theorem lc_set (C : lC p s mi meth c D K b L sc) (hl : lv_has ls 4 [(0, .ref b), (1, .ref h), (2, .ref g), (3, .int (nI i))]) (hi : i + 6 ≤ L) (St : lS s D K h hs as ax g ag la H locs cells slots xs sh m n ok ot i)
    (next : ∀ (H : Heap) (locs : List Loc) (cells slots : Nat) (xs sh : Nat → zS) (m : zS) (n : Nat → Option Nat) (ok ot : wO), lS s D K h hs as ax g ag la H locs cells slots xs sh m n ok ot (i + 6) → W p l e room_1 s mi #[Value.ref b] below meth c H locs cells slots Q (F0 mi 1962 ls [])) : W p l e room_1 s mi #[Value.ref b] below meth c H locs cells slots Q (F0 mi 295 ls []) := by
  obtain ⟨C0, hX, hbl, hL⟩ := id C
  obtain ⟨hx, hb, hr, hml, hown, hts, hlocks, hK, hT⟩ := id C0
  obtain ⟨hP, hD, hS, sim, hn, hc⟩ := St
  have hA : ∀ q : Nat, s.heap.size ≤ q → (fun q : Nat => s.heap.size ≤ q) q := fun _ z => z
  have hf : cells + 0 ≤ room_1.cells ∧ slots + 0 ≤ room_1.slots := ⟨by show cells ≤ 600000; omega, by show slots ≤ 7302250; omega⟩
  refine lv_aload_n hx hb dL_law_295 rfl (lv_at hl 1 rfl) ?_
  refine l_arg C hS hl hi 1 (by decide) rfl dL_law_296 dL_law_297 dL_law_298 dL_law_299 dL_law_300 ?_
  refine l_arg C hS hl hi 2 (by decide) rfl dL_law_301 dL_law_302 dL_law_303 dL_law_304 dL_law_305 ?_
  refine l_arg C hS hl hi 3 (by decide) rfl dL_law_306 dL_law_307 dL_law_308 dL_law_309 dL_law_310 ?_
  refine lv_i2l hx hb dL_law_311 rfl ?_
  refine lv_bipush (v := 32) hx hb dL_law_312 (by decide) ?_
  refine lv_lshl hx hb dL_law_314 rfl ?_
  refine l_arg C hS hl hi 4 (by decide) rfl dL_law_315 dL_law_316 dL_law_317 dL_law_318 dL_law_319 ?_
  refine lv_i2l hx hb dL_law_320 rfl ?_
  refine lv_ldc2 hx hb hown (hts _ mw_6) dL_law_321 ?_
  refine lv_land hx hb dL_law_324 ?_
  refine lv_lor hx hb dL_law_325 ?_
  unfold lW at hP hD
  generalize hR : (wX8 K g ag n la m ++ ([] : va_W)) ++ (wOpt K ok ++ wOpt K ot) = R at hP hD
  refine xend_rw_i (wf := fun (u : (zS) × (Nat → zS)) => wX7 K h (ax 0) hs u.1 ++ (wPl K hs as u.2 ++ (([] : va_W)))) (xRunV (As := [.int (sc (i + 1)), .int (sc (i + 2)), .long (((sc (i + 3)).toInt64 <<< ((32 : Int32).toInt64 &&& 63)) ||| ((sc (i + 4)).toInt64 &&& (4294967295 : Int64)))]) (rest := []) C0 (c_X7_set (L_set sim ((sc (i + 1))) ((sc (i + 2))) ((((sc (i + 3)).toInt64 <<< ((32 : Int32).toInt64 &&& 63)) ||| ((sc (i + 4)).toInt64 &&& (4294967295 : Int64)))))) k_X7_set mw_169 ⟨rfl, rfl⟩ ⟨Nat.le_of_ble_eq_true rfl, Nat.le_of_ble_eq_true rfl⟩ hP hD (bpl lLs [0, 11]) lG_0_11 lD_0_11 rfl rfl hl rfl rfl (Nat.le_of_ble_eq_true rfl) dL_law_326 hf) hP hD hS hA (bpl lLs [0, 11]) lG_0_11 lD_0_11 (fun u => rfl) (fun r u H locs hw hP hD hS => ?_)
  rw [lE_0_11_11] at hP hD
  subst hR
  refine lv_aload_n hx hb dL_law_329 rfl (lv_at hl 2 rfl) ?_
  refine l_arg C hS hl hi 1 (by decide) rfl dL_law_330 dL_law_331 dL_law_332 dL_law_333 dL_law_334 ?_
  refine l_arg C hS hl hi 2 (by decide) rfl dL_law_335 dL_law_336 dL_law_337 dL_law_338 dL_law_339 ?_
  refine l_arg C hS hl hi 3 (by decide) rfl dL_law_340 dL_law_341 dL_law_342 dL_law_343 dL_law_344 ?_
  refine lv_i2l hx hb dL_law_345 rfl ?_
  refine lv_bipush (v := 32) hx hb dL_law_346 (by decide) ?_
  refine lv_lshl hx hb dL_law_348 rfl ?_
  refine l_arg C hS hl hi 4 (by decide) rfl dL_law_349 dL_law_350 dL_law_351 dL_law_352 dL_law_353 ?_
  refine lv_i2l hx hb dL_law_354 rfl ?_
  refine lv_ldc2 hx hb hown (hts _ mw_6) dL_law_355 ?_
  refine lv_land hx hb dL_law_358 ?_
  refine lv_lor hx hb dL_law_359 ?_
  refine xend_rw_i_mid (wf := fun (u : zS) => wX8 K g ag n la u ++ ([] : va_W)) (xRunV_mid (As := [.int (sc (i + 1)), .int (sc (i + 2)), .long (((sc (i + 3)).toInt64 <<< ((32 : Int32).toInt64 &&& 63)) ||| ((sc (i + 4)).toInt64 &&& (4294967295 : Int64)))]) (rest := [.int r]) C0 (c_X8_set hw) k_X8_set mw_198 ⟨rfl, rfl⟩ ⟨Nat.le_of_ble_eq_true rfl, Nat.le_of_ble_eq_true rfl⟩ hP hD rfl rfl hl rfl rfl (Nat.le_of_ble_eq_true rfl) dL_law_360 hf) hP hD hS hA (fun u => rfl) (fun r2 u2 H locs hw hP hD hS => ?_)
  refine lv_icmp_eq (tgt := 1962) hx hb dL_law_363 (by decide) (fun _ => ?_) (fun z => absurd hw.1.symm z)
  exact next _ _ _ _ _ _ _ _ _ _ ⟨hP, hD, hS, hw.2, hn, ⟨by omega, by omega⟩⟩
set_option maxHeartbeats 4000000 in
set_option maxRecDepth 100000 in
theorem lc_element (C : lC p s mi meth c D K b L sc) (hl : lv_has ls 4 [(0, .ref b), (1, .ref h), (2, .ref g), (3, .int (nI i))]) (hi : i + 6 ≤ L) (St : lS s D K h hs as ax g ag la H locs cells slots xs sh m n ok ot i)
    (next : ∀ (H : Heap) (locs : List Loc) (cells slots : Nat) (xs sh : Nat → zS) (m : zS) (n : Nat → Option Nat) (ok ot : wO), lS s D K h hs as ax g ag la H locs cells slots xs sh m n ok ot (i + 6) → W p l e room_1 s mi #[Value.ref b] below meth c H locs cells slots Q (F0 mi 1962 ls [])) : W p l e room_1 s mi #[Value.ref b] below meth c H locs cells slots Q (F0 mi 431 ls []) := by
  obtain ⟨C0, hX, hbl, hL⟩ := id C
  obtain ⟨hx, hb, hr, hml, hown, hts, hlocks, hK, hT⟩ := id C0
  obtain ⟨hP, hD, hS, sim, hn, hc⟩ := St
  have hA : ∀ q : Nat, s.heap.size ≤ q → (fun q : Nat => s.heap.size ≤ q) q := fun _ z => z
  have hf : cells + 0 ≤ room_1.cells ∧ slots + 0 ≤ room_1.slots := ⟨by show cells ≤ 600000; omega, by show slots ≤ 7302250; omega⟩
  refine lv_aload_n hx hb dL_law_431 rfl (lv_at hl 1 rfl) ?_
  refine l_arg C hS hl hi 1 (by decide) rfl dL_law_432 dL_law_433 dL_law_434 dL_law_435 dL_law_436 ?_
  refine l_arg C hS hl hi 2 (by decide) rfl dL_law_437 dL_law_438 dL_law_439 dL_law_440 dL_law_441 ?_
  unfold lW at hP hD
  generalize hR : (wX8 K g ag n la m ++ ([] : va_W)) ++ (wOpt K ok ++ wOpt K ot) = R at hP hD
  refine xend_ro_l (xRunV (As := [.int (sc (i + 1)), .int (sc (i + 2))]) (rest := []) C0 (c_X7_element (L_element sim ((sc (i + 1))) ((sc (i + 2))))) k_X7_element mw_226 ⟨rfl, rfl⟩ ⟨Nat.le_of_ble_eq_true rfl, Nat.le_of_ble_eq_true rfl⟩ hP hD (bpl lLs [0, 11]) lG_0_11 lD_0_11 rfl rfl hl rfl rfl (Nat.le_of_ble_eq_true rfl) dL_law_442 hf) (fun r hw => ?_)
  subst hR
  refine lv_aload_n hx hb dL_law_445 rfl (lv_at hl 2 rfl) ?_
  refine l_arg C hS hl hi 1 (by decide) rfl dL_law_446 dL_law_447 dL_law_448 dL_law_449 dL_law_450 ?_
  refine l_arg C hS hl hi 2 (by decide) rfl dL_law_451 dL_law_452 dL_law_453 dL_law_454 dL_law_455 ?_
  refine xend_ro_l (xRunV_mid (As := [.int (sc (i + 1)), .int (sc (i + 2))]) (rest := [.long r]) C0 (c_X8_element hw) k_X8_element mw_234 ⟨rfl, rfl⟩ ⟨Nat.le_of_ble_eq_true rfl, Nat.le_of_ble_eq_true rfl⟩ hP hD rfl rfl hl rfl rfl (Nat.le_of_ble_eq_true rfl) dL_law_456 hf) (fun r2 hw => ?_)
  refine W.lcmp hx hb dL_law_459 ?_
  refine lv_if_eq (tgt := 1962) hx hb dL_law_460 (by decide) (fun _ => ?_) (fun z => absurd ((q_lcmp0 _ _).mpr hw.symm) z)
  exact next _ _ _ _ _ _ _ _ _ _ ⟨hP, hD, hS, sim, hn, ⟨by omega, by omega⟩⟩
set_option maxHeartbeats 4000000 in
set_option maxRecDepth 100000 in
theorem lc_bar0 (C : lC p s mi meth c D K b L sc) (hl : lv_has ls 4 [(0, .ref b), (1, .ref h), (2, .ref g), (3, .int (nI i))]) (hi : i + 6 ≤ L) (cz : sc (i + 3) = 0) (St : lS s D K h hs as ax g ag la H locs cells slots xs sh m n ok ot i)
    (next : ∀ (H : Heap) (locs : List Loc) (cells slots : Nat) (xs sh : Nat → zS) (m : zS) (n : Nat → Option Nat) (ok ot : wO), lS s D K h hs as ax g ag la H locs cells slots xs sh m n ok ot (i + 6) → W p l e room_1 s mi #[Value.ref b] below meth c H locs cells slots Q (F0 mi 1962 ls [])) : W p l e room_1 s mi #[Value.ref b] below meth c H locs cells slots Q (F0 mi 620 ls []) := by
  obtain ⟨C0, hX, hbl, hL⟩ := id C
  obtain ⟨hx, hb, hr, hml, hown, hts, hlocks, hK, hT⟩ := id C0
  obtain ⟨hP, hD, hS, sim, hn, hc⟩ := St
  have hA : ∀ q : Nat, s.heap.size ≤ q → (fun q : Nat => s.heap.size ≤ q) q := fun _ z => z
  have hf : cells + 0 ≤ room_1.cells ∧ slots + 0 ≤ room_1.slots := ⟨by show cells ≤ 600000; omega, by show slots ≤ 7302250; omega⟩
  refine lv_aload_n hx hb dL_law_620 rfl (lv_at hl 1 rfl) ?_
  refine l_arg C hS hl hi 1 (by decide) rfl dL_law_621 dL_law_622 dL_law_623 dL_law_624 dL_law_625 ?_
  refine l_arg C hS hl hi 2 (by decide) rfl dL_law_626 dL_law_627 dL_law_628 dL_law_629 dL_law_630 ?_
  refine l_arg C hS hl hi 3 (by decide) rfl dL_law_631 dL_law_632 dL_law_633 dL_law_634 dL_law_635 ?_
  refine lv_if_eq (tgt := 643) hx hb dL_law_636 (by decide) (fun _ => ?_) (fun z => absurd cz z)
  refine lv_iconst (v := 0) hx hb dL_law_643 rfl ?_
  unfold lW at hP hD
  generalize hR : (wX8 K g ag n la m ++ ([] : va_W)) ++ (wOpt K ok ++ wOpt K ot) = R at hP hD
  refine xend_rw_i (wf := fun (u : (zS) × (zS)) => wX7 K h (ax 0) hs u.1 ++ (wX1 K (ax 0 0) (ax 1) u.2)) (xRunV (As := [.int (sc (i + 1)), .int (sc (i + 2)), .int (qz false)]) (rest := []) C0 (c_X7_bar (L_bar sim ((sc (i + 1))) ((sc (i + 2))) false)) k_X7_bar mw_425 ⟨rfl, rfl⟩ ⟨Nat.le_of_ble_eq_true rfl, Nat.le_of_ble_eq_true rfl⟩ hP hD (bpl lLs [0, 1]) lG_0_1 lD_0_1 rfl rfl hl rfl rfl (Nat.le_of_ble_eq_true rfl) dL_law_644 hf) hP hD hS hA (bpl lLs [0, 1]) lG_0_1 lD_0_1 (fun u => rfl) (fun r u H locs hw hP hD hS => ?_)
  rw [lE_0_1_11] at hP hD
  subst hR
  refine lv_aload_n hx hb dL_law_647 rfl (lv_at hl 2 rfl) ?_
  refine l_arg C hS hl hi 1 (by decide) rfl dL_law_648 dL_law_649 dL_law_650 dL_law_651 dL_law_652 ?_
  refine l_arg C hS hl hi 2 (by decide) rfl dL_law_653 dL_law_654 dL_law_655 dL_law_656 dL_law_657 ?_
  refine l_arg C hS hl hi 3 (by decide) rfl dL_law_658 dL_law_659 dL_law_660 dL_law_661 dL_law_662 ?_
  refine lv_if_eq (tgt := 670) hx hb dL_law_663 (by decide) (fun _ => ?_) (fun z => absurd cz z)
  refine lv_iconst (v := 0) hx hb dL_law_670 rfl ?_
  refine xend_rw_i_mid (wf := fun (u : zS) => wX8 K g ag n la u ++ ([] : va_W)) (xRunV_mid (As := [.int (sc (i + 1)), .int (sc (i + 2)), .int (qz false)]) (rest := [.int r]) C0 (c_X8_bar hw) k_X8_bar mw_445 ⟨rfl, rfl⟩ ⟨Nat.le_of_ble_eq_true rfl, Nat.le_of_ble_eq_true rfl⟩ hP hD rfl rfl hl rfl rfl (Nat.le_of_ble_eq_true rfl) dL_law_671 hf) hP hD hS hA (fun u => rfl) (fun r2 u2 H locs hw hP hD hS => ?_)
  refine lv_icmp_eq (tgt := 1962) hx hb dL_law_674 (by decide) (fun _ => ?_) (fun z => absurd hw.1.symm z)
  exact next _ _ _ _ _ _ _ _ _ _ ⟨hP, hD, hS, hw.2, hn, ⟨by omega, by omega⟩⟩
set_option maxHeartbeats 4000000 in
set_option maxRecDepth 100000 in
theorem lc_bar1 (C : lC p s mi meth c D K b L sc) (hl : lv_has ls 4 [(0, .ref b), (1, .ref h), (2, .ref g), (3, .int (nI i))]) (hi : i + 6 ≤ L) (cz : ¬ sc (i + 3) = 0) (St : lS s D K h hs as ax g ag la H locs cells slots xs sh m n ok ot i)
    (next : ∀ (H : Heap) (locs : List Loc) (cells slots : Nat) (xs sh : Nat → zS) (m : zS) (n : Nat → Option Nat) (ok ot : wO), lS s D K h hs as ax g ag la H locs cells slots xs sh m n ok ot (i + 6) → W p l e room_1 s mi #[Value.ref b] below meth c H locs cells slots Q (F0 mi 1962 ls [])) : W p l e room_1 s mi #[Value.ref b] below meth c H locs cells slots Q (F0 mi 620 ls []) := by
  obtain ⟨C0, hX, hbl, hL⟩ := id C
  obtain ⟨hx, hb, hr, hml, hown, hts, hlocks, hK, hT⟩ := id C0
  obtain ⟨hP, hD, hS, sim, hn, hc⟩ := St
  have hA : ∀ q : Nat, s.heap.size ≤ q → (fun q : Nat => s.heap.size ≤ q) q := fun _ z => z
  have hf : cells + 0 ≤ room_1.cells ∧ slots + 0 ≤ room_1.slots := ⟨by show cells ≤ 600000; omega, by show slots ≤ 7302250; omega⟩
  refine lv_aload_n hx hb dL_law_620 rfl (lv_at hl 1 rfl) ?_
  refine l_arg C hS hl hi 1 (by decide) rfl dL_law_621 dL_law_622 dL_law_623 dL_law_624 dL_law_625 ?_
  refine l_arg C hS hl hi 2 (by decide) rfl dL_law_626 dL_law_627 dL_law_628 dL_law_629 dL_law_630 ?_
  refine l_arg C hS hl hi 3 (by decide) rfl dL_law_631 dL_law_632 dL_law_633 dL_law_634 dL_law_635 ?_
  refine lv_if_eq (tgt := 643) hx hb dL_law_636 (by decide) (fun z => absurd z cz) (fun _ => ?_)
  refine lv_iconst (v := 1) hx hb dL_law_639 rfl ?_
  refine lv_goto (tgt := 644) hx hb dL_law_640 (by decide) ?_
  unfold lW at hP hD
  generalize hR : (wX8 K g ag n la m ++ ([] : va_W)) ++ (wOpt K ok ++ wOpt K ot) = R at hP hD
  refine xend_rw_i (wf := fun (u : (zS) × (zS)) => wX7 K h (ax 0) hs u.1 ++ (wX1 K (ax 0 0) (ax 1) u.2)) (xRunV (As := [.int (sc (i + 1)), .int (sc (i + 2)), .int (qz true)]) (rest := []) C0 (c_X7_bar (L_bar sim ((sc (i + 1))) ((sc (i + 2))) true)) k_X7_bar mw_425 ⟨rfl, rfl⟩ ⟨Nat.le_of_ble_eq_true rfl, Nat.le_of_ble_eq_true rfl⟩ hP hD (bpl lLs [0, 1]) lG_0_1 lD_0_1 rfl rfl hl rfl rfl (Nat.le_of_ble_eq_true rfl) dL_law_644 hf) hP hD hS hA (bpl lLs [0, 1]) lG_0_1 lD_0_1 (fun u => rfl) (fun r u H locs hw hP hD hS => ?_)
  rw [lE_0_1_11] at hP hD
  subst hR
  refine lv_aload_n hx hb dL_law_647 rfl (lv_at hl 2 rfl) ?_
  refine l_arg C hS hl hi 1 (by decide) rfl dL_law_648 dL_law_649 dL_law_650 dL_law_651 dL_law_652 ?_
  refine l_arg C hS hl hi 2 (by decide) rfl dL_law_653 dL_law_654 dL_law_655 dL_law_656 dL_law_657 ?_
  refine l_arg C hS hl hi 3 (by decide) rfl dL_law_658 dL_law_659 dL_law_660 dL_law_661 dL_law_662 ?_
  refine lv_if_eq (tgt := 670) hx hb dL_law_663 (by decide) (fun z => absurd z cz) (fun _ => ?_)
  refine lv_iconst (v := 1) hx hb dL_law_666 rfl ?_
  refine lv_goto (tgt := 671) hx hb dL_law_667 (by decide) ?_
  refine xend_rw_i_mid (wf := fun (u : zS) => wX8 K g ag n la u ++ ([] : va_W)) (xRunV_mid (As := [.int (sc (i + 1)), .int (sc (i + 2)), .int (qz true)]) (rest := [.int r]) C0 (c_X8_bar hw) k_X8_bar mw_445 ⟨rfl, rfl⟩ ⟨Nat.le_of_ble_eq_true rfl, Nat.le_of_ble_eq_true rfl⟩ hP hD rfl rfl hl rfl rfl (Nat.le_of_ble_eq_true rfl) dL_law_671 hf) hP hD hS hA (fun u => rfl) (fun r2 u2 H locs hw hP hD hS => ?_)
  refine lv_icmp_eq (tgt := 1962) hx hb dL_law_674 (by decide) (fun _ => ?_) (fun z => absurd hw.1.symm z)
  exact next _ _ _ _ _ _ _ _ _ _ ⟨hP, hD, hS, hw.2, hn, ⟨by omega, by omega⟩⟩
end LAWTS
