/-! turns of the law -/
section LAWTC
variable {p : Program} {l : Launch} {e : Env} {s : State} {mi : MethodId} {below : List Frame} {meth : Method} {c : Code} {H : Heap} {locs : List Loc} {cells slots : Nat} {Q : State → Prop}
variable {D : va_G} {K : Nat → ClassId} {h : Nat} {hs : Nat → Nat} {as ax : Nat → Nat → Nat} {g : Nat} {ag la : Nat → Nat} {b L : Nat} {sc : Nat → Int32} {ls : Array Slot} {i : Nat} {pc : Nat} {st : List Value}
variable {xs sh : Nat → zS} {m : zS} {n : Nat → Option Nat} {ok ot : wO}
set_option maxHeartbeats 4000000 in
set_option maxRecDepth 100000 in
theorem lc_edges (C : lC p s mi meth c D K b L sc) (hl : lv_has ls 4 [(0, .ref b), (1, .ref h), (2, .ref g), (3, .int (nI i))]) (hi : i + 6 ≤ L) (St : lS s D K h hs as ax g ag la H locs cells slots xs sh m n ok ot i)
    (next : ∀ (H : Heap) (locs : List Loc) (cells slots : Nat) (xs sh : Nat → zS) (m : zS) (n : Nat → Option Nat) (ok ot : wO), lS s D K h hs as ax g ag la H locs cells slots xs sh m n ok ot (i + 6) → W p l e room_1 s mi #[Value.ref b] below meth c H locs cells slots Q (F0 mi 1962 ls [])) : W p l e room_1 s mi #[Value.ref b] below meth c H locs cells slots Q (F0 mi 1293 ls []) := by
  obtain ⟨C0, hX, hbl, hL⟩ := id C
  obtain ⟨hx, hb, hr, hml, hown, hts, hlocks, hK, hT⟩ := id C0
  obtain ⟨hP, hD, hS, sim, hn, hc⟩ := St
  have hA : ∀ q : Nat, s.heap.size ≤ q → (fun q : Nat => s.heap.size ≤ q) q := fun _ z => z
  have hf : cells + 0 ≤ room_1.cells ∧ slots + 0 ≤ room_1.slots := ⟨by show cells ≤ 600000; omega, by show slots ≤ 7302250; omega⟩
  refine lv_aload_n hx hb dL_law_1293 rfl (lv_at hl 1 rfl) ?_
  unfold lW at hP hD
  generalize hR : (wX8 K g ag n la m ++ ([] : va_W)) ++ (wOpt K ok ++ wOpt K ot) = R at hP hD
  refine xend_ro_i (xRunV (As := []) (rest := []) C0 (c_X7_edges (L_edges sim )) k_X7_edges mw_959 ⟨rfl, rfl⟩ ⟨Nat.le_of_ble_eq_true rfl, Nat.le_of_ble_eq_true rfl⟩ hP hD (bpl lLs [0, 1]) lG_0_1 lD_0_1 rfl rfl hl rfl rfl (Nat.le_of_ble_eq_true rfl) dL_law_1294 hf) (fun r hw => ?_)
  subst hR
  refine lv_aload_n hx hb dL_law_1297 rfl (lv_at hl 2 rfl) ?_
  refine xend_ro_i (xRunV_mid (As := []) (rest := [.int r]) C0 (c_X8_edges hw) k_X8_edges mw_963 ⟨rfl, rfl⟩ ⟨Nat.le_of_ble_eq_true rfl, Nat.le_of_ble_eq_true rfl⟩ hP hD rfl rfl hl rfl rfl (Nat.le_of_ble_eq_true rfl) dL_law_1298 hf) (fun r2 hw => ?_)
  refine lv_icmp_eq (tgt := 1962) hx hb dL_law_1301 (by decide) (fun _ => ?_) (fun z => absurd hw.symm z)
  exact next _ _ _ _ _ _ _ _ _ _ ⟨hP, hD, hS, sim, hn, ⟨by omega, by omega⟩⟩
set_option maxHeartbeats 4000000 in
set_option maxRecDepth 100000 in
theorem lc_lonely (C : lC p s mi meth c D K b L sc) (hl : lv_has ls 4 [(0, .ref b), (1, .ref h), (2, .ref g), (3, .int (nI i))]) (hi : i + 6 ≤ L) (St : lS s D K h hs as ax g ag la H locs cells slots xs sh m n ok ot i)
    (next : ∀ (H : Heap) (locs : List Loc) (cells slots : Nat) (xs sh : Nat → zS) (m : zS) (n : Nat → Option Nat) (ok ot : wO), lS s D K h hs as ax g ag la H locs cells slots xs sh m n ok ot (i + 6) → W p l e room_1 s mi #[Value.ref b] below meth c H locs cells slots Q (F0 mi 1962 ls [])) : W p l e room_1 s mi #[Value.ref b] below meth c H locs cells slots Q (F0 mi 1306 ls []) := by
  obtain ⟨C0, hX, hbl, hL⟩ := id C
  obtain ⟨hx, hb, hr, hml, hown, hts, hlocks, hK, hT⟩ := id C0
  obtain ⟨hP, hD, hS, sim, hn, hc⟩ := St
  have hA : ∀ q : Nat, s.heap.size ≤ q → (fun q : Nat => s.heap.size ≤ q) q := fun _ z => z
  have hf : cells + 0 ≤ room_1.cells ∧ slots + 0 ≤ room_1.slots := ⟨by show cells ≤ 600000; omega, by show slots ≤ 7302250; omega⟩
  refine lv_aload_n hx hb dL_law_1306 rfl (lv_at hl 1 rfl) ?_
  unfold lW at hP hD
  generalize hR : (wX8 K g ag n la m ++ ([] : va_W)) ++ (wOpt K ok ++ wOpt K ot) = R at hP hD
  refine xend_ro_i (xRunV (As := []) (rest := []) C0 (c_X7_lonely (L_lonely sim )) k_X7_lonely mw_967 ⟨rfl, rfl⟩ ⟨Nat.le_of_ble_eq_true rfl, Nat.le_of_ble_eq_true rfl⟩ hP hD (bpl lLs [0, 1]) lG_0_1 lD_0_1 rfl rfl hl rfl rfl (Nat.le_of_ble_eq_true rfl) dL_law_1307 hf) (fun r hw => ?_)
  subst hR
  refine lv_aload_n hx hb dL_law_1310 rfl (lv_at hl 2 rfl) ?_
  refine xend_ro_i (xRunV_mid (As := []) (rest := [.int r]) C0 (c_X8_lonely hw) k_X8_lonely mw_971 ⟨rfl, rfl⟩ ⟨Nat.le_of_ble_eq_true rfl, Nat.le_of_ble_eq_true rfl⟩ hP hD rfl rfl hl rfl rfl (Nat.le_of_ble_eq_true rfl) dL_law_1311 hf) (fun r2 hw => ?_)
  refine lv_icmp_eq (tgt := 1962) hx hb dL_law_1314 (by decide) (fun _ => ?_) (fun z => absurd hw.symm z)
  exact next _ _ _ _ _ _ _ _ _ _ ⟨hP, hD, hS, sim, hn, ⟨by omega, by omega⟩⟩
set_option maxHeartbeats 4000000 in
set_option maxRecDepth 100000 in
theorem lc_when (C : lC p s mi meth c D K b L sc) (hl : lv_has ls 4 [(0, .ref b), (1, .ref h), (2, .ref g), (3, .int (nI i))]) (hi : i + 6 ≤ L) (St : lS s D K h hs as ax g ag la H locs cells slots xs sh m n ok ot i)
    (next : ∀ (H : Heap) (locs : List Loc) (cells slots : Nat) (xs sh : Nat → zS) (m : zS) (n : Nat → Option Nat) (ok ot : wO), lS s D K h hs as ax g ag la H locs cells slots xs sh m n ok ot (i + 6) → W p l e room_1 s mi #[Value.ref b] below meth c H locs cells slots Q (F0 mi 1962 ls [])) : W p l e room_1 s mi #[Value.ref b] below meth c H locs cells slots Q (F0 mi 1319 ls []) := by
  obtain ⟨C0, hX, hbl, hL⟩ := id C
  obtain ⟨hx, hb, hr, hml, hown, hts, hlocks, hK, hT⟩ := id C0
  obtain ⟨hP, hD, hS, sim, hn, hc⟩ := St
  have hA : ∀ q : Nat, s.heap.size ≤ q → (fun q : Nat => s.heap.size ≤ q) q := fun _ z => z
  have hf : cells + 0 ≤ room_1.cells ∧ slots + 0 ≤ room_1.slots := ⟨by show cells ≤ 600000; omega, by show slots ≤ 7302250; omega⟩
  refine lv_aload_n hx hb dL_law_1319 rfl (lv_at hl 1 rfl) ?_
  refine l_arg C hS hl hi 1 (by decide) rfl dL_law_1320 dL_law_1321 dL_law_1322 dL_law_1323 dL_law_1324 ?_
  refine l_arg C hS hl hi 2 (by decide) rfl dL_law_1325 dL_law_1326 dL_law_1327 dL_law_1328 dL_law_1329 ?_
  unfold lW at hP hD
  generalize hR : (wX8 K g ag n la m ++ ([] : va_W)) ++ (wOpt K ok ++ wOpt K ot) = R at hP hD
  refine xend_rw_i (wf := fun (u : (zS) × (zS) × (zS)) => wX7 K h (ax 0) hs u.1 ++ (wX1 K (ax 0 0) (ax 1) (xs 1) ++ (wX6 K (ax 0 9) (ax 8) u.2.1 ++ (wX5 K (ax 0 11) (ax 10) u.2.2)))) (xRunV (As := [.int (sc (i + 1)), .int (sc (i + 2))]) (rest := []) C0 (c_X7_when (L_when sim (sc (i + 1)) (sc (i + 2)))) k_X7_when mw_975 ⟨rfl, rfl⟩ ⟨Nat.le_of_ble_eq_true rfl, Nat.le_of_ble_eq_true rfl⟩ hP hD (bpl lLs [0, 1, 8, 10]) lG_0_1_8_10 lD_0_1_8_10 rfl rfl hl rfl rfl (Nat.le_of_ble_eq_true rfl) dL_law_1330 hf) hP hD hS hA (bpl lLs [0, 1, 8, 10]) lG_0_1_8_10 lD_0_1_8_10 (fun u => rfl) (fun r u H locs hw hP hD hS => ?_)
  rw [lE_0_1_8_10_1011] at hP hD
  subst hR
  refine lv_aload_n hx hb dL_law_1333 rfl (lv_at hl 2 rfl) ?_
  refine l_arg C hS hl hi 1 (by decide) rfl dL_law_1334 dL_law_1335 dL_law_1336 dL_law_1337 dL_law_1338 ?_
  refine l_arg C hS hl hi 2 (by decide) rfl dL_law_1339 dL_law_1340 dL_law_1341 dL_law_1342 dL_law_1343 ?_
  refine xend_rw_i_mid (wf := fun (u : zS) => wX8 K g ag n la u ++ ([] : va_W)) (xRunV_mid (As := [.int (sc (i + 1)), .int (sc (i + 2))]) (rest := [.int r]) C0 (c_X8_when hw) k_X8_when mw_979 ⟨rfl, rfl⟩ ⟨Nat.le_of_ble_eq_true rfl, Nat.le_of_ble_eq_true rfl⟩ hP hD rfl rfl hl rfl rfl (Nat.le_of_ble_eq_true rfl) dL_law_1344 hf) hP hD hS hA (fun u => rfl) (fun r2 u2 H locs hw hP hD hS => ?_)
  refine lv_icmp_eq (tgt := 1962) hx hb dL_law_1347 (by decide) (fun _ => ?_) (fun z => absurd hw.1.symm z)
  exact next _ _ _ _ _ _ _ _ _ _ ⟨hP, hD, hS, hw.2, hn, ⟨by omega, by omega⟩⟩
set_option maxHeartbeats 4000000 in
set_option maxRecDepth 100000 in
theorem lc_answer (C : lC p s mi meth c D K b L sc) (hl : lv_has ls 4 [(0, .ref b), (1, .ref h), (2, .ref g), (3, .int (nI i))]) (hi : i + 6 ≤ L) (St : lS s D K h hs as ax g ag la H locs cells slots xs sh m n ok ot i)
    (next : ∀ (H : Heap) (locs : List Loc) (cells slots : Nat) (xs sh : Nat → zS) (m : zS) (n : Nat → Option Nat) (ok ot : wO), lS s D K h hs as ax g ag la H locs cells slots xs sh m n ok ot (i + 6) → W p l e room_1 s mi #[Value.ref b] below meth c H locs cells slots Q (F0 mi 1962 ls [])) : W p l e room_1 s mi #[Value.ref b] below meth c H locs cells slots Q (F0 mi 1352 ls []) := by
  obtain ⟨C0, hX, hbl, hL⟩ := id C
  obtain ⟨hx, hb, hr, hml, hown, hts, hlocks, hK, hT⟩ := id C0
  obtain ⟨hP, hD, hS, sim, hn, hc⟩ := St
  have hA : ∀ q : Nat, s.heap.size ≤ q → (fun q : Nat => s.heap.size ≤ q) q := fun _ z => z
  have hf : cells + 0 ≤ room_1.cells ∧ slots + 0 ≤ room_1.slots := ⟨by show cells ≤ 600000; omega, by show slots ≤ 7302250; omega⟩
  refine lv_aload_n hx hb dL_law_1352 rfl (lv_at hl 1 rfl) ?_
  refine l_arg C hS hl hi 1 (by decide) rfl dL_law_1353 dL_law_1354 dL_law_1355 dL_law_1356 dL_law_1357 ?_
  refine l_arg C hS hl hi 2 (by decide) rfl dL_law_1358 dL_law_1359 dL_law_1360 dL_law_1361 dL_law_1362 ?_
  refine l_arg C hS hl hi 3 (by decide) rfl dL_law_1363 dL_law_1364 dL_law_1365 dL_law_1366 dL_law_1367 ?_
  unfold lW at hP hD
  generalize hR : (wX8 K g ag n la m ++ ([] : va_W)) ++ (wOpt K ok ++ wOpt K ot) = R at hP hD
  refine xend_rw_i (wf := fun (u : (zS) × (zS) × (zS)) => wX7 K h (ax 0) hs u.1 ++ (wX1 K (ax 0 0) (ax 1) (xs 1) ++ (wX6 K (ax 0 9) (ax 8) u.2.1 ++ (wX5 K (ax 0 11) (ax 10) u.2.2)))) (xRunV (As := [.int (sc (i + 1)), .int (sc (i + 2)), .int (sc (i + 3))]) (rest := []) C0 (c_X7_answer (L_answer sim (sc (i + 1)) (sc (i + 2)) (sc (i + 3)))) k_X7_answer mw_983 ⟨rfl, rfl⟩ ⟨Nat.le_of_ble_eq_true rfl, Nat.le_of_ble_eq_true rfl⟩ hP hD (bpl lLs [0, 1, 8, 10]) lG_0_1_8_10 lD_0_1_8_10 rfl rfl hl rfl rfl (Nat.le_of_ble_eq_true rfl) dL_law_1368 hf) hP hD hS hA (bpl lLs [0, 1, 8, 10]) lG_0_1_8_10 lD_0_1_8_10 (fun u => rfl) (fun r u H locs hw hP hD hS => ?_)
  rw [lE_0_1_8_10_1011] at hP hD
  subst hR
  refine lv_aload_n hx hb dL_law_1371 rfl (lv_at hl 2 rfl) ?_
  refine l_arg C hS hl hi 1 (by decide) rfl dL_law_1372 dL_law_1373 dL_law_1374 dL_law_1375 dL_law_1376 ?_
  refine l_arg C hS hl hi 2 (by decide) rfl dL_law_1377 dL_law_1378 dL_law_1379 dL_law_1380 dL_law_1381 ?_
  refine l_arg C hS hl hi 3 (by decide) rfl dL_law_1382 dL_law_1383 dL_law_1384 dL_law_1385 dL_law_1386 ?_
  refine xend_rw_i_mid (wf := fun (u : zS) => wX8 K g ag n la u ++ ([] : va_W)) (xRunV_mid (As := [.int (sc (i + 1)), .int (sc (i + 2)), .int (sc (i + 3))]) (rest := [.int r]) C0 (c_X8_answer hw) k_X8_answer mw_988 ⟨rfl, rfl⟩ ⟨Nat.le_of_ble_eq_true rfl, Nat.le_of_ble_eq_true rfl⟩ hP hD rfl rfl hl rfl rfl (Nat.le_of_ble_eq_true rfl) dL_law_1387 hf) hP hD hS hA (fun u => rfl) (fun r2 u2 H locs hw hP hD hS => ?_)
  refine lv_icmp_eq (tgt := 1962) hx hb dL_law_1390 (by decide) (fun _ => ?_) (fun z => absurd hw.1.symm z)
  exact next _ _ _ _ _ _ _ _ _ _ ⟨hP, hD, hS, hw.2, hn, ⟨by omega, by omega⟩⟩
set_option maxHeartbeats 4000000 in
set_option maxRecDepth 100000 in
theorem lc_halves (C : lC p s mi meth c D K b L sc) (hl : lv_has ls 4 [(0, .ref b), (1, .ref h), (2, .ref g), (3, .int (nI i))]) (hi : i + 6 ≤ L) (St : lS s D K h hs as ax g ag la H locs cells slots xs sh m n ok ot i)
    (next : ∀ (H : Heap) (locs : List Loc) (cells slots : Nat) (xs sh : Nat → zS) (m : zS) (n : Nat → Option Nat) (ok ot : wO), lS s D K h hs as ax g ag la H locs cells slots xs sh m n ok ot (i + 6) → W p l e room_1 s mi #[Value.ref b] below meth c H locs cells slots Q (F0 mi 1962 ls [])) : W p l e room_1 s mi #[Value.ref b] below meth c H locs cells slots Q (F0 mi 1395 ls []) := by
  obtain ⟨C0, hX, hbl, hL⟩ := id C
  obtain ⟨hx, hb, hr, hml, hown, hts, hlocks, hK, hT⟩ := id C0
  obtain ⟨hP, hD, hS, sim, hn, hc⟩ := St
  have hA : ∀ q : Nat, s.heap.size ≤ q → (fun q : Nat => s.heap.size ≤ q) q := fun _ z => z
  have hf : cells + 0 ≤ room_1.cells ∧ slots + 0 ≤ room_1.slots := ⟨by show cells ≤ 600000; omega, by show slots ≤ 7302250; omega⟩
  refine lv_aload_n hx hb dL_law_1395 rfl (lv_at hl 1 rfl) ?_
  refine l_arg C hS hl hi 1 (by decide) rfl dL_law_1396 dL_law_1397 dL_law_1398 dL_law_1399 dL_law_1400 ?_
  refine l_arg C hS hl hi 2 (by decide) rfl dL_law_1401 dL_law_1402 dL_law_1403 dL_law_1404 dL_law_1405 ?_
  refine l_arg C hS hl hi 3 (by decide) rfl dL_law_1406 dL_law_1407 dL_law_1408 dL_law_1409 dL_law_1410 ?_
  unfold lW at hP hD
  generalize hR : (wX8 K g ag n la m ++ ([] : va_W)) ++ (wOpt K ok ++ wOpt K ot) = R at hP hD
  refine xend_rw_i (wf := fun (u : (zS) × (zS) × (zS)) => wX7 K h (ax 0) hs u.1 ++ (wX1 K (ax 0 0) (ax 1) (xs 1) ++ (wX6 K (ax 0 9) (ax 8) u.2.1 ++ (wX5 K (ax 0 11) (ax 10) u.2.2)))) (xRunV (As := [.int (sc (i + 1)), .int (sc (i + 2)), .int (sc (i + 3))]) (rest := []) C0 (c_X7_halves (L_halves sim (sc (i + 1)) (sc (i + 2)) (sc (i + 3)))) k_X7_halves mw_992 ⟨rfl, rfl⟩ ⟨Nat.le_of_ble_eq_true rfl, Nat.le_of_ble_eq_true rfl⟩ hP hD (bpl lLs [0, 1, 8, 10]) lG_0_1_8_10 lD_0_1_8_10 rfl rfl hl rfl rfl (Nat.le_of_ble_eq_true rfl) dL_law_1411 hf) hP hD hS hA (bpl lLs [0, 1, 8, 10]) lG_0_1_8_10 lD_0_1_8_10 (fun u => rfl) (fun r u H locs hw hP hD hS => ?_)
  rw [lE_0_1_8_10_1011] at hP hD
  subst hR
  refine lv_aload_n hx hb dL_law_1414 rfl (lv_at hl 2 rfl) ?_
  refine l_arg C hS hl hi 1 (by decide) rfl dL_law_1415 dL_law_1416 dL_law_1417 dL_law_1418 dL_law_1419 ?_
  refine l_arg C hS hl hi 2 (by decide) rfl dL_law_1420 dL_law_1421 dL_law_1422 dL_law_1423 dL_law_1424 ?_
  refine l_arg C hS hl hi 3 (by decide) rfl dL_law_1425 dL_law_1426 dL_law_1427 dL_law_1428 dL_law_1429 ?_
  refine xend_rw_i_mid (wf := fun (u : zS) => wX8 K g ag n la u ++ ([] : va_W)) (xRunV_mid (As := [.int (sc (i + 1)), .int (sc (i + 2)), .int (sc (i + 3))]) (rest := [.int r]) C0 (c_X8_halves hw) k_X8_halves mw_996 ⟨rfl, rfl⟩ ⟨Nat.le_of_ble_eq_true rfl, Nat.le_of_ble_eq_true rfl⟩ hP hD rfl rfl hl rfl rfl (Nat.le_of_ble_eq_true rfl) dL_law_1430 hf) hP hD hS hA (fun u => rfl) (fun r2 u2 H locs hw hP hD hS => ?_)
  refine lv_icmp_eq (tgt := 1962) hx hb dL_law_1433 (by decide) (fun _ => ?_) (fun z => absurd hw.1.symm z)
  exact next _ _ _ _ _ _ _ _ _ _ ⟨hP, hD, hS, hw.2, hn, ⟨by omega, by omega⟩⟩
set_option maxHeartbeats 4000000 in
set_option maxRecDepth 100000 in
theorem lc_must (C : lC p s mi meth c D K b L sc) (hl : lv_has ls 4 [(0, .ref b), (1, .ref h), (2, .ref g), (3, .int (nI i))]) (hi : i + 6 ≤ L) (St : lS s D K h hs as ax g ag la H locs cells slots xs sh m n ok ot i)
    (next : ∀ (H : Heap) (locs : List Loc) (cells slots : Nat) (xs sh : Nat → zS) (m : zS) (n : Nat → Option Nat) (ok ot : wO), lS s D K h hs as ax g ag la H locs cells slots xs sh m n ok ot (i + 6) → W p l e room_1 s mi #[Value.ref b] below meth c H locs cells slots Q (F0 mi 1962 ls [])) : W p l e room_1 s mi #[Value.ref b] below meth c H locs cells slots Q (F0 mi 1438 ls []) := by
  obtain ⟨C0, hX, hbl, hL⟩ := id C
  obtain ⟨hx, hb, hr, hml, hown, hts, hlocks, hK, hT⟩ := id C0
  obtain ⟨hP, hD, hS, sim, hn, hc⟩ := St
  have hA : ∀ q : Nat, s.heap.size ≤ q → (fun q : Nat => s.heap.size ≤ q) q := fun _ z => z
  have hf : cells + 0 ≤ room_1.cells ∧ slots + 0 ≤ room_1.slots := ⟨by show cells ≤ 600000; omega, by show slots ≤ 7302250; omega⟩
  refine lv_aload_n hx hb dL_law_1438 rfl (lv_at hl 1 rfl) ?_
  refine l_arg C hS hl hi 1 (by decide) rfl dL_law_1439 dL_law_1440 dL_law_1441 dL_law_1442 dL_law_1443 ?_
  refine l_arg C hS hl hi 2 (by decide) rfl dL_law_1444 dL_law_1445 dL_law_1446 dL_law_1447 dL_law_1448 ?_
  unfold lW at hP hD
  generalize hR : (wX8 K g ag n la m ++ ([] : va_W)) ++ (wOpt K ok ++ wOpt K ot) = R at hP hD
  refine xend_rw_i (wf := fun (u : (zS) × (zS)) => wX7 K h (ax 0) hs u.1 ++ (wX1 K (ax 0 0) (ax 1) (xs 1) ++ (wX6 K (ax 0 9) (ax 8) u.2))) (xRunV (As := [.int (sc (i + 1)), .int (sc (i + 2))]) (rest := []) C0 (c_X7_must (L_must sim (sc (i + 1)) (sc (i + 2)))) k_X7_must mw_1000 ⟨rfl, rfl⟩ ⟨Nat.le_of_ble_eq_true rfl, Nat.le_of_ble_eq_true rfl⟩ hP hD (bpl lLs [0, 1, 8]) lG_0_1_8 lD_0_1_8 rfl rfl hl rfl rfl (Nat.le_of_ble_eq_true rfl) dL_law_1449 hf) hP hD hS hA (bpl lLs [0, 1, 8]) lG_0_1_8 lD_0_1_8 (fun u => rfl) (fun r u H locs hw hP hD hS => ?_)
  rw [lE_0_1_8_101] at hP hD
  subst hR
  refine lv_aload_n hx hb dL_law_1452 rfl (lv_at hl 2 rfl) ?_
  refine l_arg C hS hl hi 1 (by decide) rfl dL_law_1453 dL_law_1454 dL_law_1455 dL_law_1456 dL_law_1457 ?_
  refine l_arg C hS hl hi 2 (by decide) rfl dL_law_1458 dL_law_1459 dL_law_1460 dL_law_1461 dL_law_1462 ?_
  refine xend_rw_i_mid (wf := fun (u : zS) => wX8 K g ag n la u ++ ([] : va_W)) (xRunV_mid (As := [.int (sc (i + 1)), .int (sc (i + 2))]) (rest := [.int r]) C0 (c_X8_must hw) k_X8_must mw_1004 ⟨rfl, rfl⟩ ⟨Nat.le_of_ble_eq_true rfl, Nat.le_of_ble_eq_true rfl⟩ hP hD rfl rfl hl rfl rfl (Nat.le_of_ble_eq_true rfl) dL_law_1463 hf) hP hD hS hA (fun u => rfl) (fun r2 u2 H locs hw hP hD hS => ?_)
  refine lv_icmp_eq (tgt := 1962) hx hb dL_law_1466 (by decide) (fun _ => ?_) (fun z => absurd hw.1.symm z)
  exact next _ _ _ _ _ _ _ _ _ _ ⟨hP, hD, hS, hw.2, hn, ⟨by omega, by omega⟩⟩
set_option maxHeartbeats 4000000 in
set_option maxRecDepth 100000 in
theorem lc_cut (C : lC p s mi meth c D K b L sc) (hl : lv_has ls 4 [(0, .ref b), (1, .ref h), (2, .ref g), (3, .int (nI i))]) (hi : i + 6 ≤ L) (St : lS s D K h hs as ax g ag la H locs cells slots xs sh m n ok ot i)
    (next : ∀ (H : Heap) (locs : List Loc) (cells slots : Nat) (xs sh : Nat → zS) (m : zS) (n : Nat → Option Nat) (ok ot : wO), lS s D K h hs as ax g ag la H locs cells slots xs sh m n ok ot (i + 6) → W p l e room_1 s mi #[Value.ref b] below meth c H locs cells slots Q (F0 mi 1962 ls [])) : W p l e room_1 s mi #[Value.ref b] below meth c H locs cells slots Q (F0 mi 1471 ls []) := by
  obtain ⟨C0, hX, hbl, hL⟩ := id C
  obtain ⟨hx, hb, hr, hml, hown, hts, hlocks, hK, hT⟩ := id C0
  obtain ⟨hP, hD, hS, sim, hn, hc⟩ := St
  have hA : ∀ q : Nat, s.heap.size ≤ q → (fun q : Nat => s.heap.size ≤ q) q := fun _ z => z
  have hf : cells + 0 ≤ room_1.cells ∧ slots + 0 ≤ room_1.slots := ⟨by show cells ≤ 600000; omega, by show slots ≤ 7302250; omega⟩
  refine lv_aload_n hx hb dL_law_1471 rfl (lv_at hl 1 rfl) ?_
  refine l_arg C hS hl hi 1 (by decide) rfl dL_law_1472 dL_law_1473 dL_law_1474 dL_law_1475 dL_law_1476 ?_
  refine l_arg C hS hl hi 2 (by decide) rfl dL_law_1477 dL_law_1478 dL_law_1479 dL_law_1480 dL_law_1481 ?_
  unfold lW at hP hD
  generalize hR : (wX8 K g ag n la m ++ ([] : va_W)) ++ (wOpt K ok ++ wOpt K ot) = R at hP hD
  refine xend_rw_i (wf := fun (u : (zS)) => wX7 K h (ax 0) hs u ++ (wX1 K (ax 0 0) (ax 1) (xs 1))) (xRunV (As := [.int (sc (i + 1)), .int (sc (i + 2))]) (rest := []) C0 (c_X7_cut (L_cut sim (sc (i + 1)) (sc (i + 2)))) k_X7_cut mw_1008 ⟨rfl, rfl⟩ ⟨Nat.le_of_ble_eq_true rfl, Nat.le_of_ble_eq_true rfl⟩ hP hD (bpl lLs [0, 1]) lG_0_1 lD_0_1 rfl rfl hl rfl rfl (Nat.le_of_ble_eq_true rfl) dL_law_1482 hf) hP hD hS hA (bpl lLs [0, 1]) lG_0_1 lD_0_1 (fun u => rfl) (fun r u H locs hw hP hD hS => ?_)
  rw [lE_0_1_10] at hP hD
  subst hR
  refine lv_aload_n hx hb dL_law_1485 rfl (lv_at hl 2 rfl) ?_
  refine l_arg C hS hl hi 1 (by decide) rfl dL_law_1486 dL_law_1487 dL_law_1488 dL_law_1489 dL_law_1490 ?_
  refine l_arg C hS hl hi 2 (by decide) rfl dL_law_1491 dL_law_1492 dL_law_1493 dL_law_1494 dL_law_1495 ?_
  refine xend_rw_i_mid (wf := fun (u : zS) => wX8 K g ag n la u ++ ([] : va_W)) (xRunV_mid (As := [.int (sc (i + 1)), .int (sc (i + 2))]) (rest := [.int r]) C0 (c_X8_cut hw) k_X8_cut mw_1016 ⟨rfl, rfl⟩ ⟨Nat.le_of_ble_eq_true rfl, Nat.le_of_ble_eq_true rfl⟩ hP hD rfl rfl hl rfl rfl (Nat.le_of_ble_eq_true rfl) dL_law_1496 hf) hP hD hS hA (fun u => rfl) (fun r2 u2 H locs hw hP hD hS => ?_)
  refine lv_icmp_eq (tgt := 1962) hx hb dL_law_1499 (by decide) (fun _ => ?_) (fun z => absurd hw.1.symm z)
  exact next _ _ _ _ _ _ _ _ _ _ ⟨hP, hD, hS, hw.2, hn, ⟨by omega, by omega⟩⟩
set_option maxHeartbeats 4000000 in
set_option maxRecDepth 100000 in
theorem lc_reach (C : lC p s mi meth c D K b L sc) (hl : lv_has ls 4 [(0, .ref b), (1, .ref h), (2, .ref g), (3, .int (nI i))]) (hi : i + 6 ≤ L) (St : lS s D K h hs as ax g ag la H locs cells slots xs sh m n ok ot i)
    (next : ∀ (H : Heap) (locs : List Loc) (cells slots : Nat) (xs sh : Nat → zS) (m : zS) (n : Nat → Option Nat) (ok ot : wO), lS s D K h hs as ax g ag la H locs cells slots xs sh m n ok ot (i + 6) → W p l e room_1 s mi #[Value.ref b] below meth c H locs cells slots Q (F0 mi 1962 ls [])) : W p l e room_1 s mi #[Value.ref b] below meth c H locs cells slots Q (F0 mi 1504 ls []) := by
  obtain ⟨C0, hX, hbl, hL⟩ := id C
  obtain ⟨hx, hb, hr, hml, hown, hts, hlocks, hK, hT⟩ := id C0
  obtain ⟨hP, hD, hS, sim, hn, hc⟩ := St
  have hA : ∀ q : Nat, s.heap.size ≤ q → (fun q : Nat => s.heap.size ≤ q) q := fun _ z => z
  have hf : cells + 0 ≤ room_1.cells ∧ slots + 0 ≤ room_1.slots := ⟨by show cells ≤ 600000; omega, by show slots ≤ 7302250; omega⟩
  refine lv_aload_n hx hb dL_law_1504 rfl (lv_at hl 1 rfl) ?_
  refine l_arg C hS hl hi 1 (by decide) rfl dL_law_1505 dL_law_1506 dL_law_1507 dL_law_1508 dL_law_1509 ?_
  unfold lW at hP hD
  generalize hR : (wX8 K g ag n la m ++ ([] : va_W)) ++ (wOpt K ok ++ wOpt K ot) = R at hP hD
  refine xend_rw_i (wf := fun (u : (zS)) => wX7 K h (ax 0) hs u ++ (wX1 K (ax 0 0) (ax 1) (xs 1))) (xRunV (As := [.int (sc (i + 1))]) (rest := []) C0 (c_X7_reach (L_reach sim (sc (i + 1)))) k_X7_reach mw_1024 ⟨rfl, rfl⟩ ⟨Nat.le_of_ble_eq_true rfl, Nat.le_of_ble_eq_true rfl⟩ hP hD (bpl lLs [0, 1]) lG_0_1 lD_0_1 rfl rfl hl rfl rfl (Nat.le_of_ble_eq_true rfl) dL_law_1510 hf) hP hD hS hA (bpl lLs [0, 1]) lG_0_1 lD_0_1 (fun u => rfl) (fun r u H locs hw hP hD hS => ?_)
  rw [lE_0_1_10] at hP hD
  subst hR
  refine lv_aload_n hx hb dL_law_1513 rfl (lv_at hl 2 rfl) ?_
  refine l_arg C hS hl hi 1 (by decide) rfl dL_law_1514 dL_law_1515 dL_law_1516 dL_law_1517 dL_law_1518 ?_
  refine xend_rw_i_mid (wf := fun (u : zS) => wX8 K g ag n la u ++ ([] : va_W)) (xRunV_mid (As := [.int (sc (i + 1))]) (rest := [.int r]) C0 (c_X8_reach hw) k_X8_reach mw_1032 ⟨rfl, rfl⟩ ⟨Nat.le_of_ble_eq_true rfl, Nat.le_of_ble_eq_true rfl⟩ hP hD rfl rfl hl rfl rfl (Nat.le_of_ble_eq_true rfl) dL_law_1519 hf) hP hD hS hA (fun u => rfl) (fun r2 u2 H locs hw hP hD hS => ?_)
  refine lv_icmp_eq (tgt := 1962) hx hb dL_law_1522 (by decide) (fun _ => ?_) (fun z => absurd hw.1.symm z)
  exact next _ _ _ _ _ _ _ _ _ _ ⟨hP, hD, hS, hw.2, hn, ⟨by omega, by omega⟩⟩
set_option maxHeartbeats 4000000 in
set_option maxRecDepth 100000 in
theorem lc_judge (C : lC p s mi meth c D K b L sc) (hl : lv_has ls 4 [(0, .ref b), (1, .ref h), (2, .ref g), (3, .int (nI i))]) (hi : i + 6 ≤ L) (St : lS s D K h hs as ax g ag la H locs cells slots xs sh m n ok ot i)
    (next : ∀ (H : Heap) (locs : List Loc) (cells slots : Nat) (xs sh : Nat → zS) (m : zS) (n : Nat → Option Nat) (ok ot : wO), lS s D K h hs as ax g ag la H locs cells slots xs sh m n ok ot (i + 6) → W p l e room_1 s mi #[Value.ref b] below meth c H locs cells slots Q (F0 mi 1962 ls [])) : W p l e room_1 s mi #[Value.ref b] below meth c H locs cells slots Q (F0 mi 1527 ls []) := by
  obtain ⟨C0, hX, hbl, hL⟩ := id C
  obtain ⟨hx, hb, hr, hml, hown, hts, hlocks, hK, hT⟩ := id C0
  obtain ⟨hP, hD, hS, sim, hn, hc⟩ := St
  have hA : ∀ q : Nat, s.heap.size ≤ q → (fun q : Nat => s.heap.size ≤ q) q := fun _ z => z
  have hf : cells + 0 ≤ room_1.cells ∧ slots + 0 ≤ room_1.slots := ⟨by show cells ≤ 600000; omega, by show slots ≤ 7302250; omega⟩
  refine lv_aload_n hx hb dL_law_1527 rfl (lv_at hl 1 rfl) ?_
  refine l_arg C hS hl hi 1 (by decide) rfl dL_law_1528 dL_law_1529 dL_law_1530 dL_law_1531 dL_law_1532 ?_
  refine l_arg C hS hl hi 2 (by decide) rfl dL_law_1533 dL_law_1534 dL_law_1535 dL_law_1536 dL_law_1537 ?_
  unfold lW at hP hD
  generalize hR : (wX8 K g ag n la m ++ ([] : va_W)) ++ (wOpt K ok ++ wOpt K ot) = R at hP hD
  refine xend_rw_i (wf := fun (u : (zS)) => wX7 K h (ax 0) hs u ++ (wPl K hs as sh ++ (wX1 K (ax 0 0) (ax 1) (xs 1)))) (xRunV (As := [.int (sc (i + 1)), .int (sc (i + 2))]) (rest := []) C0 (c_X7_judge (L_judge sim (sc (i + 1)) (sc (i + 2)))) k_X7_judge mw_1036 ⟨rfl, rfl⟩ ⟨Nat.le_of_ble_eq_true rfl, Nat.le_of_ble_eq_true rfl⟩ hP hD (bpl lLs [0, 11, 1]) lG_0_11_1 lD_0_11_1 rfl rfl hl rfl rfl (Nat.le_of_ble_eq_true rfl) dL_law_1538 hf) hP hD hS hA (bpl lLs [0, 11, 1]) lG_0_11_1 lD_0_11_1 (fun u => rfl) (fun r u H locs hw hP hD hS => ?_)
  rw [lE_0_11_1_100] at hP hD
  subst hR
  refine lv_aload_n hx hb dL_law_1541 rfl (lv_at hl 2 rfl) ?_
  refine l_arg C hS hl hi 1 (by decide) rfl dL_law_1542 dL_law_1543 dL_law_1544 dL_law_1545 dL_law_1546 ?_
  refine l_arg C hS hl hi 2 (by decide) rfl dL_law_1547 dL_law_1548 dL_law_1549 dL_law_1550 dL_law_1551 ?_
  refine xend_rw_i_mid (wf := fun (u : zS) => wX8 K g ag n la u ++ ([] : va_W)) (xRunV_mid (As := [.int (sc (i + 1)), .int (sc (i + 2))]) (rest := [.int r]) C0 (c_X8_judge hw) k_X8_judge mw_1044 ⟨rfl, rfl⟩ ⟨Nat.le_of_ble_eq_true rfl, Nat.le_of_ble_eq_true rfl⟩ hP hD rfl rfl hl rfl rfl (Nat.le_of_ble_eq_true rfl) dL_law_1552 hf) hP hD hS hA (fun u => rfl) (fun r2 u2 H locs hw hP hD hS => ?_)
  refine lv_icmp_eq (tgt := 1962) hx hb dL_law_1555 (by decide) (fun _ => ?_) (fun z => absurd hw.1.symm z)
  exact next _ _ _ _ _ _ _ _ _ _ ⟨hP, hD, hS, hw.2, hn, ⟨by omega, by omega⟩⟩
theorem lG_0_11_1_8_10 {R : va_W} : (bpl lLs [0, 11, 1, 8, 10]).map (fun i => (bfl (lB K h hs as ax xs sh) ++ R)[i]?) = (wX7 K h (ax 0) hs (xs 0) ++ (wPl K hs as sh ++ (wX1 K (ax 0 0) (ax 1) (xs 1) ++ (wX6 K (ax 0 9) (ax 8) (xs 8) ++ (wX5 K (ax 0 11) (ax 10) (xs 10)))))).map some :=
  (b_get lB_len [0, 11, 1, 8, 10] (show ∀ j ∈ [0, 11, 1, 8, 10], j < 12 by decide)).trans (congrArg (List.map some) (show wX7 K h (ax 0) hs (xs 0) ++ (wPl K hs as sh ++ (wX1 K (ax 0 0) (ax 1) (xs 1) ++ (wX6 K (ax 0 9) (ax 8) (xs 8) ++ (wX5 K (ax 0 11) (ax 10) (xs 10) ++ (([] : va_W)))))) = wX7 K h (ax 0) hs (xs 0) ++ (wPl K hs as sh ++ (wX1 K (ax 0 0) (ax 1) (xs 1) ++ (wX6 K (ax 0 9) (ax 8) (xs 8) ++ (wX5 K (ax 0 11) (ax 10) (xs 10))))) by rw [List.append_nil]))
theorem lD_0_11_1_8_10 : va_nd (bpl lLs [0, 11, 1, 8, 10]) = true := by decide +kernel
theorem lE_0_11_1_8_10_10011 {R : va_W} {y0 : zS} {y3 : zS} {y4 : zS} : xset (bfl (lB K h hs as ax xs sh) ++ R) (bpl lLs [0, 11, 1, 8, 10]) (wX7 K h (ax 0) hs y0 ++ (wPl K hs as sh ++ (wX1 K (ax 0 0) (ax 1) (xs 1) ++ (wX6 K (ax 0 9) (ax 8) y3 ++ (wX5 K (ax 0 11) (ax 10) y4))))) = bfl (lB K h hs as ax (va_up (va_up (va_up xs 0 y0) 8 y3) 10 y4) sh) ++ R := by
  have q := b_set (R := R) [0, 11, 1, 8, 10] [wX7 K h (ax 0) hs y0, wPl K hs as sh, wX1 K (ax 0 0) (ax 1) (xs 1), wX6 K (ax 0 9) (ax 8) y3, wX5 K (ax 0 11) (ax 10) y4] (lB K h hs as ax xs sh) lB_len (show ∀ j ∈ [0, 11, 1, 8, 10], j < 12 by decide) ⟨rfl, rfl, rfl, rfl, rfl, trivial⟩
  have q0 : bfl [wX7 K h (ax 0) hs y0, wPl K hs as sh, wX1 K (ax 0 0) (ax 1) (xs 1), wX6 K (ax 0 9) (ax 8) y3, wX5 K (ax 0 11) (ax 10) y4] = wX7 K h (ax 0) hs y0 ++ (wPl K hs as sh ++ (wX1 K (ax 0 0) (ax 1) (xs 1) ++ (wX6 K (ax 0 9) (ax 8) y3 ++ (wX5 K (ax 0 11) (ax 10) y4)))) := by
    show wX7 K h (ax 0) hs y0 ++ (wPl K hs as sh ++ (wX1 K (ax 0 0) (ax 1) (xs 1) ++ (wX6 K (ax 0 9) (ax 8) y3 ++ (wX5 K (ax 0 11) (ax 10) y4 ++ (([] : va_W)))))) = _
    rw [List.append_nil]
  rw [q0] at q
  exact q
set_option maxHeartbeats 4000000 in
set_option maxRecDepth 100000 in
theorem lc_told (C : lC p s mi meth c D K b L sc) (hl : lv_has ls 4 [(0, .ref b), (1, .ref h), (2, .ref g), (3, .int (nI i))]) (hi : i + 6 ≤ L) (St : lS s D K h hs as ax g ag la H locs cells slots xs sh m n ok ot i)
    (next : ∀ (H : Heap) (locs : List Loc) (cells slots : Nat) (xs sh : Nat → zS) (m : zS) (n : Nat → Option Nat) (ok ot : wO), lS s D K h hs as ax g ag la H locs cells slots xs sh m n ok ot (i + 6) → W p l e room_1 s mi #[Value.ref b] below meth c H locs cells slots Q (F0 mi 1962 ls [])) : W p l e room_1 s mi #[Value.ref b] below meth c H locs cells slots Q (F0 mi 1560 ls []) := by
  obtain ⟨C0, hX, hbl, hL⟩ := id C
  obtain ⟨hx, hb, hr, hml, hown, hts, hlocks, hK, hT⟩ := id C0
  obtain ⟨hP, hD, hS, sim, hn, hc⟩ := St
  have hA : ∀ q : Nat, s.heap.size ≤ q → (fun q : Nat => s.heap.size ≤ q) q := fun _ z => z
  have hf : cells + 0 ≤ room_1.cells ∧ slots + 0 ≤ room_1.slots := ⟨by show cells ≤ 600000; omega, by show slots ≤ 7302250; omega⟩
  refine lv_aload_n hx hb dL_law_1560 rfl (lv_at hl 1 rfl) ?_
  refine l_arg C hS hl hi 1 (by decide) rfl dL_law_1561 dL_law_1562 dL_law_1563 dL_law_1564 dL_law_1565 ?_
  refine l_arg C hS hl hi 2 (by decide) rfl dL_law_1566 dL_law_1567 dL_law_1568 dL_law_1569 dL_law_1570 ?_
  refine l_arg C hS hl hi 3 (by decide) rfl dL_law_1571 dL_law_1572 dL_law_1573 dL_law_1574 dL_law_1575 ?_
  refine l_arg C hS hl hi 4 (by decide) rfl dL_law_1576 dL_law_1577 dL_law_1578 dL_law_1579 dL_law_1580 ?_
  unfold lW at hP hD
  generalize hR : (wX8 K g ag n la m ++ ([] : va_W)) ++ (wOpt K ok ++ wOpt K ot) = R at hP hD
  refine xend_rw_i (wf := fun (u : (zS) × (zS) × (zS)) => wX7 K h (ax 0) hs u.1 ++ (wPl K hs as sh ++ (wX1 K (ax 0 0) (ax 1) (xs 1) ++ (wX6 K (ax 0 9) (ax 8) u.2.1 ++ (wX5 K (ax 0 11) (ax 10) u.2.2))))) (xRunV (As := [.int (sc (i + 1)), .int (sc (i + 2)), .int (sc (i + 3)), .int (sc (i + 4))]) (rest := []) C0 (c_X7_told (L_told sim (sc (i + 1)) (sc (i + 2)) (sc (i + 3)) (sc (i + 4)))) k_X7_told mw_1056 ⟨rfl, rfl⟩ ⟨Nat.le_of_ble_eq_true rfl, Nat.le_of_ble_eq_true rfl⟩ hP hD (bpl lLs [0, 11, 1, 8, 10]) lG_0_11_1_8_10 lD_0_11_1_8_10 rfl rfl hl rfl rfl (Nat.le_of_ble_eq_true rfl) dL_law_1581 hf) hP hD hS hA (bpl lLs [0, 11, 1, 8, 10]) lG_0_11_1_8_10 lD_0_11_1_8_10 (fun u => rfl) (fun r u H locs hw hP hD hS => ?_)
  rw [lE_0_11_1_8_10_10011] at hP hD
  subst hR
  refine lv_aload_n hx hb dL_law_1584 rfl (lv_at hl 2 rfl) ?_
  refine l_arg C hS hl hi 1 (by decide) rfl dL_law_1585 dL_law_1586 dL_law_1587 dL_law_1588 dL_law_1589 ?_
  refine l_arg C hS hl hi 2 (by decide) rfl dL_law_1590 dL_law_1591 dL_law_1592 dL_law_1593 dL_law_1594 ?_
  refine l_arg C hS hl hi 3 (by decide) rfl dL_law_1595 dL_law_1596 dL_law_1597 dL_law_1598 dL_law_1599 ?_
  refine l_arg C hS hl hi 4 (by decide) rfl dL_law_1600 dL_law_1601 dL_law_1602 dL_law_1603 dL_law_1604 ?_
  refine xend_rw_i_mid (wf := fun (u : zS) => wX8 K g ag n la u ++ ([] : va_W)) (xRunV_mid (As := [.int (sc (i + 1)), .int (sc (i + 2)), .int (sc (i + 3)), .int (sc (i + 4))]) (rest := [.int r]) C0 (c_X8_told hw) k_X8_told mw_1066 ⟨rfl, rfl⟩ ⟨Nat.le_of_ble_eq_true rfl, Nat.le_of_ble_eq_true rfl⟩ hP hD rfl rfl hl rfl rfl (Nat.le_of_ble_eq_true rfl) dL_law_1605 hf) hP hD hS hA (fun u => rfl) (fun r2 u2 H locs hw hP hD hS => ?_)
  refine lv_icmp_eq (tgt := 1962) hx hb dL_law_1608 (by decide) (fun _ => ?_) (fun z => absurd hw.1.symm z)
  exact next _ _ _ _ _ _ _ _ _ _ ⟨hP, hD, hS, hw.2, hn, ⟨by omega, by omega⟩⟩
theorem lG_0_1_8_10_2 {R : va_W} : (bpl lLs [0, 1, 8, 10, 2]).map (fun i => (bfl (lB K h hs as ax xs sh) ++ R)[i]?) = (wX7 K h (ax 0) hs (xs 0) ++ (wX1 K (ax 0 0) (ax 1) (xs 1) ++ (wX6 K (ax 0 9) (ax 8) (xs 8) ++ (wX5 K (ax 0 11) (ax 10) (xs 10) ++ (wX1 K (ax 0 1) (ax 2) (xs 2)))))).map some :=
  (b_get lB_len [0, 1, 8, 10, 2] (show ∀ j ∈ [0, 1, 8, 10, 2], j < 12 by decide)).trans (congrArg (List.map some) (show wX7 K h (ax 0) hs (xs 0) ++ (wX1 K (ax 0 0) (ax 1) (xs 1) ++ (wX6 K (ax 0 9) (ax 8) (xs 8) ++ (wX5 K (ax 0 11) (ax 10) (xs 10) ++ (wX1 K (ax 0 1) (ax 2) (xs 2) ++ (([] : va_W)))))) = wX7 K h (ax 0) hs (xs 0) ++ (wX1 K (ax 0 0) (ax 1) (xs 1) ++ (wX6 K (ax 0 9) (ax 8) (xs 8) ++ (wX5 K (ax 0 11) (ax 10) (xs 10) ++ (wX1 K (ax 0 1) (ax 2) (xs 2))))) by rw [List.append_nil]))
theorem lD_0_1_8_10_2 : va_nd (bpl lLs [0, 1, 8, 10, 2]) = true := by decide +kernel
theorem lE_0_1_8_10_2_10111 {R : va_W} {y0 : zS} {y2 : zS} {y3 : zS} {y4 : zS} : xset (bfl (lB K h hs as ax xs sh) ++ R) (bpl lLs [0, 1, 8, 10, 2]) (wX7 K h (ax 0) hs y0 ++ (wX1 K (ax 0 0) (ax 1) (xs 1) ++ (wX6 K (ax 0 9) (ax 8) y2 ++ (wX5 K (ax 0 11) (ax 10) y3 ++ (wX1 K (ax 0 1) (ax 2) y4))))) = bfl (lB K h hs as ax (va_up (va_up (va_up (va_up xs 0 y0) 8 y2) 10 y3) 2 y4) sh) ++ R := by
  have q := b_set (R := R) [0, 1, 8, 10, 2] [wX7 K h (ax 0) hs y0, wX1 K (ax 0 0) (ax 1) (xs 1), wX6 K (ax 0 9) (ax 8) y2, wX5 K (ax 0 11) (ax 10) y3, wX1 K (ax 0 1) (ax 2) y4] (lB K h hs as ax xs sh) lB_len (show ∀ j ∈ [0, 1, 8, 10, 2], j < 12 by decide) ⟨rfl, rfl, rfl, rfl, rfl, trivial⟩
  have q0 : bfl [wX7 K h (ax 0) hs y0, wX1 K (ax 0 0) (ax 1) (xs 1), wX6 K (ax 0 9) (ax 8) y2, wX5 K (ax 0 11) (ax 10) y3, wX1 K (ax 0 1) (ax 2) y4] = wX7 K h (ax 0) hs y0 ++ (wX1 K (ax 0 0) (ax 1) (xs 1) ++ (wX6 K (ax 0 9) (ax 8) y2 ++ (wX5 K (ax 0 11) (ax 10) y3 ++ (wX1 K (ax 0 1) (ax 2) y4)))) := by
    show wX7 K h (ax 0) hs y0 ++ (wX1 K (ax 0 0) (ax 1) (xs 1) ++ (wX6 K (ax 0 9) (ax 8) y2 ++ (wX5 K (ax 0 11) (ax 10) y3 ++ (wX1 K (ax 0 1) (ax 2) y4 ++ (([] : va_W)))))) = _
    rw [List.append_nil]
  rw [q0] at q
  exact q
set_option maxHeartbeats 4000000 in
set_option maxRecDepth 100000 in
theorem lc_change (C : lC p s mi meth c D K b L sc) (hl : lv_has ls 4 [(0, .ref b), (1, .ref h), (2, .ref g), (3, .int (nI i))]) (hi : i + 6 ≤ L) (St : lS s D K h hs as ax g ag la H locs cells slots xs sh m n ok ot i)
    (next : ∀ (H : Heap) (locs : List Loc) (cells slots : Nat) (xs sh : Nat → zS) (m : zS) (n : Nat → Option Nat) (ok ot : wO), lS s D K h hs as ax g ag la H locs cells slots xs sh m n ok ot (i + 6) → W p l e room_1 s mi #[Value.ref b] below meth c H locs cells slots Q (F0 mi 1962 ls [])) : W p l e room_1 s mi #[Value.ref b] below meth c H locs cells slots Q (F0 mi 1613 ls []) := by
  obtain ⟨C0, hX, hbl, hL⟩ := id C
  obtain ⟨hx, hb, hr, hml, hown, hts, hlocks, hK, hT⟩ := id C0
  obtain ⟨hP, hD, hS, sim, hn, hc⟩ := St
  have hA : ∀ q : Nat, s.heap.size ≤ q → (fun q : Nat => s.heap.size ≤ q) q := fun _ z => z
  have hf : cells + 0 ≤ room_1.cells ∧ slots + 0 ≤ room_1.slots := ⟨by show cells ≤ 600000; omega, by show slots ≤ 7302250; omega⟩
  refine lv_aload_n hx hb dL_law_1613 rfl (lv_at hl 1 rfl) ?_
  refine l_arg C hS hl hi 1 (by decide) rfl dL_law_1614 dL_law_1615 dL_law_1616 dL_law_1617 dL_law_1618 ?_
  refine l_arg C hS hl hi 2 (by decide) rfl dL_law_1619 dL_law_1620 dL_law_1621 dL_law_1622 dL_law_1623 ?_
  refine l_arg C hS hl hi 3 (by decide) rfl dL_law_1624 dL_law_1625 dL_law_1626 dL_law_1627 dL_law_1628 ?_
  unfold lW at hP hD
  generalize hR : (wX8 K g ag n la m ++ ([] : va_W)) ++ (wOpt K ok ++ wOpt K ot) = R at hP hD
  refine xend_rw_i (wf := fun (u : (zS) × (zS) × (zS) × (zS)) => wX7 K h (ax 0) hs u.1 ++ (wX1 K (ax 0 0) (ax 1) (xs 1) ++ (wX6 K (ax 0 9) (ax 8) u.2.1 ++ (wX5 K (ax 0 11) (ax 10) u.2.2.1 ++ (wX1 K (ax 0 1) (ax 2) u.2.2.2))))) (xRunV (As := [.int (sc (i + 1)), .int (sc (i + 2)), .int (sc (i + 3))]) (rest := []) C0 (c_X7_change (L_change sim (sc (i + 1)) (sc (i + 2)) (sc (i + 3)))) k_X7_change mw_1070 ⟨rfl, rfl⟩ ⟨Nat.le_of_ble_eq_true rfl, Nat.le_of_ble_eq_true rfl⟩ hP hD (bpl lLs [0, 1, 8, 10, 2]) lG_0_1_8_10_2 lD_0_1_8_10_2 rfl rfl hl rfl rfl (Nat.le_of_ble_eq_true rfl) dL_law_1629 hf) hP hD hS hA (bpl lLs [0, 1, 8, 10, 2]) lG_0_1_8_10_2 lD_0_1_8_10_2 (fun u => rfl) (fun r u H locs hw hP hD hS => ?_)
  rw [lE_0_1_8_10_2_10111] at hP hD
  subst hR
  refine lv_aload_n hx hb dL_law_1632 rfl (lv_at hl 2 rfl) ?_
  refine l_arg C hS hl hi 1 (by decide) rfl dL_law_1633 dL_law_1634 dL_law_1635 dL_law_1636 dL_law_1637 ?_
  refine l_arg C hS hl hi 2 (by decide) rfl dL_law_1638 dL_law_1639 dL_law_1640 dL_law_1641 dL_law_1642 ?_
  refine l_arg C hS hl hi 3 (by decide) rfl dL_law_1643 dL_law_1644 dL_law_1645 dL_law_1646 dL_law_1647 ?_
  refine xend_rw_i_mid (wf := fun (u : zS) => wX8 K g ag n la u ++ ([] : va_W)) (xRunV_mid (As := [.int (sc (i + 1)), .int (sc (i + 2)), .int (sc (i + 3))]) (rest := [.int r]) C0 (c_X8_change hw) k_X8_change mw_1078 ⟨rfl, rfl⟩ ⟨Nat.le_of_ble_eq_true rfl, Nat.le_of_ble_eq_true rfl⟩ hP hD rfl rfl hl rfl rfl (Nat.le_of_ble_eq_true rfl) dL_law_1648 hf) hP hD hS hA (fun u => rfl) (fun r2 u2 H locs hw hP hD hS => ?_)
  refine lv_icmp_eq (tgt := 1962) hx hb dL_law_1651 (by decide) (fun _ => ?_) (fun z => absurd hw.1.symm z)
  exact next _ _ _ _ _ _ _ _ _ _ ⟨hP, hD, hS, hw.2, hn, ⟨by omega, by omega⟩⟩
end LAWTC
