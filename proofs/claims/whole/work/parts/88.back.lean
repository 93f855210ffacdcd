/-! turns of the law -/
section LAWTU
variable {p : Program} {l : Launch} {e : Env} {s : State} {mi : MethodId} {below : List Frame} {meth : Method} {c : Code} {H : Heap} {locs : List Loc} {cells slots : Nat} {Q : State → Prop}
variable {D : va_G} {K : Nat → ClassId} {h : Nat} {hs : Nat → Nat} {as ax : Nat → Nat → Nat} {g : Nat} {ag la : Nat → Nat} {b L : Nat} {sc : Nat → Int32} {ls : Array Slot} {i : Nat} {pc : Nat} {st : List Value}
variable {xs sh : Nat → zS} {m : zS} {n : Nat → Option Nat} {ok ot : wO}
theorem l_ok {a k t : va_W} : (a ++ ([] : va_W)) ++ ((k ++ ([] : va_W)) ++ t) = (a ++ (k ++ ([] : va_W))) ++ t := by
  simp only [List.append_assoc, List.nil_append]
theorem lG_0_11_1_3_4_5 {R : va_W} : (bpl lLs [0, 11, 1, 3, 4, 5]).map (fun i => (bfl (lB K h hs as ax xs sh) ++ R)[i]?) = (wX7 K h (ax 0) hs (xs 0) ++ (wPl K hs as sh ++ (wX1 K (ax 0 0) (ax 1) (xs 1) ++ (wX1 K (ax 0 2) (ax 3) (xs 3) ++ (wX4 K (ax 0 3) (ax 4) (xs 4) ++ (wX4 K (ax 0 4) (ax 5) (xs 5))))))).map some :=
  (b_get lB_len [0, 11, 1, 3, 4, 5] (show ∀ j ∈ [0, 11, 1, 3, 4, 5], j < 12 by decide)).trans (congrArg (List.map some) (show wX7 K h (ax 0) hs (xs 0) ++ (wPl K hs as sh ++ (wX1 K (ax 0 0) (ax 1) (xs 1) ++ (wX1 K (ax 0 2) (ax 3) (xs 3) ++ (wX4 K (ax 0 3) (ax 4) (xs 4) ++ (wX4 K (ax 0 4) (ax 5) (xs 5) ++ (([] : va_W))))))) = wX7 K h (ax 0) hs (xs 0) ++ (wPl K hs as sh ++ (wX1 K (ax 0 0) (ax 1) (xs 1) ++ (wX1 K (ax 0 2) (ax 3) (xs 3) ++ (wX4 K (ax 0 3) (ax 4) (xs 4) ++ (wX4 K (ax 0 4) (ax 5) (xs 5)))))) by rw [List.append_nil]))
theorem lD_0_11_1_3_4_5 : va_nd (bpl lLs [0, 11, 1, 3, 4, 5]) = true := by decide +kernel
theorem lE_0_11_1_3_4_5_111010 {R : va_W} {y0 : zS} {y1 : Nat → zS} {y2 : zS} {y4 : zS} : xset (bfl (lB K h hs as ax xs sh) ++ R) (bpl lLs [0, 11, 1, 3, 4, 5]) (wX7 K h (ax 0) hs y0 ++ (wPl K hs as y1 ++ (wX1 K (ax 0 0) (ax 1) y2 ++ (wX1 K (ax 0 2) (ax 3) (xs 3) ++ (wX4 K (ax 0 3) (ax 4) y4 ++ (wX4 K (ax 0 4) (ax 5) (xs 5))))))) = bfl (lB K h hs as ax (va_up (va_up (va_up xs 0 y0) 1 y2) 4 y4) y1) ++ R := by
  have q := b_set (R := R) [0, 11, 1, 3, 4, 5] [wX7 K h (ax 0) hs y0, wPl K hs as y1, wX1 K (ax 0 0) (ax 1) y2, wX1 K (ax 0 2) (ax 3) (xs 3), wX4 K (ax 0 3) (ax 4) y4, wX4 K (ax 0 4) (ax 5) (xs 5)] (lB K h hs as ax xs sh) lB_len (show ∀ j ∈ [0, 11, 1, 3, 4, 5], j < 12 by decide) ⟨rfl, rfl, rfl, rfl, rfl, rfl, trivial⟩
  have q0 : bfl [wX7 K h (ax 0) hs y0, wPl K hs as y1, wX1 K (ax 0 0) (ax 1) y2, wX1 K (ax 0 2) (ax 3) (xs 3), wX4 K (ax 0 3) (ax 4) y4, wX4 K (ax 0 4) (ax 5) (xs 5)] = wX7 K h (ax 0) hs y0 ++ (wPl K hs as y1 ++ (wX1 K (ax 0 0) (ax 1) y2 ++ (wX1 K (ax 0 2) (ax 3) (xs 3) ++ (wX4 K (ax 0 3) (ax 4) y4 ++ (wX4 K (ax 0 4) (ax 5) (xs 5)))))) := by
    show wX7 K h (ax 0) hs y0 ++ (wPl K hs as y1 ++ (wX1 K (ax 0 0) (ax 1) y2 ++ (wX1 K (ax 0 2) (ax 3) (xs 3) ++ (wX4 K (ax 0 3) (ax 4) y4 ++ (wX4 K (ax 0 4) (ax 5) (xs 5) ++ (([] : va_W))))))) = _
    rw [List.append_nil]
  rw [q0] at q
  exact q
set_option maxHeartbeats 4000000 in
set_option maxRecDepth 100000 in
theorem lc_backN (C : lC p s mi meth c D K b L sc) (hl : lv_has ls 4 [(0, .ref b), (1, .ref h), (2, .ref g), (3, .int (nI i))]) (hi : i + 6 ≤ L) (St : lS s D K h hs as ax g ag la H locs cells slots xs sh m n none ot i)
    (next : ∀ (H : Heap) (locs : List Loc) (cells slots : Nat) (xs sh : Nat → zS) (m : zS) (n : Nat → Option Nat) (ok ot : wO), lS s D K h hs as ax g ag la H locs cells slots xs sh m n ok ot (i + 6) → W p l e room_1 s mi #[Value.ref b] below meth c H locs cells slots Q (F0 mi 1962 ls [])) : W p l e room_1 s mi #[Value.ref b] below meth c H locs cells slots Q (F0 mi 1926 ls []) := by
  obtain ⟨C0, hX, hbl, hL⟩ := id C
  obtain ⟨hx, hb, hr, hml, hown, hts, hlocks, hK, hT⟩ := id C0
  obtain ⟨hP, hD, hS, sim, hn, hc⟩ := St
  have hA : ∀ q : Nat, s.heap.size ≤ q → (fun q : Nat => s.heap.size ≤ q) q := fun _ z => z
  have hf : cells + 0 ≤ room_1.cells ∧ slots + 0 ≤ room_1.slots := ⟨by show cells ≤ 600000; omega, by show slots ≤ 7302250; omega⟩
  refine lv_aload_n hx hb dL_law_1926 rfl (lv_at hl 1 rfl) ?_
  unfold lW at hP hD
  generalize hR : (wX8 K g ag n la m ++ ([] : va_W)) ++ (wOpt K none ++ wOpt K ot) = R at hP hD
  refine xend_rw_i (wf := fun (u : (zS) × (Nat → zS) × (zS) × (zS)) => wX7 K h (ax 0) hs u.1 ++ (wPl K hs as u.2.1 ++ (wX1 K (ax 0 0) (ax 1) u.2.2.1 ++ (wX1 K (ax 0 2) (ax 3) (xs 3) ++ (wX4 K (ax 0 3) (ax 4) u.2.2.2 ++ (wX4 K (ax 0 4) (ax 5) (xs 5))))))) (xRunV (As := []) (rest := []) C0 (c_X7_back (L_back_N sim )) k_X7_back mw_1241 ⟨rfl, rfl⟩ ⟨Nat.le_of_ble_eq_true rfl, Nat.le_of_ble_eq_true rfl⟩ hP hD (bpl lLs [0, 11, 1, 3, 4, 5]) lG_0_11_1_3_4_5 lD_0_11_1_3_4_5 rfl rfl hl rfl rfl (Nat.le_of_ble_eq_true rfl) dL_law_1927 hf) hP hD hS hA (bpl lLs [0, 11, 1, 3, 4, 5]) lG_0_11_1_3_4_5 lD_0_11_1_3_4_5 (fun u => rfl) (fun r u H locs hw hP hD hS => ?_)
  rw [lE_0_11_1_3_4_5_111010] at hP hD
  subst hR
  refine lv_aload_n hx hb dL_law_1930 rfl (lv_at hl 2 rfl) ?_
  refine xend_rw_i_mid (wf := fun (u : zS) => wX8 K g ag n la u ++ ([] : va_W)) (xRunV_mid (As := []) (rest := [.int r]) C0 (c_X8_back_N hn.1 hw) k_X8_back mw_1245 ⟨rfl, rfl⟩ ⟨Nat.le_of_ble_eq_true rfl, Nat.le_of_ble_eq_true rfl⟩ hP hD rfl rfl hl rfl rfl (Nat.le_of_ble_eq_true rfl) dL_law_1931 hf) hP hD hS hA (fun u => rfl) (fun r2 u2 H locs hw hP hD hS => ?_)
  refine lv_icmp_eq (tgt := 1962) hx hb dL_law_1934 (by decide) (fun _ => ?_) (fun z => absurd hw.1.symm z)
  exact next _ _ _ _ _ _ _ _ _ _ ⟨hP, hD, hS, hw.2, hn, ⟨by omega, by omega⟩⟩
set_option maxHeartbeats 4000000 in
set_option maxRecDepth 100000 in
theorem lc_backS {q : Nat} {A : Nat → Nat} {N : Nat → Option Nat} {LA : Nat → Nat} {km : zS} (C : lC p s mi meth c D K b L sc) (hl : lv_has ls 4 [(0, .ref b), (1, .ref h), (2, .ref g), (3, .int (nI i))]) (hi : i + 6 ≤ L) (St : lS s D K h hs as ax g ag la H locs cells slots xs sh m n (some (q, A, N, LA, km)) ot i)
    (next : ∀ (H : Heap) (locs : List Loc) (cells slots : Nat) (xs sh : Nat → zS) (m : zS) (n : Nat → Option Nat) (ok ot : wO), lS s D K h hs as ax g ag la H locs cells slots xs sh m n ok ot (i + 6) → W p l e room_1 s mi #[Value.ref b] below meth c H locs cells slots Q (F0 mi 1962 ls [])) : W p l e room_1 s mi #[Value.ref b] below meth c H locs cells slots Q (F0 mi 1926 ls []) := by
  obtain ⟨C0, hX, hbl, hL⟩ := id C
  obtain ⟨hx, hb, hr, hml, hown, hts, hlocks, hK, hT⟩ := id C0
  obtain ⟨hP, hD, hS, sim, hn, hc⟩ := St
  have hA : ∀ q : Nat, s.heap.size ≤ q → (fun q : Nat => s.heap.size ≤ q) q := fun _ z => z
  have hf : cells + 0 ≤ room_1.cells ∧ slots + 0 ≤ room_1.slots := ⟨by show cells ≤ 600000; omega, by show slots ≤ 7302250; omega⟩
  refine lv_aload_n hx hb dL_law_1926 rfl (lv_at hl 1 rfl) ?_
  unfold lW at hP hD
  generalize hR : (wX8 K g ag n la m ++ ([] : va_W)) ++ (wOpt K (some (q, A, N, LA, km)) ++ wOpt K ot) = R at hP hD
  refine xend_rw_i (wf := fun (u : (zS) × (Nat → zS) × (zS) × (zS)) => wX7 K h (ax 0) hs u.1 ++ (wPl K hs as u.2.1 ++ (wX1 K (ax 0 0) (ax 1) u.2.2.1 ++ (wX1 K (ax 0 2) (ax 3) (xs 3) ++ (wX4 K (ax 0 3) (ax 4) u.2.2.2 ++ (wX4 K (ax 0 4) (ax 5) (xs 5))))))) (xRunV (As := []) (rest := []) C0 (c_X7_back (L_back_S sim )) k_X7_back mw_1241 ⟨rfl, rfl⟩ ⟨Nat.le_of_ble_eq_true rfl, Nat.le_of_ble_eq_true rfl⟩ hP hD (bpl lLs [0, 11, 1, 3, 4, 5]) lG_0_11_1_3_4_5 lD_0_11_1_3_4_5 rfl rfl hl rfl rfl (Nat.le_of_ble_eq_true rfl) dL_law_1927 hf) hP hD hS hA (bpl lLs [0, 11, 1, 3, 4, 5]) lG_0_11_1_3_4_5 lD_0_11_1_3_4_5 (fun u => rfl) (fun r u H locs hw hP hD hS => ?_)
  rw [lE_0_11_1_3_4_5_111010] at hP hD
  subst hR
  refine lv_aload_n hx hb dL_law_1930 rfl (lv_at hl 2 rfl) ?_
  have e0 : wOpt K (some (q, A, N, LA, km)) = wX8 K q A N LA km ++ ([] : va_W) := rfl
  rw [e0, l_ok] at hP hD
  refine xend_rw_i_mid (wf := fun (u : zS) => wX8 K g ag n la u ++ (wX8 K q A N LA km ++ ([] : va_W))) (xRunV_mid (As := []) (rest := [.int r]) C0 (c_X8_back_S hn.1 hw) k_X8_back mw_1245 ⟨rfl, rfl⟩ ⟨Nat.le_of_ble_eq_true rfl, Nat.le_of_ble_eq_true rfl⟩ hP hD rfl rfl hl rfl rfl (Nat.le_of_ble_eq_true rfl) dL_law_1931 hf) hP hD hS hA (fun u => rfl) (fun r2 u2 H locs hw hP hD hS => ?_)
  rw [← l_ok, ← e0] at hP hD
  refine lv_icmp_eq (tgt := 1962) hx hb dL_law_1934 (by decide) (fun _ => ?_) (fun z => absurd hw.1.symm z)
  exact next _ _ _ _ _ _ _ _ _ _ ⟨hP, hD, hS, hw.2, hn, ⟨by omega, by omega⟩⟩
theorem lG_0_3_1_5_4 {R : va_W} : (bpl lLs [0, 3, 1, 5, 4]).map (fun i => (bfl (lB K h hs as ax xs sh) ++ R)[i]?) = (wX7 K h (ax 0) hs (xs 0) ++ (wX1 K (ax 0 2) (ax 3) (xs 3) ++ (wX1 K (ax 0 0) (ax 1) (xs 1) ++ (wX4 K (ax 0 4) (ax 5) (xs 5) ++ (wX4 K (ax 0 3) (ax 4) (xs 4)))))).map some :=
  (b_get lB_len [0, 3, 1, 5, 4] (show ∀ j ∈ [0, 3, 1, 5, 4], j < 12 by decide)).trans (congrArg (List.map some) (show wX7 K h (ax 0) hs (xs 0) ++ (wX1 K (ax 0 2) (ax 3) (xs 3) ++ (wX1 K (ax 0 0) (ax 1) (xs 1) ++ (wX4 K (ax 0 4) (ax 5) (xs 5) ++ (wX4 K (ax 0 3) (ax 4) (xs 4) ++ (([] : va_W)))))) = wX7 K h (ax 0) hs (xs 0) ++ (wX1 K (ax 0 2) (ax 3) (xs 3) ++ (wX1 K (ax 0 0) (ax 1) (xs 1) ++ (wX4 K (ax 0 4) (ax 5) (xs 5) ++ (wX4 K (ax 0 3) (ax 4) (xs 4))))) by rw [List.append_nil]))
theorem lD_0_3_1_5_4 : va_nd (bpl lLs [0, 3, 1, 5, 4]) = true := by decide +kernel
theorem lE_0_3_1_5_4_11010 {R : va_W} {y0 : zS} {y1 : zS} {y3 : zS} : xset (bfl (lB K h hs as ax xs sh) ++ R) (bpl lLs [0, 3, 1, 5, 4]) (wX7 K h (ax 0) hs y0 ++ (wX1 K (ax 0 2) (ax 3) y1 ++ (wX1 K (ax 0 0) (ax 1) (xs 1) ++ (wX4 K (ax 0 4) (ax 5) y3 ++ (wX4 K (ax 0 3) (ax 4) (xs 4)))))) = bfl (lB K h hs as ax (va_up (va_up (va_up xs 0 y0) 3 y1) 5 y3) sh) ++ R := by
  have q := b_set (R := R) [0, 3, 1, 5, 4] [wX7 K h (ax 0) hs y0, wX1 K (ax 0 2) (ax 3) y1, wX1 K (ax 0 0) (ax 1) (xs 1), wX4 K (ax 0 4) (ax 5) y3, wX4 K (ax 0 3) (ax 4) (xs 4)] (lB K h hs as ax xs sh) lB_len (show ∀ j ∈ [0, 3, 1, 5, 4], j < 12 by decide) ⟨rfl, rfl, rfl, rfl, rfl, trivial⟩
  have q0 : bfl [wX7 K h (ax 0) hs y0, wX1 K (ax 0 2) (ax 3) y1, wX1 K (ax 0 0) (ax 1) (xs 1), wX4 K (ax 0 4) (ax 5) y3, wX4 K (ax 0 3) (ax 4) (xs 4)] = wX7 K h (ax 0) hs y0 ++ (wX1 K (ax 0 2) (ax 3) y1 ++ (wX1 K (ax 0 0) (ax 1) (xs 1) ++ (wX4 K (ax 0 4) (ax 5) y3 ++ (wX4 K (ax 0 3) (ax 4) (xs 4))))) := by
    show wX7 K h (ax 0) hs y0 ++ (wX1 K (ax 0 2) (ax 3) y1 ++ (wX1 K (ax 0 0) (ax 1) (xs 1) ++ (wX4 K (ax 0 4) (ax 5) y3 ++ (wX4 K (ax 0 3) (ax 4) (xs 4) ++ (([] : va_W)))))) = _
    rw [List.append_nil]
  rw [q0] at q
  exact q
set_option maxHeartbeats 4000000 in
set_option maxRecDepth 100000 in
theorem lc_imageS {q : Nat} {A : Nat → Nat} {N : Nat → Option Nat} {LA : Nat → Nat} {km : zS} (C : lC p s mi meth c D K b L sc) (hl : lv_has ls 4 [(0, .ref b), (1, .ref h), (2, .ref g), (3, .int (nI i))]) (hi : i + 6 ≤ L) (St : lS s D K h hs as ax g ag la H locs cells slots xs sh m n (some (q, A, N, LA, km)) ot i)
    (next : ∀ (H : Heap) (locs : List Loc) (cells slots : Nat) (xs sh : Nat → zS) (m : zS) (n : Nat → Option Nat) (ok ot : wO), lS s D K h hs as ax g ag la H locs cells slots xs sh m n ok ot (i + 6) → W p l e room_1 s mi #[Value.ref b] below meth c H locs cells slots Q (F0 mi 1962 ls [])) : W p l e room_1 s mi #[Value.ref b] below meth c H locs cells slots Q (F0 mi 1913 ls []) := by
  obtain ⟨C0, hX, hbl, hL⟩ := id C
  obtain ⟨hx, hb, hr, hml, hown, hts, hlocks, hK, hT⟩ := id C0
  obtain ⟨hP, hD, hS, sim, hn, hc⟩ := St
  have hA : ∀ q : Nat, s.heap.size ≤ q → (fun q : Nat => s.heap.size ≤ q) q := fun _ z => z
  have hf : cells + 0 ≤ room_1.cells ∧ slots + 0 ≤ room_1.slots := ⟨by show cells ≤ 600000; omega, by show slots ≤ 7302250; omega⟩
  refine lv_aload_n hx hb dL_law_1913 rfl (lv_at hl 1 rfl) ?_
  unfold lW at hP hD
  generalize hR : (wX8 K g ag n la m ++ ([] : va_W)) ++ (wOpt K (some (q, A, N, LA, km)) ++ wOpt K ot) = R at hP hD
  refine xend_rw_i (wf := fun (u : (zS) × (zS) × (zS)) => wX7 K h (ax 0) hs u.1 ++ (wX1 K (ax 0 2) (ax 3) u.2.1 ++ (wX1 K (ax 0 0) (ax 1) (xs 1) ++ (wX4 K (ax 0 4) (ax 5) u.2.2 ++ (wX4 K (ax 0 3) (ax 4) (xs 4)))))) (xRunV (As := []) (rest := []) C0 (c_X7_image (L_image_S sim )) k_X7_image mw_1228 ⟨rfl, rfl⟩ ⟨Nat.le_of_ble_eq_true rfl, Nat.le_of_ble_eq_true rfl⟩ hP hD (bpl lLs [0, 3, 1, 5, 4]) lG_0_3_1_5_4 lD_0_3_1_5_4 rfl rfl hl rfl rfl (Nat.le_of_ble_eq_true rfl) dL_law_1914 hf) hP hD hS hA (bpl lLs [0, 3, 1, 5, 4]) lG_0_3_1_5_4 lD_0_3_1_5_4 (fun u => rfl) (fun r u H locs hw hP hD hS => ?_)
  rw [lE_0_3_1_5_4_11010] at hP hD
  subst hR
  refine lv_aload_n hx hb dL_law_1917 rfl (lv_at hl 2 rfl) ?_
  have e0 : ∀ km, wOpt K (some (q, A, N, LA, km)) = wX8 K q A N LA km ++ ([] : va_W) := fun _ => rfl
  rw [e0, l_ok] at hP hD
  refine xend_rw_i_mid (wf := fun (u : zS) => wX8 K g ag n la m ++ (wX8 K q A N LA u ++ ([] : va_W))) (xRunV_mid (As := []) (rest := [.int r]) C0 (c_X8_image_S hn.1 hw) k_X8_image mw_1236 ⟨rfl, rfl⟩ ⟨Nat.le_of_ble_eq_true rfl, Nat.le_of_ble_eq_true rfl⟩ hP hD rfl rfl hl rfl rfl (Nat.le_of_ble_eq_true rfl) dL_law_1918 hf) hP hD hS hA (fun u => rfl) (fun r2 u2 H locs hw hP hD hS => ?_)
  rw [← l_ok, ← e0] at hP hD
  refine lv_icmp_eq (tgt := 1962) hx hb dL_law_1921 (by decide) (fun _ => ?_) (fun z => absurd hw.1.symm z)
  exact next _ _ _ _ _ _ _ _ _ _ ⟨hP, hD, hS, hw.2, hn, ⟨by omega, by omega⟩⟩
set_option maxHeartbeats 4000000 in
set_option maxRecDepth 100000 in
theorem lc_imageN (C : lC p s mi meth c D K b L sc) (hl : lv_has ls 4 [(0, .ref b), (1, .ref h), (2, .ref g), (3, .int (nI i))]) (hi : i + 6 ≤ L) (St : lS s D K h hs as ax g ag la H locs cells slots xs sh m n none ot i)
    (next : ∀ (H : Heap) (locs : List Loc) (cells slots : Nat) (xs sh : Nat → zS) (m : zS) (n : Nat → Option Nat) (ok ot : wO), lS s D K h hs as ax g ag la H locs cells slots xs sh m n ok ot (i + 6) → W p l e room_1 s mi #[Value.ref b] below meth c H locs cells slots Q (F0 mi 1962 ls [])) : W p l e room_1 s mi #[Value.ref b] below meth c H locs cells slots Q (F0 mi 1913 ls []) := by
  obtain ⟨C0, hX, hbl, hL⟩ := id C
  obtain ⟨hx, hb, hr, hml, hown, hts, hlocks, hK, hT⟩ := id C0
  obtain ⟨hP, hD, hS, sim, hn, hc⟩ := St
  have hA : ∀ q : Nat, s.heap.size ≤ q → (fun q : Nat => s.heap.size ≤ q) q := fun _ z => z
  have hf : cells + 0 ≤ room_1.cells ∧ slots + 0 ≤ room_1.slots := ⟨by show cells ≤ 600000; omega, by show slots ≤ 7302250; omega⟩
  refine lv_aload_n hx hb dL_law_1913 rfl (lv_at hl 1 rfl) ?_
  unfold lW at hP hD
  generalize hR : (wX8 K g ag n la m ++ ([] : va_W)) ++ (wOpt K none ++ wOpt K ot) = R at hP hD
  refine xend_rw_i (wf := fun (u : (zS) × (zS) × (zS)) => wX7 K h (ax 0) hs u.1 ++ (wX1 K (ax 0 2) (ax 3) u.2.1 ++ (wX1 K (ax 0 0) (ax 1) (xs 1) ++ (wX4 K (ax 0 4) (ax 5) u.2.2 ++ (wX4 K (ax 0 3) (ax 4) (xs 4)))))) (xRunV (As := []) (rest := []) C0 (c_X7_image (L_image_N sim )) k_X7_image mw_1228 ⟨rfl, rfl⟩ ⟨Nat.le_of_ble_eq_true rfl, Nat.le_of_ble_eq_true rfl⟩ hP hD (bpl lLs [0, 3, 1, 5, 4]) lG_0_3_1_5_4 lD_0_3_1_5_4 rfl rfl hl rfl rfl (Nat.le_of_ble_eq_true rfl) dL_law_1914 hf) hP hD hS hA (bpl lLs [0, 3, 1, 5, 4]) lG_0_3_1_5_4 lD_0_3_1_5_4 (fun u => rfl) (fun r u H locs hw hP hD hS => ?_)
  rw [lE_0_3_1_5_4_11010] at hP hD
  subst hR
  refine lv_aload_n hx hb dL_law_1917 rfl (lv_at hl 2 rfl) ?_
  have hf2 : cells + 31 ≤ room_1.cells ∧ slots + 4831 ≤ room_1.slots := ⟨by show cells + 31 ≤ 600000; omega, by show slots + 4831 ≤ 7302250; omega⟩
  refine xend_n_mid (tys := xty K) (wf := fun (u : Nat × (Nat → Nat) × (Nat → Nat) × zS) => (wX8 K g ag (va_up n 26 (some u.1)) la m ++ (wX8 K u.1 u.2.1 (fun _ => none) u.2.2.1 u.2.2.2 ++ ([] : va_W)))) (xRunV_mid (As := []) (rest := [.int r]) C0 (c_X8_image_N hn.1 hw) k_X8_image mw_1236 ⟨rfl, rfl⟩ ⟨Nat.le_of_ble_eq_true rfl, Nat.le_of_ble_eq_true rfl⟩ hP hD rfl rfl hl rfl rfl (Nat.le_of_ble_eq_true rfl) dL_law_1918 hf2) hP hD hS hA (fun r2 u2 H locs hw hP hD hS => ?_)
  have e1 : wOpt K none ++ wOpt K ot = wOpt K ot := rfl
  rw [e1, ← l_ok] at hP hD
  refine lv_icmp_eq (tgt := 1962) hx hb dL_law_1921 (by decide) (fun _ => ?_) (fun z => absurd hw.1.symm z)
  exact next _ _ _ _ _ _ _ (va_up n 26 (some u2.1)) (some (u2.1, u2.2.1, (fun _ => none), u2.2.2.1, u2.2.2.2)) ot ⟨hP, hD, hS, hw.2 _, ⟨rfl, hn.2⟩, ⟨by omega, by omega⟩⟩
end LAWTU
