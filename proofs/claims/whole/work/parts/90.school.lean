/-! turns of the law -/
section LAWTW
variable {p : Program} {l : Launch} {e : Env} {s : State} {mi : MethodId} {below : List Frame} {meth : Method} {c : Code} {H : Heap} {locs : List Loc} {cells slots : Nat} {Q : State → Prop}
variable {D : va_G} {K : Nat → ClassId} {h : Nat} {hs : Nat → Nat} {as ax : Nat → Nat → Nat} {g : Nat} {ag la : Nat → Nat} {b L : Nat} {sc : Nat → Int32} {ls : Array Slot} {i : Nat} {pc : Nat} {st : List Value}
variable {xs sh : Nat → zS} {m : zS} {n : Nat → Option Nat} {ok ot : wO}
theorem lG_0_2_1_7_6 {R : va_W} : (bpl lLs [0, 2, 1, 7, 6]).map (fun i => (bfl (lB K h hs as ax xs sh) ++ R)[i]?) = (wX7 K h (ax 0) hs (xs 0) ++ (wX1 K (ax 0 1) (ax 2) (xs 2) ++ (wX1 K (ax 0 0) (ax 1) (xs 1) ++ (wX0 K (ax 0 8) (xls (ax 0)) (xs 7) ++ (wX3 K (ax 0 7) (ax 6) (xs 6)))))).map some :=
  (b_get lB_len [0, 2, 1, 7, 6] (show ∀ j ∈ [0, 2, 1, 7, 6], j < 12 by decide)).trans (congrArg (List.map some) (show wX7 K h (ax 0) hs (xs 0) ++ (wX1 K (ax 0 1) (ax 2) (xs 2) ++ (wX1 K (ax 0 0) (ax 1) (xs 1) ++ (wX0 K (ax 0 8) (xls (ax 0)) (xs 7) ++ (wX3 K (ax 0 7) (ax 6) (xs 6) ++ (([] : va_W)))))) = wX7 K h (ax 0) hs (xs 0) ++ (wX1 K (ax 0 1) (ax 2) (xs 2) ++ (wX1 K (ax 0 0) (ax 1) (xs 1) ++ (wX0 K (ax 0 8) (xls (ax 0)) (xs 7) ++ (wX3 K (ax 0 7) (ax 6) (xs 6))))) by rw [List.append_nil]))
theorem lD_0_2_1_7_6 : va_nd (bpl lLs [0, 2, 1, 7, 6]) = true := by decide +kernel
theorem lE_0_2_1_7_6_11111 {R : va_W} {y0 : zS} {y1 : zS} {y2 : zS} {y3 : zS} {y4 : zS} : xset (bfl (lB K h hs as ax xs sh) ++ R) (bpl lLs [0, 2, 1, 7, 6]) (wX7 K h (ax 0) hs y0 ++ (wX1 K (ax 0 1) (ax 2) y1 ++ (wX1 K (ax 0 0) (ax 1) y2 ++ (wX0 K (ax 0 8) (xls (ax 0)) y3 ++ (wX3 K (ax 0 7) (ax 6) y4))))) = bfl (lB K h hs as ax (va_up (va_up (va_up (va_up (va_up xs 0 y0) 2 y1) 1 y2) 7 y3) 6 y4) sh) ++ R := by
  have q := b_set (R := R) [0, 2, 1, 7, 6] [wX7 K h (ax 0) hs y0, wX1 K (ax 0 1) (ax 2) y1, wX1 K (ax 0 0) (ax 1) y2, wX0 K (ax 0 8) (xls (ax 0)) y3, wX3 K (ax 0 7) (ax 6) y4] (lB K h hs as ax xs sh) lB_len (show ∀ j ∈ [0, 2, 1, 7, 6], j < 12 by decide) ⟨rfl, rfl, rfl, rfl, rfl, trivial⟩
  have q0 : bfl [wX7 K h (ax 0) hs y0, wX1 K (ax 0 1) (ax 2) y1, wX1 K (ax 0 0) (ax 1) y2, wX0 K (ax 0 8) (xls (ax 0)) y3, wX3 K (ax 0 7) (ax 6) y4] = wX7 K h (ax 0) hs y0 ++ (wX1 K (ax 0 1) (ax 2) y1 ++ (wX1 K (ax 0 0) (ax 1) y2 ++ (wX0 K (ax 0 8) (xls (ax 0)) y3 ++ (wX3 K (ax 0 7) (ax 6) y4)))) := by
    show wX7 K h (ax 0) hs y0 ++ (wX1 K (ax 0 1) (ax 2) y1 ++ (wX1 K (ax 0 0) (ax 1) y2 ++ (wX0 K (ax 0 8) (xls (ax 0)) y3 ++ (wX3 K (ax 0 7) (ax 6) y4 ++ (([] : va_W)))))) = _
    rw [List.append_nil]
  rw [q0] at q
  exact q
set_option maxHeartbeats 4000000 in
set_option maxRecDepth 100000 in
theorem lc_schoolS {q1 : Nat} {A1 : Nat → Nat} {N1 : Nat → Option Nat} {LA1 : Nat → Nat} {m1 : zS} {adK adV : Nat → Nat} (C : lC p s mi meth c D K b L sc) (hl : lv_has ls 4 [(0, .ref b), (1, .ref h), (2, .ref g), (3, .int (nI i))]) (hi : i + 6 ≤ L) (hE : zE adK adV (fun q : Nat => s.heap.size ≤ q) s s.heap) (St : lS s D K h hs as ax g ag la H locs cells slots xs sh m n ok (some (q1, A1, N1, LA1, m1)) i)
    (next : ∀ (H : Heap) (locs : List Loc) (cells slots : Nat) (xs sh : Nat → zS) (m : zS) (n : Nat → Option Nat) (ok ot : wO), lS s D K h hs as ax g ag la H locs cells slots xs sh m n ok ot (i + 6) → W p l e room_1 s mi #[Value.ref b] below meth c H locs cells slots Q (F0 mi 1962 ls [])) : W p l e room_1 s mi #[Value.ref b] below meth c H locs cells slots Q (F0 mi 781 ls []) := by
  obtain ⟨C0, hX, hbl, hL⟩ := id C
  obtain ⟨hx, hb, hr, hml, hown, hts, hlocks, hK, hT⟩ := id C0
  obtain ⟨hP, hD, hS, sim, hn, hc⟩ := St
  have hA : ∀ q : Nat, s.heap.size ≤ q → (fun q : Nat => s.heap.size ≤ q) q := fun _ z => z
  have hf : cells + 0 ≤ room_1.cells ∧ slots + 0 ≤ room_1.slots := ⟨by show cells ≤ 600000; omega, by show slots ≤ 7302250; omega⟩
  refine lv_aload_n hx hb dL_law_781 rfl (lv_at hl 1 rfl) ?_
  unfold lW at hP hD
  generalize hR : (wX8 K g ag n la m ++ ([] : va_W)) ++ (wOpt K ok ++ wOpt K (some (q1, A1, N1, LA1, m1))) = R at hP hD
  refine xend_rw_i (wf := fun (u : (zS) × (zS) × (zS) × (zS) × (zS)) => wX7 K h (ax 0) hs u.1 ++ (wX1 K (ax 0 1) (ax 2) u.2.1 ++ (wX1 K (ax 0 0) (ax 1) u.2.2.1 ++ (wX0 K (ax 0 8) (xls (ax 0)) u.2.2.2.1 ++ (wX3 K (ax 0 7) (ax 6) u.2.2.2.2))))) (xRunVE (adK := adK) (adV := adV) (As := []) (rest := []) C0 hE hS hA (c_X7_school (L_school_S (m1 := m1) sim )) k_X7_school mw_512 ⟨rfl, rfl⟩ ⟨Nat.le_of_ble_eq_true rfl, Nat.le_of_ble_eq_true rfl⟩ hP hD (bpl lLs [0, 2, 1, 7, 6]) lG_0_2_1_7_6 lD_0_2_1_7_6 (fun hPc => va_recv hK hPc (ci := 7) (q0 := 0) rfl rfl) hl rfl rfl (Nat.le_of_ble_eq_true rfl) dL_law_782 hf) hP hD hS hA (bpl lLs [0, 2, 1, 7, 6]) lG_0_2_1_7_6 lD_0_2_1_7_6 (fun u => rfl) (fun r u H locs hw hP hD hS => ?_)
  rw [lE_0_2_1_7_6_11111] at hP hD
  subst hR
  refine lv_aload_n hx hb dL_law_785 rfl (lv_at hl 2 rfl) ?_
  have ea : ∀ m, (wX8 K g ag n la m).length = 31 := fun _ => rfl
  have et : ∀ m1, wOpt K (some (q1, A1, N1, LA1, m1)) = wX8 K q1 A1 N1 LA1 m1 ++ ([] : va_W) := fun _ => rfl
  rw [l_n1] at hP hD
  obtain ⟨hP, hD⟩ := l_swap lB_59 (ea m) wOpt_len wOpt_len hP hD
  rw [et, List.append_nil, ← l_n2 (a := wX8 K g ag n la m)] at hP hD
  refine xend_rw_i_mid (wf := fun (u : zS × zS) => wX8 K g ag n la u.1 ++ (wX8 K q1 A1 N1 LA1 u.2 ++ ([] : va_W))) (xRunVE_mid (adK := adK) (adV := adV) (As := []) (rest := [.int r]) C0 hE hS hA (c_X8_school_S (adK := adK) (adV := adV) hn.2 hw) k_X8_school mw_634 ⟨rfl, rfl⟩ ⟨Nat.le_of_ble_eq_true rfl, Nat.le_of_ble_eq_true rfl⟩ hP hD rfl rfl hl rfl rfl (Nat.le_of_ble_eq_true rfl) dL_law_786 hf) hP hD hS hA (fun u => rfl) (fun r2 u2 H locs hw hP hD hS => ?_)
  rw [l_n2, ← List.append_nil (wX8 K q1 A1 N1 LA1 u2.2), ← et] at hP hD
  obtain ⟨hP, hD⟩ := l_swap lB_59 (ea u2.1) wOpt_len wOpt_len hP hD
  rw [← l_n1 (a := wX8 K g ag n la u2.1)] at hP hD
  refine lv_icmp_eq (tgt := 1962) hx hb dL_law_789 (by decide) (fun _ => ?_) (fun z => absurd hw.1.symm z)
  exact next _ _ _ _ _ _ _ n ok (some (q1, A1, N1, LA1, u2.2)) ⟨hP, hD, hS, hw.2, hn, ⟨by omega, by omega⟩⟩
set_option maxHeartbeats 4000000 in
set_option maxRecDepth 100000 in
theorem lc_schoolN {adK adV : Nat → Nat} (C : lC p s mi meth c D K b L sc) (hl : lv_has ls 4 [(0, .ref b), (1, .ref h), (2, .ref g), (3, .int (nI i))]) (hi : i + 6 ≤ L) (hE : zE adK adV (fun q : Nat => s.heap.size ≤ q) s s.heap) (St : lS s D K h hs as ax g ag la H locs cells slots xs sh m n ok none i)
    (next : ∀ (H : Heap) (locs : List Loc) (cells slots : Nat) (xs sh : Nat → zS) (m : zS) (n : Nat → Option Nat) (ok ot : wO), lS s D K h hs as ax g ag la H locs cells slots xs sh m n ok ot (i + 6) → W p l e room_1 s mi #[Value.ref b] below meth c H locs cells slots Q (F0 mi 1962 ls [])) : W p l e room_1 s mi #[Value.ref b] below meth c H locs cells slots Q (F0 mi 781 ls []) := by
  obtain ⟨C0, hX, hbl, hL⟩ := id C
  obtain ⟨hx, hb, hr, hml, hown, hts, hlocks, hK, hT⟩ := id C0
  obtain ⟨hP, hD, hS, sim, hn, hc⟩ := St
  have hA : ∀ q : Nat, s.heap.size ≤ q → (fun q : Nat => s.heap.size ≤ q) q := fun _ z => z
  have hf : cells + 0 ≤ room_1.cells ∧ slots + 0 ≤ room_1.slots := ⟨by show cells ≤ 600000; omega, by show slots ≤ 7302250; omega⟩
  refine lv_aload_n hx hb dL_law_781 rfl (lv_at hl 1 rfl) ?_
  unfold lW at hP hD
  generalize hR : (wX8 K g ag n la m ++ ([] : va_W)) ++ (wOpt K ok ++ wOpt K none) = R at hP hD
  refine xend_rw_i (wf := fun (u : (zS) × (zS) × (zS) × (zS) × (zS)) => wX7 K h (ax 0) hs u.1 ++ (wX1 K (ax 0 1) (ax 2) u.2.1 ++ (wX1 K (ax 0 0) (ax 1) u.2.2.1 ++ (wX0 K (ax 0 8) (xls (ax 0)) u.2.2.2.1 ++ (wX3 K (ax 0 7) (ax 6) u.2.2.2.2))))) (xRunVE (adK := adK) (adV := adV) (As := []) (rest := []) C0 hE hS hA (c_X7_school (L_school_N sim )) k_X7_school mw_512 ⟨rfl, rfl⟩ ⟨Nat.le_of_ble_eq_true rfl, Nat.le_of_ble_eq_true rfl⟩ hP hD (bpl lLs [0, 2, 1, 7, 6]) lG_0_2_1_7_6 lD_0_2_1_7_6 (fun hPc => va_recv hK hPc (ci := 7) (q0 := 0) rfl rfl) hl rfl rfl (Nat.le_of_ble_eq_true rfl) dL_law_782 hf) hP hD hS hA (bpl lLs [0, 2, 1, 7, 6]) lG_0_2_1_7_6 lD_0_2_1_7_6 (fun u => rfl) (fun r u H locs hw hP hD hS => ?_)
  rw [lE_0_2_1_7_6_11111] at hP hD
  subst hR
  refine lv_aload_n hx hb dL_law_785 rfl (lv_at hl 2 rfl) ?_
  have hf2 : cells + 31 ≤ room_1.cells ∧ slots + 4831 ≤ room_1.slots := ⟨by show cells + 31 ≤ 600000; omega, by show slots + 4831 ≤ 7302250; omega⟩
  refine xend_n_mid (tys := xty K) (wf := fun (u : zS × wO) => wX8 K g ag (nOf n u.2) la u.1 ++ wOpt K u.2) (xRunVE_mid (adK := adK) (adV := adV) (As := []) (rest := [.int r]) C0 hE hS hA (c_X8_school_N (adK := adK) (adV := adV) hn.2 hw) k_X8_school mw_634 ⟨rfl, rfl⟩ ⟨Nat.le_of_ble_eq_true rfl, Nat.le_of_ble_eq_true rfl⟩ hP hD rfl rfl hl rfl rfl (Nat.le_of_ble_eq_true rfl) dL_law_786 hf2) hP hD hS hA (fun r2 u2 H locs hw hP hD hS => ?_)
  refine lv_icmp_eq (tgt := 1962) hx hb dL_law_789 (by decide) (fun _ => ?_) (fun z => absurd hw.1.1.symm z)
  obtain ⟨w2, o2⟩ := u2
  rcases hw.1.2 with z | ⟨Q2, A2, LA2, m2, z⟩
  · have z : o2 = none := z
    subst z
    exact next _ _ (cells + 31) (slots + 4831) _ _ w2 n ok none ⟨hP, hD, hS, hw.2, hn, ⟨by omega, by omega⟩⟩
  · have z : o2 = some (Q2, A2, (fun _ => none), LA2, m2) := z
    subst z
    have ea : (wX8 K g ag (va_up n 27 (some Q2)) la w2).length = 31 := rfl
    have e3 : wOpt K (none : wO) = [] := rfl
    replace hP : va_P D vwCl (bfl (lB K h hs as ax _ _) ++ ((wX8 K g ag (va_up n 27 (some Q2)) la w2 ++ wOpt K (some (Q2, A2, (fun _ => none), LA2, m2))) ++ (wOpt K ok ++ wOpt K (none : wO)))) H := hP
    replace hD : va_D _ (bfl (lB K h hs as ax _ _) ++ ((wX8 K g ag (va_up n 27 (some Q2)) la w2 ++ wOpt K (some (Q2, A2, (fun _ => none), LA2, m2))) ++ (wOpt K ok ++ wOpt K (none : wO)))) := hD
    rw [e3, List.append_nil, List.append_assoc] at hP hD
    obtain ⟨hP, hD⟩ := l_swap lB_59 ea wOpt_len wOpt_len hP hD
    rw [← l_n1 (a := wX8 K g ag (va_up n 27 (some Q2)) la w2)] at hP hD
    exact next _ _ (cells + 31) (slots + 4831) _ _ w2 (va_up n 27 (some Q2)) ok (some (Q2, A2, (fun _ => none), LA2, m2)) ⟨hP, hD, hS, hw.2, ⟨hn.1, rfl⟩, ⟨by omega, by omega⟩⟩
end LAWTW
