/-! turns of the law -/
section LAWTV
variable {p : Program} {l : Launch} {e : Env} {s : State} {mi : MethodId} {below : List Frame} {meth : Method} {c : Code} {H : Heap} {locs : List Loc} {cells slots : Nat} {Q : State → Prop}
variable {D : va_G} {K : Nat → ClassId} {h : Nat} {hs : Nat → Nat} {as ax : Nat → Nat → Nat} {g : Nat} {ag la : Nat → Nat} {b L : Nat} {sc : Nat → Int32} {ls : Array Slot} {i : Nat} {pc : Nat} {st : List Value}
variable {xs sh : Nat → zS} {m : zS} {n : Nat → Option Nat} {ok ot : wO}
theorem wOpt_len {o : wO} : (wOpt K o).length = 0 ∨ (wOpt K o).length = 31 := by
  cases o with
  | none => exact Or.inl rfl
  | some o => exact Or.inr rfl
theorem lB_59 : (bfl (lB K h hs as ax xs sh)).length = 59 := by
  rw [bfl_len, lB_len]; rfl
theorem l_nd1 : ∀ x, x = 0 ∨ x = 31 → ∀ y, y = 0 ∨ y = 31 → va_nd (bpl [59, 31, x, y] [0, 1, 3, 2]) = true := by
  rintro x (rfl | rfl) y (rfl | rfl) <;> decide +kernel
theorem l_swap {A0 : Nat → Prop} {X a k o : va_W} (hx : X.length = 59) (ha : a.length = 31) (hk : k.length = 0 ∨ k.length = 31) (ho : o.length = 0 ∨ o.length = 31) (hP : va_P D vwCl (X ++ (a ++ (k ++ o))) H) (hD : va_D A0 (X ++ (a ++ (k ++ o)))) : va_P D vwCl (X ++ (a ++ (o ++ k))) H ∧ va_D A0 (X ++ (a ++ (o ++ k))) := by
  have e := b_get (R := []) (Bs := [X, a, k, o]) (ls := [59, 31, k.length, o.length]) (by rw [← hx, ← ha]; rfl) [0, 1, 3, 2] (show ∀ j ∈ [0, 1, 3, 2], j < 4 by decide)
  have e1 : bfl [X, a, k, o] ++ ([] : va_W) = X ++ (a ++ (k ++ o)) := by simp only [bfl, List.append_nil]
  have e2 : bget [X, a, k, o] [0, 1, 3, 2] = X ++ (a ++ (o ++ k)) := by
    show X ++ (a ++ (o ++ (k ++ []))) = _
    rw [List.append_nil]
  rw [e1, e2] at e
  refine ⟨hP.sub (ws' := X ++ (a ++ (o ++ k))) (bpl [59, 31, k.length, o.length] [0, 1, 3, 2]) ?_, hD.sub (ws' := X ++ (a ++ (o ++ k))) (bpl [59, 31, k.length, o.length] [0, 1, 3, 2]) (l_nd1 _ hk _ ho) e⟩
  have h1 := congrArg (fun l => l.filterMap id) e
  simpa [List.filterMap_map, Function.comp_def] using h1
theorem l_n1 {a k t : va_W} : (a ++ ([] : va_W)) ++ (k ++ t) = a ++ (k ++ t) := by rw [List.append_nil]
theorem l_n2 {a k t : va_W} : (a ++ (t ++ ([] : va_W))) ++ k = a ++ (t ++ k) := by rw [List.append_nil, List.append_assoc]
theorem lG_0_1_2_8_10 {R : va_W} : (bpl lLs [0, 1, 2, 8, 10]).map (fun i => (bfl (lB K h hs as ax xs sh) ++ R)[i]?) = (wX7 K h (ax 0) hs (xs 0) ++ (wX1 K (ax 0 0) (ax 1) (xs 1) ++ (wX1 K (ax 0 1) (ax 2) (xs 2) ++ (wX6 K (ax 0 9) (ax 8) (xs 8) ++ (wX5 K (ax 0 11) (ax 10) (xs 10)))))).map some :=
  (b_get lB_len [0, 1, 2, 8, 10] (show ∀ j ∈ [0, 1, 2, 8, 10], j < 12 by decide)).trans (congrArg (List.map some) (show wX7 K h (ax 0) hs (xs 0) ++ (wX1 K (ax 0 0) (ax 1) (xs 1) ++ (wX1 K (ax 0 1) (ax 2) (xs 2) ++ (wX6 K (ax 0 9) (ax 8) (xs 8) ++ (wX5 K (ax 0 11) (ax 10) (xs 10) ++ (([] : va_W)))))) = wX7 K h (ax 0) hs (xs 0) ++ (wX1 K (ax 0 0) (ax 1) (xs 1) ++ (wX1 K (ax 0 1) (ax 2) (xs 2) ++ (wX6 K (ax 0 9) (ax 8) (xs 8) ++ (wX5 K (ax 0 11) (ax 10) (xs 10))))) by rw [List.append_nil]))
theorem lD_0_1_2_8_10 : va_nd (bpl lLs [0, 1, 2, 8, 10]) = true := by decide +kernel
theorem lE_0_1_2_8_10_10111 {R : va_W} {y0 : zS} {y2 : zS} {y3 : zS} {y4 : zS} : xset (bfl (lB K h hs as ax xs sh) ++ R) (bpl lLs [0, 1, 2, 8, 10]) (wX7 K h (ax 0) hs y0 ++ (wX1 K (ax 0 0) (ax 1) (xs 1) ++ (wX1 K (ax 0 1) (ax 2) y2 ++ (wX6 K (ax 0 9) (ax 8) y3 ++ (wX5 K (ax 0 11) (ax 10) y4))))) = bfl (lB K h hs as ax (va_up (va_up (va_up (va_up xs 0 y0) 2 y2) 8 y3) 10 y4) sh) ++ R := by
  have q := b_set (R := R) [0, 1, 2, 8, 10] [wX7 K h (ax 0) hs y0, wX1 K (ax 0 0) (ax 1) (xs 1), wX1 K (ax 0 1) (ax 2) y2, wX6 K (ax 0 9) (ax 8) y3, wX5 K (ax 0 11) (ax 10) y4] (lB K h hs as ax xs sh) lB_len (show ∀ j ∈ [0, 1, 2, 8, 10], j < 12 by decide) ⟨rfl, rfl, rfl, rfl, rfl, trivial⟩
  have q0 : bfl [wX7 K h (ax 0) hs y0, wX1 K (ax 0 0) (ax 1) (xs 1), wX1 K (ax 0 1) (ax 2) y2, wX6 K (ax 0 9) (ax 8) y3, wX5 K (ax 0 11) (ax 10) y4] = wX7 K h (ax 0) hs y0 ++ (wX1 K (ax 0 0) (ax 1) (xs 1) ++ (wX1 K (ax 0 1) (ax 2) y2 ++ (wX6 K (ax 0 9) (ax 8) y3 ++ (wX5 K (ax 0 11) (ax 10) y4)))) := by
    show wX7 K h (ax 0) hs y0 ++ (wX1 K (ax 0 0) (ax 1) (xs 1) ++ (wX1 K (ax 0 1) (ax 2) y2 ++ (wX6 K (ax 0 9) (ax 8) y3 ++ (wX5 K (ax 0 11) (ax 10) y4 ++ (([] : va_W)))))) = _
    rw [List.append_nil]
  rw [q0] at q
  exact q
set_option maxHeartbeats 4000000 in
set_option maxRecDepth 100000 in
theorem lc_spotS {q1 : Nat} {A1 : Nat → Nat} {N1 : Nat → Option Nat} {LA1 : Nat → Nat} {m1 : zS} (C : lC p s mi meth c D K b L sc) (hl : lv_has ls 4 [(0, .ref b), (1, .ref h), (2, .ref g), (3, .int (nI i))]) (hi : i + 6 ≤ L) (St : lS s D K h hs as ax g ag la H locs cells slots xs sh m n ok (some (q1, A1, N1, LA1, m1)) i)
    (next : ∀ (H : Heap) (locs : List Loc) (cells slots : Nat) (xs sh : Nat → zS) (m : zS) (n : Nat → Option Nat) (ok ot : wO), lS s D K h hs as ax g ag la H locs cells slots xs sh m n ok ot (i + 6) → W p l e room_1 s mi #[Value.ref b] below meth c H locs cells slots Q (F0 mi 1962 ls [])) : W p l e room_1 s mi #[Value.ref b] below meth c H locs cells slots Q (F0 mi 1204 ls []) := by
  obtain ⟨C0, hX, hbl, hL⟩ := id C
  obtain ⟨hx, hb, hr, hml, hown, hts, hlocks, hK, hT⟩ := id C0
  obtain ⟨hP, hD, hS, sim, hn, hc⟩ := St
  have hA : ∀ q : Nat, s.heap.size ≤ q → (fun q : Nat => s.heap.size ≤ q) q := fun _ z => z
  have hf : cells + 0 ≤ room_1.cells ∧ slots + 0 ≤ room_1.slots := ⟨by show cells ≤ 600000; omega, by show slots ≤ 7302250; omega⟩
  refine lv_aload_n hx hb dL_law_1204 rfl (lv_at hl 1 rfl) ?_
  refine l_arg C hS hl hi 1 (by decide) rfl dL_law_1205 dL_law_1206 dL_law_1207 dL_law_1208 dL_law_1209 ?_
  refine l_arg C hS hl hi 2 (by decide) rfl dL_law_1210 dL_law_1211 dL_law_1212 dL_law_1213 dL_law_1214 ?_
  refine l_arg C hS hl hi 3 (by decide) rfl dL_law_1215 dL_law_1216 dL_law_1217 dL_law_1218 dL_law_1219 ?_
  refine l_arg C hS hl hi 4 (by decide) rfl dL_law_1220 dL_law_1221 dL_law_1222 dL_law_1223 dL_law_1224 ?_
  unfold lW at hP hD
  generalize hR : (wX8 K g ag n la m ++ ([] : va_W)) ++ (wOpt K ok ++ wOpt K (some (q1, A1, N1, LA1, m1))) = R at hP hD
  refine xend_rw_i (wf := fun (u : (zS) × (zS) × (zS) × (zS)) => wX7 K h (ax 0) hs u.1 ++ (wX1 K (ax 0 0) (ax 1) (xs 1) ++ (wX1 K (ax 0 1) (ax 2) u.2.1 ++ (wX6 K (ax 0 9) (ax 8) u.2.2.1 ++ (wX5 K (ax 0 11) (ax 10) u.2.2.2))))) (xRunV (As := [.int (sc (i + 1)), .int (sc (i + 2)), .int (sc (i + 3)), .int (sc (i + 4))]) (rest := []) C0 (c_X7_spot (L_spot_S (m1 := m1) sim (sc (i + 1)) (sc (i + 2)) (sc (i + 3)) (sc (i + 4)))) k_X7_spot mw_926 ⟨rfl, rfl⟩ ⟨Nat.le_of_ble_eq_true rfl, Nat.le_of_ble_eq_true rfl⟩ hP hD (bpl lLs [0, 1, 2, 8, 10]) lG_0_1_2_8_10 lD_0_1_2_8_10 rfl rfl hl rfl rfl (Nat.le_of_ble_eq_true rfl) dL_law_1225 hf) hP hD hS hA (bpl lLs [0, 1, 2, 8, 10]) lG_0_1_2_8_10 lD_0_1_2_8_10 (fun u => rfl) (fun r u H locs hw hP hD hS => ?_)
  rw [lE_0_1_2_8_10_10111] at hP hD
  subst hR
  refine lv_aload_n hx hb dL_law_1228 rfl (lv_at hl 2 rfl) ?_
  refine l_arg C hS hl hi 1 (by decide) rfl dL_law_1229 dL_law_1230 dL_law_1231 dL_law_1232 dL_law_1233 ?_
  refine l_arg C hS hl hi 2 (by decide) rfl dL_law_1234 dL_law_1235 dL_law_1236 dL_law_1237 dL_law_1238 ?_
  refine l_arg C hS hl hi 3 (by decide) rfl dL_law_1239 dL_law_1240 dL_law_1241 dL_law_1242 dL_law_1243 ?_
  refine l_arg C hS hl hi 4 (by decide) rfl dL_law_1244 dL_law_1245 dL_law_1246 dL_law_1247 dL_law_1248 ?_
  have ea : ∀ m, (wX8 K g ag n la m).length = 31 := fun _ => rfl
  have et : ∀ m1, wOpt K (some (q1, A1, N1, LA1, m1)) = wX8 K q1 A1 N1 LA1 m1 ++ ([] : va_W) := fun _ => rfl
  rw [l_n1] at hP hD
  obtain ⟨hP, hD⟩ := l_swap lB_59 (ea m) wOpt_len wOpt_len hP hD
  rw [et, List.append_nil, ← l_n2 (a := wX8 K g ag n la m)] at hP hD
  refine xend_rw_i_mid (wf := fun (u : zS × zS) => wX8 K g ag n la u.1 ++ (wX8 K q1 A1 N1 LA1 u.2 ++ ([] : va_W))) (xRunV_mid (As := [.int (sc (i + 1)), .int (sc (i + 2)), .int (sc (i + 3)), .int (sc (i + 4))]) (rest := [.int r]) C0 (c_X8_spot_S hn.2 hw) k_X8_spot mw_935 ⟨rfl, rfl⟩ ⟨Nat.le_of_ble_eq_true rfl, Nat.le_of_ble_eq_true rfl⟩ hP hD rfl rfl hl rfl rfl (Nat.le_of_ble_eq_true rfl) dL_law_1249 hf) hP hD hS hA (fun u => rfl) (fun r2 u2 H locs hw hP hD hS => ?_)
  rw [l_n2, ← List.append_nil (wX8 K q1 A1 N1 LA1 u2.2), ← et] at hP hD
  obtain ⟨hP, hD⟩ := l_swap lB_59 (ea u2.1) wOpt_len wOpt_len hP hD
  rw [← l_n1 (a := wX8 K g ag n la u2.1)] at hP hD
  refine lv_icmp_eq (tgt := 1962) hx hb dL_law_1252 (by decide) (fun _ => ?_) (fun z => absurd hw.1.symm z)
  exact next _ _ _ _ _ _ _ n ok (some (q1, A1, N1, LA1, u2.2)) ⟨hP, hD, hS, hw.2, hn, ⟨by omega, by omega⟩⟩
set_option maxHeartbeats 4000000 in
set_option maxRecDepth 100000 in
theorem lc_spotN (C : lC p s mi meth c D K b L sc) (hl : lv_has ls 4 [(0, .ref b), (1, .ref h), (2, .ref g), (3, .int (nI i))]) (hi : i + 6 ≤ L) (St : lS s D K h hs as ax g ag la H locs cells slots xs sh m n ok none i)
    (next : ∀ (H : Heap) (locs : List Loc) (cells slots : Nat) (xs sh : Nat → zS) (m : zS) (n : Nat → Option Nat) (ok ot : wO), lS s D K h hs as ax g ag la H locs cells slots xs sh m n ok ot (i + 6) → W p l e room_1 s mi #[Value.ref b] below meth c H locs cells slots Q (F0 mi 1962 ls [])) : W p l e room_1 s mi #[Value.ref b] below meth c H locs cells slots Q (F0 mi 1204 ls []) := by
  obtain ⟨C0, hX, hbl, hL⟩ := id C
  obtain ⟨hx, hb, hr, hml, hown, hts, hlocks, hK, hT⟩ := id C0
  obtain ⟨hP, hD, hS, sim, hn, hc⟩ := St
  have hA : ∀ q : Nat, s.heap.size ≤ q → (fun q : Nat => s.heap.size ≤ q) q := fun _ z => z
  have hf : cells + 0 ≤ room_1.cells ∧ slots + 0 ≤ room_1.slots := ⟨by show cells ≤ 600000; omega, by show slots ≤ 7302250; omega⟩
  refine lv_aload_n hx hb dL_law_1204 rfl (lv_at hl 1 rfl) ?_
  refine l_arg C hS hl hi 1 (by decide) rfl dL_law_1205 dL_law_1206 dL_law_1207 dL_law_1208 dL_law_1209 ?_
  refine l_arg C hS hl hi 2 (by decide) rfl dL_law_1210 dL_law_1211 dL_law_1212 dL_law_1213 dL_law_1214 ?_
  refine l_arg C hS hl hi 3 (by decide) rfl dL_law_1215 dL_law_1216 dL_law_1217 dL_law_1218 dL_law_1219 ?_
  refine l_arg C hS hl hi 4 (by decide) rfl dL_law_1220 dL_law_1221 dL_law_1222 dL_law_1223 dL_law_1224 ?_
  unfold lW at hP hD
  generalize hR : (wX8 K g ag n la m ++ ([] : va_W)) ++ (wOpt K ok ++ wOpt K none) = R at hP hD
  refine xend_rw_i (wf := fun (u : (zS) × (zS) × (zS) × (zS)) => wX7 K h (ax 0) hs u.1 ++ (wX1 K (ax 0 0) (ax 1) (xs 1) ++ (wX1 K (ax 0 1) (ax 2) u.2.1 ++ (wX6 K (ax 0 9) (ax 8) u.2.2.1 ++ (wX5 K (ax 0 11) (ax 10) u.2.2.2))))) (xRunV (As := [.int (sc (i + 1)), .int (sc (i + 2)), .int (sc (i + 3)), .int (sc (i + 4))]) (rest := []) C0 (c_X7_spot (L_spot_N sim (sc (i + 1)) (sc (i + 2)) (sc (i + 3)) (sc (i + 4)))) k_X7_spot mw_926 ⟨rfl, rfl⟩ ⟨Nat.le_of_ble_eq_true rfl, Nat.le_of_ble_eq_true rfl⟩ hP hD (bpl lLs [0, 1, 2, 8, 10]) lG_0_1_2_8_10 lD_0_1_2_8_10 rfl rfl hl rfl rfl (Nat.le_of_ble_eq_true rfl) dL_law_1225 hf) hP hD hS hA (bpl lLs [0, 1, 2, 8, 10]) lG_0_1_2_8_10 lD_0_1_2_8_10 (fun u => rfl) (fun r u H locs hw hP hD hS => ?_)
  rw [lE_0_1_2_8_10_10111] at hP hD
  subst hR
  refine lv_aload_n hx hb dL_law_1228 rfl (lv_at hl 2 rfl) ?_
  refine l_arg C hS hl hi 1 (by decide) rfl dL_law_1229 dL_law_1230 dL_law_1231 dL_law_1232 dL_law_1233 ?_
  refine l_arg C hS hl hi 2 (by decide) rfl dL_law_1234 dL_law_1235 dL_law_1236 dL_law_1237 dL_law_1238 ?_
  refine l_arg C hS hl hi 3 (by decide) rfl dL_law_1239 dL_law_1240 dL_law_1241 dL_law_1242 dL_law_1243 ?_
  refine l_arg C hS hl hi 4 (by decide) rfl dL_law_1244 dL_law_1245 dL_law_1246 dL_law_1247 dL_law_1248 ?_
  have hf2 : cells + 31 ≤ room_1.cells ∧ slots + 4831 ≤ room_1.slots := ⟨by show cells + 31 ≤ 600000; omega, by show slots + 4831 ≤ 7302250; omega⟩
  refine xend_n_mid (tys := xty K) (wf := fun (u : zS × wO) => wX8 K g ag (nOf n u.2) la u.1 ++ wOpt K u.2) (xRunV_mid (As := [.int (sc (i + 1)), .int (sc (i + 2)), .int (sc (i + 3)), .int (sc (i + 4))]) (rest := [.int r]) C0 (c_X8_spot_N hn.2 hw) k_X8_spot mw_935 ⟨rfl, rfl⟩ ⟨Nat.le_of_ble_eq_true rfl, Nat.le_of_ble_eq_true rfl⟩ hP hD rfl rfl hl rfl rfl (Nat.le_of_ble_eq_true rfl) dL_law_1249 hf2) hP hD hS hA (fun r2 u2 H locs hw hP hD hS => ?_)
  refine lv_icmp_eq (tgt := 1962) hx hb dL_law_1252 (by decide) (fun _ => ?_) (fun z => absurd hw.1.1.symm z)
  obtain ⟨w2, o2⟩ := u2
  rcases hw.1.2 with z | ⟨Q2, A2, LA2, m2, z⟩
  · have z : o2 = none := z
    subst z
    exact next _ _ (cells + 31) (slots + 4831) _ _ w2 n ok none ⟨hP, hD, hS, hw.2, hn, ⟨by omega, by omega⟩⟩
  · have z : o2 = some (Q2, A2, (fun _ => none), LA2, m2) := z
    subst z
    have ea : (wX8 K g ag (va_up n 27 (some Q2)) la w2).length = 31 := rfl
    have e3 : wOpt K (none : wO) = [] := rfl
    replace hP : va_P D vwCl (bfl (lB K h hs as ax _ _) ++ ((wX8 K g ag (va_up n 27 (some Q2)) la w2 ++ wOpt K (some (Q2, A2, (fun _ => none), LA2, m2))) ++ (wOpt K ok ++ wOpt K (none : wO)))) H := hP
    replace hD : va_D _ (bfl (lB K h hs as ax _ _) ++ ((wX8 K g ag (va_up n 27 (some Q2)) la w2 ++ wOpt K (some (Q2, A2, (fun _ => none), LA2, m2))) ++ (wOpt K ok ++ wOpt K (none : wO)))) := hD
    rw [e3, List.append_nil, List.append_assoc] at hP hD
    obtain ⟨hP, hD⟩ := l_swap lB_59 ea wOpt_len wOpt_len hP hD
    rw [← l_n1 (a := wX8 K g ag (va_up n 27 (some Q2)) la w2)] at hP hD
    exact next _ _ (cells + 31) (slots + 4831) _ _ w2 (va_up n 27 (some Q2)) ok (some (Q2, A2, (fun _ => none), LA2, m2)) ⟨hP, hD, hS, hw.2, ⟨hn.1, rfl⟩, ⟨by omega, by omega⟩⟩
end LAWTV
