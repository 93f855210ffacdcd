/-! the law's turn: row -/
section LAWROW
variable {p : Program} {l : Launch} {e : Env} {s : State} {mi : MethodId} {below : List Frame} {meth : Method} {c : Code} {H : Heap} {locs : List Loc} {cells slots : Nat} {Q : State → Prop}
variable {D : va_G} {K : Nat → ClassId} {h : Nat} {hs : Nat → Nat} {as ax : Nat → Nat → Nat} {g : Nat} {ag la : Nat → Nat} {b L : Nat} {sc : Nat → Int32} {ls : Array Slot} {i : Nat} {pc : Nat} {st : List Value}
variable {xs sh : Nat → zS} {m : zS} {n : Nat → Option Nat} {ok ot : wO}
theorem lG_0_11 {R : va_W} : (bpl lLs [0, 11]).map (fun i => (bfl (lB K h hs as ax xs sh) ++ R)[i]?) = (wX7 K h (ax 0) hs (xs 0) ++ (wPl K hs as sh ++ ([] : va_W))).map some := b_get lB_len [0, 11] (show ∀ j ∈ [0, 11], j < 12 by decide)
theorem lD_0_11 : va_nd (bpl lLs [0, 11]) = true := by decide +kernel
theorem lE_0_11_11 {R : va_W} {x' : zS} {sh' : Nat → zS} : xset (bfl (lB K h hs as ax xs sh) ++ R) (bpl lLs [0, 11]) (wX7 K h (ax 0) hs x' ++ (wPl K hs as sh' ++ ([] : va_W))) = bfl (lB K h hs as ax (va_up xs 0 x') sh') ++ R :=
  b_set [0, 11] [wX7 K h (ax 0) hs x', wPl K hs as sh'] _ lB_len (show ∀ j ∈ [0, 11], j < 12 by decide) ⟨rfl, rfl, trivial⟩
set_option maxHeartbeats 4000000 in
set_option maxRecDepth 100000 in
theorem lc_row (C : lC p s mi meth c D K b L sc) (hl : lv_has ls 4 [(0, .ref b), (1, .ref h), (2, .ref g), (3, .int (nI i))]) (hi : i + 6 ≤ L) (St : lS s D K h hs as ax g ag la H locs cells slots xs sh m n ok ot i)
    (next : ∀ (H : Heap) (locs : List Loc) (cells slots : Nat) (xs sh : Nat → zS) (m : zS) (n : Nat → Option Nat) (ok ot : wO), lS s D K h hs as ax g ag la H locs cells slots xs sh m n ok ot (i + 6) → W p l e room_1 s mi #[Value.ref b] below meth c H locs cells slots Q (F0 mi 1962 ls [])) : W p l e room_1 s mi #[Value.ref b] below meth c H locs cells slots Q (F0 mi 252 ls []) := by
  obtain ⟨C0, hX, hbl, hL⟩ := id C
  obtain ⟨hx, hb, hr, hml, hown, hts, hlocks, hK, hT⟩ := id C0
  obtain ⟨hP, hD, hS, sim, hn, hc⟩ := St
  have hA : ∀ q : Nat, s.heap.size ≤ q → (fun q : Nat => s.heap.size ≤ q) q := fun _ z => z
  have hf : cells + 0 ≤ room_1.cells ∧ slots + 0 ≤ room_1.slots := ⟨by show cells ≤ 600000; omega, by show slots ≤ 7302250; omega⟩
  refine lv_aload_n hx hb dL_law_252 rfl (lv_at hl 1 rfl) ?_
  refine l_arg C hS hl hi 1 (by decide) rfl dL_law_253 dL_law_254 dL_law_255 dL_law_256 dL_law_257 ?_
  refine l_arg C hS hl hi 2 (by decide) rfl dL_law_258 dL_law_259 dL_law_260 dL_law_261 dL_law_262 ?_
  refine l_arg C hS hl hi 3 (by decide) rfl dL_law_263 dL_law_264 dL_law_265 dL_law_266 dL_law_267 ?_
  unfold lW at hP hD
  generalize hR : (wX8 K g ag n la m ++ ([] : va_W)) ++ (wOpt K ok ++ wOpt K ot) = R at hP hD
  refine xend_rw_i (wf := fun (u : zS × (Nat → zS)) => wX7 K h (ax 0) hs u.1 ++ (wPl K hs as u.2 ++ ([] : va_W))) (xRunV (As := [.int (sc (i + 1)), .int (sc (i + 2)), .int (sc (i + 3))]) (rest := []) C0 (c_X7_row (L_row sim (sc (i + 1)) (sc (i + 2)) (sc (i + 3)))) k_X7_row mw_140 ⟨rfl, rfl⟩ ⟨Nat.le_of_ble_eq_true rfl, Nat.le_of_ble_eq_true rfl⟩ hP hD (bpl lLs [0, 11]) lG_0_11 lD_0_11 rfl rfl hl rfl rfl (Nat.le_of_ble_eq_true rfl) dL_law_268 hf) hP hD hS hA (bpl lLs [0, 11]) lG_0_11 lD_0_11 (fun u => rfl) (fun r u H locs hw hP hD hS => ?_)
  rw [lE_0_11_11] at hP hD
  subst hR
  refine lv_aload_n hx hb dL_law_271 rfl (lv_at hl 2 rfl) ?_
  refine l_arg C hS hl hi 1 (by decide) rfl dL_law_272 dL_law_273 dL_law_274 dL_law_275 dL_law_276 ?_
  refine l_arg C hS hl hi 2 (by decide) rfl dL_law_277 dL_law_278 dL_law_279 dL_law_280 dL_law_281 ?_
  refine l_arg C hS hl hi 3 (by decide) rfl dL_law_282 dL_law_283 dL_law_284 dL_law_285 dL_law_286 ?_
  refine xend_rw_i_mid (wf := fun (u : zS) => wX8 K g ag n la u ++ ([] : va_W)) (xRunV_mid (As := [.int (sc (i + 1)), .int (sc (i + 2)), .int (sc (i + 3))]) (rest := [.int r]) C0 (c_X8_row hw) k_X8_row mw_155 ⟨rfl, rfl⟩ ⟨Nat.le_of_ble_eq_true rfl, Nat.le_of_ble_eq_true rfl⟩ hP hD rfl rfl hl rfl rfl (Nat.le_of_ble_eq_true rfl) dL_law_287 hf) hP hD hS hA (fun u => rfl) (fun r2 u2 H locs hw hP hD hS => ?_)
  refine lv_icmp_eq (tgt := 1962) hx hb dL_law_290 (by decide) (fun _ => ?_) (fun z => absurd hw.1.symm z)
  exact next _ _ _ _ _ _ _ _ _ _ ⟨hP, hD, hS, hw.2, hn, ⟨by omega, by omega⟩⟩
end LAWROW
