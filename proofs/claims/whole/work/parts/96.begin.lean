/-! the law's start: both objects are made, the loop begins -/
theorem xdf7 : ∀ j, j < 13 → defaultValue (tyX7 j) = vp_V ([.null, .null, .null, .null, .null, .int 0, .null, .null, .null, .null, .null, .null, .null] : List Value) j := by decide +kernel
theorem l_lW0 {K : Nat → ClassId} {h : Nat} {hs : Nat → Nat} {as ax : Nat → Nat → Nat} {g : Nat} {ag la : Nat → Nat} {xs sh : Nat → zS} {m : zS} {n : Nat → Option Nat} : WX K h hs as ax xs sh ++ wX8 K g ag n la m = lW K h hs as ax g ag la xs sh m n none none := by
  unfold lW
  rw [lB_WX, wOpt_none, List.append_nil, List.append_nil, List.append_nil]
theorem l_nil {D : va_G} {H : Heap} : va_P D vwCl ([] : va_W) H := fun k q h => by simp at h
theorem l_nilD {A : Nat → Prop} : va_D A ([] : va_W) := ⟨fun i j p q h => by simp at h, fun k q h => by simp at h⟩
set_option maxHeartbeats 4000000 in
set_option maxRecDepth 100000 in
theorem l_begin {p : Program} {e : Env} {s : State} {m : MethodId} {below : List Frame} {meth : Method} {c : Code} {l : Launch} {b L : Nat} {sc : Nat → Int32} {D : va_G} {K : Nat → ClassId} {adK adV : Nat → Nat} {Q : State → Prop} {ls : Array Slot} (C : xC p s m #[Value.ref b] meth c cL_law RL 4 ret D vwCl (xty K)) (hX : va_X b L sc s s.heap) (hbl : b < s.heap.size) (hL : L ≤ 3072) (hE : zE adK adV (fun q : Nat => s.heap.size ≤ q) s s.heap) (hl : lv_has ls 4 [(0, .ref b)])
    (fin : ∀ (ls : Array Slot) (H : Heap) (locs : List Loc) (cells slots : Nat), va_S (fun q : Nat => s.heap.size ≤ q) s.heap H locs → cells ≤ 600000 → slots ≤ 7302250 → W p l e room_1 s m #[Value.ref b] below meth c H locs cells slots Q (F0 m 1968 ls [])) :
    W p l e room_1 s m #[Value.ref b] below meth c s.heap [] 0 0 Q (F0 m 0 ls []) := by
  obtain ⟨hx, hb, hr, hml, hown, hts, hlocks, hK, hT⟩ := id C
  have hA : ∀ q : Nat, s.heap.size ≤ q → (fun q : Nat => s.heap.size ≤ q) q := fun _ h => h
  have hS : va_S (fun q : Nat => s.heap.size ≤ q) s.heap s.heap [] := va_S.rf
  have hP : va_P D vwCl ([] : va_W) s.heap := l_nil
  have hD : va_D (fun q : Nat => s.heap.size ≤ q) ([] : va_W) := l_nilD
  refine va_new (ci := 7) (fs := [.null, .null, .null, .null, .null, .int 0, .null, .null, .null, .null, .null, .null, .null]) (C := RX7) (T := TX7) (N := 13) hx hb hts inlX7 tyX7 tyX7_ok hown (hts _ mw_0) (hts _ mw_1) (hts _ mw_2) hK hP hD hS hA rfl xdf7 (Nat.le_of_ble_eq_true rfl) (Nat.le_of_ble_eq_true rfl) dL_law_0 (fun h H hP hD hS => ?_)
  refine lv_dup hx hb dL_law_3 rfl ?_
  refine xend_new (ws := ([] : va_W)) (wc := ((h, .inr (7, [.null, .null, .null, .null, .null, .int 0, .null, .null, .null, .null, .null, .null, .null])) :: ([] : va_W))) (wf := fun (u : ((Nat → Nat) × (Nat → Nat → Nat) × (Nat → Nat → Nat))) => WX K h u.1 u.2.1 u.2.2 xs0 (fun _ => z2)) (xRunI (ws := ([] : va_W)) (wc := ((h, .inr (7, [.null, .null, .null, .null, .null, .int 0, .null, .null, .null, .null, .null, .null, .null])) :: ([] : va_W))) (As := []) (rest := [.ref h]) C c_X7_init k_X7_init mw_7 ⟨rfl, rfl⟩ ⟨Nat.le_of_ble_eq_true rfl, Nat.le_of_ble_eq_true rfl⟩ hP hD hl rfl rfl (Nat.le_of_ble_eq_true rfl) dL_law_4 ⟨Nat.le_of_ble_eq_true rfl, Nat.le_of_ble_eq_true rfl⟩) hP hD hS hA (fun u H locs hP hD hS => ?_)
  obtain ⟨hs, as, ax⟩ := u
  replace hP : va_P D vwCl (WX K h hs as ax xs0 (fun _ => z2)) H := hP
  replace hD : va_D (fun q : Nat => s.heap.size ≤ q) (WX K h hs as ax xs0 (fun _ => z2)) := hD
  refine lv_astore_n (lv' := [(1, .ref h), (0, .ref b)]) hx hb dL_law_7 rfl hl (by decide) rfl (fun ls hl => ?_)
  refine va_new (ci := 8) (fs := [.null, .null, .null, .null, .null, .null, .null, .int 0, .null, .int 0, .int 0, .null, .null, .null, .null, .int 0, .int 0, .int 0, .int 0, .int 0, .int 0, .int 0, .null, .null, .null, .int 0, .null, .null, .int 0, .int 0, .int 0, .int 0, .int 0, .null, .int 0, .null, .int 0, .int 0, .int 0, .int 0, .int 0, .int 0, .int 0, .int 0, .int 0, .null, .null, .null, .null, .null]) (C := RX8) (T := TX8) (N := 50) hx hb hts inlX8 tyX8 tyX8_ok hown (hts _ mw_3) (hts _ mw_4) (hts _ mw_5) hK hP hD hS hA rfl xdf8 (Nat.le_of_ble_eq_true rfl) (Nat.le_of_ble_eq_true rfl) dL_law_8 (fun g H hP hD hS => ?_)
  refine lv_dup hx hb dL_law_11 rfl ?_
  refine xend_new (ws := WX K h hs as ax xs0 (fun _ => z2)) (wc := [(g, .inr (8, [.null, .null, .null, .null, .null, .null, .null, .int 0, .null, .int 0, .int 0, .null, .null, .null, .null, .int 0, .int 0, .int 0, .int 0, .int 0, .int 0, .int 0, .null, .null, .null, .int 0, .null, .null, .int 0, .int 0, .int 0, .int 0, .int 0, .null, .int 0, .null, .int 0, .int 0, .int 0, .int 0, .int 0, .int 0, .int 0, .int 0, .int 0, .null, .null, .null, .null, .null]))]) (wf := fun (u : (Nat → Nat) × (Nat → Nat)) => wX8 K g u.1 (fun _ => none) u.2 z8) (xRunI (ws := WX K h hs as ax xs0 (fun _ => z2)) (wc := [(g, .inr (8, [.null, .null, .null, .null, .null, .null, .null, .int 0, .null, .int 0, .int 0, .null, .null, .null, .null, .int 0, .int 0, .int 0, .int 0, .int 0, .int 0, .int 0, .null, .null, .null, .int 0, .null, .null, .int 0, .int 0, .int 0, .int 0, .int 0, .null, .int 0, .null, .int 0, .int 0, .int 0, .int 0, .int 0, .int 0, .int 0, .int 0, .int 0, .null, .null, .null, .null, .null]))]) (As := []) (rest := [.ref g]) C c_X8_init k_X8_init mw_108 ⟨rfl, rfl⟩ ⟨Nat.le_of_ble_eq_true rfl, Nat.le_of_ble_eq_true rfl⟩ hP hD hl rfl rfl (Nat.le_of_ble_eq_true rfl) dL_law_12 ⟨Nat.le_of_ble_eq_true rfl, Nat.le_of_ble_eq_true rfl⟩) hP hD hS hA (fun u H locs hP hD hS => ?_)
  obtain ⟨ag, la⟩ := u
  dsimp only at hP hD
  rw [l_lW0] at hP hD
  refine lv_astore_n (lv' := [(2, .ref g), (1, .ref h), (0, .ref b)]) hx hb dL_law_15 rfl hl (by decide) rfl (fun ls hl => ?_)
  refine lv_iconst (v := nI 0) hx hb dL_law_16 rfl ?_
  refine lv_istore_n (lv' := [(3, .int (nI 0)), (2, .ref g), (1, .ref h), (0, .ref b)]) hx hb dL_law_17 rfl hl (by decide) rfl (fun ls hl => ?_)
  have hl : lv_has ls 4 [(0, .ref b), (1, .ref h), (2, .ref g), (3, .int (nI 0))] := lv_sub hl [3, 2, 1, 0] rfl
  exact l_loop (adK := adK) (adV := adV) ⟨C, hX, hbl, hL⟩ hE fin L 0 (by omega) (by omega) ls H locs _ _ xs0 (fun _ => z2) z8 (fun _ => none) none none hl ⟨hP, hD, hS, qSim_0, ⟨rfl, rfl⟩, ⟨Nat.le_of_ble_eq_true rfl, Nat.le_of_ble_eq_true rfl⟩⟩
