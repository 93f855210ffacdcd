theorem xdf8 : ∀ j, j < 50 → defaultValue (tyX8 j) = vp_V ([.null, .null, .null, .null, .null, .null, .null, .int 0, .null, .int 0, .int 0, .null, .null, .null, .null, .int 0, .int 0, .int 0, .int 0, .int 0, .int 0, .int 0, .null, .null, .null, .int 0, .null, .null, .int 0, .int 0, .int 0, .int 0, .int 0, .null, .int 0, .null, .int 0, .int 0, .int 0, .int 0, .int 0, .int 0, .int 0, .int 0, .int 0, .null, .null, .null, .null, .null] : List Value) j := by decide +kernel
def wp_X8_fresh_N (r0 : zS) (post : Nat → (Nat → Nat) → (Nat → Nat) → zS → Prop) : Prop :=
  wp_X8_takeFrom z8 r0 (fun s1 => ∀ (q : Nat) (a la : Nat → Nat), post q a la s1)
set_option maxHeartbeats 4000000 in
set_option maxRecDepth 100000 in
theorem c_X8_fresh_N {l : Launch} {D : va_G} {K : Nat → ClassId} {h0 : Nat} {a0 : Nat → Nat} {n0 : Nat → Option Nat} {la0 : Nat → Nat} {r0 : zS} {sz : Nat} {post : Nat → (Nat → Nat) → (Nat → Nat) → zS → Prop} (hn27 : n0 27 = none) (h : wp_X8_fresh_N r0 post) : Met l yX8_fresh (Cond.code yX8_fresh cX8_fresh 1 (some (.object "UnderTheDesksModel")) :: wsL_law) ({ frames := 2, cells := 31, slots := 4831, locals := 80 } : Room) (va_Pc [.ref h0] (xPre D vwCl (xty K) (wX8 K h0 a0 n0 la0 r0 ++ (([] : va_W))) sz)) (xQm (fun b (u : (Nat → Nat) × (Nat → Nat) × zS) => post b u.1 u.2.1 u.2.2) (fun b (u : (Nat → Nat) × (Nat → Nat) × zS) => (wX8 K h0 a0 (va_up n0 27 (some b)) la0 r0 ++ (wX8 K b u.1 (fun _ => none) u.2.1 u.2.2 ++ ([] : va_W)))) (D := D) (va_A (wX8 K h0 a0 n0 la0 r0 ++ (([] : va_W))) sz)) 31 4831 (va_A (wX8 K h0 a0 n0 la0 r0 ++ (([] : va_W))) sz) := by
  refine xMet (by decide) rfl (Nat.le_of_ble_eq_true rfl) (fun p e s m args below meth c C hnm hP hD hsz ls hl => ?_)
  have hl : lv_has ls 1 [(0, .ref h0)] := hl
  obtain ⟨hx, hb, hr, hml, hown, hts, hlocks, hK, hT⟩ := id C
  subst hsz
  generalize hAe : va_A (wX8 K h0 a0 n0 la0 r0 ++ (([] : va_W))) s.heap.size = A at hD ⊢
  have hA : ∀ q : Nat, s.heap.size ≤ q → A q := fun q h => by rw [← hAe]; exact Or.inr h
  have hS : va_S A s.heap s.heap [] := va_S.rf
  unfold wp_X8_fresh_N at h
  refine lv_aload_n hx hb dX8_fresh_0 rfl (lv_at hl 0 rfl) ?_
  refine gX8_27N hn27 C hP dX8_fresh_1 ?_
  refine lv_ifnonnullN hx hb dX8_fresh_4 ?_
  refine lv_aload_n hx hb dX8_fresh_7 rfl (lv_at hl 0 rfl) ?_
  refine va_new (ci := 8) (fs := [.null, .null, .null, .null, .null, .null, .null, .int 0, .null, .int 0, .int 0, .null, .null, .null, .null, .int 0, .int 0, .int 0, .int 0, .int 0, .int 0, .int 0, .null, .null, .null, .int 0, .null, .null, .int 0, .int 0, .int 0, .int 0, .int 0, .null, .int 0, .null, .int 0, .int 0, .int 0, .int 0, .int 0, .int 0, .int 0, .int 0, .int 0, .null, .null, .null, .null, .null]) (C := RX8) (T := TX8) (N := 50) hx hb hts inlX8 tyX8 tyX8_ok hown (hts _ mw_645) (hts _ mw_4) (hts _ mw_5) hK hP hD hS hA rfl xdf8 (Nat.le_of_ble_eq_true rfl) (Nat.le_of_ble_eq_true rfl) dX8_fresh_8 (fun q H hP hD hS => ?_)
  refine lv_dup hx hb dX8_fresh_11 rfl ?_
  refine xend_new (ws := (wX8 K h0 a0 n0 la0 r0 ++ (([] : va_W)))) (wc := [(q, .inr (8, [.null, .null, .null, .null, .null, .null, .null, .int 0, .null, .int 0, .int 0, .null, .null, .null, .null, .int 0, .int 0, .int 0, .int 0, .int 0, .int 0, .int 0, .null, .null, .null, .int 0, .null, .null, .int 0, .int 0, .int 0, .int 0, .int 0, .null, .int 0, .null, .int 0, .int 0, .int 0, .int 0, .int 0, .int 0, .int 0, .int 0, .int 0, .null, .null, .null, .null, .null]))]) (wf := fun (u : (Nat → Nat) × (Nat → Nat)) => wX8 K q u.1 (fun _ => none) u.2 z8) (xRunI (ws := (wX8 K h0 a0 n0 la0 r0 ++ (([] : va_W)))) (wc := [(q, .inr (8, [.null, .null, .null, .null, .null, .null, .null, .int 0, .null, .int 0, .int 0, .null, .null, .null, .null, .int 0, .int 0, .int 0, .int 0, .int 0, .int 0, .int 0, .null, .null, .null, .int 0, .null, .null, .int 0, .int 0, .int 0, .int 0, .int 0, .null, .int 0, .null, .int 0, .int 0, .int 0, .int 0, .int 0, .int 0, .int 0, .int 0, .int 0, .null, .null, .null, .null, .null]))]) (As := []) (rest := [.ref q, .ref h0]) C c_X8_init k_X8_init mw_646 ⟨rfl, rfl⟩ ⟨Nat.le_of_ble_eq_true rfl, Nat.le_of_ble_eq_true rfl⟩ hP hD hl rfl rfl (Nat.le_of_ble_eq_true rfl) dX8_fresh_12 ⟨Nat.le_of_ble_eq_true rfl, Nat.le_of_ble_eq_true rfl⟩) hP hD hS hA (fun u H locs hP hD hS => ?_)
  obtain ⟨an, ln⟩ := u
  have e9 : (wX8 K h0 a0 n0 la0 r0 ++ (([] : va_W))) ++ wX8 K q an (fun _ => none) ln z8 = wX8 K h0 a0 n0 la0 r0 ++ (wX8 K q an (fun _ => none) ln z8 ++ ([] : va_W)) := by rw [List.append_nil, List.append_nil]
  dsimp only at hP hD
  rw [e9] at hP hD
  refine va_put (D := D) (ci := 8) (v := .ref q) (ty := .object "UnderTheDesksModel") (C := RX8) (T := TX8) (N := 50) hx hb hts inlX8 tyX8 tyX8_ok nmX8 hown hK hP hD hS 0 rfl rfl 27 (by decide) (hts _ mw_644) (fun _ h9 => h9) rfl (by decide +kernel) rfl rfl (Nat.le_of_ble_eq_true rfl) dX8_fresh_15 (fun H locs hP hD hS => ?_)
  replace hP : va_P D vwCl (wX8 K h0 a0 (va_up n0 27 (some q)) la0 r0 ++ (wX8 K q an (fun _ => none) ln z8 ++ ([] : va_W))) H := hP
  replace hD : va_D A (wX8 K h0 a0 (va_up n0 27 (some q)) la0 r0 ++ (wX8 K q an (fun _ => none) ln z8 ++ ([] : va_W))) := hD
  have hq : va_up n0 27 (some q) 27 = some q := rfl
  refine lv_aload_n hx hb dX8_fresh_18 rfl (lv_at hl 0 rfl) ?_
  refine gX8_27S hq C hP dX8_fresh_19 ?_
  refine lv_aload_n hx hb dX8_fresh_22 rfl (lv_at hl 0 rfl) ?_
  refine xend_rw_v (wf := fun (u : (zS)) => (wX8 K q an (fun _ => none) ln u ++ (wX8 K h0 a0 (va_up n0 27 (some q)) la0 r0 ++ (([] : va_W))))) (xRunV (wc := (wX8 K q an (fun _ => none) ln z8 ++ (wX8 K h0 a0 (va_up n0 27 (some q)) la0 r0 ++ (([] : va_W))))) (As := [.ref h0]) (rest := []) C (c_X8_takeFrom h) k_X8_takeFrom mw_647 ⟨rfl, rfl⟩ ⟨Nat.le_of_ble_eq_true rfl, Nat.le_of_ble_eq_true rfl⟩ hP hD xr21 wX8_C21 xr21_nd rfl rfl hl rfl rfl (Nat.le_of_ble_eq_true rfl) dX8_fresh_23 ⟨Nat.le_of_ble_eq_true rfl, Nat.le_of_ble_eq_true rfl⟩) hP hD hS hA xr21 wX8_C21 xr21_nd (fun _ => rfl) (fun s2 H locs h hP hD hS => ?_)
  rw [wX8_set21] at hP hD
  refine W.widen (k := 31) (n := 4831) (Nat.le_of_ble_eq_true rfl) (Nat.le_of_ble_eq_true rfl) ?_
  refine lv_aload_n hx hb dX8_fresh_26 rfl (lv_at hl 0 rfl) ?_
  refine gX8_27S hq C hP dX8_fresh_27 ?_
  exact W.aret hx hb hr (Or.inl ⟨_, rfl⟩) (Or.inr ⟨q, rfl⟩) (fun t ht _ => ⟨⟨q, (an, ln, s2), rfl, h q an ln, by rw [ht]; exact hP, hD⟩, hS.F ht⟩) hS.2.2 dX8_fresh_30 hlocks
def wp_X8_image_N (r0 : zS) (post : Int32 → Nat → (Nat → Nat) → (Nat → Nat) → zS → Prop) : Prop :=
  wp_X8_takeFrom z8 r0 (fun s1 => ∀ (q : Nat) (a la : Nat → Nat), post 1 q a la s1)
set_option maxHeartbeats 4000000 in
set_option maxRecDepth 100000 in
theorem c_X8_image_N {l : Launch} {D : va_G} {K : Nat → ClassId} {h0 : Nat} {a0 : Nat → Nat} {n0 : Nat → Option Nat} {la0 : Nat → Nat} {r0 : zS} {sz : Nat} {post : Int32 → Nat → (Nat → Nat) → (Nat → Nat) → zS → Prop} (hn26 : n0 26 = none) (h : wp_X8_image_N r0 post) : Met l yX8_image (Cond.code yX8_image cX8_image 1 (some .int) :: wsL_law) ({ frames := 2, cells := 31, slots := 4831, locals := 80 } : Room) (va_Pc [.ref h0] (xPre D vwCl (xty K) (wX8 K h0 a0 n0 la0 r0 ++ (([] : va_W))) sz)) (xQn (fun r (u : Nat × (Nat → Nat) × (Nat → Nat) × zS) => post r u.1 u.2.1 u.2.2.1 u.2.2.2) (fun (u : Nat × (Nat → Nat) × (Nat → Nat) × zS) => (wX8 K h0 a0 (va_up n0 26 (some u.1)) la0 r0 ++ (wX8 K u.1 u.2.1 (fun _ => none) u.2.2.1 u.2.2.2 ++ ([] : va_W)))) (D := D) (va_A (wX8 K h0 a0 n0 la0 r0 ++ (([] : va_W))) sz)) 31 4831 (va_A (wX8 K h0 a0 n0 la0 r0 ++ (([] : va_W))) sz) := by
  refine xMet (by decide) rfl (Nat.le_of_ble_eq_true rfl) (fun p e s m args below meth c C hnm hP hD hsz ls hl => ?_)
  have hl : lv_has ls 1 [(0, .ref h0)] := hl
  obtain ⟨hx, hb, hr, hml, hown, hts, hlocks, hK, hT⟩ := id C
  subst hsz
  generalize hAe : va_A (wX8 K h0 a0 n0 la0 r0 ++ (([] : va_W))) s.heap.size = A at hD ⊢
  have hA : ∀ q : Nat, s.heap.size ≤ q → A q := fun q h => by rw [← hAe]; exact Or.inr h
  have hS : va_S A s.heap s.heap [] := va_S.rf
  unfold wp_X8_image_N at h
  refine lv_aload_n hx hb dX8_image_0 rfl (lv_at hl 0 rfl) ?_
  refine gX8_26N hn26 C hP dX8_image_1 ?_
  refine lv_ifnonnullN hx hb dX8_image_4 ?_
  refine lv_aload_n hx hb dX8_image_7 rfl (lv_at hl 0 rfl) ?_
  refine va_new (ci := 8) (fs := [.null, .null, .null, .null, .null, .null, .null, .int 0, .null, .int 0, .int 0, .null, .null, .null, .null, .int 0, .int 0, .int 0, .int 0, .int 0, .int 0, .int 0, .null, .null, .null, .int 0, .null, .null, .int 0, .int 0, .int 0, .int 0, .int 0, .null, .int 0, .null, .int 0, .int 0, .int 0, .int 0, .int 0, .int 0, .int 0, .int 0, .int 0, .null, .null, .null, .null, .null]) (C := RX8) (T := TX8) (N := 50) hx hb hts inlX8 tyX8 tyX8_ok hown (hts _ mw_645) (hts _ mw_4) (hts _ mw_5) hK hP hD hS hA rfl xdf8 (Nat.le_of_ble_eq_true rfl) (Nat.le_of_ble_eq_true rfl) dX8_image_8 (fun q H hP hD hS => ?_)
  refine lv_dup hx hb dX8_image_11 rfl ?_
  refine xend_new (ws := (wX8 K h0 a0 n0 la0 r0 ++ (([] : va_W)))) (wc := [(q, .inr (8, [.null, .null, .null, .null, .null, .null, .null, .int 0, .null, .int 0, .int 0, .null, .null, .null, .null, .int 0, .int 0, .int 0, .int 0, .int 0, .int 0, .int 0, .null, .null, .null, .int 0, .null, .null, .int 0, .int 0, .int 0, .int 0, .int 0, .null, .int 0, .null, .int 0, .int 0, .int 0, .int 0, .int 0, .int 0, .int 0, .int 0, .int 0, .null, .null, .null, .null, .null]))]) (wf := fun (u : (Nat → Nat) × (Nat → Nat)) => wX8 K q u.1 (fun _ => none) u.2 z8) (xRunI (ws := (wX8 K h0 a0 n0 la0 r0 ++ (([] : va_W)))) (wc := [(q, .inr (8, [.null, .null, .null, .null, .null, .null, .null, .int 0, .null, .int 0, .int 0, .null, .null, .null, .null, .int 0, .int 0, .int 0, .int 0, .int 0, .int 0, .int 0, .null, .null, .null, .int 0, .null, .null, .int 0, .int 0, .int 0, .int 0, .int 0, .null, .int 0, .null, .int 0, .int 0, .int 0, .int 0, .int 0, .int 0, .int 0, .int 0, .int 0, .null, .null, .null, .null, .null]))]) (As := []) (rest := [.ref q, .ref h0]) C c_X8_init k_X8_init mw_646 ⟨rfl, rfl⟩ ⟨Nat.le_of_ble_eq_true rfl, Nat.le_of_ble_eq_true rfl⟩ hP hD hl rfl rfl (Nat.le_of_ble_eq_true rfl) dX8_image_12 ⟨Nat.le_of_ble_eq_true rfl, Nat.le_of_ble_eq_true rfl⟩) hP hD hS hA (fun u H locs hP hD hS => ?_)
  obtain ⟨an, ln⟩ := u
  have e9 : (wX8 K h0 a0 n0 la0 r0 ++ (([] : va_W))) ++ wX8 K q an (fun _ => none) ln z8 = wX8 K h0 a0 n0 la0 r0 ++ (wX8 K q an (fun _ => none) ln z8 ++ ([] : va_W)) := by rw [List.append_nil, List.append_nil]
  dsimp only at hP hD
  rw [e9] at hP hD
  refine va_put (D := D) (ci := 8) (v := .ref q) (ty := .object "UnderTheDesksModel") (C := RX8) (T := TX8) (N := 50) hx hb hts inlX8 tyX8 tyX8_ok nmX8 hown hK hP hD hS 0 rfl rfl 26 (by decide) (hts _ mw_1240) (fun _ h9 => h9) rfl (by decide +kernel) rfl rfl (Nat.le_of_ble_eq_true rfl) dX8_image_15 (fun H locs hP hD hS => ?_)
  replace hP : va_P D vwCl (wX8 K h0 a0 (va_up n0 26 (some q)) la0 r0 ++ (wX8 K q an (fun _ => none) ln z8 ++ ([] : va_W))) H := hP
  replace hD : va_D A (wX8 K h0 a0 (va_up n0 26 (some q)) la0 r0 ++ (wX8 K q an (fun _ => none) ln z8 ++ ([] : va_W))) := hD
  have hq : va_up n0 26 (some q) 26 = some q := rfl
  refine lv_aload_n hx hb dX8_image_18 rfl (lv_at hl 0 rfl) ?_
  refine gX8_26S hq C hP dX8_image_19 ?_
  refine lv_aload_n hx hb dX8_image_22 rfl (lv_at hl 0 rfl) ?_
  refine xend_rw_v (wf := fun (u : (zS)) => (wX8 K q an (fun _ => none) ln u ++ (wX8 K h0 a0 (va_up n0 26 (some q)) la0 r0 ++ (([] : va_W))))) (xRunV (wc := (wX8 K q an (fun _ => none) ln z8 ++ (wX8 K h0 a0 (va_up n0 26 (some q)) la0 r0 ++ (([] : va_W))))) (As := [.ref h0]) (rest := []) C (c_X8_takeFrom h) k_X8_takeFrom mw_647 ⟨rfl, rfl⟩ ⟨Nat.le_of_ble_eq_true rfl, Nat.le_of_ble_eq_true rfl⟩ hP hD xr21 wX8_C21 xr21_nd rfl rfl hl rfl rfl (Nat.le_of_ble_eq_true rfl) dX8_image_23 ⟨Nat.le_of_ble_eq_true rfl, Nat.le_of_ble_eq_true rfl⟩) hP hD hS hA xr21 wX8_C21 xr21_nd (fun _ => rfl) (fun s2 H locs h hP hD hS => ?_)
  rw [wX8_set21] at hP hD
  refine W.widen (k := 31) (n := 4831) (Nat.le_of_ble_eq_true rfl) (Nat.le_of_ble_eq_true rfl) ?_
  refine lv_iconst (v := 1) hx hb dX8_image_26 (by decide) ?_
  exact xrw_n C (q, an, ln, s2) (h q an ln) hP hD hS dX8_image_27
