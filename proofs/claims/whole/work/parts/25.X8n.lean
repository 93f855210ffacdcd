def wp_X8_school_G_4  (post : Int32 → (zS) → (zS) → Prop) (r0 : zS) (r1 : zS) : Prop :=
  wp_X8_readAll r0 (fun v3 s4 => (v3 = 0 → wp_X8_takeFrom (zI s4 7 (0 : Int32)) r1 (fun s7 => wp_X8_refuse s7 (-2 : Int32) (fun v8 s9 => post ((-20 : Int32) - (s9.1 32)) s9 r1))) ∧ (¬ v3 = 0 → post ((zI s4 7 (0 : Int32)).1 34) (zI s4 7 (0 : Int32)) r1))
set_option maxHeartbeats 4000000 in
set_option maxRecDepth 100000 in
theorem t_X8_school_G_4 {p : Program} {l : Launch} {e : Env} {s : State} {m : MethodId} {args : Array Value} {below : List Frame} {meth : Method} {c : Code} {D : va_G} {K : Nat → ClassId} {mc ms : Nat} {Q : State → Prop} {h0 : Nat} {a0 : Nat → Nat} {n0 : Nat → Option Nat} {la0 : Nat → Nat} {h1 : Nat} {a1 : Nat → Nat} {n1 : Nat → Option Nat} {la1 : Nat → Nat} {post : Int32 → (zS) → (zS) → Prop} {A : Nat → Prop} (C : xC p s m args meth c cX8_school RX8 3 (some .int) D vwCl (xty K)) (hn27 : n0 27 = some h1) {adK adV : Nat → Nat} (hE : zE adK adV A s s.heap) (hA : ∀ q, s.heap.size ≤ q → A q) (hret : ∀ (v : Int32) (r0 : zS) (r1 : zS) (H : Heap) (locs : List Loc) (ls : Array Slot) (pc : Nat), decode cX8_school pc = .ok (.ireturn, 1) → va_P D vwCl (wX8 K h0 a0 n0 la0 r0 ++ (wX8 K h1 a1 n1 la1 r1 ++ (([] : va_W)))) H → va_D A (wX8 K h0 a0 n0 la0 r0 ++ (wX8 K h1 a1 n1 la1 r1 ++ (([] : va_W)))) → va_S A s.heap H locs → post v r0 r1 → W p l e ({ frames := 7, cells := mc, slots := ms, locals := 220 } : Room) s m args below meth c H locs mc ms Q (F0 m pc ls [.int v])) : ∀ (r0 : zS) (r1 : zS) (H : Heap) (locs : List Loc) (ls : Array Slot), lv_has ls 3 [(0, .ref h0)] → va_P D vwCl (wX8 K h0 a0 n0 la0 r0 ++ (wX8 K h1 a1 n1 la1 r1 ++ (([] : va_W)))) H → va_D A (wX8 K h0 a0 n0 la0 r0 ++ (wX8 K h1 a1 n1 la1 r1 ++ (([] : va_W)))) → va_S A s.heap H locs → wp_X8_school_G_4  post r0 r1 → W p l e ({ frames := 7, cells := mc, slots := ms, locals := 220 } : Room) s m args below meth c H locs mc ms Q (F0 m 4 ls [.ref h1]) := by
  obtain ⟨hx, hb, hr, hml, hown, hts, hlocks, hK, hT⟩ := id C
  intro r0 r1 H locs ls hl hP hD hS h
  unfold wp_X8_school_G_4 at h
  refine lv_astore_n (lv' := [(1, .ref h1), (0, .ref h0)]) hx hb dX8_school_4 rfl hl (by decide) rfl (fun ls hl => ?_)
  refine lv_aload_n hx hb dX8_school_5 rfl (lv_at hl 1 rfl) ?_
  refine xend_rw_i (wf := fun (u : (zS)) => (wX8 K h0 a0 n0 la0 u ++ (([] : va_W)))) (xRunVE (wc := (wX8 K h0 a0 n0 la0 r0 ++ (([] : va_W)))) (As := []) (rest := []) C hE hS hA (c_X8_readAll h) k_X8_readAll mw_658 ⟨rfl, rfl⟩ ⟨Nat.le_of_ble_eq_true rfl, Nat.le_of_ble_eq_true rfl⟩ hP hD xr1 wX8_C1 xr1_nd (fun hw => va_recv hK hw (ci := 8) (q0 := 0) rfl rfl) hl rfl rfl (Nat.le_of_ble_eq_true rfl) dX8_school_6 ⟨Nat.le_refl _, Nat.le_refl _⟩) hP hD hS hA xr1 wX8_C1 xr1_nd (fun _ => wX8_adr _ _) (fun v3 s4 H locs h hP hD hS => ?_)
  rw [wX8_set1] at hP hD
  replace hP : va_P D vwCl (wX8 K h0 a0 n0 la0 s4 ++ (wX8 K h1 a1 n1 la1 r1 ++ (([] : va_W)))) H := hP
  replace hD : va_D A (wX8 K h0 a0 n0 la0 s4 ++ (wX8 K h1 a1 n1 la1 r1 ++ (([] : va_W)))) := hD
  refine lv_istore_n (lv' := [(2, .int v3), (1, .ref h1), (0, .ref h0)]) hx hb dX8_school_9 rfl hl (by decide) rfl (fun ls hl => ?_)
  refine lv_aload_n hx hb dX8_school_10 rfl (lv_at hl 2 rfl) ?_
  refine lv_iconst (v := 0) hx hb dX8_school_11 (by decide) ?_
  refine pX8_7 C hP hD hS dX8_school_12 (fun H locs hP hD hS => ?_)
  refine lv_iload_n hx hb dX8_school_15 rfl (lv_at hl 0 rfl) ?_
  refine lv_if_ne (tgt := 39) hx hb dX8_school_16 (by decide) (fun c5 => ?_) (fun c5 => ?_)
  · replace h := And.right h c5
    refine lv_aload_n hx hb dX8_school_39 rfl (lv_at hl 2 rfl) ?_
    refine gX8_34 C hP dX8_school_40 ?_
    exact hret _ _ _ _ _ _ _ dX8_school_43 hP hD hS h
  · replace h := And.left h c5
    refine lv_aload_n hx hb dX8_school_19 rfl (lv_at hl 2 rfl) ?_
    refine lv_aload_n hx hb dX8_school_20 rfl (lv_at hl 1 rfl) ?_
    refine xend_rw_v_id (wf := fun (u : (zS)) => (wX8 K h0 a0 n0 la0 u ++ (wX8 K h1 a1 n1 la1 r1 ++ (([] : va_W))))) (xRunV_id (As := [.ref h1]) (rest := []) C (c_X8_takeFrom h) k_X8_takeFrom mw_647 ⟨rfl, rfl⟩ ⟨Nat.le_of_ble_eq_true rfl, Nat.le_of_ble_eq_true rfl⟩ hP hD rfl rfl hl rfl rfl (Nat.le_of_ble_eq_true rfl) dX8_school_21 ⟨Nat.le_refl _, Nat.le_refl _⟩) hD hS hA (fun _ => rfl) (fun s7 H locs h hP hD hS => ?_)
    refine lv_aload_n hx hb dX8_school_24 rfl (lv_at hl 2 rfl) ?_
    refine lv_bipush (v := -2) hx hb dX8_school_25 (by decide) ?_
    refine xend_rw_i (wf := fun (u : (zS)) => (wX8 K h0 a0 n0 la0 u ++ (([] : va_W)))) (xRunV (wc := (wX8 K h0 a0 n0 la0 s7 ++ (([] : va_W)))) (As := [.int (-2 : Int32)]) (rest := []) C (c_X8_refuse h) k_X8_refuse mw_165 ⟨rfl, rfl⟩ ⟨Nat.le_of_ble_eq_true rfl, Nat.le_of_ble_eq_true rfl⟩ hP hD xr1 wX8_C1 xr1_nd rfl rfl hl rfl rfl (Nat.le_of_ble_eq_true rfl) dX8_school_27 ⟨Nat.le_refl _, Nat.le_refl _⟩) hP hD hS hA xr1 wX8_C1 xr1_nd (fun _ => wX8_adr _ _) (fun v8 s9 H locs h hP hD hS => ?_)
    rw [wX8_set1] at hP hD
    replace hP : va_P D vwCl (wX8 K h0 a0 n0 la0 s9 ++ (wX8 K h1 a1 n1 la1 r1 ++ (([] : va_W)))) H := hP
    replace hD : va_D A (wX8 K h0 a0 n0 la0 s9 ++ (wX8 K h1 a1 n1 la1 r1 ++ (([] : va_W)))) := hD
    refine lv_pop hx hb dX8_school_30 rfl ?_
    refine lv_bipush (v := -20) hx hb dX8_school_31 (by decide) ?_
    refine lv_aload_n hx hb dX8_school_33 rfl (lv_at hl 2 rfl) ?_
    refine gX8_32 C hP dX8_school_34 ?_
    refine lv_isub hx hb dX8_school_37 ?_
    exact hret _ _ _ _ _ _ _ dX8_school_38 hP hD hS h
def wp_X8_school_N (r0 : zS) (post : Int32 → zS → wO → Prop) : Prop :=
  wp_X8_fresh_N r0 (fun QN AN LN s1 => wp_X8_school_G_4  (fun v s0 s1 => post v s0 (some (QN, AN, (fun _ => none), LN, s1))) r0 s1)
set_option maxHeartbeats 4000000 in
set_option maxRecDepth 100000 in
theorem c_X8_school_N {l : Launch} {D : va_G} {K : Nat → ClassId} {h0 : Nat} {a0 : Nat → Nat} {n0 : Nat → Option Nat} {la0 : Nat → Nat} {r0 : zS}  {adK adV : Nat → Nat} {sz : Nat} {post : Int32 → zS → wO → Prop} (hn27 : n0 27 = none)  (h : wp_X8_school_N r0 post) : Met l yX8_school (Cond.code yX8_school cX8_school 3 (some .int) :: wsL_law) ({ frames := 7, cells := 31, slots := 4831, locals := 220 } : Room) (va_Pc [.ref h0] (xPreE D vwCl (xty K) (wX8 K h0 a0 n0 la0 r0 ++ (([] : va_W))) sz adK adV)) (xQn (fun r (u : zS × wO) => post r u.1 u.2) (fun (u : zS × wO) => wX8 K h0 a0 (nOf n0 u.2) la0 u.1 ++ wOpt K u.2) (D := D) (va_A (wX8 K h0 a0 n0 la0 r0 ++ (([] : va_W))) sz)) 31 4831 (va_A (wX8 K h0 a0 n0 la0 r0 ++ (([] : va_W))) sz) := by
  refine xMetE (by decide) rfl (Nat.le_of_ble_eq_true rfl) (fun p e s m args below meth c C hnm hP hD hsz ls hl hE => ?_)
  have hl : lv_has ls 3 [(0, .ref h0)] := hl
  obtain ⟨hx, hb, hr, hml, hown, hts, hlocks, hK, hT⟩ := id C
  subst hsz
  generalize hAe : va_A (wX8 K h0 a0 n0 la0 r0 ++ (([] : va_W))) s.heap.size = A at hD hE ⊢
  have hA : ∀ q : Nat, s.heap.size ≤ q → A q := fun q h => by rw [← hAe]; exact Or.inr h
  have hS : va_S A s.heap s.heap [] := va_S.rf
  have hP : va_P D vwCl (wX8 K h0 a0 n0 la0 r0 ++ (([] : va_W))) s.heap := hP
  unfold wp_X8_school_N at h
  refine lv_aload_n hx hb dX8_school_0 rfl (lv_at hl 0 rfl) ?_
  refine xend_m (wf := fun (b : Nat) (u : (Nat → Nat) × (Nat → Nat) × zS) => wX8 K h0 a0 (va_up n0 27 (some b)) la0 r0 ++ (wX8 K b u.1 (fun _ => none) u.2.1 u.2.2 ++ ([] : va_W))) (xRunV_id (As := []) (rest := []) C (c_X8_fresh_N hn27 h) k_X8_fresh mw_640 ⟨rfl, rfl⟩ ⟨Nat.le_of_ble_eq_true rfl, Nat.le_of_ble_eq_true rfl⟩ hP hD rfl rfl hl rfl rfl (Nat.le_of_ble_eq_true rfl) dX8_school_1 ⟨Nat.le_of_ble_eq_true rfl, Nat.le_of_ble_eq_true rfl⟩) hD hS hA (fun qn u H locs h hP hD hS => ?_)
  obtain ⟨an, ln, s1⟩ := u
  have hret : ∀ (v : Int32) (r0 : zS) (r1 : zS) (H : Heap) (locs : List Loc) (ls : Array Slot) (pc : Nat), decode cX8_school pc = .ok (.ireturn, 1) → va_P D vwCl (wX8 K h0 a0 (va_up n0 27 (some qn)) la0 r0 ++ (wX8 K qn an (fun _ => none) ln r1 ++ ([] : va_W))) H → va_D A (wX8 K h0 a0 (va_up n0 27 (some qn)) la0 r0 ++ (wX8 K qn an (fun _ => none) ln r1 ++ ([] : va_W))) → va_S A s.heap H locs → post v r0 (some (qn, an, (fun _ => none), ln, r1)) → W p l e ({ frames := 7, cells := 31, slots := 4831, locals := 220 } : Room) s m args below meth c H locs 31 4831 (MQ below (xQn (fun r (u : zS × wO) => post r u.1 u.2) (fun (u : zS × wO) => wX8 K h0 a0 (nOf n0 u.2) la0 u.1 ++ wOpt K u.2) (D := D) A) args s 31 4831 A) (F0 m pc ls [.int v]) := fun v r0 r1 H locs ls pc hd hP hD hS h => xrw_n C (wf := fun (u : zS × wO) => wX8 K h0 a0 (nOf n0 u.2) la0 u.1 ++ wOpt K u.2) (r0, some (qn, an, (fun _ => none), ln, r1)) h hP hD hS hd
  refine W.widen (k := 31) (n := 4831) (Nat.le_of_ble_eq_true rfl) (Nat.le_of_ble_eq_true rfl) ?_
  replace hP : va_P D vwCl (wX8 K h0 a0 (va_up n0 27 (some qn)) la0 r0 ++ (wX8 K qn an (fun _ => none) ln s1 ++ ([] : va_W))) H := hP
  replace hD : va_D A (wX8 K h0 a0 (va_up n0 27 (some qn)) la0 r0 ++ (wX8 K qn an (fun _ => none) ln s1 ++ ([] : va_W))) := hD
  exact t_X8_school_G_4 (n0 := va_up n0 27 (some qn)) (h1 := qn) C rfl hE hA hret _ _ _ _ _ (lv_sub hl [0] rfl) hP hD hS h
def wp_X8_spot_G_34 (p1 : Int32) (p2 : Int32) (p3 : Int32) (p4 : Int32) (post : Int32 → (zS) → (zS) → Prop) (r0 : zS) (r1 : zS) : Prop :=
  wp_X8_refuse r0 (-2 : Int32) (fun v3 s4 => post v3 s4 r1)
def wp_X8_spot_G_154 (p1 : Int32) (p2 : Int32) (p3 : Int32) (p4 : Int32) (post : Int32 → (zS) → (zS) → Prop) (k86 : (zS) → (zS) → Int32 → Int32 → Int32 → Prop) (r0 : zS) (r1 : zS) (x5 : Int32) (x6 : Int32) (x7 : Int32) : Prop :=
  ∀ v14 : Int32, v14 = x7 + (1 : Int32) → k86 r0 r1 x5 x6 v14
def wp_X8_spot_G_146 (p1 : Int32) (p2 : Int32) (p3 : Int32) (p4 : Int32) (post : Int32 → (zS) → (zS) → Prop) (k86 : (zS) → (zS) → Int32 → Int32 → Int32 → Prop) (r0 : zS) (r1 : zS) (x7 : Int32) (x9 : Int32) : Prop :=
  wp_X8_spot_G_154 p1 p2 p3 p4 post k86 r0 r1 x7 x9 x7
def wp_X8_spot_G_111 (p1 : Int32) (p2 : Int32) (p3 : Int32) (p4 : Int32) (post : Int32 → (zS) → (zS) → Prop) (k86 : (zS) → (zS) → Int32 → Int32 → Int32 → Prop) (r0 : zS) (r1 : zS) (x5 : Int32) (x6 : Int32) (x7 : Int32) : Prop :=
  wp_X8_addPupil r1 p1 x7 p2 (fun s18 => wp_X8_chanceNow s18 p3 p4 (0 : Int32) (fun v19 s20 => (x5 = (-1 : Int32) → wp_X8_spot_G_146 p1 p2 p3 p4 post k86 r0 s20 x7 v19) ∧ (¬ x5 = (-1 : Int32) → (v19 ≤ x6 → wp_X8_spot_G_154 p1 p2 p3 p4 post k86 r0 s20 x5 x6 x7) ∧ (¬ v19 ≤ x6 → wp_X8_spot_G_146 p1 p2 p3 p4 post k86 r0 s20 x7 v19))))
def wb_X8_spot_G_86 (p1 : Int32) (p2 : Int32) (p3 : Int32) (p4 : Int32) (post : Int32 → (zS) → (zS) → Prop) (ih : (zS) → (zS) → Int32 → Int32 → Int32 → Prop) (r0 : zS) (r1 : zS) (x5 : Int32) (x6 : Int32) (x7 : Int32) : Prop :=
  (((4 : Int32) * (r0.1 9)) ≤ x7 → post x5 r0 r1) ∧ (¬ ((4 : Int32) * (r0.1 9)) ≤ x7 → wp_X8_sitting r0 x7 (fun v12 => (v12 = (-1 : Int32) → wp_X8_fresh_S r0 r1 (fun s16 => wp_X8_spot_G_111 p1 p2 p3 p4 post ih r0 s16 x5 x6 x7)) ∧ (¬ v12 = (-1 : Int32) → wp_X8_spot_G_154 p1 p2 p3 p4 post ih r0 r1 x5 x6 x7)))
def wp_X8_spot_G_86 (p1 : Int32) (p2 : Int32) (p3 : Int32) (p4 : Int32) (post : Int32 → (zS) → (zS) → Prop) (n : Nat) : (zS) → (zS) → Int32 → Int32 → Int32 → Prop := Nat.rec (motive := fun _ => (zS) → (zS) → Int32 → Int32 → Int32 → Prop) (fun _ _ _ _ _ => False) (fun _ ih => wb_X8_spot_G_86 p1 p2 p3 p4 post ih) n
theorem wu_X8_spot_G_86 (p1 : Int32) (p2 : Int32) (p3 : Int32) (p4 : Int32) (post : Int32 → (zS) → (zS) → Prop) (n : Nat) (r0 : zS) (r1 : zS) (x5 : Int32) (x6 : Int32) (x7 : Int32) : wp_X8_spot_G_86 p1 p2 p3 p4 post (n + 1) r0 r1 x5 x6 x7 = wb_X8_spot_G_86 p1 p2 p3 p4 post (wp_X8_spot_G_86 p1 p2 p3 p4 post n) r0 r1 x5 x6 x7 := rfl
set_option maxHeartbeats 4000000 in
set_option maxRecDepth 100000 in
theorem t_X8_spot_G_34 {p : Program} {l : Launch} {e : Env} {s : State} {m : MethodId} {args : Array Value} {below : List Frame} {meth : Method} {c : Code} {D : va_G} {K : Nat → ClassId} {mc ms : Nat} {Q : State → Prop} {h0 : Nat} {a0 : Nat → Nat} {n0 : Nat → Option Nat} {la0 : Nat → Nat} {h1 : Nat} {a1 : Nat → Nat} {n1 : Nat → Option Nat} {la1 : Nat → Nat} {p1 : Int32} {p2 : Int32} {p3 : Int32} {p4 : Int32} {post : Int32 → (zS) → (zS) → Prop} {A : Nat → Prop} (C : xC p s m args meth c cX8_spot RX8 10 (some .int) D vwCl (xty K)) (hn27 : n0 27 = some h1) (hA : ∀ q, s.heap.size ≤ q → A q) (hret : ∀ (v : Int32) (r0 : zS) (r1 : zS) (H : Heap) (locs : List Loc) (ls : Array Slot) (pc : Nat), decode cX8_spot pc = .ok (.ireturn, 1) → va_P D vwCl (wX8 K h0 a0 n0 la0 r0 ++ (wX8 K h1 a1 n1 la1 r1 ++ (([] : va_W)))) H → va_D A (wX8 K h0 a0 n0 la0 r0 ++ (wX8 K h1 a1 n1 la1 r1 ++ (([] : va_W)))) → va_S A s.heap H locs → post v r0 r1 → W p l e ({ frames := 16, cells := mc, slots := ms, locals := 563 } : Room) s m args below meth c H locs mc ms Q (F0 m pc ls [.int v])) : ∀ (r0 : zS) (r1 : zS) (H : Heap) (locs : List Loc) (ls : Array Slot), lv_has ls 10 [(0, .ref h0)] → va_P D vwCl (wX8 K h0 a0 n0 la0 r0 ++ (wX8 K h1 a1 n1 la1 r1 ++ (([] : va_W)))) H → va_D A (wX8 K h0 a0 n0 la0 r0 ++ (wX8 K h1 a1 n1 la1 r1 ++ (([] : va_W)))) → va_S A s.heap H locs → wp_X8_spot_G_34 p1 p2 p3 p4 post r0 r1 → W p l e ({ frames := 16, cells := mc, slots := ms, locals := 563 } : Room) s m args below meth c H locs mc ms Q (F0 m 34 ls []) := by
  obtain ⟨hx, hb, hr, hml, hown, hts, hlocks, hK, hT⟩ := id C
  intro r0 r1 H locs ls hl hP hD hS h
  unfold wp_X8_spot_G_34 at h
  refine lv_aload_n hx hb dX8_spot_34 rfl (lv_at hl 0 rfl) ?_
  refine lv_bipush (v := -2) hx hb dX8_spot_35 (by decide) ?_
  refine xend_rw_i (wf := fun (u : (zS)) => (wX8 K h0 a0 n0 la0 u ++ (([] : va_W)))) (xRunV (wc := (wX8 K h0 a0 n0 la0 r0 ++ (([] : va_W)))) (As := [.int (-2 : Int32)]) (rest := []) C (c_X8_refuse h) k_X8_refuse mw_165 ⟨rfl, rfl⟩ ⟨Nat.le_of_ble_eq_true rfl, Nat.le_of_ble_eq_true rfl⟩ hP hD xr1 wX8_C1 xr1_nd rfl rfl hl rfl rfl (Nat.le_of_ble_eq_true rfl) dX8_spot_37 ⟨Nat.le_refl _, Nat.le_refl _⟩) hP hD hS hA xr1 wX8_C1 xr1_nd (fun _ => wX8_adr _ _) (fun v3 s4 H locs h hP hD hS => ?_)
  rw [wX8_set1] at hP hD
  replace hP : va_P D vwCl (wX8 K h0 a0 n0 la0 s4 ++ (wX8 K h1 a1 n1 la1 r1 ++ (([] : va_W)))) H := hP
  replace hD : va_D A (wX8 K h0 a0 n0 la0 s4 ++ (wX8 K h1 a1 n1 la1 r1 ++ (([] : va_W)))) := hD
  exact hret _ _ _ _ _ _ _ dX8_spot_40 hP hD hS h
set_option maxHeartbeats 4000000 in
set_option maxRecDepth 100000 in
theorem t_X8_spot_G_154 {p : Program} {l : Launch} {e : Env} {s : State} {m : MethodId} {args : Array Value} {below : List Frame} {meth : Method} {c : Code} {D : va_G} {K : Nat → ClassId} {mc ms : Nat} {Q : State → Prop} {h0 : Nat} {a0 : Nat → Nat} {n0 : Nat → Option Nat} {la0 : Nat → Nat} {h1 : Nat} {a1 : Nat → Nat} {n1 : Nat → Option Nat} {la1 : Nat → Nat} {p1 : Int32} {p2 : Int32} {p3 : Int32} {p4 : Int32} {post : Int32 → (zS) → (zS) → Prop} {A : Nat → Prop} (C : xC p s m args meth c cX8_spot RX8 10 (some .int) D vwCl (xty K)) (hn27 : n0 27 = some h1) (hA : ∀ q, s.heap.size ≤ q → A q) (hret : ∀ (v : Int32) (r0 : zS) (r1 : zS) (H : Heap) (locs : List Loc) (ls : Array Slot) (pc : Nat), decode cX8_spot pc = .ok (.ireturn, 1) → va_P D vwCl (wX8 K h0 a0 n0 la0 r0 ++ (wX8 K h1 a1 n1 la1 r1 ++ (([] : va_W)))) H → va_D A (wX8 K h0 a0 n0 la0 r0 ++ (wX8 K h1 a1 n1 la1 r1 ++ (([] : va_W)))) → va_S A s.heap H locs → post v r0 r1 → W p l e ({ frames := 16, cells := mc, slots := ms, locals := 563 } : Room) s m args below meth c H locs mc ms Q (F0 m pc ls [.int v])) {k86 : (zS) → (zS) → Int32 → Int32 → Int32 → Prop} (hk86 : ∀ (r0 : zS) (r1 : zS) (x5 : Int32) (x6 : Int32) (x7 : Int32) (H : Heap) (locs : List Loc) (ls : Array Slot), lv_has ls 10 [(0, .ref h0), (1, .int p1), (2, .int p2), (3, .int p3), (4, .int p4), (5, .int x5), (6, .int x6), (7, .int x7)] → va_P D vwCl (wX8 K h0 a0 n0 la0 r0 ++ (wX8 K h1 a1 n1 la1 r1 ++ (([] : va_W)))) H → va_D A (wX8 K h0 a0 n0 la0 r0 ++ (wX8 K h1 a1 n1 la1 r1 ++ (([] : va_W)))) → va_S A s.heap H locs → k86 r0 r1 x5 x6 x7  → W p l e ({ frames := 16, cells := mc, slots := ms, locals := 563 } : Room) s m args below meth c H locs mc ms Q (F0 m 86 ls [])) : ∀ (r0 : zS) (r1 : zS) (x5 : Int32) (x6 : Int32) (x7 : Int32) (H : Heap) (locs : List Loc) (ls : Array Slot), lv_has ls 10 [(0, .ref h0), (1, .int p1), (2, .int p2), (3, .int p3), (4, .int p4), (5, .int x5), (6, .int x6), (7, .int x7)] → va_P D vwCl (wX8 K h0 a0 n0 la0 r0 ++ (wX8 K h1 a1 n1 la1 r1 ++ (([] : va_W)))) H → va_D A (wX8 K h0 a0 n0 la0 r0 ++ (wX8 K h1 a1 n1 la1 r1 ++ (([] : va_W)))) → va_S A s.heap H locs → wp_X8_spot_G_154 p1 p2 p3 p4 post k86 r0 r1 x5 x6 x7 → W p l e ({ frames := 16, cells := mc, slots := ms, locals := 563 } : Room) s m args below meth c H locs mc ms Q (F0 m 154 ls []) := by
  obtain ⟨hx, hb, hr, hml, hown, hts, hlocks, hK, hT⟩ := id C
  intro r0 r1 x5 x6 x7 H locs ls hl hP hD hS h
  unfold wp_X8_spot_G_154 at h
  obtain ⟨v14, ev14⟩ : ∃ y : Int32, y = x7 + (1 : Int32) := ⟨_, rfl⟩
  replace h := h v14 ev14
  refine lv_iinc (v := v14) (lv' := [(7, .int v14), (0, .ref h0), (1, .int p1), (2, .int p2), (3, .int p3), (4, .int p4), (5, .int x5), (6, .int x6)]) hx hb dX8_spot_154 hl (k := 7) rfl (by rw [ev14]; rfl) (by decide) rfl (fun ls hl => ?_)
  refine lv_goto (tgt := 86) hx hb dX8_spot_157 (by decide) ?_
  exact hk86 _ _ _ _ _ _ _ _ (lv_sub hl [1, 2, 3, 4, 5, 6, 7, 0] rfl) hP hD hS h
set_option maxHeartbeats 4000000 in
set_option maxRecDepth 100000 in
theorem t_X8_spot_G_146 {p : Program} {l : Launch} {e : Env} {s : State} {m : MethodId} {args : Array Value} {below : List Frame} {meth : Method} {c : Code} {D : va_G} {K : Nat → ClassId} {mc ms : Nat} {Q : State → Prop} {h0 : Nat} {a0 : Nat → Nat} {n0 : Nat → Option Nat} {la0 : Nat → Nat} {h1 : Nat} {a1 : Nat → Nat} {n1 : Nat → Option Nat} {la1 : Nat → Nat} {p1 : Int32} {p2 : Int32} {p3 : Int32} {p4 : Int32} {post : Int32 → (zS) → (zS) → Prop} {A : Nat → Prop} (C : xC p s m args meth c cX8_spot RX8 10 (some .int) D vwCl (xty K)) (hn27 : n0 27 = some h1) (hA : ∀ q, s.heap.size ≤ q → A q) (hret : ∀ (v : Int32) (r0 : zS) (r1 : zS) (H : Heap) (locs : List Loc) (ls : Array Slot) (pc : Nat), decode cX8_spot pc = .ok (.ireturn, 1) → va_P D vwCl (wX8 K h0 a0 n0 la0 r0 ++ (wX8 K h1 a1 n1 la1 r1 ++ (([] : va_W)))) H → va_D A (wX8 K h0 a0 n0 la0 r0 ++ (wX8 K h1 a1 n1 la1 r1 ++ (([] : va_W)))) → va_S A s.heap H locs → post v r0 r1 → W p l e ({ frames := 16, cells := mc, slots := ms, locals := 563 } : Room) s m args below meth c H locs mc ms Q (F0 m pc ls [.int v])) {k86 : (zS) → (zS) → Int32 → Int32 → Int32 → Prop} (hk86 : ∀ (r0 : zS) (r1 : zS) (x5 : Int32) (x6 : Int32) (x7 : Int32) (H : Heap) (locs : List Loc) (ls : Array Slot), lv_has ls 10 [(0, .ref h0), (1, .int p1), (2, .int p2), (3, .int p3), (4, .int p4), (5, .int x5), (6, .int x6), (7, .int x7)] → va_P D vwCl (wX8 K h0 a0 n0 la0 r0 ++ (wX8 K h1 a1 n1 la1 r1 ++ (([] : va_W)))) H → va_D A (wX8 K h0 a0 n0 la0 r0 ++ (wX8 K h1 a1 n1 la1 r1 ++ (([] : va_W)))) → va_S A s.heap H locs → k86 r0 r1 x5 x6 x7  → W p l e ({ frames := 16, cells := mc, slots := ms, locals := 563 } : Room) s m args below meth c H locs mc ms Q (F0 m 86 ls [])) : ∀ (r0 : zS) (r1 : zS) (x7 : Int32) (x9 : Int32) (H : Heap) (locs : List Loc) (ls : Array Slot), lv_has ls 10 [(0, .ref h0), (1, .int p1), (2, .int p2), (3, .int p3), (4, .int p4), (7, .int x7), (9, .int x9)] → va_P D vwCl (wX8 K h0 a0 n0 la0 r0 ++ (wX8 K h1 a1 n1 la1 r1 ++ (([] : va_W)))) H → va_D A (wX8 K h0 a0 n0 la0 r0 ++ (wX8 K h1 a1 n1 la1 r1 ++ (([] : va_W)))) → va_S A s.heap H locs → wp_X8_spot_G_146 p1 p2 p3 p4 post k86 r0 r1 x7 x9 → W p l e ({ frames := 16, cells := mc, slots := ms, locals := 563 } : Room) s m args below meth c H locs mc ms Q (F0 m 146 ls []) := by
  obtain ⟨hx, hb, hr, hml, hown, hts, hlocks, hK, hT⟩ := id C
  intro r0 r1 x7 x9 H locs ls hl hP hD hS h
  unfold wp_X8_spot_G_146 at h
  refine lv_iload hx hb dX8_spot_146 (lv_at hl 5 rfl) ?_
  refine lv_istore (lv' := [(5, .int x7), (0, .ref h0), (1, .int p1), (2, .int p2), (3, .int p3), (4, .int p4), (7, .int x7), (9, .int x9)]) hx hb dX8_spot_148 hl (by decide) rfl (fun ls hl => ?_)
  refine lv_iload hx hb dX8_spot_150 (lv_at hl 7 rfl) ?_
  refine lv_istore (lv' := [(6, .int x9), (5, .int x7), (0, .ref h0), (1, .int p1), (2, .int p2), (3, .int p3), (4, .int p4), (7, .int x7), (9, .int x9)]) hx hb dX8_spot_152 hl (by decide) rfl (fun ls hl => ?_)
  exact t_X8_spot_G_154 C hn27 hA hret hk86 _ _ _ _ _ _ _ _ (lv_sub hl [2, 3, 4, 5, 6, 1, 0, 7] rfl) hP hD hS h
set_option maxHeartbeats 4000000 in
set_option maxRecDepth 100000 in
theorem t_X8_spot_G_111 {p : Program} {l : Launch} {e : Env} {s : State} {m : MethodId} {args : Array Value} {below : List Frame} {meth : Method} {c : Code} {D : va_G} {K : Nat → ClassId} {mc ms : Nat} {Q : State → Prop} {h0 : Nat} {a0 : Nat → Nat} {n0 : Nat → Option Nat} {la0 : Nat → Nat} {h1 : Nat} {a1 : Nat → Nat} {n1 : Nat → Option Nat} {la1 : Nat → Nat} {p1 : Int32} {p2 : Int32} {p3 : Int32} {p4 : Int32} {post : Int32 → (zS) → (zS) → Prop} {A : Nat → Prop} (C : xC p s m args meth c cX8_spot RX8 10 (some .int) D vwCl (xty K)) (hn27 : n0 27 = some h1) (hA : ∀ q, s.heap.size ≤ q → A q) (hret : ∀ (v : Int32) (r0 : zS) (r1 : zS) (H : Heap) (locs : List Loc) (ls : Array Slot) (pc : Nat), decode cX8_spot pc = .ok (.ireturn, 1) → va_P D vwCl (wX8 K h0 a0 n0 la0 r0 ++ (wX8 K h1 a1 n1 la1 r1 ++ (([] : va_W)))) H → va_D A (wX8 K h0 a0 n0 la0 r0 ++ (wX8 K h1 a1 n1 la1 r1 ++ (([] : va_W)))) → va_S A s.heap H locs → post v r0 r1 → W p l e ({ frames := 16, cells := mc, slots := ms, locals := 563 } : Room) s m args below meth c H locs mc ms Q (F0 m pc ls [.int v])) {k86 : (zS) → (zS) → Int32 → Int32 → Int32 → Prop} (hk86 : ∀ (r0 : zS) (r1 : zS) (x5 : Int32) (x6 : Int32) (x7 : Int32) (H : Heap) (locs : List Loc) (ls : Array Slot), lv_has ls 10 [(0, .ref h0), (1, .int p1), (2, .int p2), (3, .int p3), (4, .int p4), (5, .int x5), (6, .int x6), (7, .int x7)] → va_P D vwCl (wX8 K h0 a0 n0 la0 r0 ++ (wX8 K h1 a1 n1 la1 r1 ++ (([] : va_W)))) H → va_D A (wX8 K h0 a0 n0 la0 r0 ++ (wX8 K h1 a1 n1 la1 r1 ++ (([] : va_W)))) → va_S A s.heap H locs → k86 r0 r1 x5 x6 x7  → W p l e ({ frames := 16, cells := mc, slots := ms, locals := 563 } : Room) s m args below meth c H locs mc ms Q (F0 m 86 ls [])) : ∀ (r0 : zS) (r1 : zS) (x5 : Int32) (x6 : Int32) (x7 : Int32) (H : Heap) (locs : List Loc) (ls : Array Slot), lv_has ls 10 [(0, .ref h0), (1, .int p1), (2, .int p2), (3, .int p3), (4, .int p4), (5, .int x5), (6, .int x6), (7, .int x7)] → va_P D vwCl (wX8 K h0 a0 n0 la0 r0 ++ (wX8 K h1 a1 n1 la1 r1 ++ (([] : va_W)))) H → va_D A (wX8 K h0 a0 n0 la0 r0 ++ (wX8 K h1 a1 n1 la1 r1 ++ (([] : va_W)))) → va_S A s.heap H locs → wp_X8_spot_G_111 p1 p2 p3 p4 post k86 r0 r1 x5 x6 x7 → W p l e ({ frames := 16, cells := mc, slots := ms, locals := 563 } : Room) s m args below meth c H locs mc ms Q (F0 m 111 ls [.ref h1]) := by
  obtain ⟨hx, hb, hr, hml, hown, hts, hlocks, hK, hT⟩ := id C
  intro r0 r1 x5 x6 x7 H locs ls hl hP hD hS h
  unfold wp_X8_spot_G_111 at h
  refine lv_astore (lv' := [(8, .ref h1), (0, .ref h0), (1, .int p1), (2, .int p2), (3, .int p3), (4, .int p4), (5, .int x5), (6, .int x6), (7, .int x7)]) hx hb dX8_spot_111 hl (by decide) rfl (fun ls hl => ?_)
  refine lv_aload hx hb dX8_spot_113 (lv_at hl 0 rfl) ?_
  refine lv_iload_n hx hb dX8_spot_115 rfl (lv_at hl 2 rfl) ?_
  refine lv_iload hx hb dX8_spot_116 (lv_at hl 8 rfl) ?_
  refine lv_iload_n hx hb dX8_spot_118 rfl (lv_at hl 3 rfl) ?_
  refine xend_rw_v (wf := fun (u : (zS)) => (wX8 K h1 a1 n1 la1 u ++ (([] : va_W)))) (xRunV (wc := (wX8 K h1 a1 n1 la1 r1 ++ (([] : va_W)))) (As := [.int p1, .int x7, .int p2]) (rest := []) C (c_X8_addPupil h) k_X8_addPupil mw_421 ⟨rfl, rfl⟩ ⟨Nat.le_of_ble_eq_true rfl, Nat.le_of_ble_eq_true rfl⟩ hP hD xr2 wX8_C2 xr2_nd rfl rfl hl rfl rfl (Nat.le_of_ble_eq_true rfl) dX8_spot_119 ⟨Nat.le_refl _, Nat.le_refl _⟩) hP hD hS hA xr2 wX8_C2 xr2_nd (fun _ => wX8_adr _ _) (fun s18 H locs h hP hD hS => ?_)
  rw [wX8_set2] at hP hD
  replace hP : va_P D vwCl (wX8 K h0 a0 n0 la0 r0 ++ (wX8 K h1 a1 n1 la1 s18 ++ (([] : va_W)))) H := hP
  replace hD : va_D A (wX8 K h0 a0 n0 la0 r0 ++ (wX8 K h1 a1 n1 la1 s18 ++ (([] : va_W)))) := hD
  refine lv_aload hx hb dX8_spot_122 (lv_at hl 0 rfl) ?_
  refine lv_iload_n hx hb dX8_spot_124 rfl (lv_at hl 4 rfl) ?_
  refine lv_iload hx hb dX8_spot_125 (lv_at hl 5 rfl) ?_
  refine lv_iconst (v := 0) hx hb dX8_spot_127 (by decide) ?_
  refine xend_rw_i (wf := fun (u : (zS)) => (wX8 K h1 a1 n1 la1 u ++ (([] : va_W)))) (xRunV (wc := (wX8 K h1 a1 n1 la1 s18 ++ (([] : va_W)))) (As := [.int p3, .int p4, .int (0 : Int32)]) (rest := []) C (c_X8_chanceNow h) k_X8_chanceNow mw_939 ⟨rfl, rfl⟩ ⟨Nat.le_of_ble_eq_true rfl, Nat.le_of_ble_eq_true rfl⟩ hP hD xr2 wX8_C2 xr2_nd rfl rfl hl rfl rfl (Nat.le_of_ble_eq_true rfl) dX8_spot_128 ⟨Nat.le_refl _, Nat.le_refl _⟩) hP hD hS hA xr2 wX8_C2 xr2_nd (fun _ => wX8_adr _ _) (fun v19 s20 H locs h hP hD hS => ?_)
  rw [wX8_set2] at hP hD
  replace hP : va_P D vwCl (wX8 K h0 a0 n0 la0 r0 ++ (wX8 K h1 a1 n1 la1 s20 ++ (([] : va_W)))) H := hP
  replace hD : va_D A (wX8 K h0 a0 n0 la0 r0 ++ (wX8 K h1 a1 n1 la1 s20 ++ (([] : va_W)))) := hD
  refine lv_istore (lv' := [(9, .int v19), (8, .ref h1), (0, .ref h0), (1, .int p1), (2, .int p2), (3, .int p3), (4, .int p4), (5, .int x5), (6, .int x6), (7, .int x7)]) hx hb dX8_spot_131 hl (by decide) rfl (fun ls hl => ?_)
  refine lv_iload hx hb dX8_spot_133 (lv_at hl 7 rfl) ?_
  refine lv_iconst (v := -1) hx hb dX8_spot_135 (by decide) ?_
  refine lv_icmp_eq (tgt := 146) hx hb dX8_spot_136 (by decide) (fun c21 => ?_) (fun c21 => ?_)
  · replace h := And.left h c21
    exact t_X8_spot_G_146 C hn27 hA hret hk86 _ _ _ _ _ _ _ (lv_sub hl [2, 3, 4, 5, 6, 9, 0] rfl) hP hD hS h
  · replace h := And.right h c21
    refine lv_iload hx hb dX8_spot_139 (lv_at hl 0 rfl) ?_
    refine lv_iload hx hb dX8_spot_141 (lv_at hl 8 rfl) ?_
    refine lv_icmp_le (tgt := 154) hx hb dX8_spot_143 (by decide) (fun c22 => ?_) (fun c22 => ?_)
    · replace h := And.left h c22
      exact t_X8_spot_G_154 C hn27 hA hret hk86 _ _ _ _ _ _ _ _ (lv_sub hl [2, 3, 4, 5, 6, 7, 8, 9] rfl) hP hD hS h
    · replace h := And.right h c22
      exact t_X8_spot_G_146 C hn27 hA hret hk86 _ _ _ _ _ _ _ (lv_sub hl [2, 3, 4, 5, 6, 9, 0] rfl) hP hD hS h
set_option maxHeartbeats 4000000 in
set_option maxRecDepth 100000 in
theorem t_X8_spot_G_86 {p : Program} {l : Launch} {e : Env} {s : State} {m : MethodId} {args : Array Value} {below : List Frame} {meth : Method} {c : Code} {D : va_G} {K : Nat → ClassId} {mc ms : Nat} {Q : State → Prop} {h0 : Nat} {a0 : Nat → Nat} {n0 : Nat → Option Nat} {la0 : Nat → Nat} {h1 : Nat} {a1 : Nat → Nat} {n1 : Nat → Option Nat} {la1 : Nat → Nat} {p1 : Int32} {p2 : Int32} {p3 : Int32} {p4 : Int32} {post : Int32 → (zS) → (zS) → Prop} {A : Nat → Prop} (C : xC p s m args meth c cX8_spot RX8 10 (some .int) D vwCl (xty K)) (hn27 : n0 27 = some h1) (hA : ∀ q, s.heap.size ≤ q → A q) (hret : ∀ (v : Int32) (r0 : zS) (r1 : zS) (H : Heap) (locs : List Loc) (ls : Array Slot) (pc : Nat), decode cX8_spot pc = .ok (.ireturn, 1) → va_P D vwCl (wX8 K h0 a0 n0 la0 r0 ++ (wX8 K h1 a1 n1 la1 r1 ++ (([] : va_W)))) H → va_D A (wX8 K h0 a0 n0 la0 r0 ++ (wX8 K h1 a1 n1 la1 r1 ++ (([] : va_W)))) → va_S A s.heap H locs → post v r0 r1 → W p l e ({ frames := 16, cells := mc, slots := ms, locals := 563 } : Room) s m args below meth c H locs mc ms Q (F0 m pc ls [.int v])) : ∀ (n : Nat) (r0 : zS) (r1 : zS) (x5 : Int32) (x6 : Int32) (x7 : Int32) (H : Heap) (locs : List Loc) (ls : Array Slot), lv_has ls 10 [(0, .ref h0), (1, .int p1), (2, .int p2), (3, .int p3), (4, .int p4), (5, .int x5), (6, .int x6), (7, .int x7)] → va_P D vwCl (wX8 K h0 a0 n0 la0 r0 ++ (wX8 K h1 a1 n1 la1 r1 ++ (([] : va_W)))) H → va_D A (wX8 K h0 a0 n0 la0 r0 ++ (wX8 K h1 a1 n1 la1 r1 ++ (([] : va_W)))) → va_S A s.heap H locs → wp_X8_spot_G_86 p1 p2 p3 p4 post n r0 r1 x5 x6 x7 → W p l e ({ frames := 16, cells := mc, slots := ms, locals := 563 } : Room) s m args below meth c H locs mc ms Q (F0 m 86 ls []) := by
  obtain ⟨hx, hb, hr, hml, hown, hts, hlocks, hK, hT⟩ := id C
  intro n
  induction n with
  | zero =>
    intro r0 r1 x5 x6 x7 H locs ls hl hP hD hS h
    exact False.elim h
  | succ n ihn =>
    intro r0 r1 x5 x6 x7 H locs ls hl hP hD hS h
    rw [wu_X8_spot_G_86] at h
    unfold wb_X8_spot_G_86 at h
    refine lv_iload hx hb dX8_spot_86 (lv_at hl 7 rfl) ?_
    refine lv_iconst (v := 4) hx hb dX8_spot_88 (by decide) ?_
    refine lv_aload_n hx hb dX8_spot_89 rfl (lv_at hl 0 rfl) ?_
    refine gX8_9 C hP dX8_spot_90 ?_
    refine lv_imul hx hb dX8_spot_93 ?_
    refine lv_icmp_ge (tgt := 160) hx hb dX8_spot_94 (by decide) (fun c11 => ?_) (fun c11 => ?_)
    · replace h := And.left h c11
      refine lv_iload hx hb dX8_spot_160 (lv_at hl 5 rfl) ?_
      exact hret _ _ _ _ _ _ _ dX8_spot_162 hP hD hS h
    · replace h := And.right h c11
      refine lv_aload_n hx hb dX8_spot_97 rfl (lv_at hl 0 rfl) ?_
      refine lv_iload hx hb dX8_spot_98 (lv_at hl 7 rfl) ?_
      refine xend_ro_i (xRunV (wc := (wX8 K h0 a0 n0 la0 r0 ++ (([] : va_W)))) (As := [.int x7]) (rest := []) C (c_X8_sitting h) k_X8_sitting mw_417 ⟨rfl, rfl⟩ ⟨Nat.le_of_ble_eq_true rfl, Nat.le_of_ble_eq_true rfl⟩ hP hD xr1 wX8_C1 xr1_nd rfl rfl hl rfl rfl (Nat.le_of_ble_eq_true rfl) dX8_spot_100 ⟨Nat.le_refl _, Nat.le_refl _⟩) (fun v12 h => ?_)
      refine lv_iconst (v := -1) hx hb dX8_spot_103 (by decide) ?_
      refine lv_icmp_ne (tgt := 154) hx hb dX8_spot_104 (by decide) (fun c13 => ?_) (fun c13 => ?_)
      · replace h := And.right h c13
        exact t_X8_spot_G_154 C hn27 hA hret ihn _ _ _ _ _ _ _ _ (lv_sub hl [0, 1, 2, 3, 4, 5, 6, 7] rfl) hP hD hS h
      · replace h := And.left h c13
        refine lv_aload_n hx hb dX8_spot_107 rfl (lv_at hl 0 rfl) ?_
        refine xend_rw_r_id (wf := fun (u : (zS)) => (wX8 K h0 a0 n0 la0 r0 ++ (wX8 K h1 a1 n1 la1 u ++ (([] : va_W))))) (xRunV_id (As := []) (rest := []) C (c_X8_fresh_S hn27 h) k_X8_fresh mw_640 ⟨rfl, rfl⟩ ⟨Nat.le_of_ble_eq_true rfl, Nat.le_of_ble_eq_true rfl⟩ hP hD rfl rfl hl rfl rfl (Nat.le_of_ble_eq_true rfl) dX8_spot_108 ⟨Nat.le_refl _, Nat.le_refl _⟩) hD hS hA (fun _ => rfl) (fun s16 H locs h hP hD hS => ?_)
        exact t_X8_spot_G_111 C hn27 hA hret ihn _ _ _ _ _ _ _ _ (lv_sub hl [0, 1, 2, 3, 4, 5, 6, 7] rfl) hP hD hS h
def wp_X8_spot_N_34 (p1 : Int32) (p2 : Int32) (p3 : Int32) (p4 : Int32) (post : Int32 → zS → wO → Prop) (r0 : zS) : Prop :=
  wp_X8_refuse r0 (-2 : Int32) (fun v3 s4 => post v3 s4 none)
def wb_X8_spot_N_86 (p1 : Int32) (p2 : Int32) (p3 : Int32) (p4 : Int32) (post : Int32 → zS → wO → Prop) (ih : (zS) → Int32 → Int32 → Int32 → Prop) (r0 : zS) (x5 : Int32) (x6 : Int32) (x7 : Int32) : Prop :=
  (((4 : Int32) * (r0.1 9)) ≤ x7 → post x5 r0 none) ∧ (¬ ((4 : Int32) * (r0.1 9)) ≤ x7 → wp_X8_sitting r0 x7 (fun v12 => (v12 = (-1 : Int32) → wp_X8_fresh_N r0 (fun QN AN LN s15 => wp_X8_spot_G_111 p1 p2 p3 p4 (fun v s0 s1 => post v s0 (some (QN, AN, (fun _ => none), LN, s1))) (fun m0 m1 m2 m3 m4 => ∃ n : Nat, wp_X8_spot_G_86 p1 p2 p3 p4 (fun v s0 s1 => post v s0 (some (QN, AN, (fun _ => none), LN, s1))) n m0 m1 m2 m3 m4) r0 s15 x5 x6 x7)) ∧ (¬ v12 = (-1 : Int32) → ∀ v14 : Int32, v14 = x7 + (1 : Int32) → ih r0 x5 x6 v14)))
def wp_X8_spot_N_86 (p1 : Int32) (p2 : Int32) (p3 : Int32) (p4 : Int32) (post : Int32 → zS → wO → Prop) (n : Nat) : (zS) → Int32 → Int32 → Int32 → Prop := Nat.rec (motive := fun _ => (zS) → Int32 → Int32 → Int32 → Prop) (fun _ _ _ _ => False) (fun _ ih => wb_X8_spot_N_86 p1 p2 p3 p4 post ih) n
theorem wu_X8_spot_N_86 (p1 : Int32) (p2 : Int32) (p3 : Int32) (p4 : Int32) (post : Int32 → zS → wO → Prop) (n : Nat) (r0 : zS) (x5 : Int32) (x6 : Int32) (x7 : Int32) : wp_X8_spot_N_86 p1 p2 p3 p4 post (n + 1) r0 x5 x6 x7 = wb_X8_spot_N_86 p1 p2 p3 p4 post (wp_X8_spot_N_86 p1 p2 p3 p4 post n) r0 x5 x6 x7 := rfl
def wp_X8_spot_N (r0 : zS) (p1 : Int32) (p2 : Int32) (p3 : Int32) (p4 : Int32) (post : Int32 → zS → wO → Prop) : Prop :=
  wp_X8_in (p1.toInt64) (0 : Int64) (5 : Int64) (fun v1 => (v1 = 0 → wp_X8_spot_N_34 p1 p2 p3 p4 post r0) ∧ (¬ v1 = 0 → wp_X8_in (p2.toInt64) (0 : Int64) (9 : Int64) (fun v5 => (v5 = 0 → wp_X8_spot_N_34 p1 p2 p3 p4 post r0) ∧ (¬ v5 = 0 → wp_X8_areTwo r0 p3 p4 (fun v7 => (v7 = 0 → wp_X8_spot_N_34 p1 p2 p3 p4 post r0) ∧ (¬ v7 = 0 → ((r0.1 10) = (12 : Int32) → wp_X8_refuse r0 (-6 : Int32) (fun v18 s19 => post v18 s19 none)) ∧ (¬ (r0.1 10) = (12 : Int32) → ((r0.1 10) = ((4 : Int32) * (r0.1 9)) → wp_X8_refuse r0 (-5 : Int32) (fun v16 s17 => post v16 s17 none)) ∧ (¬ (r0.1 10) = ((4 : Int32) * (r0.1 9)) → ∃ n : Nat, wp_X8_spot_N_86 p1 p2 p3 p4 post n r0 (-1 : Int32) (0 : Int32) (0 : Int32)))))))))
set_option maxHeartbeats 4000000 in
set_option maxRecDepth 100000 in
theorem t_X8_spot_N_34 {p : Program} {l : Launch} {e : Env} {s : State} {m : MethodId} {args : Array Value} {below : List Frame} {meth : Method} {c : Code} {D : va_G} {K : Nat → ClassId} {h0 : Nat} {a0 : Nat → Nat} {n0 : Nat → Option Nat} {la0 : Nat → Nat} {p1 : Int32} {p2 : Int32} {p3 : Int32} {p4 : Int32} {post : Int32 → zS → wO → Prop} {A : Nat → Prop} (C : xC p s m args meth c cX8_spot RX8 10 (some .int) D vwCl (xty K)) (hn27 : n0 27 = none) (hA : ∀ q, s.heap.size ≤ q → A q) : ∀ (r0 : zS) (H : Heap) (locs : List Loc) (ls : Array Slot), lv_has ls 10 [(0, .ref h0)] → va_P D vwCl (wX8 K h0 a0 n0 la0 r0 ++ (([] : va_W))) H → va_D A (wX8 K h0 a0 n0 la0 r0 ++ (([] : va_W))) → va_S A s.heap H locs → wp_X8_spot_N_34 p1 p2 p3 p4 post r0 → W p l e ({ frames := 16, cells := 31, slots := 4831, locals := 563 } : Room) s m args below meth c H locs 0 0 (MQ below (xQn (fun r (u : zS × wO) => post r u.1 u.2) (fun (u : zS × wO) => wX8 K h0 a0 (nOf n0 u.2) la0 u.1 ++ wOpt K u.2) (D := D) A) args s 31 4831 A) (F0 m 34 ls []) := by
  obtain ⟨hx, hb, hr, hml, hown, hts, hlocks, hK, hT⟩ := id C
  intro r0 H locs ls hl hP hD hS h
  unfold wp_X8_spot_N_34 at h
  refine lv_aload_n hx hb dX8_spot_34 rfl (lv_at hl 0 rfl) ?_
  refine lv_bipush (v := -2) hx hb dX8_spot_35 (by decide) ?_
  refine xend_rw_i_id (wf := fun (u : (zS)) => (wX8 K h0 a0 n0 la0 u ++ (([] : va_W)))) (xRunV_id (As := [.int (-2 : Int32)]) (rest := []) C (c_X8_refuse h) k_X8_refuse mw_165 ⟨rfl, rfl⟩ ⟨Nat.le_of_ble_eq_true rfl, Nat.le_of_ble_eq_true rfl⟩ hP hD rfl rfl hl rfl rfl (Nat.le_of_ble_eq_true rfl) dX8_spot_37 ⟨Nat.zero_le _, Nat.zero_le _⟩) hD hS hA (fun _ => wX8_adr _ _) (fun v3 s4 H locs h hP hD hS => ?_)
  refine W.widen (k := 31) (n := 4831) (Nat.le_of_ble_eq_true rfl) (Nat.le_of_ble_eq_true rfl) ?_
  exact xrw_n C (wf := fun (u : zS × wO) => wX8 K h0 a0 (nOf n0 u.2) la0 u.1 ++ wOpt K u.2) (s4, none) h (by rw [wOpt_none]; exact hP) (by rw [wOpt_none]; exact hD) hS dX8_spot_40
set_option maxHeartbeats 4000000 in
set_option maxRecDepth 100000 in
theorem t_X8_spot_N_86 {p : Program} {l : Launch} {e : Env} {s : State} {m : MethodId} {args : Array Value} {below : List Frame} {meth : Method} {c : Code} {D : va_G} {K : Nat → ClassId} {h0 : Nat} {a0 : Nat → Nat} {n0 : Nat → Option Nat} {la0 : Nat → Nat} {p1 : Int32} {p2 : Int32} {p3 : Int32} {p4 : Int32} {post : Int32 → zS → wO → Prop} {A : Nat → Prop} (C : xC p s m args meth c cX8_spot RX8 10 (some .int) D vwCl (xty K)) (hn27 : n0 27 = none) (hA : ∀ q, s.heap.size ≤ q → A q) : ∀ (n : Nat) (r0 : zS) (x5 : Int32) (x6 : Int32) (x7 : Int32) (H : Heap) (locs : List Loc) (ls : Array Slot), lv_has ls 10 [(0, .ref h0), (1, .int p1), (2, .int p2), (3, .int p3), (4, .int p4), (5, .int x5), (6, .int x6), (7, .int x7)] → va_P D vwCl (wX8 K h0 a0 n0 la0 r0 ++ (([] : va_W))) H → va_D A (wX8 K h0 a0 n0 la0 r0 ++ (([] : va_W))) → va_S A s.heap H locs → wp_X8_spot_N_86 p1 p2 p3 p4 post n r0 x5 x6 x7 → W p l e ({ frames := 16, cells := 31, slots := 4831, locals := 563 } : Room) s m args below meth c H locs 0 0 (MQ below (xQn (fun r (u : zS × wO) => post r u.1 u.2) (fun (u : zS × wO) => wX8 K h0 a0 (nOf n0 u.2) la0 u.1 ++ wOpt K u.2) (D := D) A) args s 31 4831 A) (F0 m 86 ls []) := by
  obtain ⟨hx, hb, hr, hml, hown, hts, hlocks, hK, hT⟩ := id C
  intro n
  induction n with
  | zero =>
    intro r0 x5 x6 x7 H locs ls hl hP hD hS h
    exact False.elim h
  | succ n ihn =>
    intro r0 x5 x6 x7 H locs ls hl hP hD hS h
    rw [wu_X8_spot_N_86] at h
    unfold wb_X8_spot_N_86 at h
    refine lv_iload hx hb dX8_spot_86 (lv_at hl 7 rfl) ?_
    refine lv_iconst (v := 4) hx hb dX8_spot_88 (by decide) ?_
    refine lv_aload_n hx hb dX8_spot_89 rfl (lv_at hl 0 rfl) ?_
    refine gX8_9 C hP dX8_spot_90 ?_
    refine lv_imul hx hb dX8_spot_93 ?_
    refine lv_icmp_ge (tgt := 160) hx hb dX8_spot_94 (by decide) (fun c11 => ?_) (fun c11 => ?_)
    · replace h := And.left h c11
      refine lv_iload hx hb dX8_spot_160 (lv_at hl 5 rfl) ?_
      refine W.widen (k := 31) (n := 4831) (Nat.le_of_ble_eq_true rfl) (Nat.le_of_ble_eq_true rfl) ?_
      exact xrw_n C (wf := fun (u : zS × wO) => wX8 K h0 a0 (nOf n0 u.2) la0 u.1 ++ wOpt K u.2) (r0, none) h (by rw [wOpt_none]; exact hP) (by rw [wOpt_none]; exact hD) hS dX8_spot_162
    · replace h := And.right h c11
      refine lv_aload_n hx hb dX8_spot_97 rfl (lv_at hl 0 rfl) ?_
      refine lv_iload hx hb dX8_spot_98 (lv_at hl 7 rfl) ?_
      refine xend_ro_i (xRunV_id (As := [.int x7]) (rest := []) C (c_X8_sitting h) k_X8_sitting mw_417 ⟨rfl, rfl⟩ ⟨Nat.le_of_ble_eq_true rfl, Nat.le_of_ble_eq_true rfl⟩ hP hD rfl rfl hl rfl rfl (Nat.le_of_ble_eq_true rfl) dX8_spot_100 ⟨Nat.zero_le _, Nat.zero_le _⟩) (fun v12 h => ?_)
      refine lv_iconst (v := -1) hx hb dX8_spot_103 (by decide) ?_
      refine lv_icmp_ne (tgt := 154) hx hb dX8_spot_104 (by decide) (fun c13 => ?_) (fun c13 => ?_)
      · replace h := And.right h c13
        obtain ⟨v14, ev14⟩ : ∃ y : Int32, y = x7 + (1 : Int32) := ⟨_, rfl⟩
        replace h := h v14 ev14
        refine lv_iinc (v := v14) (lv' := [(7, .int v14), (0, .ref h0), (1, .int p1), (2, .int p2), (3, .int p3), (4, .int p4), (5, .int x5), (6, .int x6)]) hx hb dX8_spot_154 hl (k := 7) rfl (by rw [ev14]; rfl) (by decide) rfl (fun ls hl => ?_)
        refine lv_goto (tgt := 86) hx hb dX8_spot_157 (by decide) ?_
        exact ihn _ _ _ _ _ _ _ (lv_sub hl [1, 2, 3, 4, 5, 6, 7, 0] rfl) hP hD hS h
      · replace h := And.left h c13
        refine lv_aload_n hx hb dX8_spot_107 rfl (lv_at hl 0 rfl) ?_
        refine xend_m (wf := fun (b : Nat) (u : (Nat → Nat) × (Nat → Nat) × zS) => wX8 K h0 a0 (va_up n0 27 (some b)) la0 r0 ++ (wX8 K b u.1 (fun _ => none) u.2.1 u.2.2 ++ ([] : va_W))) (xRunV_id (As := []) (rest := []) C (c_X8_fresh_N hn27 h) k_X8_fresh mw_640 ⟨rfl, rfl⟩ ⟨Nat.le_of_ble_eq_true rfl, Nat.le_of_ble_eq_true rfl⟩ hP hD rfl rfl hl rfl rfl (Nat.le_of_ble_eq_true rfl) dX8_spot_108 ⟨Nat.le_of_ble_eq_true rfl, Nat.le_of_ble_eq_true rfl⟩) hD hS hA (fun qn u H locs h hP hD hS => ?_)
        obtain ⟨an, ln, s15⟩ := u
        have hret : ∀ (v : Int32) (r0 : zS) (r1 : zS) (H : Heap) (locs : List Loc) (ls : Array Slot) (pc : Nat), decode cX8_spot pc = .ok (.ireturn, 1) → va_P D vwCl (wX8 K h0 a0 (va_up n0 27 (some qn)) la0 r0 ++ (wX8 K qn an (fun _ => none) ln r1 ++ ([] : va_W))) H → va_D A (wX8 K h0 a0 (va_up n0 27 (some qn)) la0 r0 ++ (wX8 K qn an (fun _ => none) ln r1 ++ ([] : va_W))) → va_S A s.heap H locs → post v r0 (some (qn, an, (fun _ => none), ln, r1)) → W p l e ({ frames := 16, cells := 31, slots := 4831, locals := 563 } : Room) s m args below meth c H locs 31 4831 (MQ below (xQn (fun r (u : zS × wO) => post r u.1 u.2) (fun (u : zS × wO) => wX8 K h0 a0 (nOf n0 u.2) la0 u.1 ++ wOpt K u.2) (D := D) A) args s 31 4831 A) (F0 m pc ls [.int v]) := fun v r0 r1 H locs ls pc hd hP hD hS h => xrw_n C (wf := fun (u : zS × wO) => wX8 K h0 a0 (nOf n0 u.2) la0 u.1 ++ wOpt K u.2) (r0, some (qn, an, (fun _ => none), ln, r1)) h hP hD hS hd
        refine W.widen (k := 31) (n := 4831) (Nat.le_of_ble_eq_true rfl) (Nat.le_of_ble_eq_true rfl) ?_
        replace hP : va_P D vwCl (wX8 K h0 a0 (va_up n0 27 (some qn)) la0 r0 ++ (wX8 K qn an (fun _ => none) ln s15 ++ ([] : va_W))) H := hP
        replace hD : va_D A (wX8 K h0 a0 (va_up n0 27 (some qn)) la0 r0 ++ (wX8 K qn an (fun _ => none) ln s15 ++ ([] : va_W))) := hD
        exact t_X8_spot_G_111 (n0 := va_up n0 27 (some qn)) (h1 := qn) C rfl hA hret (fun _ _ _ _ _ _ _ _ hl hP hD hS h => by obtain ⟨nn0, h⟩ := h; exact t_X8_spot_G_86 (n0 := va_up n0 27 (some qn)) (h1 := qn) C rfl hA hret nn0 _ _ _ _ _ _ _ _ hl hP hD hS h) _ _ _ _ _ _ _ _ (lv_sub hl [0, 1, 2, 3, 4, 5, 6, 7] rfl) hP hD hS h
set_option maxHeartbeats 4000000 in
set_option maxRecDepth 100000 in
theorem c_X8_spot_N {l : Launch} {D : va_G} {K : Nat → ClassId} {h0 : Nat} {a0 : Nat → Nat} {n0 : Nat → Option Nat} {la0 : Nat → Nat} {r0 : zS} {p1 : Int32} {p2 : Int32} {p3 : Int32} {p4 : Int32} {sz : Nat} {post : Int32 → zS → wO → Prop} (hn27 : n0 27 = none)  (h : wp_X8_spot_N r0 p1 p2 p3 p4 post) : Met l yX8_spot (Cond.code yX8_spot cX8_spot 10 (some .int) :: wsL_law) ({ frames := 16, cells := 31, slots := 4831, locals := 563 } : Room) (va_Pc [.ref h0, .int p1, .int p2, .int p3, .int p4] (xPre D vwCl (xty K) (wX8 K h0 a0 n0 la0 r0 ++ (([] : va_W))) sz)) (xQn (fun r (u : zS × wO) => post r u.1 u.2) (fun (u : zS × wO) => wX8 K h0 a0 (nOf n0 u.2) la0 u.1 ++ wOpt K u.2) (D := D) (va_A (wX8 K h0 a0 n0 la0 r0 ++ (([] : va_W))) sz)) 31 4831 (va_A (wX8 K h0 a0 n0 la0 r0 ++ (([] : va_W))) sz) := by
  refine xMet (by decide) rfl (Nat.le_of_ble_eq_true rfl) (fun p e s m args below meth c C hnm hP hD hsz ls hl => ?_)
  have hl : lv_has ls 10 [(0, .ref h0), (1, .int p1), (2, .int p2), (3, .int p3), (4, .int p4)] := hl
  obtain ⟨hx, hb, hr, hml, hown, hts, hlocks, hK, hT⟩ := id C
  subst hsz
  generalize hAe : va_A (wX8 K h0 a0 n0 la0 r0 ++ (([] : va_W))) s.heap.size = A at hD ⊢
  have hA : ∀ q : Nat, s.heap.size ≤ q → A q := fun q h => by rw [← hAe]; exact Or.inr h
  have hS : va_S A s.heap s.heap [] := va_S.rf
  have hP : va_P D vwCl (wX8 K h0 a0 n0 la0 r0 ++ (([] : va_W))) s.heap := hP
  unfold wp_X8_spot_N at h
  refine lv_iload_n hx hb dX8_spot_0 rfl (lv_at hl 1 rfl) ?_
  refine lv_i2l hx hb dX8_spot_1 rfl ?_
  refine lv_lconst (v := 0) hx hb dX8_spot_2 (by decide) ?_
  refine lv_ldc2 hx hb hown (hts _ mw_330) dX8_spot_3 ?_
  refine xend_ro_i (xRunS (wc := ([] : va_W)) (As := [.long (p1.toInt64), .long (0 : Int64), .long (5 : Int64)]) (rest := []) C (c_X8_in h) k_X8_in mw_162 ⟨rfl, rfl⟩ ⟨Nat.le_of_ble_eq_true rfl, Nat.le_of_ble_eq_true rfl⟩ hP hD [] rfl rfl hl rfl rfl (Nat.le_of_ble_eq_true rfl) dX8_spot_6 ⟨Nat.zero_le _, Nat.zero_le _⟩) (fun v1 h => ?_)
  refine lv_if_eq (tgt := 34) hx hb dX8_spot_9 (by decide) (fun c2 => ?_) (fun c2 => ?_)
  · replace h := And.left h c2
    exact t_X8_spot_N_34 C hn27 hA _ _ _ _ (lv_sub hl [0] rfl) hP hD hS h
  · replace h := And.right h c2
    refine lv_iload_n hx hb dX8_spot_12 rfl (lv_at hl 2 rfl) ?_
    refine lv_i2l hx hb dX8_spot_13 rfl ?_
    refine lv_lconst (v := 0) hx hb dX8_spot_14 (by decide) ?_
    refine lv_ldc2 hx hb hown (hts _ mw_412) dX8_spot_15 ?_
    refine xend_ro_i (xRunS (wc := ([] : va_W)) (As := [.long (p2.toInt64), .long (0 : Int64), .long (9 : Int64)]) (rest := []) C (c_X8_in h) k_X8_in mw_162 ⟨rfl, rfl⟩ ⟨Nat.le_of_ble_eq_true rfl, Nat.le_of_ble_eq_true rfl⟩ hP hD [] rfl rfl hl rfl rfl (Nat.le_of_ble_eq_true rfl) dX8_spot_18 ⟨Nat.zero_le _, Nat.zero_le _⟩) (fun v5 h => ?_)
    refine lv_if_eq (tgt := 34) hx hb dX8_spot_21 (by decide) (fun c6 => ?_) (fun c6 => ?_)
    · replace h := And.left h c6
      exact t_X8_spot_N_34 C hn27 hA _ _ _ _ (lv_sub hl [0] rfl) hP hD hS h
    · replace h := And.right h c6
      refine lv_aload_n hx hb dX8_spot_24 rfl (lv_at hl 0 rfl) ?_
      refine lv_iload_n hx hb dX8_spot_25 rfl (lv_at hl 3 rfl) ?_
      refine lv_iload hx hb dX8_spot_26 (lv_at hl 4 rfl) ?_
      refine xend_ro_i (xRunV_id (As := [.int p3, .int p4]) (rest := []) C (c_X8_areTwo h) k_X8_areTwo mw_449 ⟨rfl, rfl⟩ ⟨Nat.le_of_ble_eq_true rfl, Nat.le_of_ble_eq_true rfl⟩ hP hD rfl rfl hl rfl rfl (Nat.le_of_ble_eq_true rfl) dX8_spot_28 ⟨Nat.zero_le _, Nat.zero_le _⟩) (fun v7 h => ?_)
      refine lv_if_ne (tgt := 41) hx hb dX8_spot_31 (by decide) (fun c8 => ?_) (fun c8 => ?_)
      · replace h := And.right h c8
        refine lv_aload_n hx hb dX8_spot_41 rfl (lv_at hl 0 rfl) ?_
        refine gX8_10 C hP dX8_spot_42 ?_
        refine lv_bipush (v := 12) hx hb dX8_spot_45 (by decide) ?_
        refine lv_icmp_ne (tgt := 57) hx hb dX8_spot_47 (by decide) (fun c9 => ?_) (fun c9 => ?_)
        · replace h := And.right h c9
          refine lv_aload_n hx hb dX8_spot_57 rfl (lv_at hl 0 rfl) ?_
          refine gX8_10 C hP dX8_spot_58 ?_
          refine lv_iconst (v := 4) hx hb dX8_spot_61 (by decide) ?_
          refine lv_aload_n hx hb dX8_spot_62 rfl (lv_at hl 0 rfl) ?_
          refine gX8_9 C hP dX8_spot_63 ?_
          refine lv_imul hx hb dX8_spot_66 ?_
          refine lv_icmp_ne (tgt := 77) hx hb dX8_spot_67 (by decide) (fun c10 => ?_) (fun c10 => ?_)
          · replace h := And.right h c10
            refine lv_iconst (v := -1) hx hb dX8_spot_77 (by decide) ?_
            refine lv_istore (lv' := [(5, .int (-1 : Int32)), (0, .ref h0), (1, .int p1), (2, .int p2), (3, .int p3), (4, .int p4)]) hx hb dX8_spot_78 hl (by decide) rfl (fun ls hl => ?_)
            refine lv_iconst (v := 0) hx hb dX8_spot_80 (by decide) ?_
            refine lv_istore (lv' := [(6, .int (0 : Int32)), (5, .int (-1 : Int32)), (0, .ref h0), (1, .int p1), (2, .int p2), (3, .int p3), (4, .int p4)]) hx hb dX8_spot_81 hl (by decide) rfl (fun ls hl => ?_)
            refine lv_iconst (v := 0) hx hb dX8_spot_83 (by decide) ?_
            refine lv_istore (lv' := [(7, .int (0 : Int32)), (6, .int (0 : Int32)), (5, .int (-1 : Int32)), (0, .ref h0), (1, .int p1), (2, .int p2), (3, .int p3), (4, .int p4)]) hx hb dX8_spot_84 hl (by decide) rfl (fun ls hl => ?_)
            obtain ⟨n0, h⟩ := h
            exact t_X8_spot_N_86 C hn27 hA n0 _ _ _ _ _ _ _ (lv_sub hl [3, 4, 5, 6, 7, 2, 1, 0] rfl) hP hD hS h
          · replace h := And.left h c10
            refine lv_aload_n hx hb dX8_spot_70 rfl (lv_at hl 0 rfl) ?_
            refine lv_bipush (v := -5) hx hb dX8_spot_71 (by decide) ?_
            refine xend_rw_i_id (wf := fun (u : (zS)) => (wX8 K h0 a0 n0 la0 u ++ (([] : va_W)))) (xRunV_id (As := [.int (-5 : Int32)]) (rest := []) C (c_X8_refuse h) k_X8_refuse mw_165 ⟨rfl, rfl⟩ ⟨Nat.le_of_ble_eq_true rfl, Nat.le_of_ble_eq_true rfl⟩ hP hD rfl rfl hl rfl rfl (Nat.le_of_ble_eq_true rfl) dX8_spot_73 ⟨Nat.zero_le _, Nat.zero_le _⟩) hD hS hA (fun _ => wX8_adr _ _) (fun v16 s17 H locs h hP hD hS => ?_)
            refine W.widen (k := 31) (n := 4831) (Nat.le_of_ble_eq_true rfl) (Nat.le_of_ble_eq_true rfl) ?_
            exact xrw_n C (wf := fun (u : zS × wO) => wX8 K h0 a0 (nOf n0 u.2) la0 u.1 ++ wOpt K u.2) (s17, none) h (by rw [wOpt_none]; exact hP) (by rw [wOpt_none]; exact hD) hS dX8_spot_76
        · replace h := And.left h c9
          refine lv_aload_n hx hb dX8_spot_50 rfl (lv_at hl 0 rfl) ?_
          refine lv_bipush (v := -6) hx hb dX8_spot_51 (by decide) ?_
          refine xend_rw_i_id (wf := fun (u : (zS)) => (wX8 K h0 a0 n0 la0 u ++ (([] : va_W)))) (xRunV_id (As := [.int (-6 : Int32)]) (rest := []) C (c_X8_refuse h) k_X8_refuse mw_165 ⟨rfl, rfl⟩ ⟨Nat.le_of_ble_eq_true rfl, Nat.le_of_ble_eq_true rfl⟩ hP hD rfl rfl hl rfl rfl (Nat.le_of_ble_eq_true rfl) dX8_spot_53 ⟨Nat.zero_le _, Nat.zero_le _⟩) hD hS hA (fun _ => wX8_adr _ _) (fun v18 s19 H locs h hP hD hS => ?_)
          refine W.widen (k := 31) (n := 4831) (Nat.le_of_ble_eq_true rfl) (Nat.le_of_ble_eq_true rfl) ?_
          exact xrw_n C (wf := fun (u : zS × wO) => wX8 K h0 a0 (nOf n0 u.2) la0 u.1 ++ wOpt K u.2) (s19, none) h (by rw [wOpt_none]; exact hP) (by rw [wOpt_none]; exact hD) hS dX8_spot_56
      · replace h := And.left h c8
        exact t_X8_spot_N_34 C hn27 hA _ _ _ _ (lv_sub hl [0] rfl) hP hD hS h
