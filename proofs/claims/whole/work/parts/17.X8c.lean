def wb_X8_edges_4 (r0 : zS) (post : Int32 → Prop) (ih : Int32 → Int32 → Prop) (x1 : Int32) (x2 : Int32) : Prop :=
  ((r0.1 10) ≤ x2 → post (x1 / (2 : Int32)) ) ∧ (¬ (r0.1 10) ≤ x2 → wp_X8_beside r0 x2 (fun v2 => wp_X8_bits v2 (fun v3 => ∀ v4 : Int32, v4 = (x1 + v3) → ∀ v5 : Int32, v5 = x2 + (1 : Int32) → ih v4 v5)))
def wp_X8_edges_4 (r0 : zS) (post : Int32 → Prop) (n : Nat) : Int32 → Int32 → Prop := Nat.rec (motive := fun _ => Int32 → Int32 → Prop) (fun _ _ => False) (fun _ ih => wb_X8_edges_4 r0 post ih) n
theorem wu_X8_edges_4 (r0 : zS) (post : Int32 → Prop) (n : Nat) (x1 : Int32) (x2 : Int32) : wp_X8_edges_4 r0 post (n + 1) x1 x2 = wb_X8_edges_4 r0 post (wp_X8_edges_4 r0 post n) x1 x2 := rfl
def wp_X8_edges (r0 : zS) (post : Int32 → Prop) : Prop :=
  ∃ n : Nat, wp_X8_edges_4 r0 post n (0 : Int32) (0 : Int32)
set_option maxHeartbeats 4000000 in
set_option maxRecDepth 100000 in
theorem t_X8_edges_4 {p : Program} {l : Launch} {e : Env} {s : State} {m : MethodId} {args : Array Value} {below : List Frame} {meth : Method} {c : Code} {D : va_G} {K : Nat → ClassId} {h0 : Nat} {a0 : Nat → Nat} {n0 : Nat → Option Nat} {la0 : Nat → Nat} {r0 : zS} {post : Int32 → Prop} (C : xC p s m args meth c cX8_edges RX8 3 (some .int) D vwCl (xty K)) (hP : va_P D vwCl (wX8 K h0 a0 n0 la0 r0 ++ (([] : va_W))) s.heap) (hD : va_D (va_A (wX8 K h0 a0 n0 la0 r0 ++ (([] : va_W))) s.heap.size) (wX8 K h0 a0 n0 la0 r0 ++ (([] : va_W)))) : ∀ (n : Nat) (x1 : Int32) (x2 : Int32) (ls : Array Slot), lv_has ls 3 [(0, .ref h0), (1, .int x1), (2, .int x2)] → wp_X8_edges_4 r0 post n x1 x2 → W p l e ({ frames := 3, cells := 0, slots := 0, locals := 68 } : Room) s m args below meth c s.heap [] 0 0 (MQ below (roI post) args s 0 0 (fun _ => False)) (F0 m 4 ls []) := by
  obtain ⟨hx, hb, hr, hml, hown, hts, hlocks, hK, hT⟩ := id C
  intro n
  induction n with
  | zero =>
    intro x1 x2 ls hl h
    exact False.elim h
  | succ n ihn =>
    intro x1 x2 ls hl h
    rw [wu_X8_edges_4] at h
    unfold wb_X8_edges_4 at h
    refine lv_iload_n hx hb dX8_edges_4 rfl (lv_at hl 2 rfl) ?_
    refine lv_aload_n hx hb dX8_edges_5 rfl (lv_at hl 0 rfl) ?_
    refine gX8_10 C hP dX8_edges_6 ?_
    refine lv_icmp_ge (tgt := 29) hx hb dX8_edges_9 (by decide) (fun c1 => ?_) (fun c1 => ?_)
    · replace h := And.left h c1
      refine lv_iload_n hx hb dX8_edges_29 rfl (lv_at hl 1 rfl) ?_
      refine lv_iconst (v := 2) hx hb dX8_edges_30 (by decide) ?_
      refine lv_idiv hx hb dX8_edges_31 (by decide) ?_
      exact xro_i C h dX8_edges_32
    · replace h := And.right h c1
      refine lv_iload_n hx hb dX8_edges_12 rfl (lv_at hl 1 rfl) ?_
      refine lv_aload_n hx hb dX8_edges_13 rfl (lv_at hl 0 rfl) ?_
      refine lv_iload_n hx hb dX8_edges_14 rfl (lv_at hl 2 rfl) ?_
      refine xend_ro_i (xRunV_id (As := [.int x2]) (rest := [.int x1]) C (c_X8_beside h) k_X8_beside mw_334 ⟨rfl, rfl⟩ ⟨Nat.le_of_ble_eq_true rfl, Nat.le_of_ble_eq_true rfl⟩ hP hD rfl rfl hl rfl rfl (Nat.le_of_ble_eq_true rfl) dX8_edges_15 ⟨Nat.le_refl _, Nat.le_refl _⟩) (fun v2 h => ?_)
      refine xend_ro_i (xRunS (wc := ([] : va_W)) (As := [.int v2]) (rest := [.int x1]) C (c_X8_bits h) k_X8_bits mw_345 ⟨rfl, rfl⟩ ⟨Nat.le_of_ble_eq_true rfl, Nat.le_of_ble_eq_true rfl⟩ hP hD [] rfl rfl hl rfl rfl (Nat.le_of_ble_eq_true rfl) dX8_edges_18 ⟨Nat.le_refl _, Nat.le_refl _⟩) (fun v3 h => ?_)
      refine lv_iadd hx hb dX8_edges_21 ?_
      refine lv_topi (fun v4 ev4 => ?_)
      replace h := h v4 ev4
      refine lv_istore_n (lv' := [(1, .int v4), (0, .ref h0), (2, .int x2)]) hx hb dX8_edges_22 rfl hl (by decide) rfl (fun ls hl => ?_)
      obtain ⟨v5, ev5⟩ : ∃ y : Int32, y = x2 + (1 : Int32) := ⟨_, rfl⟩
      replace h := h v5 ev5
      refine lv_iinc (v := v5) (lv' := [(2, .int v5), (1, .int v4), (0, .ref h0)]) hx hb dX8_edges_23 hl (k := 2) rfl (by rw [ev5]; rfl) (by decide) rfl (fun ls hl => ?_)
      refine lv_goto (tgt := 4) hx hb dX8_edges_26 (by decide) ?_
      exact ihn _ _ _ (lv_sub hl [2, 1, 0] rfl) h
set_option maxHeartbeats 4000000 in
set_option maxRecDepth 100000 in
theorem c_X8_edges {l : Launch} {D : va_G} {K : Nat → ClassId} {h0 : Nat} {a0 : Nat → Nat} {n0 : Nat → Option Nat} {la0 : Nat → Nat} {r0 : zS}  {sz : Nat} {post : Int32 → Prop}   (h : wp_X8_edges r0 post) : Met l yX8_edges (Cond.code yX8_edges cX8_edges 3 (some .int) :: wsL_law) ({ frames := 3, cells := 0, slots := 0, locals := 68 } : Room) (va_Pc [.ref h0] (xPre D vwCl (xty K) (wX8 K h0 a0 n0 la0 r0 ++ (([] : va_W))) sz)) (roI post) 0 0 (fun _ => False) := by
  refine xMet (by decide) rfl (Nat.le_of_ble_eq_true rfl) (fun p e s m args below meth c C hnm hP hD hsz ls hl => ?_)
  have hl : lv_has ls 3 [(0, .ref h0)] := hl
  obtain ⟨hx, hb, hr, hml, hown, hts, hlocks, hK, hT⟩ := id C
  unfold wp_X8_edges at h
  refine lv_iconst (v := 0) hx hb dX8_edges_0 (by decide) ?_
  refine lv_istore_n (lv' := [(1, .int (0 : Int32)), (0, .ref h0)]) hx hb dX8_edges_1 rfl hl (by decide) rfl (fun ls hl => ?_)
  refine lv_iconst (v := 0) hx hb dX8_edges_2 (by decide) ?_
  refine lv_istore_n (lv' := [(2, .int (0 : Int32)), (1, .int (0 : Int32)), (0, .ref h0)]) hx hb dX8_edges_3 rfl hl (by decide) rfl (fun ls hl => ?_)
  obtain ⟨n0, h⟩ := h
  exact t_X8_edges_4 C hP hD n0 _ _ _ (lv_sub hl [2, 1, 0] rfl) h

def wp_X8_lonely_28 (r0 : zS) (post : Int32 → Prop) (k4 : Int32 → Int32 → Prop) (x2 : Int32) (y0 : Int32) (y1 : Int32) : Prop :=
  ∀ v4 : Int32, v4 = (y1 ||| y0) → ∀ v5 : Int32, v5 = x2 + (1 : Int32) → k4 v4 v5
def wb_X8_lonely_4 (r0 : zS) (post : Int32 → Prop) (ih : Int32 → Int32 → Prop) (x1 : Int32) (x2 : Int32) : Prop :=
  ((r0.1 10) ≤ x2 → post x1 ) ∧ (¬ (r0.1 10) ≤ x2 → wp_X8_beside r0 x2 (fun v2 => (v2 = 0 → wp_X8_lonely_28 r0 post ih x2 ((1 : Int32) <<< (x2 &&& 31)) x1) ∧ (¬ v2 = 0 → wp_X8_lonely_28 r0 post ih x2 (0 : Int32) x1)))
def wp_X8_lonely_4 (r0 : zS) (post : Int32 → Prop) (n : Nat) : Int32 → Int32 → Prop := Nat.rec (motive := fun _ => Int32 → Int32 → Prop) (fun _ _ => False) (fun _ ih => wb_X8_lonely_4 r0 post ih) n
theorem wu_X8_lonely_4 (r0 : zS) (post : Int32 → Prop) (n : Nat) (x1 : Int32) (x2 : Int32) : wp_X8_lonely_4 r0 post (n + 1) x1 x2 = wb_X8_lonely_4 r0 post (wp_X8_lonely_4 r0 post n) x1 x2 := rfl
def wp_X8_lonely (r0 : zS) (post : Int32 → Prop) : Prop :=
  ∃ n : Nat, wp_X8_lonely_4 r0 post n (0 : Int32) (0 : Int32)
set_option maxHeartbeats 4000000 in
set_option maxRecDepth 100000 in
theorem t_X8_lonely_28 {p : Program} {l : Launch} {e : Env} {s : State} {m : MethodId} {args : Array Value} {below : List Frame} {meth : Method} {c : Code} {D : va_G} {K : Nat → ClassId} {h0 : Nat} {a0 : Nat → Nat} {n0 : Nat → Option Nat} {la0 : Nat → Nat} {r0 : zS} {post : Int32 → Prop} (C : xC p s m args meth c cX8_lonely RX8 3 (some .int) D vwCl (xty K)) (hP : va_P D vwCl (wX8 K h0 a0 n0 la0 r0 ++ (([] : va_W))) s.heap) (hD : va_D (va_A (wX8 K h0 a0 n0 la0 r0 ++ (([] : va_W))) s.heap.size) (wX8 K h0 a0 n0 la0 r0 ++ (([] : va_W)))) {k4 : Int32 → Int32 → Prop} (hk4 : ∀ (x1 : Int32) (x2 : Int32) (ls : Array Slot), lv_has ls 3 [(0, .ref h0), (1, .int x1), (2, .int x2)] → k4  x1 x2  → W p l e ({ frames := 3, cells := 0, slots := 0, locals := 68 } : Room) s m args below meth c s.heap [] 0 0 (MQ below (roI post) args s 0 0 (fun _ => False)) (F0 m 4 ls [])) : ∀ (x2 : Int32) (y0 : Int32) (y1 : Int32) (ls : Array Slot), lv_has ls 3 [(0, .ref h0), (2, .int x2)] → wp_X8_lonely_28 r0 post k4 x2 y0 y1 → W p l e ({ frames := 3, cells := 0, slots := 0, locals := 68 } : Room) s m args below meth c s.heap [] 0 0 (MQ below (roI post) args s 0 0 (fun _ => False)) (F0 m 28 ls [.int y0, .int y1]) := by
  obtain ⟨hx, hb, hr, hml, hown, hts, hlocks, hK, hT⟩ := id C
  intro x2 y0 y1 ls hl h
  unfold wp_X8_lonely_28 at h
  refine lv_ior hx hb dX8_lonely_28 ?_
  refine lv_topi (fun v4 ev4 => ?_)
  replace h := h v4 ev4
  refine lv_istore_n (lv' := [(1, .int v4), (0, .ref h0), (2, .int x2)]) hx hb dX8_lonely_29 rfl hl (by decide) rfl (fun ls hl => ?_)
  obtain ⟨v5, ev5⟩ : ∃ y : Int32, y = x2 + (1 : Int32) := ⟨_, rfl⟩
  replace h := h v5 ev5
  refine lv_iinc (v := v5) (lv' := [(2, .int v5), (1, .int v4), (0, .ref h0)]) hx hb dX8_lonely_30 hl (k := 2) rfl (by rw [ev5]; rfl) (by decide) rfl (fun ls hl => ?_)
  refine lv_goto (tgt := 4) hx hb dX8_lonely_33 (by decide) ?_
  exact hk4 _ _ _ (lv_sub hl [2, 1, 0] rfl) h
set_option maxHeartbeats 4000000 in
set_option maxRecDepth 100000 in
theorem t_X8_lonely_4 {p : Program} {l : Launch} {e : Env} {s : State} {m : MethodId} {args : Array Value} {below : List Frame} {meth : Method} {c : Code} {D : va_G} {K : Nat → ClassId} {h0 : Nat} {a0 : Nat → Nat} {n0 : Nat → Option Nat} {la0 : Nat → Nat} {r0 : zS} {post : Int32 → Prop} (C : xC p s m args meth c cX8_lonely RX8 3 (some .int) D vwCl (xty K)) (hP : va_P D vwCl (wX8 K h0 a0 n0 la0 r0 ++ (([] : va_W))) s.heap) (hD : va_D (va_A (wX8 K h0 a0 n0 la0 r0 ++ (([] : va_W))) s.heap.size) (wX8 K h0 a0 n0 la0 r0 ++ (([] : va_W)))) : ∀ (n : Nat) (x1 : Int32) (x2 : Int32) (ls : Array Slot), lv_has ls 3 [(0, .ref h0), (1, .int x1), (2, .int x2)] → wp_X8_lonely_4 r0 post n x1 x2 → W p l e ({ frames := 3, cells := 0, slots := 0, locals := 68 } : Room) s m args below meth c s.heap [] 0 0 (MQ below (roI post) args s 0 0 (fun _ => False)) (F0 m 4 ls []) := by
  obtain ⟨hx, hb, hr, hml, hown, hts, hlocks, hK, hT⟩ := id C
  intro n
  induction n with
  | zero =>
    intro x1 x2 ls hl h
    exact False.elim h
  | succ n ihn =>
    intro x1 x2 ls hl h
    rw [wu_X8_lonely_4] at h
    unfold wb_X8_lonely_4 at h
    refine lv_iload_n hx hb dX8_lonely_4 rfl (lv_at hl 2 rfl) ?_
    refine lv_aload_n hx hb dX8_lonely_5 rfl (lv_at hl 0 rfl) ?_
    refine gX8_10 C hP dX8_lonely_6 ?_
    refine lv_icmp_ge (tgt := 36) hx hb dX8_lonely_9 (by decide) (fun c1 => ?_) (fun c1 => ?_)
    · replace h := And.left h c1
      refine lv_iload_n hx hb dX8_lonely_36 rfl (lv_at hl 1 rfl) ?_
      exact xro_i C h dX8_lonely_37
    · replace h := And.right h c1
      refine lv_iload_n hx hb dX8_lonely_12 rfl (lv_at hl 1 rfl) ?_
      refine lv_aload_n hx hb dX8_lonely_13 rfl (lv_at hl 0 rfl) ?_
      refine lv_iload_n hx hb dX8_lonely_14 rfl (lv_at hl 2 rfl) ?_
      refine xend_ro_i (xRunV_id (As := [.int x2]) (rest := [.int x1]) C (c_X8_beside h) k_X8_beside mw_334 ⟨rfl, rfl⟩ ⟨Nat.le_of_ble_eq_true rfl, Nat.le_of_ble_eq_true rfl⟩ hP hD rfl rfl hl rfl rfl (Nat.le_of_ble_eq_true rfl) dX8_lonely_15 ⟨Nat.le_refl _, Nat.le_refl _⟩) (fun v2 h => ?_)
      refine lv_if_ne (tgt := 27) hx hb dX8_lonely_18 (by decide) (fun c3 => ?_) (fun c3 => ?_)
      · replace h := And.right h c3
        refine lv_iconst (v := 0) hx hb dX8_lonely_27 (by decide) ?_
        exact t_X8_lonely_28 C hP hD ihn _ _ _ _ (lv_sub hl [0, 2] rfl) h
      · replace h := And.left h c3
        refine lv_iconst (v := 1) hx hb dX8_lonely_21 (by decide) ?_
        refine lv_iload_n hx hb dX8_lonely_22 rfl (lv_at hl 2 rfl) ?_
        refine lv_ishl hx hb dX8_lonely_23 ?_
        refine lv_goto (tgt := 28) hx hb dX8_lonely_24 (by decide) ?_
        exact t_X8_lonely_28 C hP hD ihn _ _ _ _ (lv_sub hl [0, 2] rfl) h
set_option maxHeartbeats 4000000 in
set_option maxRecDepth 100000 in
theorem c_X8_lonely {l : Launch} {D : va_G} {K : Nat → ClassId} {h0 : Nat} {a0 : Nat → Nat} {n0 : Nat → Option Nat} {la0 : Nat → Nat} {r0 : zS}  {sz : Nat} {post : Int32 → Prop}   (h : wp_X8_lonely r0 post) : Met l yX8_lonely (Cond.code yX8_lonely cX8_lonely 3 (some .int) :: wsL_law) ({ frames := 3, cells := 0, slots := 0, locals := 68 } : Room) (va_Pc [.ref h0] (xPre D vwCl (xty K) (wX8 K h0 a0 n0 la0 r0 ++ (([] : va_W))) sz)) (roI post) 0 0 (fun _ => False) := by
  refine xMet (by decide) rfl (Nat.le_of_ble_eq_true rfl) (fun p e s m args below meth c C hnm hP hD hsz ls hl => ?_)
  have hl : lv_has ls 3 [(0, .ref h0)] := hl
  obtain ⟨hx, hb, hr, hml, hown, hts, hlocks, hK, hT⟩ := id C
  unfold wp_X8_lonely at h
  refine lv_iconst (v := 0) hx hb dX8_lonely_0 (by decide) ?_
  refine lv_istore_n (lv' := [(1, .int (0 : Int32)), (0, .ref h0)]) hx hb dX8_lonely_1 rfl hl (by decide) rfl (fun ls hl => ?_)
  refine lv_iconst (v := 0) hx hb dX8_lonely_2 (by decide) ?_
  refine lv_istore_n (lv' := [(2, .int (0 : Int32)), (1, .int (0 : Int32)), (0, .ref h0)]) hx hb dX8_lonely_3 rfl hl (by decide) rfl (fun ls hl => ?_)
  obtain ⟨n0, h⟩ := h
  exact t_X8_lonely_4 C hP hD n0 _ _ _ (lv_sub hl [2, 1, 0] rfl) h

def wp_X8_when_57 (p1 : Int32) (p2 : Int32) (post : Int32 → (zS) → Prop) (k24 : (zS) → Int32 → Int32 → Int32 → Prop) (r0 : zS) (x3 : Int32) (x4 : Int32) (x5 : Int32) : Prop :=
  ∀ v10 : Int32, v10 = x5 + (1 : Int32) → k24 r0 x3 x4 v10
def wb_X8_when_24 (p1 : Int32) (p2 : Int32) (post : Int32 → (zS) → Prop) (ih : (zS) → Int32 → Int32 → Int32 → Prop) (r0 : zS) (x3 : Int32) (x4 : Int32) (x5 : Int32) : Prop :=
  ((r0.1 15) ≤ x5 → (x3 = (-1 : Int32) → wp_X8_refuse r0 (-5 : Int32) (fun v5 s6 => post v5 s6)) ∧ (¬ x3 = (-1 : Int32) → post x3 r0)) ∧ (¬ (r0.1 15) ≤ x5 → wp_X8_chanceNow r0 p1 p2 x5 (fun v7 s8 => (v7 ≤ x4 → wp_X8_when_57 p1 p2 post ih s8 x3 x4 x5) ∧ (¬ v7 ≤ x4 → wp_X8_when_57 p1 p2 post ih s8 x5 v7 x5)))
def wp_X8_when_24 (p1 : Int32) (p2 : Int32) (post : Int32 → (zS) → Prop) (n : Nat) : (zS) → Int32 → Int32 → Int32 → Prop := Nat.rec (motive := fun _ => (zS) → Int32 → Int32 → Int32 → Prop) (fun _ _ _ _ => False) (fun _ ih => wb_X8_when_24 p1 p2 post ih) n
theorem wu_X8_when_24 (p1 : Int32) (p2 : Int32) (post : Int32 → (zS) → Prop) (n : Nat) (r0 : zS) (x3 : Int32) (x4 : Int32) (x5 : Int32) : wp_X8_when_24 p1 p2 post (n + 1) r0 x3 x4 x5 = wb_X8_when_24 p1 p2 post (wp_X8_when_24 p1 p2 post n) r0 x3 x4 x5 := rfl
def wp_X8_when (r0 : zS) (p1 : Int32) (p2 : Int32) (post : Int32 → (zS) → Prop) : Prop :=
  wp_X8_areTwo r0 p1 p2 (fun v1 => (v1 = 0 → wp_X8_refuse r0 (-2 : Int32) (fun v11 s12 => post v11 s12)) ∧ (¬ v1 = 0 → ∃ n : Nat, wp_X8_when_24 p1 p2 post n r0 (-1 : Int32) (-1 : Int32) (0 : Int32)))
set_option maxHeartbeats 4000000 in
set_option maxRecDepth 100000 in
theorem t_X8_when_57 {p : Program} {l : Launch} {e : Env} {s : State} {m : MethodId} {args : Array Value} {below : List Frame} {meth : Method} {c : Code} {D : va_G} {K : Nat → ClassId} {h0 : Nat} {a0 : Nat → Nat} {n0 : Nat → Option Nat} {la0 : Nat → Nat} {p1 : Int32} {p2 : Int32} {post : Int32 → (zS) → Prop} {A : Nat → Prop} (C : xC p s m args meth c cX8_when RX8 7 (some .int) D vwCl (xty K)) (hA : ∀ q, s.heap.size ≤ q → A q) {k24 : (zS) → Int32 → Int32 → Int32 → Prop} (hk24 : ∀ (r0 : zS) (x3 : Int32) (x4 : Int32) (x5 : Int32) (H : Heap) (locs : List Loc) (ls : Array Slot), lv_has ls 7 [(0, .ref h0), (1, .int p1), (2, .int p2), (3, .int x3), (4, .int x4), (5, .int x5)] → va_P D vwCl (wX8 K h0 a0 n0 la0 r0 ++ (([] : va_W))) H → va_D A (wX8 K h0 a0 n0 la0 r0 ++ (([] : va_W))) → va_S A s.heap H locs → k24 r0 x3 x4 x5  → W p l e ({ frames := 16, cells := 0, slots := 0, locals := 563 } : Room) s m args below meth c H locs 0 0 (MQ below (va_Qi (fun r (u : (zS)) => post r u) (fun (u : (zS)) t => va_P D vwCl (wX8 K h0 a0 n0 la0 u ++ (([] : va_W))) t.heap) A) args s 0 0 A) (F0 m 24 ls [])) : ∀ (r0 : zS) (x3 : Int32) (x4 : Int32) (x5 : Int32) (H : Heap) (locs : List Loc) (ls : Array Slot), lv_has ls 7 [(0, .ref h0), (1, .int p1), (2, .int p2), (3, .int x3), (4, .int x4), (5, .int x5)] → va_P D vwCl (wX8 K h0 a0 n0 la0 r0 ++ (([] : va_W))) H → va_D A (wX8 K h0 a0 n0 la0 r0 ++ (([] : va_W))) → va_S A s.heap H locs → wp_X8_when_57 p1 p2 post k24 r0 x3 x4 x5 → W p l e ({ frames := 16, cells := 0, slots := 0, locals := 563 } : Room) s m args below meth c H locs 0 0 (MQ below (va_Qi (fun r (u : (zS)) => post r u) (fun (u : (zS)) t => va_P D vwCl (wX8 K h0 a0 n0 la0 u ++ (([] : va_W))) t.heap) A) args s 0 0 A) (F0 m 57 ls []) := by
  obtain ⟨hx, hb, hr, hml, hown, hts, hlocks, hK, hT⟩ := id C
  intro r0 x3 x4 x5 H locs ls hl hP hD hS h
  unfold wp_X8_when_57 at h
  obtain ⟨v10, ev10⟩ : ∃ y : Int32, y = x5 + (1 : Int32) := ⟨_, rfl⟩
  replace h := h v10 ev10
  refine lv_iinc (v := v10) (lv' := [(5, .int v10), (0, .ref h0), (1, .int p1), (2, .int p2), (3, .int x3), (4, .int x4)]) hx hb dX8_when_57 hl (k := 5) rfl (by rw [ev10]; rfl) (by decide) rfl (fun ls hl => ?_)
  refine lv_goto (tgt := 24) hx hb dX8_when_60 (by decide) ?_
  exact hk24 _ _ _ _ _ _ _ (lv_sub hl [1, 2, 3, 4, 5, 0] rfl) hP hD hS h
set_option maxHeartbeats 4000000 in
set_option maxRecDepth 100000 in
theorem t_X8_when_24 {p : Program} {l : Launch} {e : Env} {s : State} {m : MethodId} {args : Array Value} {below : List Frame} {meth : Method} {c : Code} {D : va_G} {K : Nat → ClassId} {h0 : Nat} {a0 : Nat → Nat} {n0 : Nat → Option Nat} {la0 : Nat → Nat} {p1 : Int32} {p2 : Int32} {post : Int32 → (zS) → Prop} {A : Nat → Prop} (C : xC p s m args meth c cX8_when RX8 7 (some .int) D vwCl (xty K)) (hA : ∀ q, s.heap.size ≤ q → A q) : ∀ (n : Nat) (r0 : zS) (x3 : Int32) (x4 : Int32) (x5 : Int32) (H : Heap) (locs : List Loc) (ls : Array Slot), lv_has ls 7 [(0, .ref h0), (1, .int p1), (2, .int p2), (3, .int x3), (4, .int x4), (5, .int x5)] → va_P D vwCl (wX8 K h0 a0 n0 la0 r0 ++ (([] : va_W))) H → va_D A (wX8 K h0 a0 n0 la0 r0 ++ (([] : va_W))) → va_S A s.heap H locs → wp_X8_when_24 p1 p2 post n r0 x3 x4 x5 → W p l e ({ frames := 16, cells := 0, slots := 0, locals := 563 } : Room) s m args below meth c H locs 0 0 (MQ below (va_Qi (fun r (u : (zS)) => post r u) (fun (u : (zS)) t => va_P D vwCl (wX8 K h0 a0 n0 la0 u ++ (([] : va_W))) t.heap) A) args s 0 0 A) (F0 m 24 ls []) := by
  obtain ⟨hx, hb, hr, hml, hown, hts, hlocks, hK, hT⟩ := id C
  intro n
  induction n with
  | zero =>
    intro r0 x3 x4 x5 H locs ls hl hP hD hS h
    exact False.elim h
  | succ n ihn =>
    intro r0 x3 x4 x5 H locs ls hl hP hD hS h
    rw [wu_X8_when_24] at h
    unfold wb_X8_when_24 at h
    refine lv_iload hx hb dX8_when_24 (lv_at hl 5 rfl) ?_
    refine lv_aload_n hx hb dX8_when_26 rfl (lv_at hl 0 rfl) ?_
    refine gX8_15 C hP dX8_when_27 ?_
    refine lv_icmp_ge (tgt := 63) hx hb dX8_when_30 (by decide) (fun c3 => ?_) (fun c3 => ?_)
    · replace h := And.left h c3
      refine lv_iload_n hx hb dX8_when_63 rfl (lv_at hl 3 rfl) ?_
      refine lv_iconst (v := -1) hx hb dX8_when_64 (by decide) ?_
      refine lv_icmp_ne (tgt := 77) hx hb dX8_when_65 (by decide) (fun c4 => ?_) (fun c4 => ?_)
      · replace h := And.right h c4
        refine lv_iload_n hx hb dX8_when_77 rfl (lv_at hl 3 rfl) ?_
        exact xrw_i C r0 h hP hS dX8_when_78
      · replace h := And.left h c4
        refine lv_aload_n hx hb dX8_when_68 rfl (lv_at hl 0 rfl) ?_
        refine lv_bipush (v := -5) hx hb dX8_when_69 (by decide) ?_
        refine xend_rw_i_id (wf := fun (u : (zS)) => (wX8 K h0 a0 n0 la0 u ++ (([] : va_W)))) (xRunV_id (As := [.int (-5 : Int32)]) (rest := []) C (c_X8_refuse h) k_X8_refuse mw_165 ⟨rfl, rfl⟩ ⟨Nat.le_of_ble_eq_true rfl, Nat.le_of_ble_eq_true rfl⟩ hP hD rfl rfl hl rfl rfl (Nat.le_of_ble_eq_true rfl) dX8_when_71 ⟨Nat.le_refl _, Nat.le_refl _⟩) hD hS hA (fun _ => wX8_adr _ _) (fun v5 s6 H locs h hP hD hS => ?_)
        refine lv_goto (tgt := 78) hx hb dX8_when_74 (by decide) ?_
        exact xrw_i C s6 h hP hS dX8_when_78
    · replace h := And.right h c3
      refine lv_aload_n hx hb dX8_when_33 rfl (lv_at hl 0 rfl) ?_
      refine lv_iload_n hx hb dX8_when_34 rfl (lv_at hl 1 rfl) ?_
      refine lv_iload_n hx hb dX8_when_35 rfl (lv_at hl 2 rfl) ?_
      refine lv_iload hx hb dX8_when_36 (lv_at hl 5 rfl) ?_
      refine xend_rw_i_id (wf := fun (u : (zS)) => (wX8 K h0 a0 n0 la0 u ++ (([] : va_W)))) (xRunV_id (As := [.int p1, .int p2, .int x5]) (rest := []) C (c_X8_chanceNow h) k_X8_chanceNow mw_939 ⟨rfl, rfl⟩ ⟨Nat.le_of_ble_eq_true rfl, Nat.le_of_ble_eq_true rfl⟩ hP hD rfl rfl hl rfl rfl (Nat.le_of_ble_eq_true rfl) dX8_when_38 ⟨Nat.le_refl _, Nat.le_refl _⟩) hD hS hA (fun _ => wX8_adr _ _) (fun v7 s8 H locs h hP hD hS => ?_)
      refine lv_istore (lv' := [(6, .int v7), (0, .ref h0), (1, .int p1), (2, .int p2), (3, .int x3), (4, .int x4), (5, .int x5)]) hx hb dX8_when_41 hl (by decide) rfl (fun ls hl => ?_)
      refine lv_iload hx hb dX8_when_43 (lv_at hl 0 rfl) ?_
      refine lv_iload hx hb dX8_when_45 (lv_at hl 5 rfl) ?_
      refine lv_icmp_le (tgt := 57) hx hb dX8_when_47 (by decide) (fun c9 => ?_) (fun c9 => ?_)
      · replace h := And.left h c9
        exact t_X8_when_57 C hA ihn _ _ _ _ _ _ _ (lv_sub hl [1, 2, 3, 4, 5, 6] rfl) hP hD hS h
      · replace h := And.right h c9
        refine lv_iload hx hb dX8_when_50 (lv_at hl 6 rfl) ?_
        refine lv_istore_n (lv' := [(3, .int x5), (6, .int v7), (0, .ref h0), (1, .int p1), (2, .int p2), (4, .int x4), (5, .int x5)]) hx hb dX8_when_52 rfl hl (by decide) rfl (fun ls hl => ?_)
        refine lv_iload hx hb dX8_when_53 (lv_at hl 1 rfl) ?_
        refine lv_istore (lv' := [(4, .int v7), (3, .int x5), (6, .int v7), (0, .ref h0), (1, .int p1), (2, .int p2), (5, .int x5)]) hx hb dX8_when_55 hl (by decide) rfl (fun ls hl => ?_)
        exact t_X8_when_57 C hA ihn _ _ _ _ _ _ _ (lv_sub hl [3, 4, 5, 1, 0, 6] rfl) hP hD hS h
set_option maxHeartbeats 4000000 in
set_option maxRecDepth 100000 in
theorem c_X8_when {l : Launch} {D : va_G} {K : Nat → ClassId} {h0 : Nat} {a0 : Nat → Nat} {n0 : Nat → Option Nat} {la0 : Nat → Nat} {r0 : zS} {p1 : Int32} {p2 : Int32} {sz : Nat} {post : Int32 → (zS) → Prop}   (h : wp_X8_when r0 p1 p2 post) : Met l yX8_when (Cond.code yX8_when cX8_when 7 (some .int) :: wsL_law) ({ frames := 16, cells := 0, slots := 0, locals := 563 } : Room) (va_Pc [.ref h0, .int p1, .int p2] (xPre D vwCl (xty K) (wX8 K h0 a0 n0 la0 r0 ++ (([] : va_W))) sz)) (va_Qi (fun r (u : (zS)) => post r u) (fun (u : (zS)) t => va_P D vwCl (wX8 K h0 a0 n0 la0 u ++ (([] : va_W))) t.heap) (va_A (wX8 K h0 a0 n0 la0 r0 ++ (([] : va_W))) sz)) 0 0 (va_A (wX8 K h0 a0 n0 la0 r0 ++ (([] : va_W))) sz) := by
  refine xMet (by decide) rfl (Nat.le_of_ble_eq_true rfl) (fun p e s m args below meth c C hnm hP hD hsz ls hl => ?_)
  have hl : lv_has ls 7 [(0, .ref h0), (1, .int p1), (2, .int p2)] := hl
  obtain ⟨hx, hb, hr, hml, hown, hts, hlocks, hK, hT⟩ := id C
  subst hsz
  generalize hAe : va_A (wX8 K h0 a0 n0 la0 r0 ++ (([] : va_W))) s.heap.size = A at hD ⊢
  have hA : ∀ q : Nat, s.heap.size ≤ q → A q := fun q h => by rw [← hAe]; exact Or.inr h
  have hS : va_S A s.heap s.heap [] := va_S.rf
  have hP : va_P D vwCl (wX8 K h0 a0 n0 la0 r0 ++ (([] : va_W))) s.heap := hP
  unfold wp_X8_when at h
  refine lv_aload_n hx hb dX8_when_0 rfl (lv_at hl 0 rfl) ?_
  refine lv_iload_n hx hb dX8_when_1 rfl (lv_at hl 1 rfl) ?_
  refine lv_iload_n hx hb dX8_when_2 rfl (lv_at hl 2 rfl) ?_
  refine xend_ro_i (xRunV_id (As := [.int p1, .int p2]) (rest := []) C (c_X8_areTwo h) k_X8_areTwo mw_449 ⟨rfl, rfl⟩ ⟨Nat.le_of_ble_eq_true rfl, Nat.le_of_ble_eq_true rfl⟩ hP hD rfl rfl hl rfl rfl (Nat.le_of_ble_eq_true rfl) dX8_when_3 ⟨Nat.le_refl _, Nat.le_refl _⟩) (fun v1 h => ?_)
  refine lv_if_ne (tgt := 16) hx hb dX8_when_6 (by decide) (fun c2 => ?_) (fun c2 => ?_)
  · replace h := And.right h c2
    refine lv_iconst (v := -1) hx hb dX8_when_16 (by decide) ?_
    refine lv_istore_n (lv' := [(3, .int (-1 : Int32)), (0, .ref h0), (1, .int p1), (2, .int p2)]) hx hb dX8_when_17 rfl hl (by decide) rfl (fun ls hl => ?_)
    refine lv_iconst (v := -1) hx hb dX8_when_18 (by decide) ?_
    refine lv_istore (lv' := [(4, .int (-1 : Int32)), (3, .int (-1 : Int32)), (0, .ref h0), (1, .int p1), (2, .int p2)]) hx hb dX8_when_19 hl (by decide) rfl (fun ls hl => ?_)
    refine lv_iconst (v := 0) hx hb dX8_when_21 (by decide) ?_
    refine lv_istore (lv' := [(5, .int (0 : Int32)), (4, .int (-1 : Int32)), (3, .int (-1 : Int32)), (0, .ref h0), (1, .int p1), (2, .int p2)]) hx hb dX8_when_22 hl (by decide) rfl (fun ls hl => ?_)
    obtain ⟨n0, h⟩ := h
    exact t_X8_when_24 C hA n0 _ _ _ _ _ _ _ (lv_sub hl [3, 4, 5, 2, 1, 0] rfl) hP hD hS h
  · replace h := And.left h c2
    refine lv_aload_n hx hb dX8_when_9 rfl (lv_at hl 0 rfl) ?_
    refine lv_bipush (v := -2) hx hb dX8_when_10 (by decide) ?_
    refine xend_rw_i_id (wf := fun (u : (zS)) => (wX8 K h0 a0 n0 la0 u ++ (([] : va_W)))) (xRunV_id (As := [.int (-2 : Int32)]) (rest := []) C (c_X8_refuse h) k_X8_refuse mw_165 ⟨rfl, rfl⟩ ⟨Nat.le_of_ble_eq_true rfl, Nat.le_of_ble_eq_true rfl⟩ hP hD rfl rfl hl rfl rfl (Nat.le_of_ble_eq_true rfl) dX8_when_12 ⟨Nat.le_refl _, Nat.le_refl _⟩) hD hS hA (fun _ => wX8_adr _ _) (fun v11 s12 H locs h hP hD hS => ?_)
    exact xrw_i C s12 h hP hS dX8_when_15

def wp_X8_answer_21 (p1 : Int32) (p2 : Int32) (p3 : Int32) (post : Int32 → (zS) → Prop) (r0 : zS) : Prop :=
  wp_X8_refuse r0 (-2 : Int32) (fun v3 s4 => post v3 s4)
def wp_X8_answer (r0 : zS) (p1 : Int32) (p2 : Int32) (p3 : Int32) (post : Int32 → (zS) → Prop) : Prop :=
  wp_X8_areTwo r0 p1 p2 (fun v1 => (v1 = 0 → wp_X8_answer_21 p1 p2 p3 post r0) ∧ (¬ v1 = 0 → wp_X8_in (p3.toInt64) (0 : Int64) (9999 : Int64) (fun v5 => (v5 = 0 → wp_X8_answer_21 p1 p2 p3 post r0) ∧ (¬ v5 = 0 → wp_X8_chanceNow r0 p1 p2 p3 (fun v7 s8 => (v7 = (-1 : Int32) → wp_X8_refuse s8 (-5 : Int32) (fun v13 s14 => post v13 s14)) ∧ (¬ v7 = (-1 : Int32) → wp_X8_chanceNow s8 p2 p1 (s8.1 44) (fun v10 s11 => wp_X8_both v7 v10 (fun v12 => post v12 s11))))))))
set_option maxHeartbeats 4000000 in
set_option maxRecDepth 100000 in
theorem t_X8_answer_21 {p : Program} {l : Launch} {e : Env} {s : State} {m : MethodId} {args : Array Value} {below : List Frame} {meth : Method} {c : Code} {D : va_G} {K : Nat → ClassId} {h0 : Nat} {a0 : Nat → Nat} {n0 : Nat → Option Nat} {la0 : Nat → Nat} {p1 : Int32} {p2 : Int32} {p3 : Int32} {post : Int32 → (zS) → Prop} {A : Nat → Prop} (C : xC p s m args meth c cX8_answer RX8 5 (some .int) D vwCl (xty K)) (hA : ∀ q, s.heap.size ≤ q → A q) : ∀ (r0 : zS) (H : Heap) (locs : List Loc) (ls : Array Slot), lv_has ls 5 [(0, .ref h0)] → va_P D vwCl (wX8 K h0 a0 n0 la0 r0 ++ (([] : va_W))) H → va_D A (wX8 K h0 a0 n0 la0 r0 ++ (([] : va_W))) → va_S A s.heap H locs → wp_X8_answer_21 p1 p2 p3 post r0 → W p l e ({ frames := 16, cells := 0, slots := 0, locals := 563 } : Room) s m args below meth c H locs 0 0 (MQ below (va_Qi (fun r (u : (zS)) => post r u) (fun (u : (zS)) t => va_P D vwCl (wX8 K h0 a0 n0 la0 u ++ (([] : va_W))) t.heap) A) args s 0 0 A) (F0 m 21 ls []) := by
  obtain ⟨hx, hb, hr, hml, hown, hts, hlocks, hK, hT⟩ := id C
  intro r0 H locs ls hl hP hD hS h
  unfold wp_X8_answer_21 at h
  refine lv_aload_n hx hb dX8_answer_21 rfl (lv_at hl 0 rfl) ?_
  refine lv_bipush (v := -2) hx hb dX8_answer_22 (by decide) ?_
  refine xend_rw_i_id (wf := fun (u : (zS)) => (wX8 K h0 a0 n0 la0 u ++ (([] : va_W)))) (xRunV_id (As := [.int (-2 : Int32)]) (rest := []) C (c_X8_refuse h) k_X8_refuse mw_165 ⟨rfl, rfl⟩ ⟨Nat.le_of_ble_eq_true rfl, Nat.le_of_ble_eq_true rfl⟩ hP hD rfl rfl hl rfl rfl (Nat.le_of_ble_eq_true rfl) dX8_answer_24 ⟨Nat.le_refl _, Nat.le_refl _⟩) hD hS hA (fun _ => wX8_adr _ _) (fun v3 s4 H locs h hP hD hS => ?_)
  exact xrw_i C s4 h hP hS dX8_answer_27
set_option maxHeartbeats 4000000 in
set_option maxRecDepth 100000 in
theorem c_X8_answer {l : Launch} {D : va_G} {K : Nat → ClassId} {h0 : Nat} {a0 : Nat → Nat} {n0 : Nat → Option Nat} {la0 : Nat → Nat} {r0 : zS} {p1 : Int32} {p2 : Int32} {p3 : Int32} {sz : Nat} {post : Int32 → (zS) → Prop}   (h : wp_X8_answer r0 p1 p2 p3 post) : Met l yX8_answer (Cond.code yX8_answer cX8_answer 5 (some .int) :: wsL_law) ({ frames := 16, cells := 0, slots := 0, locals := 563 } : Room) (va_Pc [.ref h0, .int p1, .int p2, .int p3] (xPre D vwCl (xty K) (wX8 K h0 a0 n0 la0 r0 ++ (([] : va_W))) sz)) (va_Qi (fun r (u : (zS)) => post r u) (fun (u : (zS)) t => va_P D vwCl (wX8 K h0 a0 n0 la0 u ++ (([] : va_W))) t.heap) (va_A (wX8 K h0 a0 n0 la0 r0 ++ (([] : va_W))) sz)) 0 0 (va_A (wX8 K h0 a0 n0 la0 r0 ++ (([] : va_W))) sz) := by
  refine xMet (by decide) rfl (Nat.le_of_ble_eq_true rfl) (fun p e s m args below meth c C hnm hP hD hsz ls hl => ?_)
  have hl : lv_has ls 5 [(0, .ref h0), (1, .int p1), (2, .int p2), (3, .int p3)] := hl
  obtain ⟨hx, hb, hr, hml, hown, hts, hlocks, hK, hT⟩ := id C
  subst hsz
  generalize hAe : va_A (wX8 K h0 a0 n0 la0 r0 ++ (([] : va_W))) s.heap.size = A at hD ⊢
  have hA : ∀ q : Nat, s.heap.size ≤ q → A q := fun q h => by rw [← hAe]; exact Or.inr h
  have hS : va_S A s.heap s.heap [] := va_S.rf
  have hP : va_P D vwCl (wX8 K h0 a0 n0 la0 r0 ++ (([] : va_W))) s.heap := hP
  unfold wp_X8_answer at h
  refine lv_aload_n hx hb dX8_answer_0 rfl (lv_at hl 0 rfl) ?_
  refine lv_iload_n hx hb dX8_answer_1 rfl (lv_at hl 1 rfl) ?_
  refine lv_iload_n hx hb dX8_answer_2 rfl (lv_at hl 2 rfl) ?_
  refine xend_ro_i (xRunV_id (As := [.int p1, .int p2]) (rest := []) C (c_X8_areTwo h) k_X8_areTwo mw_449 ⟨rfl, rfl⟩ ⟨Nat.le_of_ble_eq_true rfl, Nat.le_of_ble_eq_true rfl⟩ hP hD rfl rfl hl rfl rfl (Nat.le_of_ble_eq_true rfl) dX8_answer_3 ⟨Nat.le_refl _, Nat.le_refl _⟩) (fun v1 h => ?_)
  refine lv_if_eq (tgt := 21) hx hb dX8_answer_6 (by decide) (fun c2 => ?_) (fun c2 => ?_)
  · replace h := And.left h c2
    exact t_X8_answer_21 C hA _ _ _ _ (lv_sub hl [0] rfl) hP hD hS h
  · replace h := And.right h c2
    refine lv_iload_n hx hb dX8_answer_9 rfl (lv_at hl 3 rfl) ?_
    refine lv_i2l hx hb dX8_answer_10 rfl ?_
    refine lv_lconst (v := 0) hx hb dX8_answer_11 (by decide) ?_
    refine lv_ldc2 hx hb hown (hts _ mw_742) dX8_answer_12 ?_
    refine xend_ro_i (xRunS (wc := ([] : va_W)) (As := [.long (p3.toInt64), .long (0 : Int64), .long (9999 : Int64)]) (rest := []) C (c_X8_in h) k_X8_in mw_162 ⟨rfl, rfl⟩ ⟨Nat.le_of_ble_eq_true rfl, Nat.le_of_ble_eq_true rfl⟩ hP hD [] rfl rfl hl rfl rfl (Nat.le_of_ble_eq_true rfl) dX8_answer_15 ⟨Nat.le_refl _, Nat.le_refl _⟩) (fun v5 h => ?_)
    refine lv_if_ne (tgt := 28) hx hb dX8_answer_18 (by decide) (fun c6 => ?_) (fun c6 => ?_)
    · replace h := And.right h c6
      refine lv_aload_n hx hb dX8_answer_28 rfl (lv_at hl 0 rfl) ?_
      refine lv_iload_n hx hb dX8_answer_29 rfl (lv_at hl 1 rfl) ?_
      refine lv_iload_n hx hb dX8_answer_30 rfl (lv_at hl 2 rfl) ?_
      refine lv_iload_n hx hb dX8_answer_31 rfl (lv_at hl 3 rfl) ?_
      refine xend_rw_i_id (wf := fun (u : (zS)) => (wX8 K h0 a0 n0 la0 u ++ (([] : va_W)))) (xRunV_id (As := [.int p1, .int p2, .int p3]) (rest := []) C (c_X8_chanceNow h) k_X8_chanceNow mw_939 ⟨rfl, rfl⟩ ⟨Nat.le_of_ble_eq_true rfl, Nat.le_of_ble_eq_true rfl⟩ hP hD rfl rfl hl rfl rfl (Nat.le_of_ble_eq_true rfl) dX8_answer_32 ⟨Nat.le_refl _, Nat.le_refl _⟩) hD hS hA (fun _ => wX8_adr _ _) (fun v7 s8 H locs h hP hD hS => ?_)
      refine lv_istore (lv' := [(4, .int v7), (0, .ref h0), (1, .int p1), (2, .int p2), (3, .int p3)]) hx hb dX8_answer_35 hl (by decide) rfl (fun ls hl => ?_)
      refine lv_iload hx hb dX8_answer_37 (lv_at hl 0 rfl) ?_
      refine lv_iconst (v := -1) hx hb dX8_answer_39 (by decide) ?_
      refine lv_icmp_ne (tgt := 50) hx hb dX8_answer_40 (by decide) (fun c9 => ?_) (fun c9 => ?_)
      · replace h := And.right h c9
        refine lv_iload hx hb dX8_answer_50 (lv_at hl 0 rfl) ?_
        refine lv_aload_n hx hb dX8_answer_52 rfl (lv_at hl 1 rfl) ?_
        refine lv_iload_n hx hb dX8_answer_53 rfl (lv_at hl 3 rfl) ?_
        refine lv_iload_n hx hb dX8_answer_54 rfl (lv_at hl 2 rfl) ?_
        refine lv_aload_n hx hb dX8_answer_55 rfl (lv_at hl 1 rfl) ?_
        refine gX8_44 C hP dX8_answer_56 ?_
        refine xend_rw_i_id (wf := fun (u : (zS)) => (wX8 K h0 a0 n0 la0 u ++ (([] : va_W)))) (xRunV_id (As := [.int p2, .int p1, .int (s8.1 44)]) (rest := [.int v7]) C (c_X8_chanceNow h) k_X8_chanceNow mw_939 ⟨rfl, rfl⟩ ⟨Nat.le_of_ble_eq_true rfl, Nat.le_of_ble_eq_true rfl⟩ hP hD rfl rfl hl rfl rfl (Nat.le_of_ble_eq_true rfl) dX8_answer_59 ⟨Nat.le_refl _, Nat.le_refl _⟩) hD hS hA (fun _ => wX8_adr _ _) (fun v10 s11 H locs h hP hD hS => ?_)
        refine xend_ro_i (xRunS (wc := ([] : va_W)) (As := [.int v7, .int v10]) (rest := []) C (c_X8_both h) k_X8_both mw_922 ⟨rfl, rfl⟩ ⟨Nat.le_of_ble_eq_true rfl, Nat.le_of_ble_eq_true rfl⟩ hP hD [] rfl rfl hl rfl rfl (Nat.le_of_ble_eq_true rfl) dX8_answer_62 ⟨Nat.le_refl _, Nat.le_refl _⟩) (fun v12 h => ?_)
        exact xrw_i C s11 h hP hS dX8_answer_65
      · replace h := And.left h c9
        refine lv_aload_n hx hb dX8_answer_43 rfl (lv_at hl 1 rfl) ?_
        refine lv_bipush (v := -5) hx hb dX8_answer_44 (by decide) ?_
        refine xend_rw_i_id (wf := fun (u : (zS)) => (wX8 K h0 a0 n0 la0 u ++ (([] : va_W)))) (xRunV_id (As := [.int (-5 : Int32)]) (rest := []) C (c_X8_refuse h) k_X8_refuse mw_165 ⟨rfl, rfl⟩ ⟨Nat.le_of_ble_eq_true rfl, Nat.le_of_ble_eq_true rfl⟩ hP hD rfl rfl hl rfl rfl (Nat.le_of_ble_eq_true rfl) dX8_answer_46 ⟨Nat.le_refl _, Nat.le_refl _⟩) hD hS hA (fun _ => wX8_adr _ _) (fun v13 s14 H locs h hP hD hS => ?_)
        exact xrw_i C s14 h hP hS dX8_answer_49
    · replace h := And.left h c6
      exact t_X8_answer_21 C hA _ _ _ _ (lv_sub hl [0] rfl) hP hD hS h

def wp_X8_must (r0 : zS) (p1 : Int32) (p2 : Int32) (post : Int32 → (zS) → Prop) : Prop :=
  wp_X8_areTwo r0 p1 p2 (fun v1 => (v1 = 0 → wp_X8_refuse r0 (-2 : Int32) (fun v8 s9 => post v8 s9)) ∧ (¬ v1 = 0 → wp_X8_findWays r0 p1 p2 (0 : Int32) (0 : Int32) (fun s4 => ((s4.1 38) = 0 → wp_X8_refuse s4 (-5 : Int32) (fun v6 s7 => post v6 s7)) ∧ (¬ (s4.1 38) = 0 → post ((s4.1 41) &&& ((((1 : Int32) <<< (p1 &&& 31)) ||| ((1 : Int32) <<< (p2 &&& 31))) ^^^ (-1 : Int32))) s4))))
set_option maxHeartbeats 4000000 in
set_option maxRecDepth 100000 in
theorem c_X8_must {l : Launch} {D : va_G} {K : Nat → ClassId} {h0 : Nat} {a0 : Nat → Nat} {n0 : Nat → Option Nat} {la0 : Nat → Nat} {r0 : zS} {p1 : Int32} {p2 : Int32} {sz : Nat} {post : Int32 → (zS) → Prop}   (h : wp_X8_must r0 p1 p2 post) : Met l yX8_must (Cond.code yX8_must cX8_must 3 (some .int) :: wsL_law) ({ frames := 15, cells := 0, slots := 0, locals := 540 } : Room) (va_Pc [.ref h0, .int p1, .int p2] (xPre D vwCl (xty K) (wX8 K h0 a0 n0 la0 r0 ++ (([] : va_W))) sz)) (va_Qi (fun r (u : (zS)) => post r u) (fun (u : (zS)) t => va_P D vwCl (wX8 K h0 a0 n0 la0 u ++ (([] : va_W))) t.heap) (va_A (wX8 K h0 a0 n0 la0 r0 ++ (([] : va_W))) sz)) 0 0 (va_A (wX8 K h0 a0 n0 la0 r0 ++ (([] : va_W))) sz) := by
  refine xMet (by decide) rfl (Nat.le_of_ble_eq_true rfl) (fun p e s m args below meth c C hnm hP hD hsz ls hl => ?_)
  have hl : lv_has ls 3 [(0, .ref h0), (1, .int p1), (2, .int p2)] := hl
  obtain ⟨hx, hb, hr, hml, hown, hts, hlocks, hK, hT⟩ := id C
  subst hsz
  generalize hAe : va_A (wX8 K h0 a0 n0 la0 r0 ++ (([] : va_W))) s.heap.size = A at hD ⊢
  have hA : ∀ q : Nat, s.heap.size ≤ q → A q := fun q h => by rw [← hAe]; exact Or.inr h
  have hS : va_S A s.heap s.heap [] := va_S.rf
  have hP : va_P D vwCl (wX8 K h0 a0 n0 la0 r0 ++ (([] : va_W))) s.heap := hP
  unfold wp_X8_must at h
  refine lv_aload_n hx hb dX8_must_0 rfl (lv_at hl 0 rfl) ?_
  refine lv_iload_n hx hb dX8_must_1 rfl (lv_at hl 1 rfl) ?_
  refine lv_iload_n hx hb dX8_must_2 rfl (lv_at hl 2 rfl) ?_
  refine xend_ro_i (xRunV_id (As := [.int p1, .int p2]) (rest := []) C (c_X8_areTwo h) k_X8_areTwo mw_449 ⟨rfl, rfl⟩ ⟨Nat.le_of_ble_eq_true rfl, Nat.le_of_ble_eq_true rfl⟩ hP hD rfl rfl hl rfl rfl (Nat.le_of_ble_eq_true rfl) dX8_must_3 ⟨Nat.le_refl _, Nat.le_refl _⟩) (fun v1 h => ?_)
  refine lv_if_ne (tgt := 16) hx hb dX8_must_6 (by decide) (fun c2 => ?_) (fun c2 => ?_)
  · replace h := And.right h c2
    refine lv_aload_n hx hb dX8_must_16 rfl (lv_at hl 0 rfl) ?_
    refine lv_iload_n hx hb dX8_must_17 rfl (lv_at hl 1 rfl) ?_
    refine lv_iload_n hx hb dX8_must_18 rfl (lv_at hl 2 rfl) ?_
    refine lv_iconst (v := 0) hx hb dX8_must_19 (by decide) ?_
    refine lv_iconst (v := 0) hx hb dX8_must_20 (by decide) ?_
    refine xend_rw_v_id (wf := fun (u : (zS)) => (wX8 K h0 a0 n0 la0 u ++ (([] : va_W)))) (xRunV_id (As := [.int p1, .int p2, .int (0 : Int32), .int (0 : Int32)]) (rest := []) C (c_X8_findWays h) k_X8_findWays mw_776 ⟨rfl, rfl⟩ ⟨Nat.le_of_ble_eq_true rfl, Nat.le_of_ble_eq_true rfl⟩ hP hD rfl rfl hl rfl rfl (Nat.le_of_ble_eq_true rfl) dX8_must_21 ⟨Nat.le_refl _, Nat.le_refl _⟩) hD hS hA (fun _ => wX8_adr _ _) (fun s4 H locs h hP hD hS => ?_)
    refine lv_aload_n hx hb dX8_must_24 rfl (lv_at hl 0 rfl) ?_
    refine gX8_38 C hP dX8_must_25 ?_
    refine lv_if_ne (tgt := 40) hx hb dX8_must_28 (by decide) (fun c5 => ?_) (fun c5 => ?_)
    · replace h := And.right h c5
      refine lv_aload_n hx hb dX8_must_40 rfl (lv_at hl 0 rfl) ?_
      refine gX8_41 C hP dX8_must_41 ?_
      refine lv_iconst (v := 1) hx hb dX8_must_44 (by decide) ?_
      refine lv_iload_n hx hb dX8_must_45 rfl (lv_at hl 1 rfl) ?_
      refine lv_ishl hx hb dX8_must_46 ?_
      refine lv_iconst (v := 1) hx hb dX8_must_47 (by decide) ?_
      refine lv_iload_n hx hb dX8_must_48 rfl (lv_at hl 2 rfl) ?_
      refine lv_ishl hx hb dX8_must_49 ?_
      refine lv_ior hx hb dX8_must_50 ?_
      refine lv_iconst (v := -1) hx hb dX8_must_51 (by decide) ?_
      refine lv_ixor hx hb dX8_must_52 ?_
      refine lv_iand hx hb dX8_must_53 ?_
      exact xrw_i C s4 h hP hS dX8_must_54
    · replace h := And.left h c5
      refine lv_aload_n hx hb dX8_must_31 rfl (lv_at hl 0 rfl) ?_
      refine lv_bipush (v := -5) hx hb dX8_must_32 (by decide) ?_
      refine xend_rw_i_id (wf := fun (u : (zS)) => (wX8 K h0 a0 n0 la0 u ++ (([] : va_W)))) (xRunV_id (As := [.int (-5 : Int32)]) (rest := []) C (c_X8_refuse h) k_X8_refuse mw_165 ⟨rfl, rfl⟩ ⟨Nat.le_of_ble_eq_true rfl, Nat.le_of_ble_eq_true rfl⟩ hP hD rfl rfl hl rfl rfl (Nat.le_of_ble_eq_true rfl) dX8_must_34 ⟨Nat.le_refl _, Nat.le_refl _⟩) hD hS hA (fun _ => wX8_adr _ _) (fun v6 s7 H locs h hP hD hS => ?_)
      refine lv_goto (tgt := 54) hx hb dX8_must_37 (by decide) ?_
      exact xrw_i C s7 h hP hS dX8_must_54
  · replace h := And.left h c2
    refine lv_aload_n hx hb dX8_must_9 rfl (lv_at hl 0 rfl) ?_
    refine lv_bipush (v := -2) hx hb dX8_must_10 (by decide) ?_
    refine xend_rw_i_id (wf := fun (u : (zS)) => (wX8 K h0 a0 n0 la0 u ++ (([] : va_W)))) (xRunV_id (As := [.int (-2 : Int32)]) (rest := []) C (c_X8_refuse h) k_X8_refuse mw_165 ⟨rfl, rfl⟩ ⟨Nat.le_of_ble_eq_true rfl, Nat.le_of_ble_eq_true rfl⟩ hP hD rfl rfl hl rfl rfl (Nat.le_of_ble_eq_true rfl) dX8_must_12 ⟨Nat.le_refl _, Nat.le_refl _⟩) hD hS hA (fun _ => wX8_adr _ _) (fun v8 s9 H locs h hP hD hS => ?_)
    exact xrw_i C s9 h hP hS dX8_must_15

def wp_X8_comesTo_103 (r0 : zS) (p1 : Int32) (p2 : Int32) (p3 : Int32) (post : Int32 → Prop) (k8 : Int32 → Int32 → Prop) (x4 : Int32) (y0 : Int32) : Prop :=
  k8 x4 y0
def wp_X8_comesTo_82 (r0 : zS) (p1 : Int32) (p2 : Int32) (p3 : Int32) (post : Int32 → Prop) (k8 : Int32 → Int32 → Prop) (k20 : Int32 → Int32 → Int32 → Prop) (x6 : Int32) (x7 : Int32) (y0 : Int32) (y1 : Int32) : Prop :=
  ∀ v8 : Int32, v8 = (y1 ||| y0) → ∀ v9 : Int32, v9 = x7 + (1 : Int32) → k20 v8 x6 v9
def wp_X8_comesTo_59 (r0 : zS) (p1 : Int32) (p2 : Int32) (p3 : Int32) (post : Int32 → Prop) (k8 : Int32 → Int32 → Prop) (k20 : Int32 → Int32 → Int32 → Prop) (x4 : Int32) (x6 : Int32) (x7 : Int32) (y0 : Int32) : Prop :=
  (y0 = 0 → wp_X8_comesTo_82 r0 p1 p2 p3 post k8 k20 x6 x7 (0 : Int32) x4) ∧ (¬ y0 = 0 → wp_X8_beside r0 x7 (fun v10 => wp_X8_comesTo_82 r0 p1 p2 p3 post k8 k20 x6 x7 (v10 &&& (p3 ^^^ (-1 : Int32))) x4))
def wp_X8_comesTo_58 (r0 : zS) (p1 : Int32) (p2 : Int32) (p3 : Int32) (post : Int32 → Prop) (k8 : Int32 → Int32 → Prop) (k20 : Int32 → Int32 → Int32 → Prop) (x4 : Int32) (x6 : Int32) (x7 : Int32) : Prop :=
  wp_X8_comesTo_59 r0 p1 p2 p3 post k8 k20 x4 x6 x7 (0 : Int32)
def wp_X8_comesTo_54 (r0 : zS) (p1 : Int32) (p2 : Int32) (p3 : Int32) (post : Int32 → Prop) (k8 : Int32 → Int32 → Prop) (k20 : Int32 → Int32 → Int32 → Prop) (x4 : Int32) (x6 : Int32) (x7 : Int32) : Prop :=
  wp_X8_comesTo_59 r0 p1 p2 p3 post k8 k20 x4 x6 x7 (1 : Int32)
def wb_X8_comesTo_20 (r0 : zS) (p1 : Int32) (p2 : Int32) (p3 : Int32) (post : Int32 → Prop) (k8 : Int32 → Int32 → Prop) (ih : Int32 → Int32 → Int32 → Prop) (x4 : Int32) (x6 : Int32) (x7 : Int32) : Prop :=
  ((r0.1 10) ≤ x7 → (x4 = x6 → wp_X8_comesTo_103 r0 p1 p2 p3 post k8 x4 (0 : Int32)) ∧ (¬ x4 = x6 → wp_X8_comesTo_103 r0 p1 p2 p3 post k8 x4 (1 : Int32))) ∧ (¬ (r0.1 10) ≤ x7 → wp_X8_has x4 x7 (fun v5 => (v5 = 0 → wp_X8_comesTo_58 r0 p1 p2 p3 post k8 ih x4 x6 x7) ∧ (¬ v5 = 0 → (x7 = p1 → wp_X8_comesTo_54 r0 p1 p2 p3 post k8 ih x4 x6 x7) ∧ (¬ x7 = p1 → wp_X8_has p2 x7 (fun v12 => (v12 = 0 → wp_X8_comesTo_58 r0 p1 p2 p3 post k8 ih x4 x6 x7) ∧ (¬ v12 = 0 → wp_X8_comesTo_54 r0 p1 p2 p3 post k8 ih x4 x6 x7))))))
def wp_X8_comesTo_20 (r0 : zS) (p1 : Int32) (p2 : Int32) (p3 : Int32) (post : Int32 → Prop) (k8 : Int32 → Int32 → Prop) (n : Nat) : Int32 → Int32 → Int32 → Prop := Nat.rec (motive := fun _ => Int32 → Int32 → Int32 → Prop) (fun _ _ _ => False) (fun _ ih => wb_X8_comesTo_20 r0 p1 p2 p3 post k8 ih) n
theorem wu_X8_comesTo_20 (r0 : zS) (p1 : Int32) (p2 : Int32) (p3 : Int32) (post : Int32 → Prop) (k8 : Int32 → Int32 → Prop) (n : Nat) (x4 : Int32) (x6 : Int32) (x7 : Int32) : wp_X8_comesTo_20 r0 p1 p2 p3 post k8 (n + 1) x4 x6 x7 = wb_X8_comesTo_20 r0 p1 p2 p3 post k8 (wp_X8_comesTo_20 r0 p1 p2 p3 post k8 n) x4 x6 x7 := rfl
def wb_X8_comesTo_8 (r0 : zS) (p1 : Int32) (p2 : Int32) (p3 : Int32) (post : Int32 → Prop) (ih : Int32 → Int32 → Prop) (x4 : Int32) (x5 : Int32) : Prop :=
  (x5 = 0 → post x4 ) ∧ (¬ x5 = 0 → ∃ n : Nat, wp_X8_comesTo_20 r0 p1 p2 p3 post ih n x4 x4 (0 : Int32))
def wp_X8_comesTo_8 (r0 : zS) (p1 : Int32) (p2 : Int32) (p3 : Int32) (post : Int32 → Prop) (n : Nat) : Int32 → Int32 → Prop := Nat.rec (motive := fun _ => Int32 → Int32 → Prop) (fun _ _ => False) (fun _ ih => wb_X8_comesTo_8 r0 p1 p2 p3 post ih) n
theorem wu_X8_comesTo_8 (r0 : zS) (p1 : Int32) (p2 : Int32) (p3 : Int32) (post : Int32 → Prop) (n : Nat) (x4 : Int32) (x5 : Int32) : wp_X8_comesTo_8 r0 p1 p2 p3 post (n + 1) x4 x5 = wb_X8_comesTo_8 r0 p1 p2 p3 post (wp_X8_comesTo_8 r0 p1 p2 p3 post n) x4 x5 := rfl
def wp_X8_comesTo (r0 : zS) (p1 : Int32) (p2 : Int32) (p3 : Int32) (post : Int32 → Prop) : Prop :=
  ∀ v1 : Int32, v1 = ((1 : Int32) <<< (p1 &&& 31)) → ∃ n : Nat, wp_X8_comesTo_8 r0 p1 p2 p3 post n v1 (1 : Int32)
set_option maxHeartbeats 4000000 in
set_option maxRecDepth 100000 in
theorem t_X8_comesTo_103 {p : Program} {l : Launch} {e : Env} {s : State} {m : MethodId} {args : Array Value} {below : List Frame} {meth : Method} {c : Code} {D : va_G} {K : Nat → ClassId} {h0 : Nat} {a0 : Nat → Nat} {n0 : Nat → Option Nat} {la0 : Nat → Nat} {r0 : zS} {p1 : Int32} {p2 : Int32} {p3 : Int32} {post : Int32 → Prop} (C : xC p s m args meth c cX8_comesTo RX8 9 (some .int) D vwCl (xty K)) (hP : va_P D vwCl (wX8 K h0 a0 n0 la0 r0 ++ (([] : va_W))) s.heap) (hD : va_D (va_A (wX8 K h0 a0 n0 la0 r0 ++ (([] : va_W))) s.heap.size) (wX8 K h0 a0 n0 la0 r0 ++ (([] : va_W)))) {k8 : Int32 → Int32 → Prop} (hk8 : ∀ (x4 : Int32) (x5 : Int32) (ls : Array Slot), lv_has ls 9 [(0, .ref h0), (1, .int p1), (2, .int p2), (3, .int p3), (4, .int x4), (5, .int x5)] → k8  x4 x5  → W p l e ({ frames := 3, cells := 0, slots := 0, locals := 68 } : Room) s m args below meth c s.heap [] 0 0 (MQ below (roI post) args s 0 0 (fun _ => False)) (F0 m 8 ls [])) : ∀ (x4 : Int32) (y0 : Int32) (ls : Array Slot), lv_has ls 9 [(0, .ref h0), (1, .int p1), (2, .int p2), (3, .int p3), (4, .int x4)] → wp_X8_comesTo_103 r0 p1 p2 p3 post k8 x4 y0 → W p l e ({ frames := 3, cells := 0, slots := 0, locals := 68 } : Room) s m args below meth c s.heap [] 0 0 (MQ below (roI post) args s 0 0 (fun _ => False)) (F0 m 103 ls [.int y0]) := by
  obtain ⟨hx, hb, hr, hml, hown, hts, hlocks, hK, hT⟩ := id C
  intro x4 y0 ls hl h
  unfold wp_X8_comesTo_103 at h
  refine lv_istore (lv' := [(5, .int y0), (0, .ref h0), (1, .int p1), (2, .int p2), (3, .int p3), (4, .int x4)]) hx hb dX8_comesTo_103 hl (by decide) rfl (fun ls hl => ?_)
  refine lv_goto (tgt := 8) hx hb dX8_comesTo_105 (by decide) ?_
  exact hk8 _ _ _ (lv_sub hl [1, 2, 3, 4, 5, 0] rfl) h
set_option maxHeartbeats 4000000 in
set_option maxRecDepth 100000 in
theorem t_X8_comesTo_82 {p : Program} {l : Launch} {e : Env} {s : State} {m : MethodId} {args : Array Value} {below : List Frame} {meth : Method} {c : Code} {D : va_G} {K : Nat → ClassId} {h0 : Nat} {a0 : Nat → Nat} {n0 : Nat → Option Nat} {la0 : Nat → Nat} {r0 : zS} {p1 : Int32} {p2 : Int32} {p3 : Int32} {post : Int32 → Prop} (C : xC p s m args meth c cX8_comesTo RX8 9 (some .int) D vwCl (xty K)) (hP : va_P D vwCl (wX8 K h0 a0 n0 la0 r0 ++ (([] : va_W))) s.heap) (hD : va_D (va_A (wX8 K h0 a0 n0 la0 r0 ++ (([] : va_W))) s.heap.size) (wX8 K h0 a0 n0 la0 r0 ++ (([] : va_W)))) {k8 : Int32 → Int32 → Prop} (hk8 : ∀ (x4 : Int32) (x5 : Int32) (ls : Array Slot), lv_has ls 9 [(0, .ref h0), (1, .int p1), (2, .int p2), (3, .int p3), (4, .int x4), (5, .int x5)] → k8  x4 x5  → W p l e ({ frames := 3, cells := 0, slots := 0, locals := 68 } : Room) s m args below meth c s.heap [] 0 0 (MQ below (roI post) args s 0 0 (fun _ => False)) (F0 m 8 ls [])) {k20 : Int32 → Int32 → Int32 → Prop} (hk20 : ∀ (x4 : Int32) (x6 : Int32) (x7 : Int32) (ls : Array Slot), lv_has ls 9 [(0, .ref h0), (1, .int p1), (2, .int p2), (3, .int p3), (4, .int x4), (6, .int x6), (7, .int x7)] → k20  x4 x6 x7  → W p l e ({ frames := 3, cells := 0, slots := 0, locals := 68 } : Room) s m args below meth c s.heap [] 0 0 (MQ below (roI post) args s 0 0 (fun _ => False)) (F0 m 20 ls [])) : ∀ (x6 : Int32) (x7 : Int32) (y0 : Int32) (y1 : Int32) (ls : Array Slot), lv_has ls 9 [(0, .ref h0), (1, .int p1), (2, .int p2), (3, .int p3), (6, .int x6), (7, .int x7)] → wp_X8_comesTo_82 r0 p1 p2 p3 post k8 k20 x6 x7 y0 y1 → W p l e ({ frames := 3, cells := 0, slots := 0, locals := 68 } : Room) s m args below meth c s.heap [] 0 0 (MQ below (roI post) args s 0 0 (fun _ => False)) (F0 m 82 ls [.int y0, .int y1]) := by
  obtain ⟨hx, hb, hr, hml, hown, hts, hlocks, hK, hT⟩ := id C
  intro x6 x7 y0 y1 ls hl h
  unfold wp_X8_comesTo_82 at h
  refine lv_ior hx hb dX8_comesTo_82 ?_
  refine lv_topi (fun v8 ev8 => ?_)
  replace h := h v8 ev8
  refine lv_istore (lv' := [(4, .int v8), (0, .ref h0), (1, .int p1), (2, .int p2), (3, .int p3), (6, .int x6), (7, .int x7)]) hx hb dX8_comesTo_83 hl (by decide) rfl (fun ls hl => ?_)
  obtain ⟨v9, ev9⟩ : ∃ y : Int32, y = x7 + (1 : Int32) := ⟨_, rfl⟩
  replace h := h v9 ev9
  refine lv_iinc (v := v9) (lv' := [(7, .int v9), (4, .int v8), (0, .ref h0), (1, .int p1), (2, .int p2), (3, .int p3), (6, .int x6)]) hx hb dX8_comesTo_85 hl (k := 6) rfl (by rw [ev9]; rfl) (by decide) rfl (fun ls hl => ?_)
  refine lv_goto (tgt := 20) hx hb dX8_comesTo_88 (by decide) ?_
  exact hk20 _ _ _ _ (lv_sub hl [2, 3, 4, 5, 1, 6, 0] rfl) h
set_option maxHeartbeats 4000000 in
set_option maxRecDepth 100000 in
theorem t_X8_comesTo_59 {p : Program} {l : Launch} {e : Env} {s : State} {m : MethodId} {args : Array Value} {below : List Frame} {meth : Method} {c : Code} {D : va_G} {K : Nat → ClassId} {h0 : Nat} {a0 : Nat → Nat} {n0 : Nat → Option Nat} {la0 : Nat → Nat} {r0 : zS} {p1 : Int32} {p2 : Int32} {p3 : Int32} {post : Int32 → Prop} (C : xC p s m args meth c cX8_comesTo RX8 9 (some .int) D vwCl (xty K)) (hP : va_P D vwCl (wX8 K h0 a0 n0 la0 r0 ++ (([] : va_W))) s.heap) (hD : va_D (va_A (wX8 K h0 a0 n0 la0 r0 ++ (([] : va_W))) s.heap.size) (wX8 K h0 a0 n0 la0 r0 ++ (([] : va_W)))) {k8 : Int32 → Int32 → Prop} (hk8 : ∀ (x4 : Int32) (x5 : Int32) (ls : Array Slot), lv_has ls 9 [(0, .ref h0), (1, .int p1), (2, .int p2), (3, .int p3), (4, .int x4), (5, .int x5)] → k8  x4 x5  → W p l e ({ frames := 3, cells := 0, slots := 0, locals := 68 } : Room) s m args below meth c s.heap [] 0 0 (MQ below (roI post) args s 0 0 (fun _ => False)) (F0 m 8 ls [])) {k20 : Int32 → Int32 → Int32 → Prop} (hk20 : ∀ (x4 : Int32) (x6 : Int32) (x7 : Int32) (ls : Array Slot), lv_has ls 9 [(0, .ref h0), (1, .int p1), (2, .int p2), (3, .int p3), (4, .int x4), (6, .int x6), (7, .int x7)] → k20  x4 x6 x7  → W p l e ({ frames := 3, cells := 0, slots := 0, locals := 68 } : Room) s m args below meth c s.heap [] 0 0 (MQ below (roI post) args s 0 0 (fun _ => False)) (F0 m 20 ls [])) : ∀ (x4 : Int32) (x6 : Int32) (x7 : Int32) (y0 : Int32) (ls : Array Slot), lv_has ls 9 [(0, .ref h0), (1, .int p1), (2, .int p2), (3, .int p3), (4, .int x4), (6, .int x6), (7, .int x7)] → wp_X8_comesTo_59 r0 p1 p2 p3 post k8 k20 x4 x6 x7 y0 → W p l e ({ frames := 3, cells := 0, slots := 0, locals := 68 } : Room) s m args below meth c s.heap [] 0 0 (MQ below (roI post) args s 0 0 (fun _ => False)) (F0 m 59 ls [.int y0]) := by
  obtain ⟨hx, hb, hr, hml, hown, hts, hlocks, hK, hT⟩ := id C
  intro x4 x6 x7 y0 ls hl h
  unfold wp_X8_comesTo_59 at h
  refine lv_istore (lv' := [(8, .int y0), (0, .ref h0), (1, .int p1), (2, .int p2), (3, .int p3), (4, .int x4), (6, .int x6), (7, .int x7)]) hx hb dX8_comesTo_59 hl (by decide) rfl (fun ls hl => ?_)
  refine lv_iload hx hb dX8_comesTo_61 (lv_at hl 5 rfl) ?_
  refine lv_iload hx hb dX8_comesTo_63 (lv_at hl 0 rfl) ?_
  refine lv_if_eq (tgt := 81) hx hb dX8_comesTo_65 (by decide) (fun c7 => ?_) (fun c7 => ?_)
  · replace h := And.left h c7
    refine lv_iconst (v := 0) hx hb dX8_comesTo_81 (by decide) ?_
    exact t_X8_comesTo_82 C hP hD hk8 hk20 _ _ _ _ _ (lv_sub hl [1, 2, 3, 4, 6, 7] rfl) h
  · replace h := And.right h c7
    refine lv_aload_n hx hb dX8_comesTo_68 rfl (lv_at hl 1 rfl) ?_
    refine lv_iload hx hb dX8_comesTo_69 (lv_at hl 7 rfl) ?_
    refine xend_ro_i (xRunV_id (As := [.int x7]) (rest := [.int x4]) C (c_X8_beside h) k_X8_beside mw_334 ⟨rfl, rfl⟩ ⟨Nat.le_of_ble_eq_true rfl, Nat.le_of_ble_eq_true rfl⟩ hP hD rfl rfl hl rfl rfl (Nat.le_of_ble_eq_true rfl) dX8_comesTo_71 ⟨Nat.le_refl _, Nat.le_refl _⟩) (fun v10 h => ?_)
    refine lv_iload_n hx hb dX8_comesTo_74 rfl (lv_at hl 4 rfl) ?_
    refine lv_iconst (v := -1) hx hb dX8_comesTo_75 (by decide) ?_
    refine lv_ixor hx hb dX8_comesTo_76 ?_
    refine lv_iand hx hb dX8_comesTo_77 ?_
    refine lv_goto (tgt := 82) hx hb dX8_comesTo_78 (by decide) ?_
    exact t_X8_comesTo_82 C hP hD hk8 hk20 _ _ _ _ _ (lv_sub hl [1, 2, 3, 4, 6, 7] rfl) h
set_option maxHeartbeats 4000000 in
set_option maxRecDepth 100000 in
theorem t_X8_comesTo_58 {p : Program} {l : Launch} {e : Env} {s : State} {m : MethodId} {args : Array Value} {below : List Frame} {meth : Method} {c : Code} {D : va_G} {K : Nat → ClassId} {h0 : Nat} {a0 : Nat → Nat} {n0 : Nat → Option Nat} {la0 : Nat → Nat} {r0 : zS} {p1 : Int32} {p2 : Int32} {p3 : Int32} {post : Int32 → Prop} (C : xC p s m args meth c cX8_comesTo RX8 9 (some .int) D vwCl (xty K)) (hP : va_P D vwCl (wX8 K h0 a0 n0 la0 r0 ++ (([] : va_W))) s.heap) (hD : va_D (va_A (wX8 K h0 a0 n0 la0 r0 ++ (([] : va_W))) s.heap.size) (wX8 K h0 a0 n0 la0 r0 ++ (([] : va_W)))) {k8 : Int32 → Int32 → Prop} (hk8 : ∀ (x4 : Int32) (x5 : Int32) (ls : Array Slot), lv_has ls 9 [(0, .ref h0), (1, .int p1), (2, .int p2), (3, .int p3), (4, .int x4), (5, .int x5)] → k8  x4 x5  → W p l e ({ frames := 3, cells := 0, slots := 0, locals := 68 } : Room) s m args below meth c s.heap [] 0 0 (MQ below (roI post) args s 0 0 (fun _ => False)) (F0 m 8 ls [])) {k20 : Int32 → Int32 → Int32 → Prop} (hk20 : ∀ (x4 : Int32) (x6 : Int32) (x7 : Int32) (ls : Array Slot), lv_has ls 9 [(0, .ref h0), (1, .int p1), (2, .int p2), (3, .int p3), (4, .int x4), (6, .int x6), (7, .int x7)] → k20  x4 x6 x7  → W p l e ({ frames := 3, cells := 0, slots := 0, locals := 68 } : Room) s m args below meth c s.heap [] 0 0 (MQ below (roI post) args s 0 0 (fun _ => False)) (F0 m 20 ls [])) : ∀ (x4 : Int32) (x6 : Int32) (x7 : Int32) (ls : Array Slot), lv_has ls 9 [(0, .ref h0), (1, .int p1), (2, .int p2), (3, .int p3), (4, .int x4), (6, .int x6), (7, .int x7)] → wp_X8_comesTo_58 r0 p1 p2 p3 post k8 k20 x4 x6 x7 → W p l e ({ frames := 3, cells := 0, slots := 0, locals := 68 } : Room) s m args below meth c s.heap [] 0 0 (MQ below (roI post) args s 0 0 (fun _ => False)) (F0 m 58 ls []) := by
  obtain ⟨hx, hb, hr, hml, hown, hts, hlocks, hK, hT⟩ := id C
  intro x4 x6 x7 ls hl h
  unfold wp_X8_comesTo_58 at h
  refine lv_iconst (v := 0) hx hb dX8_comesTo_58 (by decide) ?_
  exact t_X8_comesTo_59 C hP hD hk8 hk20 _ _ _ _ _ (lv_sub hl [0, 1, 2, 3, 4, 5, 6] rfl) h
set_option maxHeartbeats 4000000 in
set_option maxRecDepth 100000 in
theorem t_X8_comesTo_54 {p : Program} {l : Launch} {e : Env} {s : State} {m : MethodId} {args : Array Value} {below : List Frame} {meth : Method} {c : Code} {D : va_G} {K : Nat → ClassId} {h0 : Nat} {a0 : Nat → Nat} {n0 : Nat → Option Nat} {la0 : Nat → Nat} {r0 : zS} {p1 : Int32} {p2 : Int32} {p3 : Int32} {post : Int32 → Prop} (C : xC p s m args meth c cX8_comesTo RX8 9 (some .int) D vwCl (xty K)) (hP : va_P D vwCl (wX8 K h0 a0 n0 la0 r0 ++ (([] : va_W))) s.heap) (hD : va_D (va_A (wX8 K h0 a0 n0 la0 r0 ++ (([] : va_W))) s.heap.size) (wX8 K h0 a0 n0 la0 r0 ++ (([] : va_W)))) {k8 : Int32 → Int32 → Prop} (hk8 : ∀ (x4 : Int32) (x5 : Int32) (ls : Array Slot), lv_has ls 9 [(0, .ref h0), (1, .int p1), (2, .int p2), (3, .int p3), (4, .int x4), (5, .int x5)] → k8  x4 x5  → W p l e ({ frames := 3, cells := 0, slots := 0, locals := 68 } : Room) s m args below meth c s.heap [] 0 0 (MQ below (roI post) args s 0 0 (fun _ => False)) (F0 m 8 ls [])) {k20 : Int32 → Int32 → Int32 → Prop} (hk20 : ∀ (x4 : Int32) (x6 : Int32) (x7 : Int32) (ls : Array Slot), lv_has ls 9 [(0, .ref h0), (1, .int p1), (2, .int p2), (3, .int p3), (4, .int x4), (6, .int x6), (7, .int x7)] → k20  x4 x6 x7  → W p l e ({ frames := 3, cells := 0, slots := 0, locals := 68 } : Room) s m args below meth c s.heap [] 0 0 (MQ below (roI post) args s 0 0 (fun _ => False)) (F0 m 20 ls [])) : ∀ (x4 : Int32) (x6 : Int32) (x7 : Int32) (ls : Array Slot), lv_has ls 9 [(0, .ref h0), (1, .int p1), (2, .int p2), (3, .int p3), (4, .int x4), (6, .int x6), (7, .int x7)] → wp_X8_comesTo_54 r0 p1 p2 p3 post k8 k20 x4 x6 x7 → W p l e ({ frames := 3, cells := 0, slots := 0, locals := 68 } : Room) s m args below meth c s.heap [] 0 0 (MQ below (roI post) args s 0 0 (fun _ => False)) (F0 m 54 ls []) := by
  obtain ⟨hx, hb, hr, hml, hown, hts, hlocks, hK, hT⟩ := id C
  intro x4 x6 x7 ls hl h
  unfold wp_X8_comesTo_54 at h
  refine lv_iconst (v := 1) hx hb dX8_comesTo_54 (by decide) ?_
  refine lv_goto (tgt := 59) hx hb dX8_comesTo_55 (by decide) ?_
  exact t_X8_comesTo_59 C hP hD hk8 hk20 _ _ _ _ _ (lv_sub hl [0, 1, 2, 3, 4, 5, 6] rfl) h
set_option maxHeartbeats 4000000 in
set_option maxRecDepth 100000 in
theorem t_X8_comesTo_20 {p : Program} {l : Launch} {e : Env} {s : State} {m : MethodId} {args : Array Value} {below : List Frame} {meth : Method} {c : Code} {D : va_G} {K : Nat → ClassId} {h0 : Nat} {a0 : Nat → Nat} {n0 : Nat → Option Nat} {la0 : Nat → Nat} {r0 : zS} {p1 : Int32} {p2 : Int32} {p3 : Int32} {post : Int32 → Prop} (C : xC p s m args meth c cX8_comesTo RX8 9 (some .int) D vwCl (xty K)) (hP : va_P D vwCl (wX8 K h0 a0 n0 la0 r0 ++ (([] : va_W))) s.heap) (hD : va_D (va_A (wX8 K h0 a0 n0 la0 r0 ++ (([] : va_W))) s.heap.size) (wX8 K h0 a0 n0 la0 r0 ++ (([] : va_W)))) {k8 : Int32 → Int32 → Prop} (hk8 : ∀ (x4 : Int32) (x5 : Int32) (ls : Array Slot), lv_has ls 9 [(0, .ref h0), (1, .int p1), (2, .int p2), (3, .int p3), (4, .int x4), (5, .int x5)] → k8  x4 x5  → W p l e ({ frames := 3, cells := 0, slots := 0, locals := 68 } : Room) s m args below meth c s.heap [] 0 0 (MQ below (roI post) args s 0 0 (fun _ => False)) (F0 m 8 ls [])) : ∀ (n : Nat) (x4 : Int32) (x6 : Int32) (x7 : Int32) (ls : Array Slot), lv_has ls 9 [(0, .ref h0), (1, .int p1), (2, .int p2), (3, .int p3), (4, .int x4), (6, .int x6), (7, .int x7)] → wp_X8_comesTo_20 r0 p1 p2 p3 post k8 n x4 x6 x7 → W p l e ({ frames := 3, cells := 0, slots := 0, locals := 68 } : Room) s m args below meth c s.heap [] 0 0 (MQ below (roI post) args s 0 0 (fun _ => False)) (F0 m 20 ls []) := by
  obtain ⟨hx, hb, hr, hml, hown, hts, hlocks, hK, hT⟩ := id C
  intro n
  induction n with
  | zero =>
    intro x4 x6 x7 ls hl h
    exact False.elim h
  | succ n ihn =>
    intro x4 x6 x7 ls hl h
    rw [wu_X8_comesTo_20] at h
    unfold wb_X8_comesTo_20 at h
    refine lv_iload hx hb dX8_comesTo_20 (lv_at hl 6 rfl) ?_
    refine lv_aload_n hx hb dX8_comesTo_22 rfl (lv_at hl 0 rfl) ?_
    refine gX8_10 C hP dX8_comesTo_23 ?_
    refine lv_icmp_ge (tgt := 91) hx hb dX8_comesTo_26 (by decide) (fun c3 => ?_) (fun c3 => ?_)
    · replace h := And.left h c3
      refine lv_iload hx hb dX8_comesTo_91 (lv_at hl 4 rfl) ?_
      refine lv_iload hx hb dX8_comesTo_93 (lv_at hl 5 rfl) ?_
      refine lv_icmp_eq (tgt := 102) hx hb dX8_comesTo_95 (by decide) (fun c4 => ?_) (fun c4 => ?_)
      · replace h := And.left h c4
        refine lv_iconst (v := 0) hx hb dX8_comesTo_102 (by decide) ?_
        exact t_X8_comesTo_103 C hP hD hk8 _ _ _ (lv_sub hl [0, 1, 2, 3, 4] rfl) h
      · replace h := And.right h c4
        refine lv_iconst (v := 1) hx hb dX8_comesTo_98 (by decide) ?_
        refine lv_goto (tgt := 103) hx hb dX8_comesTo_99 (by decide) ?_
        exact t_X8_comesTo_103 C hP hD hk8 _ _ _ (lv_sub hl [0, 1, 2, 3, 4] rfl) h
    · replace h := And.right h c3
      refine lv_iload hx hb dX8_comesTo_29 (lv_at hl 4 rfl) ?_
      refine lv_iload hx hb dX8_comesTo_31 (lv_at hl 6 rfl) ?_
      refine xend_ro_i (xRunS (wc := ([] : va_W)) (As := [.int x4, .int x7]) (rest := []) C (c_X8_has h) k_X8_has mw_342 ⟨rfl, rfl⟩ ⟨Nat.le_of_ble_eq_true rfl, Nat.le_of_ble_eq_true rfl⟩ hP hD [] rfl rfl hl rfl rfl (Nat.le_of_ble_eq_true rfl) dX8_comesTo_33 ⟨Nat.le_refl _, Nat.le_refl _⟩) (fun v5 h => ?_)
      refine lv_if_eq (tgt := 58) hx hb dX8_comesTo_36 (by decide) (fun c6 => ?_) (fun c6 => ?_)
      · replace h := And.left h c6
        exact t_X8_comesTo_58 C hP hD hk8 ihn _ _ _ _ (lv_sub hl [0, 1, 2, 3, 4, 5, 6] rfl) h
      · replace h := And.right h c6
        refine lv_iload hx hb dX8_comesTo_39 (lv_at hl 6 rfl) ?_
        refine lv_iload_n hx hb dX8_comesTo_41 rfl (lv_at hl 1 rfl) ?_
        refine lv_icmp_eq (tgt := 54) hx hb dX8_comesTo_42 (by decide) (fun c11 => ?_) (fun c11 => ?_)
        · replace h := And.left h c11
          exact t_X8_comesTo_54 C hP hD hk8 ihn _ _ _ _ (lv_sub hl [0, 1, 2, 3, 4, 5, 6] rfl) h
        · replace h := And.right h c11
          refine lv_iload_n hx hb dX8_comesTo_45 rfl (lv_at hl 2 rfl) ?_
          refine lv_iload hx hb dX8_comesTo_46 (lv_at hl 6 rfl) ?_
          refine xend_ro_i (xRunS (wc := ([] : va_W)) (As := [.int p2, .int x7]) (rest := []) C (c_X8_has h) k_X8_has mw_342 ⟨rfl, rfl⟩ ⟨Nat.le_of_ble_eq_true rfl, Nat.le_of_ble_eq_true rfl⟩ hP hD [] rfl rfl hl rfl rfl (Nat.le_of_ble_eq_true rfl) dX8_comesTo_48 ⟨Nat.le_refl _, Nat.le_refl _⟩) (fun v12 h => ?_)
          refine lv_if_eq (tgt := 58) hx hb dX8_comesTo_51 (by decide) (fun c13 => ?_) (fun c13 => ?_)
          · replace h := And.left h c13
            exact t_X8_comesTo_58 C hP hD hk8 ihn _ _ _ _ (lv_sub hl [0, 1, 2, 3, 4, 5, 6] rfl) h
          · replace h := And.right h c13
            exact t_X8_comesTo_54 C hP hD hk8 ihn _ _ _ _ (lv_sub hl [0, 1, 2, 3, 4, 5, 6] rfl) h
set_option maxHeartbeats 4000000 in
set_option maxRecDepth 100000 in
theorem t_X8_comesTo_8 {p : Program} {l : Launch} {e : Env} {s : State} {m : MethodId} {args : Array Value} {below : List Frame} {meth : Method} {c : Code} {D : va_G} {K : Nat → ClassId} {h0 : Nat} {a0 : Nat → Nat} {n0 : Nat → Option Nat} {la0 : Nat → Nat} {r0 : zS} {p1 : Int32} {p2 : Int32} {p3 : Int32} {post : Int32 → Prop} (C : xC p s m args meth c cX8_comesTo RX8 9 (some .int) D vwCl (xty K)) (hP : va_P D vwCl (wX8 K h0 a0 n0 la0 r0 ++ (([] : va_W))) s.heap) (hD : va_D (va_A (wX8 K h0 a0 n0 la0 r0 ++ (([] : va_W))) s.heap.size) (wX8 K h0 a0 n0 la0 r0 ++ (([] : va_W)))) : ∀ (n : Nat) (x4 : Int32) (x5 : Int32) (ls : Array Slot), lv_has ls 9 [(0, .ref h0), (1, .int p1), (2, .int p2), (3, .int p3), (4, .int x4), (5, .int x5)] → wp_X8_comesTo_8 r0 p1 p2 p3 post n x4 x5 → W p l e ({ frames := 3, cells := 0, slots := 0, locals := 68 } : Room) s m args below meth c s.heap [] 0 0 (MQ below (roI post) args s 0 0 (fun _ => False)) (F0 m 8 ls []) := by
  obtain ⟨hx, hb, hr, hml, hown, hts, hlocks, hK, hT⟩ := id C
  intro n
  induction n with
  | zero =>
    intro x4 x5 ls hl h
    exact False.elim h
  | succ n ihn =>
    intro x4 x5 ls hl h
    rw [wu_X8_comesTo_8] at h
    unfold wb_X8_comesTo_8 at h
    refine lv_iload hx hb dX8_comesTo_8 (lv_at hl 5 rfl) ?_
    refine lv_if_eq (tgt := 108) hx hb dX8_comesTo_10 (by decide) (fun c2 => ?_) (fun c2 => ?_)
    · replace h := And.left h c2
      refine lv_iload hx hb dX8_comesTo_108 (lv_at hl 4 rfl) ?_
      exact xro_i C h dX8_comesTo_110
    · replace h := And.right h c2
      refine lv_iload hx hb dX8_comesTo_13 (lv_at hl 4 rfl) ?_
      refine lv_istore (lv' := [(6, .int x4), (0, .ref h0), (1, .int p1), (2, .int p2), (3, .int p3), (4, .int x4), (5, .int x5)]) hx hb dX8_comesTo_15 hl (by decide) rfl (fun ls hl => ?_)
      refine lv_iconst (v := 0) hx hb dX8_comesTo_17 (by decide) ?_
      refine lv_istore (lv' := [(7, .int (0 : Int32)), (6, .int x4), (0, .ref h0), (1, .int p1), (2, .int p2), (3, .int p3), (4, .int x4), (5, .int x5)]) hx hb dX8_comesTo_18 hl (by decide) rfl (fun ls hl => ?_)
      obtain ⟨n0, h⟩ := h
      exact t_X8_comesTo_20 C hP hD ihn n0 _ _ _ _ (lv_sub hl [2, 3, 4, 5, 6, 1, 0] rfl) h
set_option maxHeartbeats 4000000 in
set_option maxRecDepth 100000 in
theorem c_X8_comesTo {l : Launch} {D : va_G} {K : Nat → ClassId} {h0 : Nat} {a0 : Nat → Nat} {n0 : Nat → Option Nat} {la0 : Nat → Nat} {r0 : zS} {p1 : Int32} {p2 : Int32} {p3 : Int32} {sz : Nat} {post : Int32 → Prop}   (h : wp_X8_comesTo r0 p1 p2 p3 post) : Met l yX8_comesTo (Cond.code yX8_comesTo cX8_comesTo 9 (some .int) :: wsL_law) ({ frames := 3, cells := 0, slots := 0, locals := 68 } : Room) (va_Pc [.ref h0, .int p1, .int p2, .int p3] (xPre D vwCl (xty K) (wX8 K h0 a0 n0 la0 r0 ++ (([] : va_W))) sz)) (roI post) 0 0 (fun _ => False) := by
  refine xMet (by decide) rfl (Nat.le_of_ble_eq_true rfl) (fun p e s m args below meth c C hnm hP hD hsz ls hl => ?_)
  have hl : lv_has ls 9 [(0, .ref h0), (1, .int p1), (2, .int p2), (3, .int p3)] := hl
  obtain ⟨hx, hb, hr, hml, hown, hts, hlocks, hK, hT⟩ := id C
  unfold wp_X8_comesTo at h
  refine lv_iconst (v := 1) hx hb dX8_comesTo_0 (by decide) ?_
  refine lv_iload_n hx hb dX8_comesTo_1 rfl (lv_at hl 1 rfl) ?_
  refine lv_ishl hx hb dX8_comesTo_2 ?_
  refine lv_topi (fun v1 ev1 => ?_)
  replace h := h v1 ev1
  refine lv_istore (lv' := [(4, .int v1), (0, .ref h0), (1, .int p1), (2, .int p2), (3, .int p3)]) hx hb dX8_comesTo_3 hl (by decide) rfl (fun ls hl => ?_)
  refine lv_iconst (v := 1) hx hb dX8_comesTo_5 (by decide) ?_
  refine lv_istore (lv' := [(5, .int (1 : Int32)), (4, .int v1), (0, .ref h0), (1, .int p1), (2, .int p2), (3, .int p3)]) hx hb dX8_comesTo_6 hl (by decide) rfl (fun ls hl => ?_)
  obtain ⟨n0, h⟩ := h
  exact t_X8_comesTo_8 C hP hD n0 _ _ _ (lv_sub hl [2, 3, 4, 5, 1, 0] rfl) h

def wp_X8_cut_109 (p1 : Int32) (p2 : Int32) (post : Int32 → (zS) → Prop) (k35 : (zS) → Int32 → Int32 → Prop) (r0 : zS) (x4 : Int32) (y0 : Int32) : Prop :=
  ∀ v10 : Int32, v10 = x4 + (1 : Int32) → k35 r0 y0 v10
def wp_X8_cut_108 (p1 : Int32) (p2 : Int32) (post : Int32 → (zS) → Prop) (k35 : (zS) → Int32 → Int32 → Prop) (r0 : zS) (x3 : Int32) (x4 : Int32) : Prop :=
  wp_X8_cut_109 p1 p2 post k35 r0 x4 x3
def wp_X8_cut_78 (p1 : Int32) (p2 : Int32) (post : Int32 → (zS) → Prop) (k35 : (zS) → Int32 → Int32 → Prop) (r0 : zS) (x3 : Int32) (x4 : Int32) (y0 : Int32) : Prop :=
  (y0 = 0 → wp_X8_cut_108 p1 p2 post k35 r0 x3 x4) ∧ (¬ y0 = 0 → wp_X8_comesTo r0 p1 (-1 : Int32) x4 (fun v11 => wp_X8_has v11 p2 (fun v12 => (v12 = 0 → wp_X8_bits x4 (fun v14 => wp_X8_cut_109 p1 p2 post k35 r0 x4 v14)) ∧ (¬ v12 = 0 → wp_X8_cut_108 p1 p2 post k35 r0 x3 x4))))
def wp_X8_cut_77 (p1 : Int32) (p2 : Int32) (post : Int32 → (zS) → Prop) (k35 : (zS) → Int32 → Int32 → Prop) (r0 : zS) (x3 : Int32) (x4 : Int32) : Prop :=
  wp_X8_cut_78 p1 p2 post k35 r0 x3 x4 (0 : Int32)
def wb_X8_cut_35 (p1 : Int32) (p2 : Int32) (post : Int32 → (zS) → Prop) (ih : (zS) → Int32 → Int32 → Prop) (r0 : zS) (x3 : Int32) (x4 : Int32) : Prop :=
  (((1 : Int32) <<< ((r0.1 10) &&& 31)) ≤ x4 → post x3 r0) ∧ (¬ ((1 : Int32) <<< ((r0.1 10) &&& 31)) ≤ x4 → wp_X8_has x4 p1 (fun v7 => (v7 = 0 → wp_X8_has x4 p2 (fun v15 => (v15 = 0 → wp_X8_bits x4 (fun v17 => (x3 ≤ v17 → wp_X8_cut_77 p1 p2 post ih r0 x3 x4) ∧ (¬ x3 ≤ v17 → wp_X8_cut_78 p1 p2 post ih r0 x3 x4 (1 : Int32)))) ∧ (¬ v15 = 0 → wp_X8_cut_77 p1 p2 post ih r0 x3 x4))) ∧ (¬ v7 = 0 → wp_X8_cut_77 p1 p2 post ih r0 x3 x4)))
def wp_X8_cut_35 (p1 : Int32) (p2 : Int32) (post : Int32 → (zS) → Prop) (n : Nat) : (zS) → Int32 → Int32 → Prop := Nat.rec (motive := fun _ => (zS) → Int32 → Int32 → Prop) (fun _ _ _ => False) (fun _ ih => wb_X8_cut_35 p1 p2 post ih) n
theorem wu_X8_cut_35 (p1 : Int32) (p2 : Int32) (post : Int32 → (zS) → Prop) (n : Nat) (r0 : zS) (x3 : Int32) (x4 : Int32) : wp_X8_cut_35 p1 p2 post (n + 1) r0 x3 x4 = wb_X8_cut_35 p1 p2 post (wp_X8_cut_35 p1 p2 post n) r0 x3 x4 := rfl
def wp_X8_cut (r0 : zS) (p1 : Int32) (p2 : Int32) (post : Int32 → (zS) → Prop) : Prop :=
  wp_X8_areTwo r0 p1 p2 (fun v1 => (v1 = 0 → wp_X8_refuse r0 (-2 : Int32) (fun v19 s20 => post v19 s20)) ∧ (¬ v1 = 0 → wp_X8_areBeside r0 p1 p2 (fun v3 => (v3 = 0 → ∀ v5 : Int32, v5 = (r0.1 10) → ∃ n : Nat, wp_X8_cut_35 p1 p2 post n r0 v5 (0 : Int32)) ∧ (¬ v3 = 0 → post (-1 : Int32) r0))))
set_option maxHeartbeats 4000000 in
set_option maxRecDepth 100000 in
theorem t_X8_cut_109 {p : Program} {l : Launch} {e : Env} {s : State} {m : MethodId} {args : Array Value} {below : List Frame} {meth : Method} {c : Code} {D : va_G} {K : Nat → ClassId} {h0 : Nat} {a0 : Nat → Nat} {n0 : Nat → Option Nat} {la0 : Nat → Nat} {p1 : Int32} {p2 : Int32} {post : Int32 → (zS) → Prop} {A : Nat → Prop} (C : xC p s m args meth c cX8_cut RX8 6 (some .int) D vwCl (xty K)) (hA : ∀ q, s.heap.size ≤ q → A q) {k35 : (zS) → Int32 → Int32 → Prop} (hk35 : ∀ (r0 : zS) (x3 : Int32) (x4 : Int32) (H : Heap) (locs : List Loc) (ls : Array Slot), lv_has ls 6 [(0, .ref h0), (1, .int p1), (2, .int p2), (3, .int x3), (4, .int x4)] → va_P D vwCl (wX8 K h0 a0 n0 la0 r0 ++ (([] : va_W))) H → va_D A (wX8 K h0 a0 n0 la0 r0 ++ (([] : va_W))) → va_S A s.heap H locs → k35 r0 x3 x4  → W p l e ({ frames := 4, cells := 0, slots := 0, locals := 96 } : Room) s m args below meth c H locs 0 0 (MQ below (va_Qi (fun r (u : (zS)) => post r u) (fun (u : (zS)) t => va_P D vwCl (wX8 K h0 a0 n0 la0 u ++ (([] : va_W))) t.heap) A) args s 0 0 A) (F0 m 35 ls [])) : ∀ (r0 : zS) (x4 : Int32) (y0 : Int32) (H : Heap) (locs : List Loc) (ls : Array Slot), lv_has ls 6 [(0, .ref h0), (1, .int p1), (2, .int p2), (4, .int x4)] → va_P D vwCl (wX8 K h0 a0 n0 la0 r0 ++ (([] : va_W))) H → va_D A (wX8 K h0 a0 n0 la0 r0 ++ (([] : va_W))) → va_S A s.heap H locs → wp_X8_cut_109 p1 p2 post k35 r0 x4 y0 → W p l e ({ frames := 4, cells := 0, slots := 0, locals := 96 } : Room) s m args below meth c H locs 0 0 (MQ below (va_Qi (fun r (u : (zS)) => post r u) (fun (u : (zS)) t => va_P D vwCl (wX8 K h0 a0 n0 la0 u ++ (([] : va_W))) t.heap) A) args s 0 0 A) (F0 m 109 ls [.int y0]) := by
  obtain ⟨hx, hb, hr, hml, hown, hts, hlocks, hK, hT⟩ := id C
  intro r0 x4 y0 H locs ls hl hP hD hS h
  unfold wp_X8_cut_109 at h
  refine lv_istore_n (lv' := [(3, .int y0), (0, .ref h0), (1, .int p1), (2, .int p2), (4, .int x4)]) hx hb dX8_cut_109 rfl hl (by decide) rfl (fun ls hl => ?_)
  obtain ⟨v10, ev10⟩ : ∃ y : Int32, y = x4 + (1 : Int32) := ⟨_, rfl⟩
  replace h := h v10 ev10
  refine lv_iinc (v := v10) (lv' := [(4, .int v10), (3, .int y0), (0, .ref h0), (1, .int p1), (2, .int p2)]) hx hb dX8_cut_110 hl (k := 4) rfl (by rw [ev10]; rfl) (by decide) rfl (fun ls hl => ?_)
  refine lv_goto (tgt := 35) hx hb dX8_cut_113 (by decide) ?_
  exact hk35 _ _ _ _ _ _ (lv_sub hl [2, 3, 4, 1, 0] rfl) hP hD hS h
set_option maxHeartbeats 4000000 in
set_option maxRecDepth 100000 in
theorem t_X8_cut_108 {p : Program} {l : Launch} {e : Env} {s : State} {m : MethodId} {args : Array Value} {below : List Frame} {meth : Method} {c : Code} {D : va_G} {K : Nat → ClassId} {h0 : Nat} {a0 : Nat → Nat} {n0 : Nat → Option Nat} {la0 : Nat → Nat} {p1 : Int32} {p2 : Int32} {post : Int32 → (zS) → Prop} {A : Nat → Prop} (C : xC p s m args meth c cX8_cut RX8 6 (some .int) D vwCl (xty K)) (hA : ∀ q, s.heap.size ≤ q → A q) {k35 : (zS) → Int32 → Int32 → Prop} (hk35 : ∀ (r0 : zS) (x3 : Int32) (x4 : Int32) (H : Heap) (locs : List Loc) (ls : Array Slot), lv_has ls 6 [(0, .ref h0), (1, .int p1), (2, .int p2), (3, .int x3), (4, .int x4)] → va_P D vwCl (wX8 K h0 a0 n0 la0 r0 ++ (([] : va_W))) H → va_D A (wX8 K h0 a0 n0 la0 r0 ++ (([] : va_W))) → va_S A s.heap H locs → k35 r0 x3 x4  → W p l e ({ frames := 4, cells := 0, slots := 0, locals := 96 } : Room) s m args below meth c H locs 0 0 (MQ below (va_Qi (fun r (u : (zS)) => post r u) (fun (u : (zS)) t => va_P D vwCl (wX8 K h0 a0 n0 la0 u ++ (([] : va_W))) t.heap) A) args s 0 0 A) (F0 m 35 ls [])) : ∀ (r0 : zS) (x3 : Int32) (x4 : Int32) (H : Heap) (locs : List Loc) (ls : Array Slot), lv_has ls 6 [(0, .ref h0), (1, .int p1), (2, .int p2), (3, .int x3), (4, .int x4)] → va_P D vwCl (wX8 K h0 a0 n0 la0 r0 ++ (([] : va_W))) H → va_D A (wX8 K h0 a0 n0 la0 r0 ++ (([] : va_W))) → va_S A s.heap H locs → wp_X8_cut_108 p1 p2 post k35 r0 x3 x4 → W p l e ({ frames := 4, cells := 0, slots := 0, locals := 96 } : Room) s m args below meth c H locs 0 0 (MQ below (va_Qi (fun r (u : (zS)) => post r u) (fun (u : (zS)) t => va_P D vwCl (wX8 K h0 a0 n0 la0 u ++ (([] : va_W))) t.heap) A) args s 0 0 A) (F0 m 108 ls []) := by
  obtain ⟨hx, hb, hr, hml, hown, hts, hlocks, hK, hT⟩ := id C
  intro r0 x3 x4 H locs ls hl hP hD hS h
  unfold wp_X8_cut_108 at h
  refine lv_iload_n hx hb dX8_cut_108 rfl (lv_at hl 3 rfl) ?_
  exact t_X8_cut_109 C hA hk35 _ _ _ _ _ _ (lv_sub hl [0, 1, 2, 4] rfl) hP hD hS h
set_option maxHeartbeats 4000000 in
set_option maxRecDepth 100000 in
theorem t_X8_cut_78 {p : Program} {l : Launch} {e : Env} {s : State} {m : MethodId} {args : Array Value} {below : List Frame} {meth : Method} {c : Code} {D : va_G} {K : Nat → ClassId} {h0 : Nat} {a0 : Nat → Nat} {n0 : Nat → Option Nat} {la0 : Nat → Nat} {p1 : Int32} {p2 : Int32} {post : Int32 → (zS) → Prop} {A : Nat → Prop} (C : xC p s m args meth c cX8_cut RX8 6 (some .int) D vwCl (xty K)) (hA : ∀ q, s.heap.size ≤ q → A q) {k35 : (zS) → Int32 → Int32 → Prop} (hk35 : ∀ (r0 : zS) (x3 : Int32) (x4 : Int32) (H : Heap) (locs : List Loc) (ls : Array Slot), lv_has ls 6 [(0, .ref h0), (1, .int p1), (2, .int p2), (3, .int x3), (4, .int x4)] → va_P D vwCl (wX8 K h0 a0 n0 la0 r0 ++ (([] : va_W))) H → va_D A (wX8 K h0 a0 n0 la0 r0 ++ (([] : va_W))) → va_S A s.heap H locs → k35 r0 x3 x4  → W p l e ({ frames := 4, cells := 0, slots := 0, locals := 96 } : Room) s m args below meth c H locs 0 0 (MQ below (va_Qi (fun r (u : (zS)) => post r u) (fun (u : (zS)) t => va_P D vwCl (wX8 K h0 a0 n0 la0 u ++ (([] : va_W))) t.heap) A) args s 0 0 A) (F0 m 35 ls [])) : ∀ (r0 : zS) (x3 : Int32) (x4 : Int32) (y0 : Int32) (H : Heap) (locs : List Loc) (ls : Array Slot), lv_has ls 6 [(0, .ref h0), (1, .int p1), (2, .int p2), (3, .int x3), (4, .int x4)] → va_P D vwCl (wX8 K h0 a0 n0 la0 r0 ++ (([] : va_W))) H → va_D A (wX8 K h0 a0 n0 la0 r0 ++ (([] : va_W))) → va_S A s.heap H locs → wp_X8_cut_78 p1 p2 post k35 r0 x3 x4 y0 → W p l e ({ frames := 4, cells := 0, slots := 0, locals := 96 } : Room) s m args below meth c H locs 0 0 (MQ below (va_Qi (fun r (u : (zS)) => post r u) (fun (u : (zS)) t => va_P D vwCl (wX8 K h0 a0 n0 la0 u ++ (([] : va_W))) t.heap) A) args s 0 0 A) (F0 m 78 ls [.int y0]) := by
  obtain ⟨hx, hb, hr, hml, hown, hts, hlocks, hK, hT⟩ := id C
  intro r0 x3 x4 y0 H locs ls hl hP hD hS h
  unfold wp_X8_cut_78 at h
  refine lv_istore (lv' := [(5, .int y0), (0, .ref h0), (1, .int p1), (2, .int p2), (3, .int x3), (4, .int x4)]) hx hb dX8_cut_78 hl (by decide) rfl (fun ls hl => ?_)
  refine lv_iload hx hb dX8_cut_80 (lv_at hl 0 rfl) ?_
  refine lv_if_eq (tgt := 108) hx hb dX8_cut_82 (by decide) (fun c9 => ?_) (fun c9 => ?_)
  · replace h := And.left h c9
    exact t_X8_cut_108 C hA hk35 _ _ _ _ _ _ (lv_sub hl [1, 2, 3, 4, 5] rfl) hP hD hS h
  · replace h := And.right h c9
    refine lv_aload_n hx hb dX8_cut_85 rfl (lv_at hl 1 rfl) ?_
    refine lv_iload_n hx hb dX8_cut_86 rfl (lv_at hl 2 rfl) ?_
    refine lv_iconst (v := -1) hx hb dX8_cut_87 (by decide) ?_
    refine lv_iload hx hb dX8_cut_88 (lv_at hl 5 rfl) ?_
    refine xend_ro_i (xRunV_id (As := [.int p1, .int (-1 : Int32), .int x4]) (rest := []) C (c_X8_comesTo h) k_X8_comesTo mw_1020 ⟨rfl, rfl⟩ ⟨Nat.le_of_ble_eq_true rfl, Nat.le_of_ble_eq_true rfl⟩ hP hD rfl rfl hl rfl rfl (Nat.le_of_ble_eq_true rfl) dX8_cut_90 ⟨Nat.le_refl _, Nat.le_refl _⟩) (fun v11 h => ?_)
    refine lv_iload_n hx hb dX8_cut_93 rfl (lv_at hl 3 rfl) ?_
    refine xend_ro_i (xRunS (wc := ([] : va_W)) (As := [.int v11, .int p2]) (rest := []) C (c_X8_has h) k_X8_has mw_342 ⟨rfl, rfl⟩ ⟨Nat.le_of_ble_eq_true rfl, Nat.le_of_ble_eq_true rfl⟩ hP hD [] rfl rfl hl rfl rfl (Nat.le_of_ble_eq_true rfl) dX8_cut_94 ⟨Nat.le_refl _, Nat.le_refl _⟩) (fun v12 h => ?_)
    refine lv_if_ne (tgt := 108) hx hb dX8_cut_97 (by decide) (fun c13 => ?_) (fun c13 => ?_)
    · replace h := And.right h c13
      exact t_X8_cut_108 C hA hk35 _ _ _ _ _ _ (lv_sub hl [1, 2, 3, 4, 5] rfl) hP hD hS h
    · replace h := And.left h c13
      refine lv_iload hx hb dX8_cut_100 (lv_at hl 5 rfl) ?_
      refine xend_ro_i (xRunS (wc := ([] : va_W)) (As := [.int x4]) (rest := []) C (c_X8_bits h) k_X8_bits mw_345 ⟨rfl, rfl⟩ ⟨Nat.le_of_ble_eq_true rfl, Nat.le_of_ble_eq_true rfl⟩ hP hD [] rfl rfl hl rfl rfl (Nat.le_of_ble_eq_true rfl) dX8_cut_102 ⟨Nat.le_refl _, Nat.le_refl _⟩) (fun v14 h => ?_)
      refine lv_goto (tgt := 109) hx hb dX8_cut_105 (by decide) ?_
      exact t_X8_cut_109 C hA hk35 _ _ _ _ _ _ (lv_sub hl [1, 2, 3, 5] rfl) hP hD hS h
set_option maxHeartbeats 4000000 in
set_option maxRecDepth 100000 in
theorem t_X8_cut_77 {p : Program} {l : Launch} {e : Env} {s : State} {m : MethodId} {args : Array Value} {below : List Frame} {meth : Method} {c : Code} {D : va_G} {K : Nat → ClassId} {h0 : Nat} {a0 : Nat → Nat} {n0 : Nat → Option Nat} {la0 : Nat → Nat} {p1 : Int32} {p2 : Int32} {post : Int32 → (zS) → Prop} {A : Nat → Prop} (C : xC p s m args meth c cX8_cut RX8 6 (some .int) D vwCl (xty K)) (hA : ∀ q, s.heap.size ≤ q → A q) {k35 : (zS) → Int32 → Int32 → Prop} (hk35 : ∀ (r0 : zS) (x3 : Int32) (x4 : Int32) (H : Heap) (locs : List Loc) (ls : Array Slot), lv_has ls 6 [(0, .ref h0), (1, .int p1), (2, .int p2), (3, .int x3), (4, .int x4)] → va_P D vwCl (wX8 K h0 a0 n0 la0 r0 ++ (([] : va_W))) H → va_D A (wX8 K h0 a0 n0 la0 r0 ++ (([] : va_W))) → va_S A s.heap H locs → k35 r0 x3 x4  → W p l e ({ frames := 4, cells := 0, slots := 0, locals := 96 } : Room) s m args below meth c H locs 0 0 (MQ below (va_Qi (fun r (u : (zS)) => post r u) (fun (u : (zS)) t => va_P D vwCl (wX8 K h0 a0 n0 la0 u ++ (([] : va_W))) t.heap) A) args s 0 0 A) (F0 m 35 ls [])) : ∀ (r0 : zS) (x3 : Int32) (x4 : Int32) (H : Heap) (locs : List Loc) (ls : Array Slot), lv_has ls 6 [(0, .ref h0), (1, .int p1), (2, .int p2), (3, .int x3), (4, .int x4)] → va_P D vwCl (wX8 K h0 a0 n0 la0 r0 ++ (([] : va_W))) H → va_D A (wX8 K h0 a0 n0 la0 r0 ++ (([] : va_W))) → va_S A s.heap H locs → wp_X8_cut_77 p1 p2 post k35 r0 x3 x4 → W p l e ({ frames := 4, cells := 0, slots := 0, locals := 96 } : Room) s m args below meth c H locs 0 0 (MQ below (va_Qi (fun r (u : (zS)) => post r u) (fun (u : (zS)) t => va_P D vwCl (wX8 K h0 a0 n0 la0 u ++ (([] : va_W))) t.heap) A) args s 0 0 A) (F0 m 77 ls []) := by
  obtain ⟨hx, hb, hr, hml, hown, hts, hlocks, hK, hT⟩ := id C
  intro r0 x3 x4 H locs ls hl hP hD hS h
  unfold wp_X8_cut_77 at h
  refine lv_iconst (v := 0) hx hb dX8_cut_77 (by decide) ?_
  exact t_X8_cut_78 C hA hk35 _ _ _ _ _ _ _ (lv_sub hl [0, 1, 2, 3, 4] rfl) hP hD hS h
set_option maxHeartbeats 4000000 in
set_option maxRecDepth 100000 in
theorem t_X8_cut_35 {p : Program} {l : Launch} {e : Env} {s : State} {m : MethodId} {args : Array Value} {below : List Frame} {meth : Method} {c : Code} {D : va_G} {K : Nat → ClassId} {h0 : Nat} {a0 : Nat → Nat} {n0 : Nat → Option Nat} {la0 : Nat → Nat} {p1 : Int32} {p2 : Int32} {post : Int32 → (zS) → Prop} {A : Nat → Prop} (C : xC p s m args meth c cX8_cut RX8 6 (some .int) D vwCl (xty K)) (hA : ∀ q, s.heap.size ≤ q → A q) : ∀ (n : Nat) (r0 : zS) (x3 : Int32) (x4 : Int32) (H : Heap) (locs : List Loc) (ls : Array Slot), lv_has ls 6 [(0, .ref h0), (1, .int p1), (2, .int p2), (3, .int x3), (4, .int x4)] → va_P D vwCl (wX8 K h0 a0 n0 la0 r0 ++ (([] : va_W))) H → va_D A (wX8 K h0 a0 n0 la0 r0 ++ (([] : va_W))) → va_S A s.heap H locs → wp_X8_cut_35 p1 p2 post n r0 x3 x4 → W p l e ({ frames := 4, cells := 0, slots := 0, locals := 96 } : Room) s m args below meth c H locs 0 0 (MQ below (va_Qi (fun r (u : (zS)) => post r u) (fun (u : (zS)) t => va_P D vwCl (wX8 K h0 a0 n0 la0 u ++ (([] : va_W))) t.heap) A) args s 0 0 A) (F0 m 35 ls []) := by
  obtain ⟨hx, hb, hr, hml, hown, hts, hlocks, hK, hT⟩ := id C
  intro n
  induction n with
  | zero =>
    intro r0 x3 x4 H locs ls hl hP hD hS h
    exact False.elim h
  | succ n ihn =>
    intro r0 x3 x4 H locs ls hl hP hD hS h
    rw [wu_X8_cut_35] at h
    unfold wb_X8_cut_35 at h
    refine lv_iload hx hb dX8_cut_35 (lv_at hl 4 rfl) ?_
    refine lv_iconst (v := 1) hx hb dX8_cut_37 (by decide) ?_
    refine lv_aload_n hx hb dX8_cut_38 rfl (lv_at hl 0 rfl) ?_
    refine gX8_10 C hP dX8_cut_39 ?_
    refine lv_ishl hx hb dX8_cut_42 ?_
    refine lv_icmp_ge (tgt := 116) hx hb dX8_cut_43 (by decide) (fun c6 => ?_) (fun c6 => ?_)
    · replace h := And.left h c6
      refine lv_iload_n hx hb dX8_cut_116 rfl (lv_at hl 3 rfl) ?_
      exact xrw_i C r0 h hP hS dX8_cut_117
    · replace h := And.right h c6
      refine lv_iload hx hb dX8_cut_46 (lv_at hl 4 rfl) ?_
      refine lv_iload_n hx hb dX8_cut_48 rfl (lv_at hl 1 rfl) ?_
      refine xend_ro_i (xRunS (wc := ([] : va_W)) (As := [.int x4, .int p1]) (rest := []) C (c_X8_has h) k_X8_has mw_342 ⟨rfl, rfl⟩ ⟨Nat.le_of_ble_eq_true rfl, Nat.le_of_ble_eq_true rfl⟩ hP hD [] rfl rfl hl rfl rfl (Nat.le_of_ble_eq_true rfl) dX8_cut_49 ⟨Nat.le_refl _, Nat.le_refl _⟩) (fun v7 h => ?_)
      refine lv_if_ne (tgt := 77) hx hb dX8_cut_52 (by decide) (fun c8 => ?_) (fun c8 => ?_)
      · replace h := And.right h c8
        exact t_X8_cut_77 C hA ihn _ _ _ _ _ _ (lv_sub hl [0, 1, 2, 3, 4] rfl) hP hD hS h
      · replace h := And.left h c8
        refine lv_iload hx hb dX8_cut_55 (lv_at hl 4 rfl) ?_
        refine lv_iload_n hx hb dX8_cut_57 rfl (lv_at hl 2 rfl) ?_
        refine xend_ro_i (xRunS (wc := ([] : va_W)) (As := [.int x4, .int p2]) (rest := []) C (c_X8_has h) k_X8_has mw_342 ⟨rfl, rfl⟩ ⟨Nat.le_of_ble_eq_true rfl, Nat.le_of_ble_eq_true rfl⟩ hP hD [] rfl rfl hl rfl rfl (Nat.le_of_ble_eq_true rfl) dX8_cut_58 ⟨Nat.le_refl _, Nat.le_refl _⟩) (fun v15 h => ?_)
        refine lv_if_ne (tgt := 77) hx hb dX8_cut_61 (by decide) (fun c16 => ?_) (fun c16 => ?_)
        · replace h := And.right h c16
          exact t_X8_cut_77 C hA ihn _ _ _ _ _ _ (lv_sub hl [0, 1, 2, 3, 4] rfl) hP hD hS h
        · replace h := And.left h c16
          refine lv_iload hx hb dX8_cut_64 (lv_at hl 4 rfl) ?_
          refine xend_ro_i (xRunS (wc := ([] : va_W)) (As := [.int x4]) (rest := []) C (c_X8_bits h) k_X8_bits mw_345 ⟨rfl, rfl⟩ ⟨Nat.le_of_ble_eq_true rfl, Nat.le_of_ble_eq_true rfl⟩ hP hD [] rfl rfl hl rfl rfl (Nat.le_of_ble_eq_true rfl) dX8_cut_66 ⟨Nat.le_refl _, Nat.le_refl _⟩) (fun v17 h => ?_)
          refine lv_iload_n hx hb dX8_cut_69 rfl (lv_at hl 3 rfl) ?_
          refine lv_icmp_ge (tgt := 77) hx hb dX8_cut_70 (by decide) (fun c18 => ?_) (fun c18 => ?_)
          · replace h := And.left h c18
            exact t_X8_cut_77 C hA ihn _ _ _ _ _ _ (lv_sub hl [0, 1, 2, 3, 4] rfl) hP hD hS h
          · replace h := And.right h c18
            refine lv_iconst (v := 1) hx hb dX8_cut_73 (by decide) ?_
            refine lv_goto (tgt := 78) hx hb dX8_cut_74 (by decide) ?_
            exact t_X8_cut_78 C hA ihn _ _ _ _ _ _ _ (lv_sub hl [0, 1, 2, 3, 4] rfl) hP hD hS h
set_option maxHeartbeats 4000000 in
set_option maxRecDepth 100000 in
theorem c_X8_cut {l : Launch} {D : va_G} {K : Nat → ClassId} {h0 : Nat} {a0 : Nat → Nat} {n0 : Nat → Option Nat} {la0 : Nat → Nat} {r0 : zS} {p1 : Int32} {p2 : Int32} {sz : Nat} {post : Int32 → (zS) → Prop}   (h : wp_X8_cut r0 p1 p2 post) : Met l yX8_cut (Cond.code yX8_cut cX8_cut 6 (some .int) :: wsL_law) ({ frames := 4, cells := 0, slots := 0, locals := 96 } : Room) (va_Pc [.ref h0, .int p1, .int p2] (xPre D vwCl (xty K) (wX8 K h0 a0 n0 la0 r0 ++ (([] : va_W))) sz)) (va_Qi (fun r (u : (zS)) => post r u) (fun (u : (zS)) t => va_P D vwCl (wX8 K h0 a0 n0 la0 u ++ (([] : va_W))) t.heap) (va_A (wX8 K h0 a0 n0 la0 r0 ++ (([] : va_W))) sz)) 0 0 (va_A (wX8 K h0 a0 n0 la0 r0 ++ (([] : va_W))) sz) := by
  refine xMet (by decide) rfl (Nat.le_of_ble_eq_true rfl) (fun p e s m args below meth c C hnm hP hD hsz ls hl => ?_)
  have hl : lv_has ls 6 [(0, .ref h0), (1, .int p1), (2, .int p2)] := hl
  obtain ⟨hx, hb, hr, hml, hown, hts, hlocks, hK, hT⟩ := id C
  subst hsz
  generalize hAe : va_A (wX8 K h0 a0 n0 la0 r0 ++ (([] : va_W))) s.heap.size = A at hD ⊢
  have hA : ∀ q : Nat, s.heap.size ≤ q → A q := fun q h => by rw [← hAe]; exact Or.inr h
  have hS : va_S A s.heap s.heap [] := va_S.rf
  have hP : va_P D vwCl (wX8 K h0 a0 n0 la0 r0 ++ (([] : va_W))) s.heap := hP
  unfold wp_X8_cut at h
  refine lv_aload_n hx hb dX8_cut_0 rfl (lv_at hl 0 rfl) ?_
  refine lv_iload_n hx hb dX8_cut_1 rfl (lv_at hl 1 rfl) ?_
  refine lv_iload_n hx hb dX8_cut_2 rfl (lv_at hl 2 rfl) ?_
  refine xend_ro_i (xRunV_id (As := [.int p1, .int p2]) (rest := []) C (c_X8_areTwo h) k_X8_areTwo mw_449 ⟨rfl, rfl⟩ ⟨Nat.le_of_ble_eq_true rfl, Nat.le_of_ble_eq_true rfl⟩ hP hD rfl rfl hl rfl rfl (Nat.le_of_ble_eq_true rfl) dX8_cut_3 ⟨Nat.le_refl _, Nat.le_refl _⟩) (fun v1 h => ?_)
  refine lv_if_ne (tgt := 16) hx hb dX8_cut_6 (by decide) (fun c2 => ?_) (fun c2 => ?_)
  · replace h := And.right h c2
    refine lv_aload_n hx hb dX8_cut_16 rfl (lv_at hl 0 rfl) ?_
    refine lv_iload_n hx hb dX8_cut_17 rfl (lv_at hl 1 rfl) ?_
    refine lv_iload_n hx hb dX8_cut_18 rfl (lv_at hl 2 rfl) ?_
    refine xend_ro_i (xRunV_id (As := [.int p1, .int p2]) (rest := []) C (c_X8_areBeside h) k_X8_areBeside mw_338 ⟨rfl, rfl⟩ ⟨Nat.le_of_ble_eq_true rfl, Nat.le_of_ble_eq_true rfl⟩ hP hD rfl rfl hl rfl rfl (Nat.le_of_ble_eq_true rfl) dX8_cut_19 ⟨Nat.le_refl _, Nat.le_refl _⟩) (fun v3 h => ?_)
    refine lv_if_eq (tgt := 27) hx hb dX8_cut_22 (by decide) (fun c4 => ?_) (fun c4 => ?_)
    · replace h := And.left h c4
      refine lv_aload_n hx hb dX8_cut_27 rfl (lv_at hl 0 rfl) ?_
      refine gX8_10 C hP dX8_cut_28 ?_
      refine lv_topi (fun v5 ev5 => ?_)
      replace h := h v5 ev5
      refine lv_istore_n (lv' := [(3, .int v5), (0, .ref h0), (1, .int p1), (2, .int p2)]) hx hb dX8_cut_31 rfl hl (by decide) rfl (fun ls hl => ?_)
      refine lv_iconst (v := 0) hx hb dX8_cut_32 (by decide) ?_
      refine lv_istore (lv' := [(4, .int (0 : Int32)), (3, .int v5), (0, .ref h0), (1, .int p1), (2, .int p2)]) hx hb dX8_cut_33 hl (by decide) rfl (fun ls hl => ?_)
      obtain ⟨n0, h⟩ := h
      exact t_X8_cut_35 C hA n0 _ _ _ _ _ _ (lv_sub hl [2, 3, 4, 1, 0] rfl) hP hD hS h
    · replace h := And.right h c4
      refine lv_iconst (v := -1) hx hb dX8_cut_25 (by decide) ?_
      exact xrw_i C r0 h hP hS dX8_cut_26
  · replace h := And.left h c2
    refine lv_aload_n hx hb dX8_cut_9 rfl (lv_at hl 0 rfl) ?_
    refine lv_bipush (v := -2) hx hb dX8_cut_10 (by decide) ?_
    refine xend_rw_i_id (wf := fun (u : (zS)) => (wX8 K h0 a0 n0 la0 u ++ (([] : va_W)))) (xRunV_id (As := [.int (-2 : Int32)]) (rest := []) C (c_X8_refuse h) k_X8_refuse mw_165 ⟨rfl, rfl⟩ ⟨Nat.le_of_ble_eq_true rfl, Nat.le_of_ble_eq_true rfl⟩ hP hD rfl rfl hl rfl rfl (Nat.le_of_ble_eq_true rfl) dX8_cut_12 ⟨Nat.le_refl _, Nat.le_refl _⟩) hD hS hA (fun _ => wX8_adr _ _) (fun v19 s20 H locs h hP hD hS => ?_)
    exact xrw_i C s20 h hP hS dX8_cut_15

def wp_X8_reach_48 (p1 : Int32) (post : Int32 → (zS) → Prop) (k20 : (zS) → Int32 → Int32 → Prop) (r0 : zS) (x3 : Int32) (y0 : Int32) (y1 : Int32) : Prop :=
  ∀ v7 : Int32, v7 = (y1 ||| y0) → ∀ v8 : Int32, v8 = x3 + (1 : Int32) → k20 r0 v7 v8
def wb_X8_reach_20 (p1 : Int32) (post : Int32 → (zS) → Prop) (ih : (zS) → Int32 → Int32 → Prop) (r0 : zS) (x2 : Int32) (x3 : Int32) : Prop :=
  ((r0.1 10) ≤ x3 → wp_X8_comesTo r0 p1 x2 (0 : Int32) (fun v4 => post (v4 &&& (((1 : Int32) <<< (p1 &&& 31)) ^^^ (-1 : Int32))) r0)) ∧ (¬ (r0.1 10) ≤ x3 → vp_in x3 12 ∧ (wp_X8_reads (r0.2.1 11 x3.toNatClampNeg) (fun v5 => (v5 = 0 → wp_X8_reach_48 p1 post ih r0 x3 ((1 : Int32) <<< (x3 &&& 31)) x2) ∧ (¬ v5 = 0 → wp_X8_reach_48 p1 post ih r0 x3 (0 : Int32) x2))))
def wp_X8_reach_20 (p1 : Int32) (post : Int32 → (zS) → Prop) (n : Nat) : (zS) → Int32 → Int32 → Prop := Nat.rec (motive := fun _ => (zS) → Int32 → Int32 → Prop) (fun _ _ _ => False) (fun _ ih => wb_X8_reach_20 p1 post ih) n
theorem wu_X8_reach_20 (p1 : Int32) (post : Int32 → (zS) → Prop) (n : Nat) (r0 : zS) (x2 : Int32) (x3 : Int32) : wp_X8_reach_20 p1 post (n + 1) r0 x2 x3 = wb_X8_reach_20 p1 post (wp_X8_reach_20 p1 post n) r0 x2 x3 := rfl
def wp_X8_reach (r0 : zS) (p1 : Int32) (post : Int32 → (zS) → Prop) : Prop :=
  wp_X8_isPupil r0 (p1.toInt64) (fun v1 => (v1 = 0 → wp_X8_refuse r0 (-2 : Int32) (fun v9 s10 => post v9 s10)) ∧ (¬ v1 = 0 → ∃ n : Nat, wp_X8_reach_20 p1 post n r0 (0 : Int32) (0 : Int32)))
set_option maxHeartbeats 4000000 in
set_option maxRecDepth 100000 in
theorem t_X8_reach_48 {p : Program} {l : Launch} {e : Env} {s : State} {m : MethodId} {args : Array Value} {below : List Frame} {meth : Method} {c : Code} {D : va_G} {K : Nat → ClassId} {h0 : Nat} {a0 : Nat → Nat} {n0 : Nat → Option Nat} {la0 : Nat → Nat} {p1 : Int32} {post : Int32 → (zS) → Prop} {A : Nat → Prop} (C : xC p s m args meth c cX8_reach RX8 4 (some .int) D vwCl (xty K)) (hA : ∀ q, s.heap.size ≤ q → A q) {k20 : (zS) → Int32 → Int32 → Prop} (hk20 : ∀ (r0 : zS) (x2 : Int32) (x3 : Int32) (H : Heap) (locs : List Loc) (ls : Array Slot), lv_has ls 4 [(0, .ref h0), (1, .int p1), (2, .int x2), (3, .int x3)] → va_P D vwCl (wX8 K h0 a0 n0 la0 r0 ++ (([] : va_W))) H → va_D A (wX8 K h0 a0 n0 la0 r0 ++ (([] : va_W))) → va_S A s.heap H locs → k20 r0 x2 x3  → W p l e ({ frames := 4, cells := 0, slots := 0, locals := 96 } : Room) s m args below meth c H locs 0 0 (MQ below (va_Qi (fun r (u : (zS)) => post r u) (fun (u : (zS)) t => va_P D vwCl (wX8 K h0 a0 n0 la0 u ++ (([] : va_W))) t.heap) A) args s 0 0 A) (F0 m 20 ls [])) : ∀ (r0 : zS) (x3 : Int32) (y0 : Int32) (y1 : Int32) (H : Heap) (locs : List Loc) (ls : Array Slot), lv_has ls 4 [(0, .ref h0), (1, .int p1), (3, .int x3)] → va_P D vwCl (wX8 K h0 a0 n0 la0 r0 ++ (([] : va_W))) H → va_D A (wX8 K h0 a0 n0 la0 r0 ++ (([] : va_W))) → va_S A s.heap H locs → wp_X8_reach_48 p1 post k20 r0 x3 y0 y1 → W p l e ({ frames := 4, cells := 0, slots := 0, locals := 96 } : Room) s m args below meth c H locs 0 0 (MQ below (va_Qi (fun r (u : (zS)) => post r u) (fun (u : (zS)) t => va_P D vwCl (wX8 K h0 a0 n0 la0 u ++ (([] : va_W))) t.heap) A) args s 0 0 A) (F0 m 48 ls [.int y0, .int y1]) := by
  obtain ⟨hx, hb, hr, hml, hown, hts, hlocks, hK, hT⟩ := id C
  intro r0 x3 y0 y1 H locs ls hl hP hD hS h
  unfold wp_X8_reach_48 at h
  refine lv_ior hx hb dX8_reach_48 ?_
  refine lv_topi (fun v7 ev7 => ?_)
  replace h := h v7 ev7
  refine lv_istore_n (lv' := [(2, .int v7), (0, .ref h0), (1, .int p1), (3, .int x3)]) hx hb dX8_reach_49 rfl hl (by decide) rfl (fun ls hl => ?_)
  obtain ⟨v8, ev8⟩ : ∃ y : Int32, y = x3 + (1 : Int32) := ⟨_, rfl⟩
  replace h := h v8 ev8
  refine lv_iinc (v := v8) (lv' := [(3, .int v8), (2, .int v7), (0, .ref h0), (1, .int p1)]) hx hb dX8_reach_50 hl (k := 3) rfl (by rw [ev8]; rfl) (by decide) rfl (fun ls hl => ?_)
  refine lv_goto (tgt := 20) hx hb dX8_reach_53 (by decide) ?_
  exact hk20 _ _ _ _ _ _ (lv_sub hl [2, 3, 1, 0] rfl) hP hD hS h
set_option maxHeartbeats 4000000 in
set_option maxRecDepth 100000 in
theorem t_X8_reach_20 {p : Program} {l : Launch} {e : Env} {s : State} {m : MethodId} {args : Array Value} {below : List Frame} {meth : Method} {c : Code} {D : va_G} {K : Nat → ClassId} {h0 : Nat} {a0 : Nat → Nat} {n0 : Nat → Option Nat} {la0 : Nat → Nat} {p1 : Int32} {post : Int32 → (zS) → Prop} {A : Nat → Prop} (C : xC p s m args meth c cX8_reach RX8 4 (some .int) D vwCl (xty K)) (hA : ∀ q, s.heap.size ≤ q → A q) : ∀ (n : Nat) (r0 : zS) (x2 : Int32) (x3 : Int32) (H : Heap) (locs : List Loc) (ls : Array Slot), lv_has ls 4 [(0, .ref h0), (1, .int p1), (2, .int x2), (3, .int x3)] → va_P D vwCl (wX8 K h0 a0 n0 la0 r0 ++ (([] : va_W))) H → va_D A (wX8 K h0 a0 n0 la0 r0 ++ (([] : va_W))) → va_S A s.heap H locs → wp_X8_reach_20 p1 post n r0 x2 x3 → W p l e ({ frames := 4, cells := 0, slots := 0, locals := 96 } : Room) s m args below meth c H locs 0 0 (MQ below (va_Qi (fun r (u : (zS)) => post r u) (fun (u : (zS)) t => va_P D vwCl (wX8 K h0 a0 n0 la0 u ++ (([] : va_W))) t.heap) A) args s 0 0 A) (F0 m 20 ls []) := by
  obtain ⟨hx, hb, hr, hml, hown, hts, hlocks, hK, hT⟩ := id C
  intro n
  induction n with
  | zero =>
    intro r0 x2 x3 H locs ls hl hP hD hS h
    exact False.elim h
  | succ n ihn =>
    intro r0 x2 x3 H locs ls hl hP hD hS h
    rw [wu_X8_reach_20] at h
    unfold wb_X8_reach_20 at h
    refine lv_iload_n hx hb dX8_reach_20 rfl (lv_at hl 3 rfl) ?_
    refine lv_aload_n hx hb dX8_reach_21 rfl (lv_at hl 0 rfl) ?_
    refine gX8_10 C hP dX8_reach_22 ?_
    refine lv_icmp_ge (tgt := 56) hx hb dX8_reach_25 (by decide) (fun c3 => ?_) (fun c3 => ?_)
    · replace h := And.left h c3
      refine lv_aload_n hx hb dX8_reach_56 rfl (lv_at hl 0 rfl) ?_
      refine lv_iload_n hx hb dX8_reach_57 rfl (lv_at hl 1 rfl) ?_
      refine lv_iload_n hx hb dX8_reach_58 rfl (lv_at hl 2 rfl) ?_
      refine lv_iconst (v := 0) hx hb dX8_reach_59 (by decide) ?_
      refine xend_ro_i (xRunV_id (As := [.int p1, .int x2, .int (0 : Int32)]) (rest := []) C (c_X8_comesTo h) k_X8_comesTo mw_1020 ⟨rfl, rfl⟩ ⟨Nat.le_of_ble_eq_true rfl, Nat.le_of_ble_eq_true rfl⟩ hP hD rfl rfl hl rfl rfl (Nat.le_of_ble_eq_true rfl) dX8_reach_60 ⟨Nat.le_refl _, Nat.le_refl _⟩) (fun v4 h => ?_)
      refine lv_iconst (v := 1) hx hb dX8_reach_63 (by decide) ?_
      refine lv_iload_n hx hb dX8_reach_64 rfl (lv_at hl 1 rfl) ?_
      refine lv_ishl hx hb dX8_reach_65 ?_
      refine lv_iconst (v := -1) hx hb dX8_reach_66 (by decide) ?_
      refine lv_ixor hx hb dX8_reach_67 ?_
      refine lv_iand hx hb dX8_reach_68 ?_
      exact xrw_i C r0 h hP hS dX8_reach_69
    · replace h := And.right h c3
      refine lv_iload_n hx hb dX8_reach_28 rfl (lv_at hl 2 rfl) ?_
      refine lv_aload_n hx hb dX8_reach_29 rfl (lv_at hl 0 rfl) ?_
      refine gX8_11 C hP dX8_reach_30 ?_
      refine lv_iload_n hx hb dX8_reach_33 rfl (lv_at hl 3 rfl) ?_
      have hin := And.left h
      replace h := And.right h
      refine lX8_11 C hP hin dX8_reach_34 ?_
      refine xend_ro_i (xRunS (wc := ([] : va_W)) (As := [.int (r0.2.1 11 x3.toNatClampNeg)]) (rest := [.int x2]) C (c_X8_reads h) k_X8_reads mw_331 ⟨rfl, rfl⟩ ⟨Nat.le_of_ble_eq_true rfl, Nat.le_of_ble_eq_true rfl⟩ hP hD [] rfl rfl hl rfl rfl (Nat.le_of_ble_eq_true rfl) dX8_reach_35 ⟨Nat.le_refl _, Nat.le_refl _⟩) (fun v5 h => ?_)
      refine lv_if_eq (tgt := 45) hx hb dX8_reach_38 (by decide) (fun c6 => ?_) (fun c6 => ?_)
      · replace h := And.left h c6
        refine lv_iconst (v := 1) hx hb dX8_reach_45 (by decide) ?_
        refine lv_iload_n hx hb dX8_reach_46 rfl (lv_at hl 3 rfl) ?_
        refine lv_ishl hx hb dX8_reach_47 ?_
        exact t_X8_reach_48 C hA ihn _ _ _ _ _ _ _ (lv_sub hl [0, 1, 3] rfl) hP hD hS h
      · replace h := And.right h c6
        refine lv_iconst (v := 0) hx hb dX8_reach_41 (by decide) ?_
        refine lv_goto (tgt := 48) hx hb dX8_reach_42 (by decide) ?_
        exact t_X8_reach_48 C hA ihn _ _ _ _ _ _ _ (lv_sub hl [0, 1, 3] rfl) hP hD hS h
set_option maxHeartbeats 4000000 in
set_option maxRecDepth 100000 in
theorem c_X8_reach {l : Launch} {D : va_G} {K : Nat → ClassId} {h0 : Nat} {a0 : Nat → Nat} {n0 : Nat → Option Nat} {la0 : Nat → Nat} {r0 : zS} {p1 : Int32} {sz : Nat} {post : Int32 → (zS) → Prop}   (h : wp_X8_reach r0 p1 post) : Met l yX8_reach (Cond.code yX8_reach cX8_reach 4 (some .int) :: wsL_law) ({ frames := 4, cells := 0, slots := 0, locals := 96 } : Room) (va_Pc [.ref h0, .int p1] (xPre D vwCl (xty K) (wX8 K h0 a0 n0 la0 r0 ++ (([] : va_W))) sz)) (va_Qi (fun r (u : (zS)) => post r u) (fun (u : (zS)) t => va_P D vwCl (wX8 K h0 a0 n0 la0 u ++ (([] : va_W))) t.heap) (va_A (wX8 K h0 a0 n0 la0 r0 ++ (([] : va_W))) sz)) 0 0 (va_A (wX8 K h0 a0 n0 la0 r0 ++ (([] : va_W))) sz) := by
  refine xMet (by decide) rfl (Nat.le_of_ble_eq_true rfl) (fun p e s m args below meth c C hnm hP hD hsz ls hl => ?_)
  have hl : lv_has ls 4 [(0, .ref h0), (1, .int p1)] := hl
  obtain ⟨hx, hb, hr, hml, hown, hts, hlocks, hK, hT⟩ := id C
  subst hsz
  generalize hAe : va_A (wX8 K h0 a0 n0 la0 r0 ++ (([] : va_W))) s.heap.size = A at hD ⊢
  have hA : ∀ q : Nat, s.heap.size ≤ q → A q := fun q h => by rw [← hAe]; exact Or.inr h
  have hS : va_S A s.heap s.heap [] := va_S.rf
  have hP : va_P D vwCl (wX8 K h0 a0 n0 la0 r0 ++ (([] : va_W))) s.heap := hP
  unfold wp_X8_reach at h
  refine lv_aload_n hx hb dX8_reach_0 rfl (lv_at hl 0 rfl) ?_
  refine lv_iload_n hx hb dX8_reach_1 rfl (lv_at hl 1 rfl) ?_
  refine lv_i2l hx hb dX8_reach_2 rfl ?_
  refine xend_ro_i (xRunV_id (As := [.long (p1.toInt64)]) (rest := []) C (c_X8_isPupil h) k_X8_isPupil mw_262 ⟨rfl, rfl⟩ ⟨Nat.le_of_ble_eq_true rfl, Nat.le_of_ble_eq_true rfl⟩ hP hD rfl rfl hl rfl rfl (Nat.le_of_ble_eq_true rfl) dX8_reach_3 ⟨Nat.le_refl _, Nat.le_refl _⟩) (fun v1 h => ?_)
  refine lv_if_ne (tgt := 16) hx hb dX8_reach_6 (by decide) (fun c2 => ?_) (fun c2 => ?_)
  · replace h := And.right h c2
    refine lv_iconst (v := 0) hx hb dX8_reach_16 (by decide) ?_
    refine lv_istore_n (lv' := [(2, .int (0 : Int32)), (0, .ref h0), (1, .int p1)]) hx hb dX8_reach_17 rfl hl (by decide) rfl (fun ls hl => ?_)
    refine lv_iconst (v := 0) hx hb dX8_reach_18 (by decide) ?_
    refine lv_istore_n (lv' := [(3, .int (0 : Int32)), (2, .int (0 : Int32)), (0, .ref h0), (1, .int p1)]) hx hb dX8_reach_19 rfl hl (by decide) rfl (fun ls hl => ?_)
    obtain ⟨n0, h⟩ := h
    exact t_X8_reach_20 C hA n0 _ _ _ _ _ _ (lv_sub hl [2, 3, 1, 0] rfl) hP hD hS h
  · replace h := And.left h c2
    refine lv_aload_n hx hb dX8_reach_9 rfl (lv_at hl 0 rfl) ?_
    refine lv_bipush (v := -2) hx hb dX8_reach_10 (by decide) ?_
    refine xend_rw_i_id (wf := fun (u : (zS)) => (wX8 K h0 a0 n0 la0 u ++ (([] : va_W)))) (xRunV_id (As := [.int (-2 : Int32)]) (rest := []) C (c_X8_refuse h) k_X8_refuse mw_165 ⟨rfl, rfl⟩ ⟨Nat.le_of_ble_eq_true rfl, Nat.le_of_ble_eq_true rfl⟩ hP hD rfl rfl hl rfl rfl (Nat.le_of_ble_eq_true rfl) dX8_reach_12 ⟨Nat.le_refl _, Nat.le_refl _⟩) hD hS hA (fun _ => wX8_adr _ _) (fun v9 s10 H locs h hP hD hS => ?_)
    exact xrw_i C s10 h hP hS dX8_reach_15

def wp_X8_noWay_24 (p1 : Int32) (p2 : Int32) (post : Int32 → (zS) → Prop) (r0 : zS) : Prop :=
  wp_X8_refuse r0 (-2 : Int32) (fun v3 s4 => post v3 s4)
def wp_X8_noWay (r0 : zS) (p1 : Int32) (p2 : Int32) (post : Int32 → (zS) → Prop) : Prop :=
  wp_X8_in (p1.toInt64) (0 : Int64) (7 : Int64) (fun v1 => (v1 = 0 → wp_X8_noWay_24 p1 p2 post r0) ∧ (¬ v1 = 0 → wp_X8_in (p2.toInt64) (0 : Int64) (9 : Int64) (fun v5 => (v5 = 0 → wp_X8_noWay_24 p1 p2 post r0) ∧ (¬ v5 = 0 → wp_X8_noRow r0 p1 (fun v7 s8 => (v7 = 0 → vp_in p1 8 ∧ ((p2 ≤ (s8.2.1 2 p1.toNatClampNeg) → post (0 : Int32) s8) ∧ (¬ p2 ≤ (s8.2.1 2 p1.toNatClampNeg) → wp_X8_refuse s8 (-2 : Int32) (fun v11 s12 => post v11 s12)))) ∧ (¬ v7 = 0 → post v7 s8))))))
set_option maxHeartbeats 4000000 in
set_option maxRecDepth 100000 in
theorem t_X8_noWay_24 {p : Program} {l : Launch} {e : Env} {s : State} {m : MethodId} {args : Array Value} {below : List Frame} {meth : Method} {c : Code} {D : va_G} {K : Nat → ClassId} {h0 : Nat} {a0 : Nat → Nat} {n0 : Nat → Option Nat} {la0 : Nat → Nat} {p1 : Int32} {p2 : Int32} {post : Int32 → (zS) → Prop} {A : Nat → Prop} (C : xC p s m args meth c cX8_noWay RX8 4 (some .int) D vwCl (xty K)) (hA : ∀ q, s.heap.size ≤ q → A q) : ∀ (r0 : zS) (H : Heap) (locs : List Loc) (ls : Array Slot), lv_has ls 4 [(0, .ref h0)] → va_P D vwCl (wX8 K h0 a0 n0 la0 r0 ++ (([] : va_W))) H → va_D A (wX8 K h0 a0 n0 la0 r0 ++ (([] : va_W))) → va_S A s.heap H locs → wp_X8_noWay_24 p1 p2 post r0 → W p l e ({ frames := 2, cells := 0, slots := 0, locals := 46 } : Room) s m args below meth c H locs 0 0 (MQ below (va_Qi (fun r (u : (zS)) => post r u) (fun (u : (zS)) t => va_P D vwCl (wX8 K h0 a0 n0 la0 u ++ (([] : va_W))) t.heap) A) args s 0 0 A) (F0 m 24 ls []) := by
  obtain ⟨hx, hb, hr, hml, hown, hts, hlocks, hK, hT⟩ := id C
  intro r0 H locs ls hl hP hD hS h
  unfold wp_X8_noWay_24 at h
  refine lv_aload_n hx hb dX8_noWay_24 rfl (lv_at hl 0 rfl) ?_
  refine lv_bipush (v := -2) hx hb dX8_noWay_25 (by decide) ?_
  refine xend_rw_i_id (wf := fun (u : (zS)) => (wX8 K h0 a0 n0 la0 u ++ (([] : va_W)))) (xRunV_id (As := [.int (-2 : Int32)]) (rest := []) C (c_X8_refuse h) k_X8_refuse mw_165 ⟨rfl, rfl⟩ ⟨Nat.le_of_ble_eq_true rfl, Nat.le_of_ble_eq_true rfl⟩ hP hD rfl rfl hl rfl rfl (Nat.le_of_ble_eq_true rfl) dX8_noWay_27 ⟨Nat.le_refl _, Nat.le_refl _⟩) hD hS hA (fun _ => wX8_adr _ _) (fun v3 s4 H locs h hP hD hS => ?_)
  exact xrw_i C s4 h hP hS dX8_noWay_30
set_option maxHeartbeats 4000000 in
set_option maxRecDepth 100000 in
theorem c_X8_noWay {l : Launch} {D : va_G} {K : Nat → ClassId} {h0 : Nat} {a0 : Nat → Nat} {n0 : Nat → Option Nat} {la0 : Nat → Nat} {r0 : zS} {p1 : Int32} {p2 : Int32} {sz : Nat} {post : Int32 → (zS) → Prop}   (h : wp_X8_noWay r0 p1 p2 post) : Met l yX8_noWay (Cond.code yX8_noWay cX8_noWay 4 (some .int) :: wsL_law) ({ frames := 2, cells := 0, slots := 0, locals := 46 } : Room) (va_Pc [.ref h0, .int p1, .int p2] (xPre D vwCl (xty K) (wX8 K h0 a0 n0 la0 r0 ++ (([] : va_W))) sz)) (va_Qi (fun r (u : (zS)) => post r u) (fun (u : (zS)) t => va_P D vwCl (wX8 K h0 a0 n0 la0 u ++ (([] : va_W))) t.heap) (va_A (wX8 K h0 a0 n0 la0 r0 ++ (([] : va_W))) sz)) 0 0 (va_A (wX8 K h0 a0 n0 la0 r0 ++ (([] : va_W))) sz) := by
  refine xMet (by decide) rfl (Nat.le_of_ble_eq_true rfl) (fun p e s m args below meth c C hnm hP hD hsz ls hl => ?_)
  have hl : lv_has ls 4 [(0, .ref h0), (1, .int p1), (2, .int p2)] := hl
  obtain ⟨hx, hb, hr, hml, hown, hts, hlocks, hK, hT⟩ := id C
  subst hsz
  generalize hAe : va_A (wX8 K h0 a0 n0 la0 r0 ++ (([] : va_W))) s.heap.size = A at hD ⊢
  have hA : ∀ q : Nat, s.heap.size ≤ q → A q := fun q h => by rw [← hAe]; exact Or.inr h
  have hS : va_S A s.heap s.heap [] := va_S.rf
  have hP : va_P D vwCl (wX8 K h0 a0 n0 la0 r0 ++ (([] : va_W))) s.heap := hP
  unfold wp_X8_noWay at h
  refine lv_iload_n hx hb dX8_noWay_0 rfl (lv_at hl 1 rfl) ?_
  refine lv_i2l hx hb dX8_noWay_1 rfl ?_
  refine lv_lconst (v := 0) hx hb dX8_noWay_2 (by decide) ?_
  refine lv_ldc2 hx hb hown (hts _ mw_159) dX8_noWay_3 ?_
  refine xend_ro_i (xRunS (wc := ([] : va_W)) (As := [.long (p1.toInt64), .long (0 : Int64), .long (7 : Int64)]) (rest := []) C (c_X8_in h) k_X8_in mw_162 ⟨rfl, rfl⟩ ⟨Nat.le_of_ble_eq_true rfl, Nat.le_of_ble_eq_true rfl⟩ hP hD [] rfl rfl hl rfl rfl (Nat.le_of_ble_eq_true rfl) dX8_noWay_6 ⟨Nat.le_refl _, Nat.le_refl _⟩) (fun v1 h => ?_)
  refine lv_if_eq (tgt := 24) hx hb dX8_noWay_9 (by decide) (fun c2 => ?_) (fun c2 => ?_)
  · replace h := And.left h c2
    exact t_X8_noWay_24 C hA _ _ _ _ (lv_sub hl [0] rfl) hP hD hS h
  · replace h := And.right h c2
    refine lv_iload_n hx hb dX8_noWay_12 rfl (lv_at hl 2 rfl) ?_
    refine lv_i2l hx hb dX8_noWay_13 rfl ?_
    refine lv_lconst (v := 0) hx hb dX8_noWay_14 (by decide) ?_
    refine lv_ldc2 hx hb hown (hts _ mw_412) dX8_noWay_15 ?_
    refine xend_ro_i (xRunS (wc := ([] : va_W)) (As := [.long (p2.toInt64), .long (0 : Int64), .long (9 : Int64)]) (rest := []) C (c_X8_in h) k_X8_in mw_162 ⟨rfl, rfl⟩ ⟨Nat.le_of_ble_eq_true rfl, Nat.le_of_ble_eq_true rfl⟩ hP hD [] rfl rfl hl rfl rfl (Nat.le_of_ble_eq_true rfl) dX8_noWay_18 ⟨Nat.le_refl _, Nat.le_refl _⟩) (fun v5 h => ?_)
    refine lv_if_ne (tgt := 31) hx hb dX8_noWay_21 (by decide) (fun c6 => ?_) (fun c6 => ?_)
    · replace h := And.right h c6
      refine lv_aload_n hx hb dX8_noWay_31 rfl (lv_at hl 0 rfl) ?_
      refine lv_iload_n hx hb dX8_noWay_32 rfl (lv_at hl 1 rfl) ?_
      refine xend_rw_i_id (wf := fun (u : (zS)) => (wX8 K h0 a0 n0 la0 u ++ (([] : va_W)))) (xRunV_id (As := [.int p1]) (rest := []) C (c_X8_noRow h) k_X8_noRow mw_202 ⟨rfl, rfl⟩ ⟨Nat.le_of_ble_eq_true rfl, Nat.le_of_ble_eq_true rfl⟩ hP hD rfl rfl hl rfl rfl (Nat.le_of_ble_eq_true rfl) dX8_noWay_33 ⟨Nat.le_refl _, Nat.le_refl _⟩) hD hS hA (fun _ => wX8_adr _ _) (fun v7 s8 H locs h hP hD hS => ?_)
      refine lv_istore_n (lv' := [(3, .int v7), (0, .ref h0), (1, .int p1), (2, .int p2)]) hx hb dX8_noWay_36 rfl hl (by decide) rfl (fun ls hl => ?_)
      refine lv_iload_n hx hb dX8_noWay_37 rfl (lv_at hl 0 rfl) ?_
      refine lv_if_eq (tgt := 43) hx hb dX8_noWay_38 (by decide) (fun c9 => ?_) (fun c9 => ?_)
      · replace h := And.left h c9
        refine lv_aload_n hx hb dX8_noWay_43 rfl (lv_at hl 1 rfl) ?_
        refine gX8_2 C hP dX8_noWay_44 ?_
        refine lv_iload_n hx hb dX8_noWay_47 rfl (lv_at hl 2 rfl) ?_
        have hin := And.left h
        replace h := And.right h
        refine lX8_2 C hP hin dX8_noWay_48 ?_
        refine lv_iload_n hx hb dX8_noWay_49 rfl (lv_at hl 3 rfl) ?_
        refine lv_icmp_ge (tgt := 62) hx hb dX8_noWay_50 (by decide) (fun c10 => ?_) (fun c10 => ?_)
        · replace h := And.left h c10
          refine lv_iconst (v := 0) hx hb dX8_noWay_62 (by decide) ?_
          exact xrw_i C s8 h hP hS dX8_noWay_63
        · replace h := And.right h c10
          refine lv_aload_n hx hb dX8_noWay_53 rfl (lv_at hl 1 rfl) ?_
          refine lv_bipush (v := -2) hx hb dX8_noWay_54 (by decide) ?_
          refine xend_rw_i_id (wf := fun (u : (zS)) => (wX8 K h0 a0 n0 la0 u ++ (([] : va_W)))) (xRunV_id (As := [.int (-2 : Int32)]) (rest := []) C (c_X8_refuse h) k_X8_refuse mw_165 ⟨rfl, rfl⟩ ⟨Nat.le_of_ble_eq_true rfl, Nat.le_of_ble_eq_true rfl⟩ hP hD rfl rfl hl rfl rfl (Nat.le_of_ble_eq_true rfl) dX8_noWay_56 ⟨Nat.le_refl _, Nat.le_refl _⟩) hD hS hA (fun _ => wX8_adr _ _) (fun v11 s12 H locs h hP hD hS => ?_)
          refine lv_goto (tgt := 63) hx hb dX8_noWay_59 (by decide) ?_
          exact xrw_i C s12 h hP hS dX8_noWay_63
      · replace h := And.right h c9
        refine lv_iload_n hx hb dX8_noWay_41 rfl (lv_at hl 0 rfl) ?_
        exact xrw_i C s8 h hP hS dX8_noWay_42
    · replace h := And.left h c6
      exact t_X8_noWay_24 C hA _ _ _ _ (lv_sub hl [0] rfl) hP hD hS h

def wp_X8_wrongIn_61 (r0 : zS) (p1 : Nat) (p2 : Int32) (post : Int32 → Prop) (k5 : Int32 → Int32 → Prop) (x3 : Int32) (x4 : Int32) : Prop :=
  vp_in x4 40 ∧ (∀ v7 : Int32, v7 = (x3 ||| ((1 : Int32) <<< (((r0.2.2 (100 + p1) x4.toNatClampNeg).toInt32) &&& 31))) → ∀ v8 : Int32, v8 = x4 + (1 : Int32) → k5 v7 v8)
def wb_X8_wrongIn_5 (r0 : zS) (p1 : Nat) (p2 : Int32) (post : Int32 → Prop) (ih : Int32 → Int32 → Prop) (x3 : Int32) (x4 : Int32) : Prop :=
  (p2 ≤ x4 → post (-1 : Int32) ) ∧ (¬ p2 ≤ x4 → vp_in x4 40 ∧ (wp_X8_isPupil r0 (r0.2.2 (100 + p1) x4.toNatClampNeg) (fun v2 => (v2 = 0 → post x4 ) ∧ (¬ v2 = 0 → vp_in x4 40 ∧ (wp_X8_has x3 ((r0.2.2 (100 + p1) x4.toNatClampNeg).toInt32) (fun v4 => (v4 = 0 → (x4 ≤ 0 → wp_X8_wrongIn_61 r0 p1 p2 post ih x3 x4) ∧ (¬ x4 ≤ 0 → vp_in (x4 - (1 : Int32)) 40 ∧ (vp_in x4 40 ∧ (wp_X8_areBeside r0 ((r0.2.2 (100 + p1) (x4 - (1 : Int32)).toNatClampNeg).toInt32) ((r0.2.2 (100 + p1) x4.toNatClampNeg).toInt32) (fun v9 => (v9 = 0 → post x4 ) ∧ (¬ v9 = 0 → wp_X8_wrongIn_61 r0 p1 p2 post ih x3 x4)))))) ∧ (¬ v4 = 0 → post x4 )))))))
def wp_X8_wrongIn_5 (r0 : zS) (p1 : Nat) (p2 : Int32) (post : Int32 → Prop) (n : Nat) : Int32 → Int32 → Prop := Nat.rec (motive := fun _ => Int32 → Int32 → Prop) (fun _ _ => False) (fun _ ih => wb_X8_wrongIn_5 r0 p1 p2 post ih) n
theorem wu_X8_wrongIn_5 (r0 : zS) (p1 : Nat) (p2 : Int32) (post : Int32 → Prop) (n : Nat) (x3 : Int32) (x4 : Int32) : wp_X8_wrongIn_5 r0 p1 p2 post (n + 1) x3 x4 = wb_X8_wrongIn_5 r0 p1 p2 post (wp_X8_wrongIn_5 r0 p1 p2 post n) x3 x4 := rfl
def wp_X8_wrongIn (r0 : zS) (p1 : Nat) (p2 : Int32) (post : Int32 → Prop) : Prop :=
  ∃ n : Nat, wp_X8_wrongIn_5 r0 p1 p2 post n (0 : Int32) (0 : Int32)
set_option maxHeartbeats 4000000 in
set_option maxRecDepth 100000 in
theorem t_X8_wrongIn_61 {p : Program} {l : Launch} {e : Env} {s : State} {m : MethodId} {args : Array Value} {below : List Frame} {meth : Method} {c : Code} {D : va_G} {K : Nat → ClassId} {h0 : Nat} {a0 : Nat → Nat} {n0 : Nat → Option Nat} {la0 : Nat → Nat} {r0 : zS} {p1 : Nat} {p2 : Int32} {post : Int32 → Prop} (C : xC p s m args meth c cX8_wrongIn RX8 5 (some .int) D vwCl (xty K)) (hr1 : p1 < 8) (hP : va_P D vwCl (wX8 K h0 a0 n0 la0 r0 ++ (([] : va_W))) s.heap) (hD : va_D (va_A (wX8 K h0 a0 n0 la0 r0 ++ (([] : va_W))) s.heap.size) (wX8 K h0 a0 n0 la0 r0 ++ (([] : va_W)))) {k5 : Int32 → Int32 → Prop} (hk5 : ∀ (x3 : Int32) (x4 : Int32) (ls : Array Slot), lv_has ls 5 [(0, .ref h0), (1, .ref (la0 p1)), (2, .int p2), (3, .int x3), (4, .int x4)] → k5  x3 x4  → W p l e ({ frames := 2, cells := 0, slots := 0, locals := 47 } : Room) s m args below meth c s.heap [] 0 0 (MQ below (roI post) args s 0 0 (fun _ => False)) (F0 m 5 ls [])) : ∀ (x3 : Int32) (x4 : Int32) (ls : Array Slot), lv_has ls 5 [(0, .ref h0), (1, .ref (la0 p1)), (2, .int p2), (3, .int x3), (4, .int x4)] → wp_X8_wrongIn_61 r0 p1 p2 post k5 x3 x4 → W p l e ({ frames := 2, cells := 0, slots := 0, locals := 47 } : Room) s m args below meth c s.heap [] 0 0 (MQ below (roI post) args s 0 0 (fun _ => False)) (F0 m 61 ls []) := by
  obtain ⟨hx, hb, hr, hml, hown, hts, hlocks, hK, hT⟩ := id C
  intro x3 x4 ls hl h
  unfold wp_X8_wrongIn_61 at h
  refine lv_iload_n hx hb dX8_wrongIn_61 rfl (lv_at hl 3 rfl) ?_
  refine lv_iconst (v := 1) hx hb dX8_wrongIn_62 (by decide) ?_
  refine lv_aload_n hx hb dX8_wrongIn_63 rfl (lv_at hl 1 rfl) ?_
  refine lv_iload hx hb dX8_wrongIn_64 (lv_at hl 4 rfl) ?_
  have hin := And.left h
  replace h := And.right h
  refine va_lald hx hb hK hP (23 + p1) 1 (wX8_row hr1) rfl hin dX8_wrongIn_66 ?_
  refine lv_l2i hx hb dX8_wrongIn_67 rfl ?_
  refine lv_ishl hx hb dX8_wrongIn_68 ?_
  refine lv_ior hx hb dX8_wrongIn_69 ?_
  refine lv_topi (fun v7 ev7 => ?_)
  replace h := h v7 ev7
  refine lv_istore_n (lv' := [(3, .int v7), (0, .ref h0), (1, .ref (la0 p1)), (2, .int p2), (4, .int x4)]) hx hb dX8_wrongIn_70 rfl hl (by decide) rfl (fun ls hl => ?_)
  obtain ⟨v8, ev8⟩ : ∃ y : Int32, y = x4 + (1 : Int32) := ⟨_, rfl⟩
  replace h := h v8 ev8
  refine lv_iinc (v := v8) (lv' := [(4, .int v8), (3, .int v7), (0, .ref h0), (1, .ref (la0 p1)), (2, .int p2)]) hx hb dX8_wrongIn_71 hl (k := 4) rfl (by rw [ev8]; rfl) (by decide) rfl (fun ls hl => ?_)
  refine lv_goto (tgt := 5) hx hb dX8_wrongIn_74 (by decide) ?_
  exact hk5 _ _ _ (lv_sub hl [2, 3, 4, 1, 0] rfl) h
set_option maxHeartbeats 4000000 in
set_option maxRecDepth 100000 in
theorem t_X8_wrongIn_5 {p : Program} {l : Launch} {e : Env} {s : State} {m : MethodId} {args : Array Value} {below : List Frame} {meth : Method} {c : Code} {D : va_G} {K : Nat → ClassId} {h0 : Nat} {a0 : Nat → Nat} {n0 : Nat → Option Nat} {la0 : Nat → Nat} {r0 : zS} {p1 : Nat} {p2 : Int32} {post : Int32 → Prop} (C : xC p s m args meth c cX8_wrongIn RX8 5 (some .int) D vwCl (xty K)) (hr1 : p1 < 8) (hP : va_P D vwCl (wX8 K h0 a0 n0 la0 r0 ++ (([] : va_W))) s.heap) (hD : va_D (va_A (wX8 K h0 a0 n0 la0 r0 ++ (([] : va_W))) s.heap.size) (wX8 K h0 a0 n0 la0 r0 ++ (([] : va_W)))) : ∀ (n : Nat) (x3 : Int32) (x4 : Int32) (ls : Array Slot), lv_has ls 5 [(0, .ref h0), (1, .ref (la0 p1)), (2, .int p2), (3, .int x3), (4, .int x4)] → wp_X8_wrongIn_5 r0 p1 p2 post n x3 x4 → W p l e ({ frames := 2, cells := 0, slots := 0, locals := 47 } : Room) s m args below meth c s.heap [] 0 0 (MQ below (roI post) args s 0 0 (fun _ => False)) (F0 m 5 ls []) := by
  obtain ⟨hx, hb, hr, hml, hown, hts, hlocks, hK, hT⟩ := id C
  intro n
  induction n with
  | zero =>
    intro x3 x4 ls hl h
    exact False.elim h
  | succ n ihn =>
    intro x3 x4 ls hl h
    rw [wu_X8_wrongIn_5] at h
    unfold wb_X8_wrongIn_5 at h
    refine lv_iload hx hb dX8_wrongIn_5 (lv_at hl 4 rfl) ?_
    refine lv_iload_n hx hb dX8_wrongIn_7 rfl (lv_at hl 2 rfl) ?_
    refine lv_icmp_ge (tgt := 77) hx hb dX8_wrongIn_8 (by decide) (fun c1 => ?_) (fun c1 => ?_)
    · replace h := And.left h c1
      refine lv_iconst (v := -1) hx hb dX8_wrongIn_77 (by decide) ?_
      exact xro_i C h dX8_wrongIn_78
    · replace h := And.right h c1
      refine lv_aload_n hx hb dX8_wrongIn_11 rfl (lv_at hl 0 rfl) ?_
      refine lv_aload_n hx hb dX8_wrongIn_12 rfl (lv_at hl 1 rfl) ?_
      refine lv_iload hx hb dX8_wrongIn_13 (lv_at hl 4 rfl) ?_
      have hin := And.left h
      replace h := And.right h
      refine va_lald hx hb hK hP (23 + p1) 1 (wX8_row hr1) rfl hin dX8_wrongIn_15 ?_
      refine xend_ro_i (xRunV_id (As := [.long (r0.2.2 (100 + p1) x4.toNatClampNeg)]) (rest := []) C (c_X8_isPupil h) k_X8_isPupil mw_262 ⟨rfl, rfl⟩ ⟨Nat.le_of_ble_eq_true rfl, Nat.le_of_ble_eq_true rfl⟩ hP hD rfl rfl hl rfl rfl (Nat.le_of_ble_eq_true rfl) dX8_wrongIn_16 ⟨Nat.le_refl _, Nat.le_refl _⟩) (fun v2 h => ?_)
      refine lv_if_eq (tgt := 58) hx hb dX8_wrongIn_19 (by decide) (fun c3 => ?_) (fun c3 => ?_)
      · replace h := And.left h c3
        refine lv_iload hx hb dX8_wrongIn_58 (lv_at hl 4 rfl) ?_
        exact xro_i C h dX8_wrongIn_60
      · replace h := And.right h c3
        refine lv_iload_n hx hb dX8_wrongIn_22 rfl (lv_at hl 3 rfl) ?_
        refine lv_aload_n hx hb dX8_wrongIn_23 rfl (lv_at hl 1 rfl) ?_
        refine lv_iload hx hb dX8_wrongIn_24 (lv_at hl 4 rfl) ?_
        have hin := And.left h
        replace h := And.right h
        refine va_lald hx hb hK hP (23 + p1) 1 (wX8_row hr1) rfl hin dX8_wrongIn_26 ?_
        refine lv_l2i hx hb dX8_wrongIn_27 rfl ?_
        refine xend_ro_i (xRunS (wc := ([] : va_W)) (As := [.int x3, .int ((r0.2.2 (100 + p1) x4.toNatClampNeg).toInt32)]) (rest := []) C (c_X8_has h) k_X8_has mw_342 ⟨rfl, rfl⟩ ⟨Nat.le_of_ble_eq_true rfl, Nat.le_of_ble_eq_true rfl⟩ hP hD [] rfl rfl hl rfl rfl (Nat.le_of_ble_eq_true rfl) dX8_wrongIn_28 ⟨Nat.le_refl _, Nat.le_refl _⟩) (fun v4 h => ?_)
        refine lv_if_ne (tgt := 58) hx hb dX8_wrongIn_31 (by decide) (fun c5 => ?_) (fun c5 => ?_)
        · replace h := And.right h c5
          refine lv_iload hx hb dX8_wrongIn_58 (lv_at hl 4 rfl) ?_
          exact xro_i C h dX8_wrongIn_60
        · replace h := And.left h c5
          refine lv_iload hx hb dX8_wrongIn_34 (lv_at hl 4 rfl) ?_
          refine lv_if_le (tgt := 61) hx hb dX8_wrongIn_36 (by decide) (fun c6 => ?_) (fun c6 => ?_)
          · replace h := And.left h c6
            exact t_X8_wrongIn_61 C hr1 hP hD ihn _ _ _ (lv_sub hl [0, 1, 2, 3, 4] rfl) h
          · replace h := And.right h c6
            refine lv_aload_n hx hb dX8_wrongIn_39 rfl (lv_at hl 0 rfl) ?_
            refine lv_aload_n hx hb dX8_wrongIn_40 rfl (lv_at hl 1 rfl) ?_
            refine lv_iload hx hb dX8_wrongIn_41 (lv_at hl 4 rfl) ?_
            refine lv_iconst (v := 1) hx hb dX8_wrongIn_43 (by decide) ?_
            refine lv_isub hx hb dX8_wrongIn_44 ?_
            have hin := And.left h
            replace h := And.right h
            refine va_lald hx hb hK hP (23 + p1) 1 (wX8_row hr1) rfl hin dX8_wrongIn_45 ?_
            refine lv_l2i hx hb dX8_wrongIn_46 rfl ?_
            refine lv_aload_n hx hb dX8_wrongIn_47 rfl (lv_at hl 1 rfl) ?_
            refine lv_iload hx hb dX8_wrongIn_48 (lv_at hl 4 rfl) ?_
            have hin := And.left h
            replace h := And.right h
            refine va_lald hx hb hK hP (23 + p1) 1 (wX8_row hr1) rfl hin dX8_wrongIn_50 ?_
            refine lv_l2i hx hb dX8_wrongIn_51 rfl ?_
            refine xend_ro_i (xRunV_id (As := [.int ((r0.2.2 (100 + p1) (x4 - (1 : Int32)).toNatClampNeg).toInt32), .int ((r0.2.2 (100 + p1) x4.toNatClampNeg).toInt32)]) (rest := []) C (c_X8_areBeside h) k_X8_areBeside mw_338 ⟨rfl, rfl⟩ ⟨Nat.le_of_ble_eq_true rfl, Nat.le_of_ble_eq_true rfl⟩ hP hD rfl rfl hl rfl rfl (Nat.le_of_ble_eq_true rfl) dX8_wrongIn_52 ⟨Nat.le_refl _, Nat.le_refl _⟩) (fun v9 h => ?_)
            refine lv_if_ne (tgt := 61) hx hb dX8_wrongIn_55 (by decide) (fun c10 => ?_) (fun c10 => ?_)
            · replace h := And.right h c10
              exact t_X8_wrongIn_61 C hr1 hP hD ihn _ _ _ (lv_sub hl [0, 1, 2, 3, 4] rfl) h
            · replace h := And.left h c10
              refine lv_iload hx hb dX8_wrongIn_58 (lv_at hl 4 rfl) ?_
              exact xro_i C h dX8_wrongIn_60
set_option maxHeartbeats 4000000 in
set_option maxRecDepth 100000 in
theorem c_X8_wrongIn {l : Launch} {D : va_G} {K : Nat → ClassId} {h0 : Nat} {a0 : Nat → Nat} {n0 : Nat → Option Nat} {la0 : Nat → Nat} {r0 : zS} {p1 : Nat} {p2 : Int32} {sz : Nat} {post : Int32 → Prop}  (hr1 : p1 < 8) (h : wp_X8_wrongIn r0 p1 p2 post) : Met l yX8_wrongIn (Cond.code yX8_wrongIn cX8_wrongIn 5 (some .int) :: wsL_law) ({ frames := 2, cells := 0, slots := 0, locals := 47 } : Room) (va_Pc [.ref h0, .ref (la0 p1), .int p2] (xPre D vwCl (xty K) (wX8 K h0 a0 n0 la0 r0 ++ (([] : va_W))) sz)) (roI post) 0 0 (fun _ => False) := by
  refine xMet (by decide) rfl (Nat.le_of_ble_eq_true rfl) (fun p e s m args below meth c C hnm hP hD hsz ls hl => ?_)
  have hl : lv_has ls 5 [(0, .ref h0), (1, .ref (la0 p1)), (2, .int p2)] := hl
  obtain ⟨hx, hb, hr, hml, hown, hts, hlocks, hK, hT⟩ := id C
  unfold wp_X8_wrongIn at h
  refine lv_iconst (v := 0) hx hb dX8_wrongIn_0 (by decide) ?_
  refine lv_istore_n (lv' := [(3, .int (0 : Int32)), (0, .ref h0), (1, .ref (la0 p1)), (2, .int p2)]) hx hb dX8_wrongIn_1 rfl hl (by decide) rfl (fun ls hl => ?_)
  refine lv_iconst (v := 0) hx hb dX8_wrongIn_2 (by decide) ?_
  refine lv_istore (lv' := [(4, .int (0 : Int32)), (3, .int (0 : Int32)), (0, .ref h0), (1, .ref (la0 p1)), (2, .int p2)]) hx hb dX8_wrongIn_3 hl (by decide) rfl (fun ls hl => ?_)
  obtain ⟨n0, h⟩ := h
  exact t_X8_wrongIn_5 C hr1 hP hD n0 _ _ _ (lv_sub hl [2, 3, 4, 1, 0] rfl) h

def wp_X8_judge (r0 : zS) (p1 : Int32) (p2 : Int32) (post : Int32 → (zS) → Prop) : Prop :=
  wp_X8_noWay r0 p1 p2 (fun v1 s2 => (v1 = 0 → vp_in p1 8 ∧ (∀ k4 : Nat, k4 = p1.toNatClampNeg → wp_X8_wrongIn s2 k4 p2 (fun v5 => post v5 s2))) ∧ (¬ v1 = 0 → post v1 s2))
set_option maxHeartbeats 4000000 in
set_option maxRecDepth 100000 in
theorem c_X8_judge {l : Launch} {D : va_G} {K : Nat → ClassId} {h0 : Nat} {a0 : Nat → Nat} {n0 : Nat → Option Nat} {la0 : Nat → Nat} {r0 : zS} {p1 : Int32} {p2 : Int32} {sz : Nat} {post : Int32 → (zS) → Prop}   (h : wp_X8_judge r0 p1 p2 post) : Met l yX8_judge (Cond.code yX8_judge cX8_judge 4 (some .int) :: wsL_law) ({ frames := 3, cells := 0, slots := 0, locals := 71 } : Room) (va_Pc [.ref h0, .int p1, .int p2] (xPre D vwCl (xty K) (wX8 K h0 a0 n0 la0 r0 ++ (([] : va_W))) sz)) (va_Qi (fun r (u : (zS)) => post r u) (fun (u : (zS)) t => va_P D vwCl (wX8 K h0 a0 n0 la0 u ++ (([] : va_W))) t.heap) (va_A (wX8 K h0 a0 n0 la0 r0 ++ (([] : va_W))) sz)) 0 0 (va_A (wX8 K h0 a0 n0 la0 r0 ++ (([] : va_W))) sz) := by
  refine xMet (by decide) rfl (Nat.le_of_ble_eq_true rfl) (fun p e s m args below meth c C hnm hP hD hsz ls hl => ?_)
  have hl : lv_has ls 4 [(0, .ref h0), (1, .int p1), (2, .int p2)] := hl
  obtain ⟨hx, hb, hr, hml, hown, hts, hlocks, hK, hT⟩ := id C
  subst hsz
  generalize hAe : va_A (wX8 K h0 a0 n0 la0 r0 ++ (([] : va_W))) s.heap.size = A at hD ⊢
  have hA : ∀ q : Nat, s.heap.size ≤ q → A q := fun q h => by rw [← hAe]; exact Or.inr h
  have hS : va_S A s.heap s.heap [] := va_S.rf
  have hP : va_P D vwCl (wX8 K h0 a0 n0 la0 r0 ++ (([] : va_W))) s.heap := hP
  unfold wp_X8_judge at h
  refine lv_aload_n hx hb dX8_judge_0 rfl (lv_at hl 0 rfl) ?_
  refine lv_iload_n hx hb dX8_judge_1 rfl (lv_at hl 1 rfl) ?_
  refine lv_iload_n hx hb dX8_judge_2 rfl (lv_at hl 2 rfl) ?_
  refine xend_rw_i_id (wf := fun (u : (zS)) => (wX8 K h0 a0 n0 la0 u ++ (([] : va_W)))) (xRunV_id (As := [.int p1, .int p2]) (rest := []) C (c_X8_noWay h) k_X8_noWay mw_1048 ⟨rfl, rfl⟩ ⟨Nat.le_of_ble_eq_true rfl, Nat.le_of_ble_eq_true rfl⟩ hP hD rfl rfl hl rfl rfl (Nat.le_of_ble_eq_true rfl) dX8_judge_3 ⟨Nat.le_refl _, Nat.le_refl _⟩) hD hS hA (fun _ => wX8_adr _ _) (fun v1 s2 H locs h hP hD hS => ?_)
  refine lv_istore_n (lv' := [(3, .int v1), (0, .ref h0), (1, .int p1), (2, .int p2)]) hx hb dX8_judge_6 rfl hl (by decide) rfl (fun ls hl => ?_)
  refine lv_iload_n hx hb dX8_judge_7 rfl (lv_at hl 0 rfl) ?_
  refine lv_if_eq (tgt := 15) hx hb dX8_judge_8 (by decide) (fun c3 => ?_) (fun c3 => ?_)
  · replace h := And.left h c3
    refine lv_aload_n hx hb dX8_judge_15 rfl (lv_at hl 1 rfl) ?_
    refine lv_aload_n hx hb dX8_judge_16 rfl (lv_at hl 1 rfl) ?_
    refine gX8_3 C hP dX8_judge_17 ?_
    refine lv_iload_n hx hb dX8_judge_20 rfl (lv_at hl 2 rfl) ?_
    have hin := And.left h
    obtain ⟨k4, ek4⟩ : ∃ j : Nat, j = p1.toNatClampNeg := ⟨_, rfl⟩
    replace h := And.right h k4 ek4
    have hk4 : k4 < 8 := by rw [ek4]; exact Nat.not_le.mp (fun q => hin (Or.inr q))
    refine aX8_3 C hP hin ek4 dX8_judge_21 ?_
    refine lv_iload_n hx hb dX8_judge_22 rfl (lv_at hl 3 rfl) ?_
    refine xend_ro_i (xRunV_id (As := [.ref (la0 k4), .int p2]) (rest := []) C (c_X8_wrongIn hk4 h) k_X8_wrongIn mw_1052 ⟨rfl, rfl⟩ ⟨Nat.le_of_ble_eq_true rfl, Nat.le_of_ble_eq_true rfl⟩ hP hD rfl rfl hl rfl rfl (Nat.le_of_ble_eq_true rfl) dX8_judge_23 ⟨Nat.le_refl _, Nat.le_refl _⟩) (fun v5 h => ?_)
    exact xrw_i C s2 h hP hS dX8_judge_26
  · replace h := And.right h c3
    refine lv_iload_n hx hb dX8_judge_11 rfl (lv_at hl 0 rfl) ?_
    refine lv_goto (tgt := 26) hx hb dX8_judge_12 (by decide) ?_
    exact xrw_i C s2 h hP hS dX8_judge_26

def wp_X8_told_51 (p1 : Int32) (p2 : Int32) (p3 : Int32) (p4 : Int32) (post : Int32 → (zS) → Prop) (r0 : zS) : Prop :=
  wp_X8_refuse r0 (-2 : Int32) (fun v3 s4 => post v3 s4)
def wp_X8_told_215 (p1 : Int32) (p2 : Int32) (p3 : Int32) (p4 : Int32) (post : Int32 → (zS) → Prop) (k110 : (zS) → Int32 → Int32 → Int64 → Int32 → Prop) (r0 : zS) (x6 : Int32) (x8 : Int64) (x10 : Int32) (y0 : Int32) (y1 : Int32) : Prop :=
  ∀ v29 : Int32, v29 = (y1 ||| y0) → ∀ v30 : Int32, v30 = x10 + (1 : Int32) → k110 r0 x6 v29 x8 v30
def wp_X8_told_214 (p1 : Int32) (p2 : Int32) (p3 : Int32) (p4 : Int32) (post : Int32 → (zS) → Prop) (k110 : (zS) → Int32 → Int32 → Int64 → Int32 → Prop) (r0 : zS) (x6 : Int32) (x8 : Int64) (x10 : Int32) (y0 : Int32) : Prop :=
  wp_X8_told_215 p1 p2 p3 p4 post k110 r0 x6 x8 x10 (0 : Int32) y0
def wp_X8_told_151 (p1 : Int32) (p2 : Int32) (p3 : Int32) (p4 : Int32) (post : Int32 → (zS) → Prop) (k110 : (zS) → Int32 → Int32 → Int64 → Int32 → Prop) (r0 : zS) (x6 : Int32) (x7 : Int32) (x10 : Int32) (x11 : Int32) (y0 : Int32) (y1 : Int32) (y2 : Int32) (y3 : Int32) (y4 : Int64) : Prop :=
  wp_X8_lossAt r0 y2 y1 y0 (fun v23 => ∀ v24 : Int64, v24 = ((y4 * ((y3 - v23).toInt64)) / (1000 : Int64)) → vp_in p1 8 ∧ (∀ k25 : Nat, k25 = p1.toNatClampNeg → vp_in (x10 - (1 : Int32)) 40 ∧ (wp_X8_takes r0 ((r0.2.2 (100 + k25) (x10 - (1 : Int32)).toNatClampNeg).toInt32) (fun v26 => ∀ v27 : Int32, v27 = (x6 + v26) → ((p2 - (1 : Int32)) ≤ x10 → wp_X8_told_214 p1 p2 p3 p4 post k110 r0 v27 v24 x10 x7) ∧ (¬ (p2 - (1 : Int32)) ≤ x10 → vp_in x11 12 ∧ (wp_X8_reads (r0.2.1 11 x11.toNatClampNeg) (fun v31 => (v31 = 0 → wp_X8_told_214 p1 p2 p3 p4 post k110 r0 v27 v24 x10 x7) ∧ (¬ v31 = 0 → wp_X8_told_215 p1 p2 p3 p4 post k110 r0 v27 v24 x10 ((1 : Int32) <<< (x11 &&& 31)) x7))))))))
def wb_X8_told_110 (p1 : Int32) (p2 : Int32) (p3 : Int32) (p4 : Int32) (post : Int32 → (zS) → Prop) (ih : (zS) → Int32 → Int32 → Int64 → Int32 → Prop) (r0 : zS) (x6 : Int32) (x7 : Int32) (x8 : Int64) (x10 : Int32) : Prop :=
  (p2 ≤ x10 → (p4 = 0 → post (x8.toInt32) r0) ∧ (¬ p4 = 0 → (p4 = (1 : Int32) → post (x6 - p3) r0) ∧ (¬ p4 = (1 : Int32) → post x7 r0))) ∧ (¬ p2 ≤ x10 → vp_in p1 8 ∧ (∀ k20 : Nat, k20 = p1.toNatClampNeg → vp_in x10 40 ∧ (∀ v21 : Int32, v21 = ((r0.2.2 (100 + k20) x10.toNatClampNeg).toInt32) → (x10 = (p2 - (1 : Int32)) → wp_X8_told_151 p1 p2 p3 p4 post ih r0 x6 x7 x10 v21 (1 : Int32) x6 v21 (1000 : Int32) x8) ∧ (¬ x10 = (p2 - (1 : Int32)) → wp_X8_told_151 p1 p2 p3 p4 post ih r0 x6 x7 x10 v21 (0 : Int32) x6 v21 (1000 : Int32) x8))))
def wp_X8_told_110 (p1 : Int32) (p2 : Int32) (p3 : Int32) (p4 : Int32) (post : Int32 → (zS) → Prop) (n : Nat) : (zS) → Int32 → Int32 → Int64 → Int32 → Prop := Nat.rec (motive := fun _ => (zS) → Int32 → Int32 → Int64 → Int32 → Prop) (fun _ _ _ _ _ => False) (fun _ ih => wb_X8_told_110 p1 p2 p3 p4 post ih) n
theorem wu_X8_told_110 (p1 : Int32) (p2 : Int32) (p3 : Int32) (p4 : Int32) (post : Int32 → (zS) → Prop) (n : Nat) (r0 : zS) (x6 : Int32) (x7 : Int32) (x8 : Int64) (x10 : Int32) : wp_X8_told_110 p1 p2 p3 p4 post (n + 1) r0 x6 x7 x8 x10 = wb_X8_told_110 p1 p2 p3 p4 post (wp_X8_told_110 p1 p2 p3 p4 post n) r0 x6 x7 x8 x10 := rfl
def wp_X8_told (r0 : zS) (p1 : Int32) (p2 : Int32) (p3 : Int32) (p4 : Int32) (post : Int32 → (zS) → Prop) : Prop :=
  wp_X8_in (p1.toInt64) (0 : Int64) (7 : Int64) (fun v1 => (v1 = 0 → wp_X8_told_51 p1 p2 p3 p4 post r0) ∧ (¬ v1 = 0 → wp_X8_in (p2.toInt64) (2 : Int64) (9 : Int64) (fun v5 => (v5 = 0 → wp_X8_told_51 p1 p2 p3 p4 post r0) ∧ (¬ v5 = 0 → wp_X8_in (p3.toInt64) (0 : Int64) (9999 : Int64) (fun v7 => (v7 = 0 → wp_X8_told_51 p1 p2 p3 p4 post r0) ∧ (¬ v7 = 0 → wp_X8_in (p4.toInt64) (0 : Int64) (2 : Int64) (fun v9 => (v9 = 0 → wp_X8_told_51 p1 p2 p3 p4 post r0) ∧ (¬ v9 = 0 → wp_X8_noWay r0 p1 p2 (fun v11 s12 => (v11 = 0 → vp_in p1 8 ∧ (∀ k14 : Nat, k14 = p1.toNatClampNeg → wp_X8_wrongIn s12 k14 p2 (fun v15 => (v15 = (-1 : Int32) → ∃ n : Nat, wp_X8_told_110 p1 p2 p3 p4 post n s12 p3 (0 : Int32) (1000000 : Int64) (1 : Int32)) ∧ (¬ v15 = (-1 : Int32) → wp_X8_refuse s12 (-5 : Int32) (fun v33 s34 => post v33 s34))))) ∧ (¬ v11 = 0 → post v11 s12))))))))))
set_option maxHeartbeats 4000000 in
set_option maxRecDepth 100000 in
theorem t_X8_told_51 {p : Program} {l : Launch} {e : Env} {s : State} {m : MethodId} {args : Array Value} {below : List Frame} {meth : Method} {c : Code} {D : va_G} {K : Nat → ClassId} {h0 : Nat} {a0 : Nat → Nat} {n0 : Nat → Option Nat} {la0 : Nat → Nat} {p1 : Int32} {p2 : Int32} {p3 : Int32} {p4 : Int32} {post : Int32 → (zS) → Prop} {A : Nat → Prop} (C : xC p s m args meth c cX8_told RX8 12 (some .int) D vwCl (xty K)) (hA : ∀ q, s.heap.size ≤ q → A q) : ∀ (r0 : zS) (H : Heap) (locs : List Loc) (ls : Array Slot), lv_has ls 12 [(0, .ref h0)] → va_P D vwCl (wX8 K h0 a0 n0 la0 r0 ++ (([] : va_W))) H → va_D A (wX8 K h0 a0 n0 la0 r0 ++ (([] : va_W))) → va_S A s.heap H locs → wp_X8_told_51 p1 p2 p3 p4 post r0 → W p l e ({ frames := 3, cells := 0, slots := 0, locals := 71 } : Room) s m args below meth c H locs 0 0 (MQ below (va_Qi (fun r (u : (zS)) => post r u) (fun (u : (zS)) t => va_P D vwCl (wX8 K h0 a0 n0 la0 u ++ (([] : va_W))) t.heap) A) args s 0 0 A) (F0 m 51 ls []) := by
  obtain ⟨hx, hb, hr, hml, hown, hts, hlocks, hK, hT⟩ := id C
  intro r0 H locs ls hl hP hD hS h
  unfold wp_X8_told_51 at h
  refine lv_aload_n hx hb dX8_told_51 rfl (lv_at hl 0 rfl) ?_
  refine lv_bipush (v := -2) hx hb dX8_told_52 (by decide) ?_
  refine xend_rw_i_id (wf := fun (u : (zS)) => (wX8 K h0 a0 n0 la0 u ++ (([] : va_W)))) (xRunV_id (As := [.int (-2 : Int32)]) (rest := []) C (c_X8_refuse h) k_X8_refuse mw_165 ⟨rfl, rfl⟩ ⟨Nat.le_of_ble_eq_true rfl, Nat.le_of_ble_eq_true rfl⟩ hP hD rfl rfl hl rfl rfl (Nat.le_of_ble_eq_true rfl) dX8_told_54 ⟨Nat.le_refl _, Nat.le_refl _⟩) hD hS hA (fun _ => wX8_adr _ _) (fun v3 s4 H locs h hP hD hS => ?_)
  exact xrw_i C s4 h hP hS dX8_told_57
set_option maxHeartbeats 4000000 in
set_option maxRecDepth 100000 in
theorem t_X8_told_215 {p : Program} {l : Launch} {e : Env} {s : State} {m : MethodId} {args : Array Value} {below : List Frame} {meth : Method} {c : Code} {D : va_G} {K : Nat → ClassId} {h0 : Nat} {a0 : Nat → Nat} {n0 : Nat → Option Nat} {la0 : Nat → Nat} {p1 : Int32} {p2 : Int32} {p3 : Int32} {p4 : Int32} {post : Int32 → (zS) → Prop} {A : Nat → Prop} (C : xC p s m args meth c cX8_told RX8 12 (some .int) D vwCl (xty K)) (hA : ∀ q, s.heap.size ≤ q → A q) {k110 : (zS) → Int32 → Int32 → Int64 → Int32 → Prop} (hk110 : ∀ (r0 : zS) (x6 : Int32) (x7 : Int32) (x8 : Int64) (x10 : Int32) (H : Heap) (locs : List Loc) (ls : Array Slot), lv_has ls 12 [(0, .ref h0), (1, .int p1), (2, .int p2), (3, .int p3), (4, .int p4), (6, .int x6), (7, .int x7), (8, .long x8), (10, .int x10)] → va_P D vwCl (wX8 K h0 a0 n0 la0 r0 ++ (([] : va_W))) H → va_D A (wX8 K h0 a0 n0 la0 r0 ++ (([] : va_W))) → va_S A s.heap H locs → k110 r0 x6 x7 x8 x10  → W p l e ({ frames := 3, cells := 0, slots := 0, locals := 71 } : Room) s m args below meth c H locs 0 0 (MQ below (va_Qi (fun r (u : (zS)) => post r u) (fun (u : (zS)) t => va_P D vwCl (wX8 K h0 a0 n0 la0 u ++ (([] : va_W))) t.heap) A) args s 0 0 A) (F0 m 110 ls [])) : ∀ (r0 : zS) (x6 : Int32) (x8 : Int64) (x10 : Int32) (y0 : Int32) (y1 : Int32) (H : Heap) (locs : List Loc) (ls : Array Slot), lv_has ls 12 [(0, .ref h0), (1, .int p1), (2, .int p2), (3, .int p3), (4, .int p4), (6, .int x6), (8, .long x8), (10, .int x10)] → va_P D vwCl (wX8 K h0 a0 n0 la0 r0 ++ (([] : va_W))) H → va_D A (wX8 K h0 a0 n0 la0 r0 ++ (([] : va_W))) → va_S A s.heap H locs → wp_X8_told_215 p1 p2 p3 p4 post k110 r0 x6 x8 x10 y0 y1 → W p l e ({ frames := 3, cells := 0, slots := 0, locals := 71 } : Room) s m args below meth c H locs 0 0 (MQ below (va_Qi (fun r (u : (zS)) => post r u) (fun (u : (zS)) t => va_P D vwCl (wX8 K h0 a0 n0 la0 u ++ (([] : va_W))) t.heap) A) args s 0 0 A) (F0 m 215 ls [.int y0, .int y1]) := by
  obtain ⟨hx, hb, hr, hml, hown, hts, hlocks, hK, hT⟩ := id C
  intro r0 x6 x8 x10 y0 y1 H locs ls hl hP hD hS h
  unfold wp_X8_told_215 at h
  refine lv_ior hx hb dX8_told_215 ?_
  refine lv_topi (fun v29 ev29 => ?_)
  replace h := h v29 ev29
  refine lv_istore (lv' := [(7, .int v29), (0, .ref h0), (1, .int p1), (2, .int p2), (3, .int p3), (4, .int p4), (6, .int x6), (8, .long x8), (10, .int x10)]) hx hb dX8_told_216 hl (by decide) rfl (fun ls hl => ?_)
  obtain ⟨v30, ev30⟩ : ∃ y : Int32, y = x10 + (1 : Int32) := ⟨_, rfl⟩
  replace h := h v30 ev30
  refine lv_iinc (v := v30) (lv' := [(10, .int v30), (7, .int v29), (0, .ref h0), (1, .int p1), (2, .int p2), (3, .int p3), (4, .int p4), (6, .int x6), (8, .long x8)]) hx hb dX8_told_218 hl (k := 8) rfl (by rw [ev30]; rfl) (by decide) rfl (fun ls hl => ?_)
  refine lv_goto (tgt := 110) hx hb dX8_told_221 (by decide) ?_
  exact hk110 _ _ _ _ _ _ _ _ (lv_sub hl [2, 3, 4, 5, 6, 7, 1, 8, 0] rfl) hP hD hS h
set_option maxHeartbeats 4000000 in
set_option maxRecDepth 100000 in
theorem t_X8_told_214 {p : Program} {l : Launch} {e : Env} {s : State} {m : MethodId} {args : Array Value} {below : List Frame} {meth : Method} {c : Code} {D : va_G} {K : Nat → ClassId} {h0 : Nat} {a0 : Nat → Nat} {n0 : Nat → Option Nat} {la0 : Nat → Nat} {p1 : Int32} {p2 : Int32} {p3 : Int32} {p4 : Int32} {post : Int32 → (zS) → Prop} {A : Nat → Prop} (C : xC p s m args meth c cX8_told RX8 12 (some .int) D vwCl (xty K)) (hA : ∀ q, s.heap.size ≤ q → A q) {k110 : (zS) → Int32 → Int32 → Int64 → Int32 → Prop} (hk110 : ∀ (r0 : zS) (x6 : Int32) (x7 : Int32) (x8 : Int64) (x10 : Int32) (H : Heap) (locs : List Loc) (ls : Array Slot), lv_has ls 12 [(0, .ref h0), (1, .int p1), (2, .int p2), (3, .int p3), (4, .int p4), (6, .int x6), (7, .int x7), (8, .long x8), (10, .int x10)] → va_P D vwCl (wX8 K h0 a0 n0 la0 r0 ++ (([] : va_W))) H → va_D A (wX8 K h0 a0 n0 la0 r0 ++ (([] : va_W))) → va_S A s.heap H locs → k110 r0 x6 x7 x8 x10  → W p l e ({ frames := 3, cells := 0, slots := 0, locals := 71 } : Room) s m args below meth c H locs 0 0 (MQ below (va_Qi (fun r (u : (zS)) => post r u) (fun (u : (zS)) t => va_P D vwCl (wX8 K h0 a0 n0 la0 u ++ (([] : va_W))) t.heap) A) args s 0 0 A) (F0 m 110 ls [])) : ∀ (r0 : zS) (x6 : Int32) (x8 : Int64) (x10 : Int32) (y0 : Int32) (H : Heap) (locs : List Loc) (ls : Array Slot), lv_has ls 12 [(0, .ref h0), (1, .int p1), (2, .int p2), (3, .int p3), (4, .int p4), (6, .int x6), (8, .long x8), (10, .int x10)] → va_P D vwCl (wX8 K h0 a0 n0 la0 r0 ++ (([] : va_W))) H → va_D A (wX8 K h0 a0 n0 la0 r0 ++ (([] : va_W))) → va_S A s.heap H locs → wp_X8_told_214 p1 p2 p3 p4 post k110 r0 x6 x8 x10 y0 → W p l e ({ frames := 3, cells := 0, slots := 0, locals := 71 } : Room) s m args below meth c H locs 0 0 (MQ below (va_Qi (fun r (u : (zS)) => post r u) (fun (u : (zS)) t => va_P D vwCl (wX8 K h0 a0 n0 la0 u ++ (([] : va_W))) t.heap) A) args s 0 0 A) (F0 m 214 ls [.int y0]) := by
  obtain ⟨hx, hb, hr, hml, hown, hts, hlocks, hK, hT⟩ := id C
  intro r0 x6 x8 x10 y0 H locs ls hl hP hD hS h
  unfold wp_X8_told_214 at h
  refine lv_iconst (v := 0) hx hb dX8_told_214 (by decide) ?_
  exact t_X8_told_215 C hA hk110 _ _ _ _ _ _ _ _ _ (lv_sub hl [0, 1, 2, 3, 4, 5, 6, 7] rfl) hP hD hS h
set_option maxHeartbeats 4000000 in
set_option maxRecDepth 100000 in
theorem t_X8_told_151 {p : Program} {l : Launch} {e : Env} {s : State} {m : MethodId} {args : Array Value} {below : List Frame} {meth : Method} {c : Code} {D : va_G} {K : Nat → ClassId} {h0 : Nat} {a0 : Nat → Nat} {n0 : Nat → Option Nat} {la0 : Nat → Nat} {p1 : Int32} {p2 : Int32} {p3 : Int32} {p4 : Int32} {post : Int32 → (zS) → Prop} {A : Nat → Prop} (C : xC p s m args meth c cX8_told RX8 12 (some .int) D vwCl (xty K)) (hA : ∀ q, s.heap.size ≤ q → A q) {k110 : (zS) → Int32 → Int32 → Int64 → Int32 → Prop} (hk110 : ∀ (r0 : zS) (x6 : Int32) (x7 : Int32) (x8 : Int64) (x10 : Int32) (H : Heap) (locs : List Loc) (ls : Array Slot), lv_has ls 12 [(0, .ref h0), (1, .int p1), (2, .int p2), (3, .int p3), (4, .int p4), (6, .int x6), (7, .int x7), (8, .long x8), (10, .int x10)] → va_P D vwCl (wX8 K h0 a0 n0 la0 r0 ++ (([] : va_W))) H → va_D A (wX8 K h0 a0 n0 la0 r0 ++ (([] : va_W))) → va_S A s.heap H locs → k110 r0 x6 x7 x8 x10  → W p l e ({ frames := 3, cells := 0, slots := 0, locals := 71 } : Room) s m args below meth c H locs 0 0 (MQ below (va_Qi (fun r (u : (zS)) => post r u) (fun (u : (zS)) t => va_P D vwCl (wX8 K h0 a0 n0 la0 u ++ (([] : va_W))) t.heap) A) args s 0 0 A) (F0 m 110 ls [])) : ∀ (r0 : zS) (x6 : Int32) (x7 : Int32) (x10 : Int32) (x11 : Int32) (y0 : Int32) (y1 : Int32) (y2 : Int32) (y3 : Int32) (y4 : Int64) (H : Heap) (locs : List Loc) (ls : Array Slot), lv_has ls 12 [(0, .ref h0), (1, .int p1), (2, .int p2), (3, .int p3), (4, .int p4), (6, .int x6), (7, .int x7), (10, .int x10), (11, .int x11)] → va_P D vwCl (wX8 K h0 a0 n0 la0 r0 ++ (([] : va_W))) H → va_D A (wX8 K h0 a0 n0 la0 r0 ++ (([] : va_W))) → va_S A s.heap H locs → wp_X8_told_151 p1 p2 p3 p4 post k110 r0 x6 x7 x10 x11 y0 y1 y2 y3 y4 → W p l e ({ frames := 3, cells := 0, slots := 0, locals := 71 } : Room) s m args below meth c H locs 0 0 (MQ below (va_Qi (fun r (u : (zS)) => post r u) (fun (u : (zS)) t => va_P D vwCl (wX8 K h0 a0 n0 la0 u ++ (([] : va_W))) t.heap) A) args s 0 0 A) (F0 m 151 ls [.int y0, .int y1, .int y2, .ref h0, .int y3, .long y4]) := by
  obtain ⟨hx, hb, hr, hml, hown, hts, hlocks, hK, hT⟩ := id C
  intro r0 x6 x7 x10 x11 y0 y1 y2 y3 y4 H locs ls hl hP hD hS h
  unfold wp_X8_told_151 at h
  refine xend_ro_i (xRunV_id (As := [.int y2, .int y1, .int y0]) (rest := [.int y3, .long y4]) C (c_X8_lossAt h) k_X8_lossAt mw_743 ⟨rfl, rfl⟩ ⟨Nat.le_of_ble_eq_true rfl, Nat.le_of_ble_eq_true rfl⟩ hP hD rfl rfl hl rfl rfl (Nat.le_of_ble_eq_true rfl) dX8_told_151 ⟨Nat.le_refl _, Nat.le_refl _⟩) (fun v23 h => ?_)
  refine lv_isub hx hb dX8_told_154 ?_
  refine lv_i2l hx hb dX8_told_155 rfl ?_
  refine lv_lmul hx hb dX8_told_156 ?_
  refine lv_ldc2 hx hb hown (hts _ mw_484) dX8_told_157 ?_
  refine lv_ldiv hx hb dX8_told_160 (by decide) ?_
  refine lv_topl (fun v24 ev24 => ?_)
  replace h := h v24 ev24
  refine lv_lstore (lv' := [(8, .long v24), (0, .ref h0), (1, .int p1), (2, .int p2), (3, .int p3), (4, .int p4), (6, .int x6), (7, .int x7), (10, .int x10), (11, .int x11)]) hx hb dX8_told_161 hl (by decide) rfl (fun ls hl => ?_)
  refine lv_iload hx hb dX8_told_163 (lv_at hl 6 rfl) ?_
  refine lv_aload_n hx hb dX8_told_165 rfl (lv_at hl 1 rfl) ?_
  refine lv_aload_n hx hb dX8_told_166 rfl (lv_at hl 1 rfl) ?_
  refine gX8_3 C hP dX8_told_167 ?_
  refine lv_iload_n hx hb dX8_told_170 rfl (lv_at hl 2 rfl) ?_
  have hin := And.left h
  obtain ⟨k25, ek25⟩ : ∃ j : Nat, j = p1.toNatClampNeg := ⟨_, rfl⟩
  replace h := And.right h k25 ek25
  have hk25 : k25 < 8 := by rw [ek25]; exact Nat.not_le.mp (fun q => hin (Or.inr q))
  refine aX8_3 C hP hin ek25 dX8_told_171 ?_
  refine lv_iload hx hb dX8_told_172 (lv_at hl 8 rfl) ?_
  refine lv_iconst (v := 1) hx hb dX8_told_174 (by decide) ?_
  refine lv_isub hx hb dX8_told_175 ?_
  have hin := And.left h
  replace h := And.right h
  refine va_lald hx hb hK hP (23 + k25) 1 (wX8_row hk25) rfl hin dX8_told_176 ?_
  refine lv_l2i hx hb dX8_told_177 rfl ?_
  refine xend_ro_i (xRunV_id (As := [.int ((r0.2.2 (100 + k25) (x10 - (1 : Int32)).toNatClampNeg).toInt32)]) (rest := [.int x6]) C (c_X8_takes h) k_X8_takes mw_348 ⟨rfl, rfl⟩ ⟨Nat.le_of_ble_eq_true rfl, Nat.le_of_ble_eq_true rfl⟩ hP hD rfl rfl hl rfl rfl (Nat.le_of_ble_eq_true rfl) dX8_told_178 ⟨Nat.le_refl _, Nat.le_refl _⟩) (fun v26 h => ?_)
  refine lv_iadd hx hb dX8_told_181 ?_
  refine lv_topi (fun v27 ev27 => ?_)
  replace h := h v27 ev27
  refine lv_istore (lv' := [(6, .int v27), (8, .long v24), (0, .ref h0), (1, .int p1), (2, .int p2), (3, .int p3), (4, .int p4), (7, .int x7), (10, .int x10), (11, .int x11)]) hx hb dX8_told_182 hl (by decide) rfl (fun ls hl => ?_)
  refine lv_iload hx hb dX8_told_184 (lv_at hl 7 rfl) ?_
  refine lv_iload hx hb dX8_told_186 (lv_at hl 8 rfl) ?_
  refine lv_iload_n hx hb dX8_told_188 rfl (lv_at hl 4 rfl) ?_
  refine lv_iconst (v := 1) hx hb dX8_told_189 (by decide) ?_
  refine lv_isub hx hb dX8_told_190 ?_
  refine lv_icmp_ge (tgt := 214) hx hb dX8_told_191 (by decide) (fun c28 => ?_) (fun c28 => ?_)
  · replace h := And.left h c28
    exact t_X8_told_214 C hA hk110 _ _ _ _ _ _ _ _ (lv_sub hl [2, 3, 4, 5, 6, 0, 1, 8] rfl) hP hD hS h
  · replace h := And.right h c28
    refine lv_aload_n hx hb dX8_told_194 rfl (lv_at hl 2 rfl) ?_
    refine gX8_11 C hP dX8_told_195 ?_
    refine lv_iload hx hb dX8_told_198 (lv_at hl 9 rfl) ?_
    have hin := And.left h
    replace h := And.right h
    refine lX8_11 C hP hin dX8_told_200 ?_
    refine xend_ro_i (xRunS (wc := ([] : va_W)) (As := [.int (r0.2.1 11 x11.toNatClampNeg)]) (rest := [.int x7]) C (c_X8_reads h) k_X8_reads mw_331 ⟨rfl, rfl⟩ ⟨Nat.le_of_ble_eq_true rfl, Nat.le_of_ble_eq_true rfl⟩ hP hD [] rfl rfl hl rfl rfl (Nat.le_of_ble_eq_true rfl) dX8_told_201 ⟨Nat.le_refl _, Nat.le_refl _⟩) (fun v31 h => ?_)
    refine lv_if_eq (tgt := 214) hx hb dX8_told_204 (by decide) (fun c32 => ?_) (fun c32 => ?_)
    · replace h := And.left h c32
      exact t_X8_told_214 C hA hk110 _ _ _ _ _ _ _ _ (lv_sub hl [2, 3, 4, 5, 6, 0, 1, 8] rfl) hP hD hS h
    · replace h := And.right h c32
      refine lv_iconst (v := 1) hx hb dX8_told_207 (by decide) ?_
      refine lv_iload hx hb dX8_told_208 (lv_at hl 9 rfl) ?_
      refine lv_ishl hx hb dX8_told_210 ?_
      refine lv_goto (tgt := 215) hx hb dX8_told_211 (by decide) ?_
      exact t_X8_told_215 C hA hk110 _ _ _ _ _ _ _ _ _ (lv_sub hl [2, 3, 4, 5, 6, 0, 1, 8] rfl) hP hD hS h
set_option maxHeartbeats 4000000 in
set_option maxRecDepth 100000 in
theorem t_X8_told_110 {p : Program} {l : Launch} {e : Env} {s : State} {m : MethodId} {args : Array Value} {below : List Frame} {meth : Method} {c : Code} {D : va_G} {K : Nat → ClassId} {h0 : Nat} {a0 : Nat → Nat} {n0 : Nat → Option Nat} {la0 : Nat → Nat} {p1 : Int32} {p2 : Int32} {p3 : Int32} {p4 : Int32} {post : Int32 → (zS) → Prop} {A : Nat → Prop} (C : xC p s m args meth c cX8_told RX8 12 (some .int) D vwCl (xty K)) (hA : ∀ q, s.heap.size ≤ q → A q) : ∀ (n : Nat) (r0 : zS) (x6 : Int32) (x7 : Int32) (x8 : Int64) (x10 : Int32) (H : Heap) (locs : List Loc) (ls : Array Slot), lv_has ls 12 [(0, .ref h0), (1, .int p1), (2, .int p2), (3, .int p3), (4, .int p4), (6, .int x6), (7, .int x7), (8, .long x8), (10, .int x10)] → va_P D vwCl (wX8 K h0 a0 n0 la0 r0 ++ (([] : va_W))) H → va_D A (wX8 K h0 a0 n0 la0 r0 ++ (([] : va_W))) → va_S A s.heap H locs → wp_X8_told_110 p1 p2 p3 p4 post n r0 x6 x7 x8 x10 → W p l e ({ frames := 3, cells := 0, slots := 0, locals := 71 } : Room) s m args below meth c H locs 0 0 (MQ below (va_Qi (fun r (u : (zS)) => post r u) (fun (u : (zS)) t => va_P D vwCl (wX8 K h0 a0 n0 la0 u ++ (([] : va_W))) t.heap) A) args s 0 0 A) (F0 m 110 ls []) := by
  obtain ⟨hx, hb, hr, hml, hown, hts, hlocks, hK, hT⟩ := id C
  intro n
  induction n with
  | zero =>
    intro r0 x6 x7 x8 x10 H locs ls hl hP hD hS h
    exact False.elim h
  | succ n ihn =>
    intro r0 x6 x7 x8 x10 H locs ls hl hP hD hS h
    rw [wu_X8_told_110] at h
    unfold wb_X8_told_110 at h
    refine lv_iload hx hb dX8_told_110 (lv_at hl 8 rfl) ?_
    refine lv_iload_n hx hb dX8_told_112 rfl (lv_at hl 2 rfl) ?_
    refine lv_icmp_ge (tgt := 224) hx hb dX8_told_113 (by decide) (fun c17 => ?_) (fun c17 => ?_)
    · replace h := And.left h c17
      refine lv_iload hx hb dX8_told_224 (lv_at hl 4 rfl) ?_
      refine lv_if_ne (tgt := 235) hx hb dX8_told_226 (by decide) (fun c18 => ?_) (fun c18 => ?_)
      · replace h := And.right h c18
        refine lv_iload hx hb dX8_told_235 (lv_at hl 4 rfl) ?_
        refine lv_iconst (v := 1) hx hb dX8_told_237 (by decide) ?_
        refine lv_icmp_ne (tgt := 248) hx hb dX8_told_238 (by decide) (fun c19 => ?_) (fun c19 => ?_)
        · replace h := And.right h c19
          refine lv_iload hx hb dX8_told_248 (lv_at hl 6 rfl) ?_
          exact xrw_i C r0 h hP hS dX8_told_250
        · replace h := And.left h c19
          refine lv_iload hx hb dX8_told_241 (lv_at hl 5 rfl) ?_
          refine lv_iload_n hx hb dX8_told_243 rfl (lv_at hl 3 rfl) ?_
          refine lv_isub hx hb dX8_told_244 ?_
          refine lv_goto (tgt := 250) hx hb dX8_told_245 (by decide) ?_
          exact xrw_i C r0 h hP hS dX8_told_250
      · replace h := And.left h c18
        refine lv_lload hx hb dX8_told_229 (lv_at hl 7 rfl) ?_
        refine lv_l2i hx hb dX8_told_231 rfl ?_
        refine lv_goto (tgt := 250) hx hb dX8_told_232 (by decide) ?_
        exact xrw_i C r0 h hP hS dX8_told_250
    · replace h := And.right h c17
      refine lv_aload_n hx hb dX8_told_116 rfl (lv_at hl 0 rfl) ?_
      refine gX8_3 C hP dX8_told_117 ?_
      refine lv_iload_n hx hb dX8_told_120 rfl (lv_at hl 1 rfl) ?_
      have hin := And.left h
      obtain ⟨k20, ek20⟩ : ∃ j : Nat, j = p1.toNatClampNeg := ⟨_, rfl⟩
      replace h := And.right h k20 ek20
      have hk20 : k20 < 8 := by rw [ek20]; exact Nat.not_le.mp (fun q => hin (Or.inr q))
      refine aX8_3 C hP hin ek20 dX8_told_121 ?_
      refine lv_iload hx hb dX8_told_122 (lv_at hl 8 rfl) ?_
      have hin := And.left h
      replace h := And.right h
      refine va_lald hx hb hK hP (23 + k20) 1 (wX8_row hk20) rfl hin dX8_told_124 ?_
      refine lv_l2i hx hb dX8_told_125 rfl ?_
      refine lv_topi (fun v21 ev21 => ?_)
      replace h := h v21 ev21
      refine lv_istore (lv' := [(11, .int v21), (0, .ref h0), (1, .int p1), (2, .int p2), (3, .int p3), (4, .int p4), (6, .int x6), (7, .int x7), (8, .long x8), (10, .int x10)]) hx hb dX8_told_126 hl (by decide) rfl (fun ls hl => ?_)
      refine lv_lload hx hb dX8_told_128 (lv_at hl 8 rfl) ?_
      refine lv_sipush (v := 1000) hx hb dX8_told_130 (by decide) ?_
      refine lv_aload_n hx hb dX8_told_133 rfl (lv_at hl 1 rfl) ?_
      refine lv_iload hx hb dX8_told_134 (lv_at hl 0 rfl) ?_
      refine lv_iload hx hb dX8_told_136 (lv_at hl 6 rfl) ?_
      refine lv_iload hx hb dX8_told_138 (lv_at hl 9 rfl) ?_
      refine lv_iload_n hx hb dX8_told_140 rfl (lv_at hl 3 rfl) ?_
      refine lv_iconst (v := 1) hx hb dX8_told_141 (by decide) ?_
      refine lv_isub hx hb dX8_told_142 ?_
      refine lv_icmp_ne (tgt := 150) hx hb dX8_told_143 (by decide) (fun c22 => ?_) (fun c22 => ?_)
      · replace h := And.right h c22
        refine lv_iconst (v := 0) hx hb dX8_told_150 (by decide) ?_
        exact t_X8_told_151 C hA ihn _ _ _ _ _ _ _ _ _ _ _ _ _ (lv_sub hl [1, 2, 3, 4, 5, 6, 7, 9, 0] rfl) hP hD hS h
      · replace h := And.left h c22
        refine lv_iconst (v := 1) hx hb dX8_told_146 (by decide) ?_
        refine lv_goto (tgt := 151) hx hb dX8_told_147 (by decide) ?_
        exact t_X8_told_151 C hA ihn _ _ _ _ _ _ _ _ _ _ _ _ _ (lv_sub hl [1, 2, 3, 4, 5, 6, 7, 9, 0] rfl) hP hD hS h
set_option maxHeartbeats 4000000 in
set_option maxRecDepth 100000 in
theorem c_X8_told {l : Launch} {D : va_G} {K : Nat → ClassId} {h0 : Nat} {a0 : Nat → Nat} {n0 : Nat → Option Nat} {la0 : Nat → Nat} {r0 : zS} {p1 : Int32} {p2 : Int32} {p3 : Int32} {p4 : Int32} {sz : Nat} {post : Int32 → (zS) → Prop}   (h : wp_X8_told r0 p1 p2 p3 p4 post) : Met l yX8_told (Cond.code yX8_told cX8_told 12 (some .int) :: wsL_law) ({ frames := 3, cells := 0, slots := 0, locals := 71 } : Room) (va_Pc [.ref h0, .int p1, .int p2, .int p3, .int p4] (xPre D vwCl (xty K) (wX8 K h0 a0 n0 la0 r0 ++ (([] : va_W))) sz)) (va_Qi (fun r (u : (zS)) => post r u) (fun (u : (zS)) t => va_P D vwCl (wX8 K h0 a0 n0 la0 u ++ (([] : va_W))) t.heap) (va_A (wX8 K h0 a0 n0 la0 r0 ++ (([] : va_W))) sz)) 0 0 (va_A (wX8 K h0 a0 n0 la0 r0 ++ (([] : va_W))) sz) := by
  refine xMet (by decide) rfl (Nat.le_of_ble_eq_true rfl) (fun p e s m args below meth c C hnm hP hD hsz ls hl => ?_)
  have hl : lv_has ls 12 [(0, .ref h0), (1, .int p1), (2, .int p2), (3, .int p3), (4, .int p4)] := hl
  obtain ⟨hx, hb, hr, hml, hown, hts, hlocks, hK, hT⟩ := id C
  subst hsz
  generalize hAe : va_A (wX8 K h0 a0 n0 la0 r0 ++ (([] : va_W))) s.heap.size = A at hD ⊢
  have hA : ∀ q : Nat, s.heap.size ≤ q → A q := fun q h => by rw [← hAe]; exact Or.inr h
  have hS : va_S A s.heap s.heap [] := va_S.rf
  have hP : va_P D vwCl (wX8 K h0 a0 n0 la0 r0 ++ (([] : va_W))) s.heap := hP
  unfold wp_X8_told at h
  refine lv_iload_n hx hb dX8_told_0 rfl (lv_at hl 1 rfl) ?_
  refine lv_i2l hx hb dX8_told_1 rfl ?_
  refine lv_lconst (v := 0) hx hb dX8_told_2 (by decide) ?_
  refine lv_ldc2 hx hb hown (hts _ mw_159) dX8_told_3 ?_
  refine xend_ro_i (xRunS (wc := ([] : va_W)) (As := [.long (p1.toInt64), .long (0 : Int64), .long (7 : Int64)]) (rest := []) C (c_X8_in h) k_X8_in mw_162 ⟨rfl, rfl⟩ ⟨Nat.le_of_ble_eq_true rfl, Nat.le_of_ble_eq_true rfl⟩ hP hD [] rfl rfl hl rfl rfl (Nat.le_of_ble_eq_true rfl) dX8_told_6 ⟨Nat.le_refl _, Nat.le_refl _⟩) (fun v1 h => ?_)
  refine lv_if_eq (tgt := 51) hx hb dX8_told_9 (by decide) (fun c2 => ?_) (fun c2 => ?_)
  · replace h := And.left h c2
    exact t_X8_told_51 C hA _ _ _ _ (lv_sub hl [0] rfl) hP hD hS h
  · replace h := And.right h c2
    refine lv_iload_n hx hb dX8_told_12 rfl (lv_at hl 2 rfl) ?_
    refine lv_i2l hx hb dX8_told_13 rfl ?_
    refine lv_ldc2 hx hb hown (hts _ mw_369) dX8_told_14 ?_
    refine lv_ldc2 hx hb hown (hts _ mw_412) dX8_told_17 ?_
    refine xend_ro_i (xRunS (wc := ([] : va_W)) (As := [.long (p2.toInt64), .long (2 : Int64), .long (9 : Int64)]) (rest := []) C (c_X8_in h) k_X8_in mw_162 ⟨rfl, rfl⟩ ⟨Nat.le_of_ble_eq_true rfl, Nat.le_of_ble_eq_true rfl⟩ hP hD [] rfl rfl hl rfl rfl (Nat.le_of_ble_eq_true rfl) dX8_told_20 ⟨Nat.le_refl _, Nat.le_refl _⟩) (fun v5 h => ?_)
    refine lv_if_eq (tgt := 51) hx hb dX8_told_23 (by decide) (fun c6 => ?_) (fun c6 => ?_)
    · replace h := And.left h c6
      exact t_X8_told_51 C hA _ _ _ _ (lv_sub hl [0] rfl) hP hD hS h
    · replace h := And.right h c6
      refine lv_iload_n hx hb dX8_told_26 rfl (lv_at hl 3 rfl) ?_
      refine lv_i2l hx hb dX8_told_27 rfl ?_
      refine lv_lconst (v := 0) hx hb dX8_told_28 (by decide) ?_
      refine lv_ldc2 hx hb hown (hts _ mw_742) dX8_told_29 ?_
      refine xend_ro_i (xRunS (wc := ([] : va_W)) (As := [.long (p3.toInt64), .long (0 : Int64), .long (9999 : Int64)]) (rest := []) C (c_X8_in h) k_X8_in mw_162 ⟨rfl, rfl⟩ ⟨Nat.le_of_ble_eq_true rfl, Nat.le_of_ble_eq_true rfl⟩ hP hD [] rfl rfl hl rfl rfl (Nat.le_of_ble_eq_true rfl) dX8_told_32 ⟨Nat.le_refl _, Nat.le_refl _⟩) (fun v7 h => ?_)
      refine lv_if_eq (tgt := 51) hx hb dX8_told_35 (by decide) (fun c8 => ?_) (fun c8 => ?_)
      · replace h := And.left h c8
        exact t_X8_told_51 C hA _ _ _ _ (lv_sub hl [0] rfl) hP hD hS h
      · replace h := And.right h c8
        refine lv_iload hx hb dX8_told_38 (lv_at hl 4 rfl) ?_
        refine lv_i2l hx hb dX8_told_40 rfl ?_
        refine lv_lconst (v := 0) hx hb dX8_told_41 (by decide) ?_
        refine lv_ldc2 hx hb hown (hts _ mw_369) dX8_told_42 ?_
        refine xend_ro_i (xRunS (wc := ([] : va_W)) (As := [.long (p4.toInt64), .long (0 : Int64), .long (2 : Int64)]) (rest := []) C (c_X8_in h) k_X8_in mw_162 ⟨rfl, rfl⟩ ⟨Nat.le_of_ble_eq_true rfl, Nat.le_of_ble_eq_true rfl⟩ hP hD [] rfl rfl hl rfl rfl (Nat.le_of_ble_eq_true rfl) dX8_told_45 ⟨Nat.le_refl _, Nat.le_refl _⟩) (fun v9 h => ?_)
        refine lv_if_ne (tgt := 58) hx hb dX8_told_48 (by decide) (fun c10 => ?_) (fun c10 => ?_)
        · replace h := And.right h c10
          refine lv_aload_n hx hb dX8_told_58 rfl (lv_at hl 0 rfl) ?_
          refine lv_iload_n hx hb dX8_told_59 rfl (lv_at hl 1 rfl) ?_
          refine lv_iload_n hx hb dX8_told_60 rfl (lv_at hl 2 rfl) ?_
          refine xend_rw_i_id (wf := fun (u : (zS)) => (wX8 K h0 a0 n0 la0 u ++ (([] : va_W)))) (xRunV_id (As := [.int p1, .int p2]) (rest := []) C (c_X8_noWay h) k_X8_noWay mw_1048 ⟨rfl, rfl⟩ ⟨Nat.le_of_ble_eq_true rfl, Nat.le_of_ble_eq_true rfl⟩ hP hD rfl rfl hl rfl rfl (Nat.le_of_ble_eq_true rfl) dX8_told_61 ⟨Nat.le_refl _, Nat.le_refl _⟩) hD hS hA (fun _ => wX8_adr _ _) (fun v11 s12 H locs h hP hD hS => ?_)
          refine lv_istore (lv' := [(5, .int v11), (0, .ref h0), (1, .int p1), (2, .int p2), (3, .int p3), (4, .int p4)]) hx hb dX8_told_64 hl (by decide) rfl (fun ls hl => ?_)
          refine lv_iload hx hb dX8_told_66 (lv_at hl 0 rfl) ?_
          refine lv_if_eq (tgt := 74) hx hb dX8_told_68 (by decide) (fun c13 => ?_) (fun c13 => ?_)
          · replace h := And.left h c13
            refine lv_aload_n hx hb dX8_told_74 rfl (lv_at hl 1 rfl) ?_
            refine lv_aload_n hx hb dX8_told_75 rfl (lv_at hl 1 rfl) ?_
            refine gX8_3 C hP dX8_told_76 ?_
            refine lv_iload_n hx hb dX8_told_79 rfl (lv_at hl 2 rfl) ?_
            have hin := And.left h
            obtain ⟨k14, ek14⟩ : ∃ j : Nat, j = p1.toNatClampNeg := ⟨_, rfl⟩
            replace h := And.right h k14 ek14
            have hk14 : k14 < 8 := by rw [ek14]; exact Nat.not_le.mp (fun q => hin (Or.inr q))
            refine aX8_3 C hP hin ek14 dX8_told_80 ?_
            refine lv_iload_n hx hb dX8_told_81 rfl (lv_at hl 3 rfl) ?_
            refine xend_ro_i (xRunV_id (As := [.ref (la0 k14), .int p2]) (rest := []) C (c_X8_wrongIn hk14 h) k_X8_wrongIn mw_1052 ⟨rfl, rfl⟩ ⟨Nat.le_of_ble_eq_true rfl, Nat.le_of_ble_eq_true rfl⟩ hP hD rfl rfl hl rfl rfl (Nat.le_of_ble_eq_true rfl) dX8_told_82 ⟨Nat.le_refl _, Nat.le_refl _⟩) (fun v15 h => ?_)
            refine lv_iconst (v := -1) hx hb dX8_told_85 (by decide) ?_
            refine lv_icmp_eq (tgt := 96) hx hb dX8_told_86 (by decide) (fun c16 => ?_) (fun c16 => ?_)
            · replace h := And.left h c16
              refine lv_iload_n hx hb dX8_told_96 rfl (lv_at hl 4 rfl) ?_
              refine lv_istore (lv' := [(6, .int p3), (5, .int v11), (0, .ref h0), (1, .int p1), (2, .int p2), (3, .int p3), (4, .int p4)]) hx hb dX8_told_97 hl (by decide) rfl (fun ls hl => ?_)
              refine lv_iconst (v := 0) hx hb dX8_told_99 (by decide) ?_
              refine lv_istore (lv' := [(7, .int (0 : Int32)), (6, .int p3), (5, .int v11), (0, .ref h0), (1, .int p1), (2, .int p2), (3, .int p3), (4, .int p4)]) hx hb dX8_told_100 hl (by decide) rfl (fun ls hl => ?_)
              refine lv_ldc2 hx hb hown (hts _ mw_925) dX8_told_102 ?_
              refine lv_lstore (lv' := [(8, .long (1000000 : Int64)), (7, .int (0 : Int32)), (6, .int p3), (5, .int v11), (0, .ref h0), (1, .int p1), (2, .int p2), (3, .int p3), (4, .int p4)]) hx hb dX8_told_105 hl (by decide) rfl (fun ls hl => ?_)
              refine lv_iconst (v := 1) hx hb dX8_told_107 (by decide) ?_
              refine lv_istore (lv' := [(10, .int (1 : Int32)), (8, .long (1000000 : Int64)), (7, .int (0 : Int32)), (6, .int p3), (5, .int v11), (0, .ref h0), (1, .int p1), (2, .int p2), (3, .int p3), (4, .int p4)]) hx hb dX8_told_108 hl (by decide) rfl (fun ls hl => ?_)
              obtain ⟨n0, h⟩ := h
              exact t_X8_told_110 C hA n0 _ _ _ _ _ _ _ _ (lv_sub hl [5, 6, 7, 8, 9, 3, 2, 1, 0] rfl) hP hD hS h
            · replace h := And.right h c16
              refine lv_aload_n hx hb dX8_told_89 rfl (lv_at hl 1 rfl) ?_
              refine lv_bipush (v := -5) hx hb dX8_told_90 (by decide) ?_
              refine xend_rw_i_id (wf := fun (u : (zS)) => (wX8 K h0 a0 n0 la0 u ++ (([] : va_W)))) (xRunV_id (As := [.int (-5 : Int32)]) (rest := []) C (c_X8_refuse h) k_X8_refuse mw_165 ⟨rfl, rfl⟩ ⟨Nat.le_of_ble_eq_true rfl, Nat.le_of_ble_eq_true rfl⟩ hP hD rfl rfl hl rfl rfl (Nat.le_of_ble_eq_true rfl) dX8_told_92 ⟨Nat.le_refl _, Nat.le_refl _⟩) hD hS hA (fun _ => wX8_adr _ _) (fun v33 s34 H locs h hP hD hS => ?_)
              exact xrw_i C s34 h hP hS dX8_told_95
          · replace h := And.right h c13
            refine lv_iload hx hb dX8_told_71 (lv_at hl 0 rfl) ?_
            exact xrw_i C s12 h hP hS dX8_told_73
        · replace h := And.left h c10
          exact t_X8_told_51 C hA _ _ _ _ (lv_sub hl [0] rfl) hP hD hS h

def wp_X8_changes (r0 : zS) (p1 : Int32) (p2 : Int32) (post : (zS) → Prop) : Prop :=
  vp_in p1 12 ∧ (∀ v1 : Int32, v1 = (r0.2.1 12 p1.toNatClampNeg) → vp_in p2 12 ∧ (∀ v2 : Int32, v2 = (r0.2.1 12 p2.toNatClampNeg) → vp_in p1 12 ∧ (∀ j3 : Nat, j3 = p1.toNatClampNeg → vp_in p2 12 ∧ (∀ j4 : Nat, j4 = p2.toNatClampNeg → post (zA (zA r0 12 j3 v2) 12 j4 v1)))))
set_option maxHeartbeats 4000000 in
set_option maxRecDepth 100000 in
theorem c_X8_changes {l : Launch} {D : va_G} {K : Nat → ClassId} {h0 : Nat} {a0 : Nat → Nat} {n0 : Nat → Option Nat} {la0 : Nat → Nat} {r0 : zS} {p1 : Int32} {p2 : Int32} {sz : Nat} {post : (zS) → Prop}   (h : wp_X8_changes r0 p1 p2 post) : Met l yX8_changes (Cond.code yX8_changes cX8_changes 4 none :: wsL_law) ({ frames := 0, cells := 0, slots := 0, locals := 0 } : Room) (va_Pc [.ref h0, .int p1, .int p2] (xPre D vwCl (xty K) (wX8 K h0 a0 n0 la0 r0 ++ (([] : va_W))) sz)) (va_Qv (fun (u : (zS)) => post u) (fun (u : (zS)) t => va_P D vwCl (wX8 K h0 a0 n0 la0 u ++ (([] : va_W))) t.heap) (va_A (wX8 K h0 a0 n0 la0 r0 ++ (([] : va_W))) sz)) 0 0 (va_A (wX8 K h0 a0 n0 la0 r0 ++ (([] : va_W))) sz) := by
  refine xMet (by decide) rfl (Nat.le_of_ble_eq_true rfl) (fun p e s m args below meth c C hnm hP hD hsz ls hl => ?_)
  have hl : lv_has ls 4 [(0, .ref h0), (1, .int p1), (2, .int p2)] := hl
  obtain ⟨hx, hb, hr, hml, hown, hts, hlocks, hK, hT⟩ := id C
  subst hsz
  generalize hAe : va_A (wX8 K h0 a0 n0 la0 r0 ++ (([] : va_W))) s.heap.size = A at hD ⊢
  have hA : ∀ q : Nat, s.heap.size ≤ q → A q := fun q h => by rw [← hAe]; exact Or.inr h
  have hS : va_S A s.heap s.heap [] := va_S.rf
  have hP : va_P D vwCl (wX8 K h0 a0 n0 la0 r0 ++ (([] : va_W))) s.heap := hP
  unfold wp_X8_changes at h
  refine lv_aload_n hx hb dX8_changes_0 rfl (lv_at hl 0 rfl) ?_
  refine gX8_12 C hP dX8_changes_1 ?_
  refine lv_iload_n hx hb dX8_changes_4 rfl (lv_at hl 1 rfl) ?_
  have hin := And.left h
  replace h := And.right h
  refine lX8_12 C hP hin dX8_changes_5 ?_
  refine lv_topi (fun v1 ev1 => ?_)
  replace h := h v1 ev1
  refine lv_istore_n (lv' := [(3, .int v1), (0, .ref h0), (1, .int p1), (2, .int p2)]) hx hb dX8_changes_6 rfl hl (by decide) rfl (fun ls hl => ?_)
  refine lv_aload_n hx hb dX8_changes_7 rfl (lv_at hl 1 rfl) ?_
  refine gX8_12 C hP dX8_changes_8 ?_
  refine lv_iload_n hx hb dX8_changes_11 rfl (lv_at hl 2 rfl) ?_
  refine lv_aload_n hx hb dX8_changes_12 rfl (lv_at hl 1 rfl) ?_
  refine gX8_12 C hP dX8_changes_13 ?_
  refine lv_iload_n hx hb dX8_changes_16 rfl (lv_at hl 3 rfl) ?_
  have hin := And.left h
  replace h := And.right h
  refine lX8_12 C hP hin dX8_changes_17 ?_
  refine lv_topi (fun v2 ev2 => ?_)
  replace h := h v2 ev2
  have hin := And.left h
  obtain ⟨j3, ej3⟩ : ∃ j : Nat, j = p1.toNatClampNeg := ⟨_, rfl⟩
  replace h := And.right h j3 ej3
  refine sX8_12 C hP hD hS hin ej3 dX8_changes_18 (fun H locs hP hD hS => ?_)
  refine lv_aload_n hx hb dX8_changes_19 rfl (lv_at hl 1 rfl) ?_
  refine gX8_12 C hP dX8_changes_20 ?_
  refine lv_iload_n hx hb dX8_changes_23 rfl (lv_at hl 3 rfl) ?_
  refine lv_iload_n hx hb dX8_changes_24 rfl (lv_at hl 0 rfl) ?_
  have hin := And.left h
  obtain ⟨j4, ej4⟩ : ∃ j : Nat, j = p2.toNatClampNeg := ⟨_, rfl⟩
  replace h := And.right h j4 ej4
  refine sX8_12 C hP hD hS hin ej4 dX8_changes_25 (fun H locs hP hD hS => ?_)
  exact xrw_v C (zA (zA r0 12 j3 v2) 12 j4 v1) h hP hS dX8_changes_26

def wp_X8_change_21 (p1 : Int32) (p2 : Int32) (p3 : Int32) (post : Int32 → (zS) → Prop) (r0 : zS) : Prop :=
  wp_X8_refuse r0 (-2 : Int32) (fun v3 s4 => post v3 s4)
def wp_X8_change_137 (p1 : Int32) (p2 : Int32) (p3 : Int32) (post : Int32 → (zS) → Prop) (k43 : (zS) → Int32 → Int32 → Int32 → Prop) (k58 : (zS) → Int32 → Int32 → Int32 → Int32 → Prop) (r0 : zS) (x4 : Int32) (x5 : Int32) (x6 : Int32) (x7 : Int32) : Prop :=
  ∀ v14 : Int32, v14 = x7 + (1 : Int32) → k58 r0 x4 x5 x6 v14
def wb_X8_change_58 (p1 : Int32) (p2 : Int32) (p3 : Int32) (post : Int32 → (zS) → Prop) (k43 : (zS) → Int32 → Int32 → Int32 → Prop) (ih : (zS) → Int32 → Int32 → Int32 → Int32 → Prop) (r0 : zS) (x4 : Int32) (x5 : Int32) (x6 : Int32) (x7 : Int32) : Prop :=
  ((r0.1 10) ≤ x7 → ∀ v12 : Int32, v12 = x6 + (1 : Int32) → k43 r0 x4 x5 v12) ∧ (¬ (r0.1 10) ≤ x7 → (x6 = p1 → wp_X8_change_137 p1 p2 p3 post k43 ih r0 x4 x5 x6 x7) ∧ (¬ x6 = p1 → (x6 = p2 → wp_X8_change_137 p1 p2 p3 post k43 ih r0 x4 x5 x6 x7) ∧ (¬ x6 = p2 → (x7 = p1 → wp_X8_change_137 p1 p2 p3 post k43 ih r0 x4 x5 x6 x7) ∧ (¬ x7 = p1 → (x7 = p2 → wp_X8_change_137 p1 p2 p3 post k43 ih r0 x4 x5 x6 x7) ∧ (¬ x7 = p2 → wp_X8_changes r0 x6 x7 (fun s19 => wp_X8_chanceNow s19 p1 p2 p3 (fun v20 s21 => wp_X8_changes s21 x6 x7 (fun s23 => (v20 ≤ x4 → wp_X8_change_137 p1 p2 p3 post k43 ih s23 x4 x5 x6 x7) ∧ (¬ v20 ≤ x4 → ∀ v25 : Int32, v25 = (((100 : Int32) * x6) + x7) → wp_X8_change_137 p1 p2 p3 post k43 ih s23 v20 v25 x6 x7)))))))))
def wp_X8_change_58 (p1 : Int32) (p2 : Int32) (p3 : Int32) (post : Int32 → (zS) → Prop) (k43 : (zS) → Int32 → Int32 → Int32 → Prop) (n : Nat) : (zS) → Int32 → Int32 → Int32 → Int32 → Prop := Nat.rec (motive := fun _ => (zS) → Int32 → Int32 → Int32 → Int32 → Prop) (fun _ _ _ _ _ => False) (fun _ ih => wb_X8_change_58 p1 p2 p3 post k43 ih) n
theorem wu_X8_change_58 (p1 : Int32) (p2 : Int32) (p3 : Int32) (post : Int32 → (zS) → Prop) (k43 : (zS) → Int32 → Int32 → Int32 → Prop) (n : Nat) (r0 : zS) (x4 : Int32) (x5 : Int32) (x6 : Int32) (x7 : Int32) : wp_X8_change_58 p1 p2 p3 post k43 (n + 1) r0 x4 x5 x6 x7 = wb_X8_change_58 p1 p2 p3 post k43 (wp_X8_change_58 p1 p2 p3 post k43 n) r0 x4 x5 x6 x7 := rfl
def wb_X8_change_43 (p1 : Int32) (p2 : Int32) (p3 : Int32) (post : Int32 → (zS) → Prop) (ih : (zS) → Int32 → Int32 → Int32 → Prop) (r0 : zS) (x4 : Int32) (x5 : Int32) (x6 : Int32) : Prop :=
  ((r0.1 10) ≤ x6 → post x5 r0) ∧ (¬ (r0.1 10) ≤ x6 → ∀ v10 : Int32, v10 = (x6 + (1 : Int32)) → ∃ n : Nat, wp_X8_change_58 p1 p2 p3 post ih n r0 x4 x5 x6 v10)
def wp_X8_change_43 (p1 : Int32) (p2 : Int32) (p3 : Int32) (post : Int32 → (zS) → Prop) (n : Nat) : (zS) → Int32 → Int32 → Int32 → Prop := Nat.rec (motive := fun _ => (zS) → Int32 → Int32 → Int32 → Prop) (fun _ _ _ _ => False) (fun _ ih => wb_X8_change_43 p1 p2 p3 post ih) n
theorem wu_X8_change_43 (p1 : Int32) (p2 : Int32) (p3 : Int32) (post : Int32 → (zS) → Prop) (n : Nat) (r0 : zS) (x4 : Int32) (x5 : Int32) (x6 : Int32) : wp_X8_change_43 p1 p2 p3 post (n + 1) r0 x4 x5 x6 = wb_X8_change_43 p1 p2 p3 post (wp_X8_change_43 p1 p2 p3 post n) r0 x4 x5 x6 := rfl
def wp_X8_change (r0 : zS) (p1 : Int32) (p2 : Int32) (p3 : Int32) (post : Int32 → (zS) → Prop) : Prop :=
  wp_X8_areTwo r0 p1 p2 (fun v1 => (v1 = 0 → wp_X8_change_21 p1 p2 p3 post r0) ∧ (¬ v1 = 0 → wp_X8_in (p3.toInt64) (0 : Int64) (9999 : Int64) (fun v5 => (v5 = 0 → wp_X8_change_21 p1 p2 p3 post r0) ∧ (¬ v5 = 0 → wp_X8_chanceNow r0 p1 p2 p3 (fun v7 s8 => ∃ n : Nat, wp_X8_change_43 p1 p2 p3 post n s8 v7 (-1 : Int32) (0 : Int32))))))
set_option maxHeartbeats 4000000 in
set_option maxRecDepth 100000 in
theorem t_X8_change_21 {p : Program} {l : Launch} {e : Env} {s : State} {m : MethodId} {args : Array Value} {below : List Frame} {meth : Method} {c : Code} {D : va_G} {K : Nat → ClassId} {h0 : Nat} {a0 : Nat → Nat} {n0 : Nat → Option Nat} {la0 : Nat → Nat} {p1 : Int32} {p2 : Int32} {p3 : Int32} {post : Int32 → (zS) → Prop} {A : Nat → Prop} (C : xC p s m args meth c cX8_change RX8 9 (some .int) D vwCl (xty K)) (hA : ∀ q, s.heap.size ≤ q → A q) : ∀ (r0 : zS) (H : Heap) (locs : List Loc) (ls : Array Slot), lv_has ls 9 [(0, .ref h0)] → va_P D vwCl (wX8 K h0 a0 n0 la0 r0 ++ (([] : va_W))) H → va_D A (wX8 K h0 a0 n0 la0 r0 ++ (([] : va_W))) → va_S A s.heap H locs → wp_X8_change_21 p1 p2 p3 post r0 → W p l e ({ frames := 16, cells := 0, slots := 0, locals := 563 } : Room) s m args below meth c H locs 0 0 (MQ below (va_Qi (fun r (u : (zS)) => post r u) (fun (u : (zS)) t => va_P D vwCl (wX8 K h0 a0 n0 la0 u ++ (([] : va_W))) t.heap) A) args s 0 0 A) (F0 m 21 ls []) := by
  obtain ⟨hx, hb, hr, hml, hown, hts, hlocks, hK, hT⟩ := id C
  intro r0 H locs ls hl hP hD hS h
  unfold wp_X8_change_21 at h
  refine lv_aload_n hx hb dX8_change_21 rfl (lv_at hl 0 rfl) ?_
  refine lv_bipush (v := -2) hx hb dX8_change_22 (by decide) ?_
  refine xend_rw_i_id (wf := fun (u : (zS)) => (wX8 K h0 a0 n0 la0 u ++ (([] : va_W)))) (xRunV_id (As := [.int (-2 : Int32)]) (rest := []) C (c_X8_refuse h) k_X8_refuse mw_165 ⟨rfl, rfl⟩ ⟨Nat.le_of_ble_eq_true rfl, Nat.le_of_ble_eq_true rfl⟩ hP hD rfl rfl hl rfl rfl (Nat.le_of_ble_eq_true rfl) dX8_change_24 ⟨Nat.le_refl _, Nat.le_refl _⟩) hD hS hA (fun _ => wX8_adr _ _) (fun v3 s4 H locs h hP hD hS => ?_)
  exact xrw_i C s4 h hP hS dX8_change_27
set_option maxHeartbeats 4000000 in
set_option maxRecDepth 100000 in
theorem t_X8_change_137 {p : Program} {l : Launch} {e : Env} {s : State} {m : MethodId} {args : Array Value} {below : List Frame} {meth : Method} {c : Code} {D : va_G} {K : Nat → ClassId} {h0 : Nat} {a0 : Nat → Nat} {n0 : Nat → Option Nat} {la0 : Nat → Nat} {p1 : Int32} {p2 : Int32} {p3 : Int32} {post : Int32 → (zS) → Prop} {A : Nat → Prop} (C : xC p s m args meth c cX8_change RX8 9 (some .int) D vwCl (xty K)) (hA : ∀ q, s.heap.size ≤ q → A q) {k43 : (zS) → Int32 → Int32 → Int32 → Prop} (hk43 : ∀ (r0 : zS) (x4 : Int32) (x5 : Int32) (x6 : Int32) (H : Heap) (locs : List Loc) (ls : Array Slot), lv_has ls 9 [(0, .ref h0), (1, .int p1), (2, .int p2), (3, .int p3), (4, .int x4), (5, .int x5), (6, .int x6)] → va_P D vwCl (wX8 K h0 a0 n0 la0 r0 ++ (([] : va_W))) H → va_D A (wX8 K h0 a0 n0 la0 r0 ++ (([] : va_W))) → va_S A s.heap H locs → k43 r0 x4 x5 x6  → W p l e ({ frames := 16, cells := 0, slots := 0, locals := 563 } : Room) s m args below meth c H locs 0 0 (MQ below (va_Qi (fun r (u : (zS)) => post r u) (fun (u : (zS)) t => va_P D vwCl (wX8 K h0 a0 n0 la0 u ++ (([] : va_W))) t.heap) A) args s 0 0 A) (F0 m 43 ls [])) {k58 : (zS) → Int32 → Int32 → Int32 → Int32 → Prop} (hk58 : ∀ (r0 : zS) (x4 : Int32) (x5 : Int32) (x6 : Int32) (x7 : Int32) (H : Heap) (locs : List Loc) (ls : Array Slot), lv_has ls 9 [(0, .ref h0), (1, .int p1), (2, .int p2), (3, .int p3), (4, .int x4), (5, .int x5), (6, .int x6), (7, .int x7)] → va_P D vwCl (wX8 K h0 a0 n0 la0 r0 ++ (([] : va_W))) H → va_D A (wX8 K h0 a0 n0 la0 r0 ++ (([] : va_W))) → va_S A s.heap H locs → k58 r0 x4 x5 x6 x7  → W p l e ({ frames := 16, cells := 0, slots := 0, locals := 563 } : Room) s m args below meth c H locs 0 0 (MQ below (va_Qi (fun r (u : (zS)) => post r u) (fun (u : (zS)) t => va_P D vwCl (wX8 K h0 a0 n0 la0 u ++ (([] : va_W))) t.heap) A) args s 0 0 A) (F0 m 58 ls [])) : ∀ (r0 : zS) (x4 : Int32) (x5 : Int32) (x6 : Int32) (x7 : Int32) (H : Heap) (locs : List Loc) (ls : Array Slot), lv_has ls 9 [(0, .ref h0), (1, .int p1), (2, .int p2), (3, .int p3), (4, .int x4), (5, .int x5), (6, .int x6), (7, .int x7)] → va_P D vwCl (wX8 K h0 a0 n0 la0 r0 ++ (([] : va_W))) H → va_D A (wX8 K h0 a0 n0 la0 r0 ++ (([] : va_W))) → va_S A s.heap H locs → wp_X8_change_137 p1 p2 p3 post k43 k58 r0 x4 x5 x6 x7 → W p l e ({ frames := 16, cells := 0, slots := 0, locals := 563 } : Room) s m args below meth c H locs 0 0 (MQ below (va_Qi (fun r (u : (zS)) => post r u) (fun (u : (zS)) t => va_P D vwCl (wX8 K h0 a0 n0 la0 u ++ (([] : va_W))) t.heap) A) args s 0 0 A) (F0 m 137 ls []) := by
  obtain ⟨hx, hb, hr, hml, hown, hts, hlocks, hK, hT⟩ := id C
  intro r0 x4 x5 x6 x7 H locs ls hl hP hD hS h
  unfold wp_X8_change_137 at h
  obtain ⟨v14, ev14⟩ : ∃ y : Int32, y = x7 + (1 : Int32) := ⟨_, rfl⟩
  replace h := h v14 ev14
  refine lv_iinc (v := v14) (lv' := [(7, .int v14), (0, .ref h0), (1, .int p1), (2, .int p2), (3, .int p3), (4, .int x4), (5, .int x5), (6, .int x6)]) hx hb dX8_change_137 hl (k := 7) rfl (by rw [ev14]; rfl) (by decide) rfl (fun ls hl => ?_)
  refine lv_goto (tgt := 58) hx hb dX8_change_140 (by decide) ?_
  exact hk58 _ _ _ _ _ _ _ _ (lv_sub hl [1, 2, 3, 4, 5, 6, 7, 0] rfl) hP hD hS h
set_option maxHeartbeats 4000000 in
set_option maxRecDepth 100000 in
theorem t_X8_change_58 {p : Program} {l : Launch} {e : Env} {s : State} {m : MethodId} {args : Array Value} {below : List Frame} {meth : Method} {c : Code} {D : va_G} {K : Nat → ClassId} {h0 : Nat} {a0 : Nat → Nat} {n0 : Nat → Option Nat} {la0 : Nat → Nat} {p1 : Int32} {p2 : Int32} {p3 : Int32} {post : Int32 → (zS) → Prop} {A : Nat → Prop} (C : xC p s m args meth c cX8_change RX8 9 (some .int) D vwCl (xty K)) (hA : ∀ q, s.heap.size ≤ q → A q) {k43 : (zS) → Int32 → Int32 → Int32 → Prop} (hk43 : ∀ (r0 : zS) (x4 : Int32) (x5 : Int32) (x6 : Int32) (H : Heap) (locs : List Loc) (ls : Array Slot), lv_has ls 9 [(0, .ref h0), (1, .int p1), (2, .int p2), (3, .int p3), (4, .int x4), (5, .int x5), (6, .int x6)] → va_P D vwCl (wX8 K h0 a0 n0 la0 r0 ++ (([] : va_W))) H → va_D A (wX8 K h0 a0 n0 la0 r0 ++ (([] : va_W))) → va_S A s.heap H locs → k43 r0 x4 x5 x6  → W p l e ({ frames := 16, cells := 0, slots := 0, locals := 563 } : Room) s m args below meth c H locs 0 0 (MQ below (va_Qi (fun r (u : (zS)) => post r u) (fun (u : (zS)) t => va_P D vwCl (wX8 K h0 a0 n0 la0 u ++ (([] : va_W))) t.heap) A) args s 0 0 A) (F0 m 43 ls [])) : ∀ (n : Nat) (r0 : zS) (x4 : Int32) (x5 : Int32) (x6 : Int32) (x7 : Int32) (H : Heap) (locs : List Loc) (ls : Array Slot), lv_has ls 9 [(0, .ref h0), (1, .int p1), (2, .int p2), (3, .int p3), (4, .int x4), (5, .int x5), (6, .int x6), (7, .int x7)] → va_P D vwCl (wX8 K h0 a0 n0 la0 r0 ++ (([] : va_W))) H → va_D A (wX8 K h0 a0 n0 la0 r0 ++ (([] : va_W))) → va_S A s.heap H locs → wp_X8_change_58 p1 p2 p3 post k43 n r0 x4 x5 x6 x7 → W p l e ({ frames := 16, cells := 0, slots := 0, locals := 563 } : Room) s m args below meth c H locs 0 0 (MQ below (va_Qi (fun r (u : (zS)) => post r u) (fun (u : (zS)) t => va_P D vwCl (wX8 K h0 a0 n0 la0 u ++ (([] : va_W))) t.heap) A) args s 0 0 A) (F0 m 58 ls []) := by
  obtain ⟨hx, hb, hr, hml, hown, hts, hlocks, hK, hT⟩ := id C
  intro n
  induction n with
  | zero =>
    intro r0 x4 x5 x6 x7 H locs ls hl hP hD hS h
    exact False.elim h
  | succ n ihn =>
    intro r0 x4 x5 x6 x7 H locs ls hl hP hD hS h
    rw [wu_X8_change_58] at h
    unfold wb_X8_change_58 at h
    refine lv_iload hx hb dX8_change_58 (lv_at hl 7 rfl) ?_
    refine lv_aload_n hx hb dX8_change_60 rfl (lv_at hl 0 rfl) ?_
    refine gX8_10 C hP dX8_change_61 ?_
    refine lv_icmp_ge (tgt := 143) hx hb dX8_change_64 (by decide) (fun c11 => ?_) (fun c11 => ?_)
    · replace h := And.left h c11
      obtain ⟨v12, ev12⟩ : ∃ y : Int32, y = x6 + (1 : Int32) := ⟨_, rfl⟩
      replace h := h v12 ev12
      refine lv_iinc (v := v12) (lv' := [(6, .int v12), (0, .ref h0), (1, .int p1), (2, .int p2), (3, .int p3), (4, .int x4), (5, .int x5), (7, .int x7)]) hx hb dX8_change_143 hl (k := 6) rfl (by rw [ev12]; rfl) (by decide) rfl (fun ls hl => ?_)
      refine lv_goto (tgt := 43) hx hb dX8_change_146 (by decide) ?_
      exact hk43 _ _ _ _ _ _ _ (lv_sub hl [1, 2, 3, 4, 5, 6, 0] rfl) hP hD hS h
    · replace h := And.right h c11
      refine lv_iload hx hb dX8_change_67 (lv_at hl 6 rfl) ?_
      refine lv_iload_n hx hb dX8_change_69 rfl (lv_at hl 1 rfl) ?_
      refine lv_icmp_eq (tgt := 137) hx hb dX8_change_70 (by decide) (fun c13 => ?_) (fun c13 => ?_)
      · replace h := And.left h c13
        exact t_X8_change_137 C hA hk43 ihn _ _ _ _ _ _ _ _ (lv_sub hl [0, 1, 2, 3, 4, 5, 6, 7] rfl) hP hD hS h
      · replace h := And.right h c13
        refine lv_iload hx hb dX8_change_73 (lv_at hl 6 rfl) ?_
        refine lv_iload_n hx hb dX8_change_75 rfl (lv_at hl 2 rfl) ?_
        refine lv_icmp_eq (tgt := 137) hx hb dX8_change_76 (by decide) (fun c15 => ?_) (fun c15 => ?_)
        · replace h := And.left h c15
          exact t_X8_change_137 C hA hk43 ihn _ _ _ _ _ _ _ _ (lv_sub hl [0, 1, 2, 3, 4, 5, 6, 7] rfl) hP hD hS h
        · replace h := And.right h c15
          refine lv_iload hx hb dX8_change_79 (lv_at hl 7 rfl) ?_
          refine lv_iload_n hx hb dX8_change_81 rfl (lv_at hl 1 rfl) ?_
          refine lv_icmp_eq (tgt := 137) hx hb dX8_change_82 (by decide) (fun c16 => ?_) (fun c16 => ?_)
          · replace h := And.left h c16
            exact t_X8_change_137 C hA hk43 ihn _ _ _ _ _ _ _ _ (lv_sub hl [0, 1, 2, 3, 4, 5, 6, 7] rfl) hP hD hS h
          · replace h := And.right h c16
            refine lv_iload hx hb dX8_change_85 (lv_at hl 7 rfl) ?_
            refine lv_iload_n hx hb dX8_change_87 rfl (lv_at hl 2 rfl) ?_
            refine lv_icmp_eq (tgt := 137) hx hb dX8_change_88 (by decide) (fun c17 => ?_) (fun c17 => ?_)
            · replace h := And.left h c17
              exact t_X8_change_137 C hA hk43 ihn _ _ _ _ _ _ _ _ (lv_sub hl [0, 1, 2, 3, 4, 5, 6, 7] rfl) hP hD hS h
            · replace h := And.right h c17
              refine lv_aload_n hx hb dX8_change_91 rfl (lv_at hl 0 rfl) ?_
              refine lv_iload hx hb dX8_change_92 (lv_at hl 6 rfl) ?_
              refine lv_iload hx hb dX8_change_94 (lv_at hl 7 rfl) ?_
              refine xend_rw_v_id (wf := fun (u : (zS)) => (wX8 K h0 a0 n0 la0 u ++ (([] : va_W)))) (xRunV_id (As := [.int x6, .int x7]) (rest := []) C (c_X8_changes h) k_X8_changes mw_1082 ⟨rfl, rfl⟩ ⟨Nat.le_of_ble_eq_true rfl, Nat.le_of_ble_eq_true rfl⟩ hP hD rfl rfl hl rfl rfl (Nat.le_of_ble_eq_true rfl) dX8_change_96 ⟨Nat.le_refl _, Nat.le_refl _⟩) hD hS hA (fun _ => wX8_adr _ _) (fun s19 H locs h hP hD hS => ?_)
              refine lv_aload_n hx hb dX8_change_99 rfl (lv_at hl 0 rfl) ?_
              refine lv_iload_n hx hb dX8_change_100 rfl (lv_at hl 1 rfl) ?_
              refine lv_iload_n hx hb dX8_change_101 rfl (lv_at hl 2 rfl) ?_
              refine lv_iload_n hx hb dX8_change_102 rfl (lv_at hl 3 rfl) ?_
              refine xend_rw_i_id (wf := fun (u : (zS)) => (wX8 K h0 a0 n0 la0 u ++ (([] : va_W)))) (xRunV_id (As := [.int p1, .int p2, .int p3]) (rest := []) C (c_X8_chanceNow h) k_X8_chanceNow mw_939 ⟨rfl, rfl⟩ ⟨Nat.le_of_ble_eq_true rfl, Nat.le_of_ble_eq_true rfl⟩ hP hD rfl rfl hl rfl rfl (Nat.le_of_ble_eq_true rfl) dX8_change_103 ⟨Nat.le_refl _, Nat.le_refl _⟩) hD hS hA (fun _ => wX8_adr _ _) (fun v20 s21 H locs h hP hD hS => ?_)
              refine lv_istore (lv' := [(8, .int v20), (0, .ref h0), (1, .int p1), (2, .int p2), (3, .int p3), (4, .int x4), (5, .int x5), (6, .int x6), (7, .int x7)]) hx hb dX8_change_106 hl (by decide) rfl (fun ls hl => ?_)
              refine lv_aload_n hx hb dX8_change_108 rfl (lv_at hl 1 rfl) ?_
              refine lv_iload hx hb dX8_change_109 (lv_at hl 7 rfl) ?_
              refine lv_iload hx hb dX8_change_111 (lv_at hl 8 rfl) ?_
              refine xend_rw_v_id (wf := fun (u : (zS)) => (wX8 K h0 a0 n0 la0 u ++ (([] : va_W)))) (xRunV_id (As := [.int x6, .int x7]) (rest := []) C (c_X8_changes h) k_X8_changes mw_1082 ⟨rfl, rfl⟩ ⟨Nat.le_of_ble_eq_true rfl, Nat.le_of_ble_eq_true rfl⟩ hP hD rfl rfl hl rfl rfl (Nat.le_of_ble_eq_true rfl) dX8_change_113 ⟨Nat.le_refl _, Nat.le_refl _⟩) hD hS hA (fun _ => wX8_adr _ _) (fun s23 H locs h hP hD hS => ?_)
              refine lv_iload hx hb dX8_change_116 (lv_at hl 0 rfl) ?_
              refine lv_iload hx hb dX8_change_118 (lv_at hl 5 rfl) ?_
              refine lv_icmp_le (tgt := 137) hx hb dX8_change_120 (by decide) (fun c24 => ?_) (fun c24 => ?_)
              · replace h := And.left h c24
                exact t_X8_change_137 C hA hk43 ihn _ _ _ _ _ _ _ _ (lv_sub hl [1, 2, 3, 4, 5, 6, 7, 8] rfl) hP hD hS h
              · replace h := And.right h c24
                refine lv_iload hx hb dX8_change_123 (lv_at hl 0 rfl) ?_
                refine lv_istore (lv' := [(4, .int v20), (8, .int v20), (0, .ref h0), (1, .int p1), (2, .int p2), (3, .int p3), (5, .int x5), (6, .int x6), (7, .int x7)]) hx hb dX8_change_125 hl (by decide) rfl (fun ls hl => ?_)
                refine lv_bipush (v := 100) hx hb dX8_change_127 (by decide) ?_
                refine lv_iload hx hb dX8_change_129 (lv_at hl 7 rfl) ?_
                refine lv_imul hx hb dX8_change_131 ?_
                refine lv_iload hx hb dX8_change_132 (lv_at hl 8 rfl) ?_
                refine lv_iadd hx hb dX8_change_134 ?_
                refine lv_topi (fun v25 ev25 => ?_)
                replace h := h v25 ev25
                refine lv_istore (lv' := [(5, .int v25), (4, .int v20), (8, .int v20), (0, .ref h0), (1, .int p1), (2, .int p2), (3, .int p3), (6, .int x6), (7, .int x7)]) hx hb dX8_change_135 hl (by decide) rfl (fun ls hl => ?_)
                exact t_X8_change_137 C hA hk43 ihn _ _ _ _ _ _ _ _ (lv_sub hl [3, 4, 5, 6, 1, 0, 7, 8] rfl) hP hD hS h
set_option maxHeartbeats 4000000 in
set_option maxRecDepth 100000 in
theorem t_X8_change_43 {p : Program} {l : Launch} {e : Env} {s : State} {m : MethodId} {args : Array Value} {below : List Frame} {meth : Method} {c : Code} {D : va_G} {K : Nat → ClassId} {h0 : Nat} {a0 : Nat → Nat} {n0 : Nat → Option Nat} {la0 : Nat → Nat} {p1 : Int32} {p2 : Int32} {p3 : Int32} {post : Int32 → (zS) → Prop} {A : Nat → Prop} (C : xC p s m args meth c cX8_change RX8 9 (some .int) D vwCl (xty K)) (hA : ∀ q, s.heap.size ≤ q → A q) : ∀ (n : Nat) (r0 : zS) (x4 : Int32) (x5 : Int32) (x6 : Int32) (H : Heap) (locs : List Loc) (ls : Array Slot), lv_has ls 9 [(0, .ref h0), (1, .int p1), (2, .int p2), (3, .int p3), (4, .int x4), (5, .int x5), (6, .int x6)] → va_P D vwCl (wX8 K h0 a0 n0 la0 r0 ++ (([] : va_W))) H → va_D A (wX8 K h0 a0 n0 la0 r0 ++ (([] : va_W))) → va_S A s.heap H locs → wp_X8_change_43 p1 p2 p3 post n r0 x4 x5 x6 → W p l e ({ frames := 16, cells := 0, slots := 0, locals := 563 } : Room) s m args below meth c H locs 0 0 (MQ below (va_Qi (fun r (u : (zS)) => post r u) (fun (u : (zS)) t => va_P D vwCl (wX8 K h0 a0 n0 la0 u ++ (([] : va_W))) t.heap) A) args s 0 0 A) (F0 m 43 ls []) := by
  obtain ⟨hx, hb, hr, hml, hown, hts, hlocks, hK, hT⟩ := id C
  intro n
  induction n with
  | zero =>
    intro r0 x4 x5 x6 H locs ls hl hP hD hS h
    exact False.elim h
  | succ n ihn =>
    intro r0 x4 x5 x6 H locs ls hl hP hD hS h
    rw [wu_X8_change_43] at h
    unfold wb_X8_change_43 at h
    refine lv_iload hx hb dX8_change_43 (lv_at hl 6 rfl) ?_
    refine lv_aload_n hx hb dX8_change_45 rfl (lv_at hl 0 rfl) ?_
    refine gX8_10 C hP dX8_change_46 ?_
    refine lv_icmp_ge (tgt := 149) hx hb dX8_change_49 (by decide) (fun c9 => ?_) (fun c9 => ?_)
    · replace h := And.left h c9
      refine lv_iload hx hb dX8_change_149 (lv_at hl 5 rfl) ?_
      exact xrw_i C r0 h hP hS dX8_change_151
    · replace h := And.right h c9
      refine lv_iload hx hb dX8_change_52 (lv_at hl 6 rfl) ?_
      refine lv_iconst (v := 1) hx hb dX8_change_54 (by decide) ?_
      refine lv_iadd hx hb dX8_change_55 ?_
      refine lv_topi (fun v10 ev10 => ?_)
      replace h := h v10 ev10
      refine lv_istore (lv' := [(7, .int v10), (0, .ref h0), (1, .int p1), (2, .int p2), (3, .int p3), (4, .int x4), (5, .int x5), (6, .int x6)]) hx hb dX8_change_56 hl (by decide) rfl (fun ls hl => ?_)
      obtain ⟨n0, h⟩ := h
      exact t_X8_change_58 C hA ihn n0 _ _ _ _ _ _ _ _ (lv_sub hl [1, 2, 3, 4, 5, 6, 7, 0] rfl) hP hD hS h
set_option maxHeartbeats 4000000 in
set_option maxRecDepth 100000 in
theorem c_X8_change {l : Launch} {D : va_G} {K : Nat → ClassId} {h0 : Nat} {a0 : Nat → Nat} {n0 : Nat → Option Nat} {la0 : Nat → Nat} {r0 : zS} {p1 : Int32} {p2 : Int32} {p3 : Int32} {sz : Nat} {post : Int32 → (zS) → Prop}   (h : wp_X8_change r0 p1 p2 p3 post) : Met l yX8_change (Cond.code yX8_change cX8_change 9 (some .int) :: wsL_law) ({ frames := 16, cells := 0, slots := 0, locals := 563 } : Room) (va_Pc [.ref h0, .int p1, .int p2, .int p3] (xPre D vwCl (xty K) (wX8 K h0 a0 n0 la0 r0 ++ (([] : va_W))) sz)) (va_Qi (fun r (u : (zS)) => post r u) (fun (u : (zS)) t => va_P D vwCl (wX8 K h0 a0 n0 la0 u ++ (([] : va_W))) t.heap) (va_A (wX8 K h0 a0 n0 la0 r0 ++ (([] : va_W))) sz)) 0 0 (va_A (wX8 K h0 a0 n0 la0 r0 ++ (([] : va_W))) sz) := by
  refine xMet (by decide) rfl (Nat.le_of_ble_eq_true rfl) (fun p e s m args below meth c C hnm hP hD hsz ls hl => ?_)
  have hl : lv_has ls 9 [(0, .ref h0), (1, .int p1), (2, .int p2), (3, .int p3)] := hl
  obtain ⟨hx, hb, hr, hml, hown, hts, hlocks, hK, hT⟩ := id C
  subst hsz
  generalize hAe : va_A (wX8 K h0 a0 n0 la0 r0 ++ (([] : va_W))) s.heap.size = A at hD ⊢
  have hA : ∀ q : Nat, s.heap.size ≤ q → A q := fun q h => by rw [← hAe]; exact Or.inr h
  have hS : va_S A s.heap s.heap [] := va_S.rf
  have hP : va_P D vwCl (wX8 K h0 a0 n0 la0 r0 ++ (([] : va_W))) s.heap := hP
  unfold wp_X8_change at h
  refine lv_aload_n hx hb dX8_change_0 rfl (lv_at hl 0 rfl) ?_
  refine lv_iload_n hx hb dX8_change_1 rfl (lv_at hl 1 rfl) ?_
  refine lv_iload_n hx hb dX8_change_2 rfl (lv_at hl 2 rfl) ?_
  refine xend_ro_i (xRunV_id (As := [.int p1, .int p2]) (rest := []) C (c_X8_areTwo h) k_X8_areTwo mw_449 ⟨rfl, rfl⟩ ⟨Nat.le_of_ble_eq_true rfl, Nat.le_of_ble_eq_true rfl⟩ hP hD rfl rfl hl rfl rfl (Nat.le_of_ble_eq_true rfl) dX8_change_3 ⟨Nat.le_refl _, Nat.le_refl _⟩) (fun v1 h => ?_)
  refine lv_if_eq (tgt := 21) hx hb dX8_change_6 (by decide) (fun c2 => ?_) (fun c2 => ?_)
  · replace h := And.left h c2
    exact t_X8_change_21 C hA _ _ _ _ (lv_sub hl [0] rfl) hP hD hS h
  · replace h := And.right h c2
    refine lv_iload_n hx hb dX8_change_9 rfl (lv_at hl 3 rfl) ?_
    refine lv_i2l hx hb dX8_change_10 rfl ?_
    refine lv_lconst (v := 0) hx hb dX8_change_11 (by decide) ?_
    refine lv_ldc2 hx hb hown (hts _ mw_742) dX8_change_12 ?_
    refine xend_ro_i (xRunS (wc := ([] : va_W)) (As := [.long (p3.toInt64), .long (0 : Int64), .long (9999 : Int64)]) (rest := []) C (c_X8_in h) k_X8_in mw_162 ⟨rfl, rfl⟩ ⟨Nat.le_of_ble_eq_true rfl, Nat.le_of_ble_eq_true rfl⟩ hP hD [] rfl rfl hl rfl rfl (Nat.le_of_ble_eq_true rfl) dX8_change_15 ⟨Nat.le_refl _, Nat.le_refl _⟩) (fun v5 h => ?_)
    refine lv_if_ne (tgt := 28) hx hb dX8_change_18 (by decide) (fun c6 => ?_) (fun c6 => ?_)
    · replace h := And.right h c6
      refine lv_aload_n hx hb dX8_change_28 rfl (lv_at hl 0 rfl) ?_
      refine lv_iload_n hx hb dX8_change_29 rfl (lv_at hl 1 rfl) ?_
      refine lv_iload_n hx hb dX8_change_30 rfl (lv_at hl 2 rfl) ?_
      refine lv_iload_n hx hb dX8_change_31 rfl (lv_at hl 3 rfl) ?_
      refine xend_rw_i_id (wf := fun (u : (zS)) => (wX8 K h0 a0 n0 la0 u ++ (([] : va_W)))) (xRunV_id (As := [.int p1, .int p2, .int p3]) (rest := []) C (c_X8_chanceNow h) k_X8_chanceNow mw_939 ⟨rfl, rfl⟩ ⟨Nat.le_of_ble_eq_true rfl, Nat.le_of_ble_eq_true rfl⟩ hP hD rfl rfl hl rfl rfl (Nat.le_of_ble_eq_true rfl) dX8_change_32 ⟨Nat.le_refl _, Nat.le_refl _⟩) hD hS hA (fun _ => wX8_adr _ _) (fun v7 s8 H locs h hP hD hS => ?_)
      refine lv_istore (lv' := [(4, .int v7), (0, .ref h0), (1, .int p1), (2, .int p2), (3, .int p3)]) hx hb dX8_change_35 hl (by decide) rfl (fun ls hl => ?_)
      refine lv_iconst (v := -1) hx hb dX8_change_37 (by decide) ?_
      refine lv_istore (lv' := [(5, .int (-1 : Int32)), (4, .int v7), (0, .ref h0), (1, .int p1), (2, .int p2), (3, .int p3)]) hx hb dX8_change_38 hl (by decide) rfl (fun ls hl => ?_)
      refine lv_iconst (v := 0) hx hb dX8_change_40 (by decide) ?_
      refine lv_istore (lv' := [(6, .int (0 : Int32)), (5, .int (-1 : Int32)), (4, .int v7), (0, .ref h0), (1, .int p1), (2, .int p2), (3, .int p3)]) hx hb dX8_change_41 hl (by decide) rfl (fun ls hl => ?_)
      obtain ⟨n0, h⟩ := h
      exact t_X8_change_43 C hA n0 _ _ _ _ _ _ _ (lv_sub hl [3, 4, 5, 6, 2, 1, 0] rfl) hP hD hS h
    · replace h := And.left h c6
      exact t_X8_change_21 C hA _ _ _ _ (lv_sub hl [0] rfl) hP hD hS h

def wp_X8_noTwoRows_36 (p1 : Int32) (p2 : Int32) (p3 : Int32) (post : Int32 → (zS) → Prop) (r0 : zS) : Prop :=
  wp_X8_refuse r0 (-2 : Int32) (fun v3 s4 => post v3 s4)
def wp_X8_noTwoRows_63 (p1 : Int32) (p2 : Int32) (p3 : Int32) (post : Int32 → (zS) → Prop) (r0 : zS) : Prop :=
  wp_X8_refuse r0 (-3 : Int32) (fun v10 s11 => post v10 s11)
def wp_X8_noTwoRows_88 (p1 : Int32) (p2 : Int32) (p3 : Int32) (post : Int32 → (zS) → Prop) (r0 : zS) : Prop :=
  wp_X8_refuse r0 (-4 : Int32) (fun v14 s15 => post v14 s15)
def wp_X8_noTwoRows (r0 : zS) (p1 : Int32) (p2 : Int32) (p3 : Int32) (post : Int32 → (zS) → Prop) : Prop :=
  wp_X8_in (p1.toInt64) (0 : Int64) (7 : Int64) (fun v1 => (v1 = 0 → wp_X8_noTwoRows_36 p1 p2 p3 post r0) ∧ (¬ v1 = 0 → wp_X8_in (p2.toInt64) (0 : Int64) (7 : Int64) (fun v5 => (v5 = 0 → wp_X8_noTwoRows_36 p1 p2 p3 post r0) ∧ (¬ v5 = 0 → wp_X8_in (p3.toInt64) (0 : Int64) (40 : Int64) (fun v7 => (v7 = 0 → wp_X8_noTwoRows_36 p1 p2 p3 post r0) ∧ (¬ v7 = 0 → vp_in p1 8 ∧ (((r0.2.1 0 p1.toNatClampNeg) = (2 : Int32) → wp_X8_noTwoRows_63 p1 p2 p3 post r0) ∧ (¬ (r0.2.1 0 p1.toNatClampNeg) = (2 : Int32) → vp_in p2 8 ∧ (((r0.2.1 0 p2.toNatClampNeg) = (2 : Int32) → wp_X8_noTwoRows_63 p1 p2 p3 post r0) ∧ (¬ (r0.2.1 0 p2.toNatClampNeg) = (2 : Int32) → vp_in p1 8 ∧ (((r0.2.1 0 p1.toNatClampNeg) = 0 → wp_X8_noTwoRows_88 p1 p2 p3 post r0) ∧ (¬ (r0.2.1 0 p1.toNatClampNeg) = 0 → vp_in p2 8 ∧ (((r0.2.1 0 p2.toNatClampNeg) = 0 → wp_X8_noTwoRows_88 p1 p2 p3 post r0) ∧ (¬ (r0.2.1 0 p2.toNatClampNeg) = 0 → vp_in p1 8 ∧ ((p3 ≤ (r0.2.1 2 p1.toNatClampNeg) → post (0 : Int32) r0) ∧ (¬ p3 ≤ (r0.2.1 2 p1.toNatClampNeg) → wp_X8_refuse r0 (-2 : Int32) (fun v18 s19 => post v18 s19)))))))))))))))))
set_option maxHeartbeats 4000000 in
set_option maxRecDepth 100000 in
theorem t_X8_noTwoRows_36 {p : Program} {l : Launch} {e : Env} {s : State} {m : MethodId} {args : Array Value} {below : List Frame} {meth : Method} {c : Code} {D : va_G} {K : Nat → ClassId} {h0 : Nat} {a0 : Nat → Nat} {n0 : Nat → Option Nat} {la0 : Nat → Nat} {p1 : Int32} {p2 : Int32} {p3 : Int32} {post : Int32 → (zS) → Prop} {A : Nat → Prop} (C : xC p s m args meth c cX8_noTwoRows RX8 4 (some .int) D vwCl (xty K)) (hA : ∀ q, s.heap.size ≤ q → A q) : ∀ (r0 : zS) (H : Heap) (locs : List Loc) (ls : Array Slot), lv_has ls 4 [(0, .ref h0)] → va_P D vwCl (wX8 K h0 a0 n0 la0 r0 ++ (([] : va_W))) H → va_D A (wX8 K h0 a0 n0 la0 r0 ++ (([] : va_W))) → va_S A s.heap H locs → wp_X8_noTwoRows_36 p1 p2 p3 post r0 → W p l e ({ frames := 1, cells := 0, slots := 0, locals := 25 } : Room) s m args below meth c H locs 0 0 (MQ below (va_Qi (fun r (u : (zS)) => post r u) (fun (u : (zS)) t => va_P D vwCl (wX8 K h0 a0 n0 la0 u ++ (([] : va_W))) t.heap) A) args s 0 0 A) (F0 m 36 ls []) := by
  obtain ⟨hx, hb, hr, hml, hown, hts, hlocks, hK, hT⟩ := id C
  intro r0 H locs ls hl hP hD hS h
  unfold wp_X8_noTwoRows_36 at h
  refine lv_aload_n hx hb dX8_noTwoRows_36 rfl (lv_at hl 0 rfl) ?_
  refine lv_bipush (v := -2) hx hb dX8_noTwoRows_37 (by decide) ?_
  refine xend_rw_i_id (wf := fun (u : (zS)) => (wX8 K h0 a0 n0 la0 u ++ (([] : va_W)))) (xRunV_id (As := [.int (-2 : Int32)]) (rest := []) C (c_X8_refuse h) k_X8_refuse mw_165 ⟨rfl, rfl⟩ ⟨Nat.le_of_ble_eq_true rfl, Nat.le_of_ble_eq_true rfl⟩ hP hD rfl rfl hl rfl rfl (Nat.le_of_ble_eq_true rfl) dX8_noTwoRows_39 ⟨Nat.le_refl _, Nat.le_refl _⟩) hD hS hA (fun _ => wX8_adr _ _) (fun v3 s4 H locs h hP hD hS => ?_)
  exact xrw_i C s4 h hP hS dX8_noTwoRows_42
set_option maxHeartbeats 4000000 in
set_option maxRecDepth 100000 in
theorem t_X8_noTwoRows_63 {p : Program} {l : Launch} {e : Env} {s : State} {m : MethodId} {args : Array Value} {below : List Frame} {meth : Method} {c : Code} {D : va_G} {K : Nat → ClassId} {h0 : Nat} {a0 : Nat → Nat} {n0 : Nat → Option Nat} {la0 : Nat → Nat} {p1 : Int32} {p2 : Int32} {p3 : Int32} {post : Int32 → (zS) → Prop} {A : Nat → Prop} (C : xC p s m args meth c cX8_noTwoRows RX8 4 (some .int) D vwCl (xty K)) (hA : ∀ q, s.heap.size ≤ q → A q) : ∀ (r0 : zS) (H : Heap) (locs : List Loc) (ls : Array Slot), lv_has ls 4 [(0, .ref h0)] → va_P D vwCl (wX8 K h0 a0 n0 la0 r0 ++ (([] : va_W))) H → va_D A (wX8 K h0 a0 n0 la0 r0 ++ (([] : va_W))) → va_S A s.heap H locs → wp_X8_noTwoRows_63 p1 p2 p3 post r0 → W p l e ({ frames := 1, cells := 0, slots := 0, locals := 25 } : Room) s m args below meth c H locs 0 0 (MQ below (va_Qi (fun r (u : (zS)) => post r u) (fun (u : (zS)) t => va_P D vwCl (wX8 K h0 a0 n0 la0 u ++ (([] : va_W))) t.heap) A) args s 0 0 A) (F0 m 63 ls []) := by
  obtain ⟨hx, hb, hr, hml, hown, hts, hlocks, hK, hT⟩ := id C
  intro r0 H locs ls hl hP hD hS h
  unfold wp_X8_noTwoRows_63 at h
  refine lv_aload_n hx hb dX8_noTwoRows_63 rfl (lv_at hl 0 rfl) ?_
  refine lv_bipush (v := -3) hx hb dX8_noTwoRows_64 (by decide) ?_
  refine xend_rw_i_id (wf := fun (u : (zS)) => (wX8 K h0 a0 n0 la0 u ++ (([] : va_W)))) (xRunV_id (As := [.int (-3 : Int32)]) (rest := []) C (c_X8_refuse h) k_X8_refuse mw_165 ⟨rfl, rfl⟩ ⟨Nat.le_of_ble_eq_true rfl, Nat.le_of_ble_eq_true rfl⟩ hP hD rfl rfl hl rfl rfl (Nat.le_of_ble_eq_true rfl) dX8_noTwoRows_66 ⟨Nat.le_refl _, Nat.le_refl _⟩) hD hS hA (fun _ => wX8_adr _ _) (fun v10 s11 H locs h hP hD hS => ?_)
  exact xrw_i C s11 h hP hS dX8_noTwoRows_69
set_option maxHeartbeats 4000000 in
set_option maxRecDepth 100000 in
theorem t_X8_noTwoRows_88 {p : Program} {l : Launch} {e : Env} {s : State} {m : MethodId} {args : Array Value} {below : List Frame} {meth : Method} {c : Code} {D : va_G} {K : Nat → ClassId} {h0 : Nat} {a0 : Nat → Nat} {n0 : Nat → Option Nat} {la0 : Nat → Nat} {p1 : Int32} {p2 : Int32} {p3 : Int32} {post : Int32 → (zS) → Prop} {A : Nat → Prop} (C : xC p s m args meth c cX8_noTwoRows RX8 4 (some .int) D vwCl (xty K)) (hA : ∀ q, s.heap.size ≤ q → A q) : ∀ (r0 : zS) (H : Heap) (locs : List Loc) (ls : Array Slot), lv_has ls 4 [(0, .ref h0)] → va_P D vwCl (wX8 K h0 a0 n0 la0 r0 ++ (([] : va_W))) H → va_D A (wX8 K h0 a0 n0 la0 r0 ++ (([] : va_W))) → va_S A s.heap H locs → wp_X8_noTwoRows_88 p1 p2 p3 post r0 → W p l e ({ frames := 1, cells := 0, slots := 0, locals := 25 } : Room) s m args below meth c H locs 0 0 (MQ below (va_Qi (fun r (u : (zS)) => post r u) (fun (u : (zS)) t => va_P D vwCl (wX8 K h0 a0 n0 la0 u ++ (([] : va_W))) t.heap) A) args s 0 0 A) (F0 m 88 ls []) := by
  obtain ⟨hx, hb, hr, hml, hown, hts, hlocks, hK, hT⟩ := id C
  intro r0 H locs ls hl hP hD hS h
  unfold wp_X8_noTwoRows_88 at h
  refine lv_aload_n hx hb dX8_noTwoRows_88 rfl (lv_at hl 0 rfl) ?_
  refine lv_bipush (v := -4) hx hb dX8_noTwoRows_89 (by decide) ?_
  refine xend_rw_i_id (wf := fun (u : (zS)) => (wX8 K h0 a0 n0 la0 u ++ (([] : va_W)))) (xRunV_id (As := [.int (-4 : Int32)]) (rest := []) C (c_X8_refuse h) k_X8_refuse mw_165 ⟨rfl, rfl⟩ ⟨Nat.le_of_ble_eq_true rfl, Nat.le_of_ble_eq_true rfl⟩ hP hD rfl rfl hl rfl rfl (Nat.le_of_ble_eq_true rfl) dX8_noTwoRows_91 ⟨Nat.le_refl _, Nat.le_refl _⟩) hD hS hA (fun _ => wX8_adr _ _) (fun v14 s15 H locs h hP hD hS => ?_)
  exact xrw_i C s15 h hP hS dX8_noTwoRows_94
set_option maxHeartbeats 4000000 in
set_option maxRecDepth 100000 in
theorem c_X8_noTwoRows {l : Launch} {D : va_G} {K : Nat → ClassId} {h0 : Nat} {a0 : Nat → Nat} {n0 : Nat → Option Nat} {la0 : Nat → Nat} {r0 : zS} {p1 : Int32} {p2 : Int32} {p3 : Int32} {sz : Nat} {post : Int32 → (zS) → Prop}   (h : wp_X8_noTwoRows r0 p1 p2 p3 post) : Met l yX8_noTwoRows (Cond.code yX8_noTwoRows cX8_noTwoRows 4 (some .int) :: wsL_law) ({ frames := 1, cells := 0, slots := 0, locals := 25 } : Room) (va_Pc [.ref h0, .int p1, .int p2, .int p3] (xPre D vwCl (xty K) (wX8 K h0 a0 n0 la0 r0 ++ (([] : va_W))) sz)) (va_Qi (fun r (u : (zS)) => post r u) (fun (u : (zS)) t => va_P D vwCl (wX8 K h0 a0 n0 la0 u ++ (([] : va_W))) t.heap) (va_A (wX8 K h0 a0 n0 la0 r0 ++ (([] : va_W))) sz)) 0 0 (va_A (wX8 K h0 a0 n0 la0 r0 ++ (([] : va_W))) sz) := by
  refine xMet (by decide) rfl (Nat.le_of_ble_eq_true rfl) (fun p e s m args below meth c C hnm hP hD hsz ls hl => ?_)
  have hl : lv_has ls 4 [(0, .ref h0), (1, .int p1), (2, .int p2), (3, .int p3)] := hl
  obtain ⟨hx, hb, hr, hml, hown, hts, hlocks, hK, hT⟩ := id C
  subst hsz
  generalize hAe : va_A (wX8 K h0 a0 n0 la0 r0 ++ (([] : va_W))) s.heap.size = A at hD ⊢
  have hA : ∀ q : Nat, s.heap.size ≤ q → A q := fun q h => by rw [← hAe]; exact Or.inr h
  have hS : va_S A s.heap s.heap [] := va_S.rf
  have hP : va_P D vwCl (wX8 K h0 a0 n0 la0 r0 ++ (([] : va_W))) s.heap := hP
  unfold wp_X8_noTwoRows at h
  refine lv_iload_n hx hb dX8_noTwoRows_0 rfl (lv_at hl 1 rfl) ?_
  refine lv_i2l hx hb dX8_noTwoRows_1 rfl ?_
  refine lv_lconst (v := 0) hx hb dX8_noTwoRows_2 (by decide) ?_
  refine lv_ldc2 hx hb hown (hts _ mw_159) dX8_noTwoRows_3 ?_
  refine xend_ro_i (xRunS (wc := ([] : va_W)) (As := [.long (p1.toInt64), .long (0 : Int64), .long (7 : Int64)]) (rest := []) C (c_X8_in h) k_X8_in mw_162 ⟨rfl, rfl⟩ ⟨Nat.le_of_ble_eq_true rfl, Nat.le_of_ble_eq_true rfl⟩ hP hD [] rfl rfl hl rfl rfl (Nat.le_of_ble_eq_true rfl) dX8_noTwoRows_6 ⟨Nat.le_refl _, Nat.le_refl _⟩) (fun v1 h => ?_)
  refine lv_if_eq (tgt := 36) hx hb dX8_noTwoRows_9 (by decide) (fun c2 => ?_) (fun c2 => ?_)
  · replace h := And.left h c2
    exact t_X8_noTwoRows_36 C hA _ _ _ _ (lv_sub hl [0] rfl) hP hD hS h
  · replace h := And.right h c2
    refine lv_iload_n hx hb dX8_noTwoRows_12 rfl (lv_at hl 2 rfl) ?_
    refine lv_i2l hx hb dX8_noTwoRows_13 rfl ?_
    refine lv_lconst (v := 0) hx hb dX8_noTwoRows_14 (by decide) ?_
    refine lv_ldc2 hx hb hown (hts _ mw_159) dX8_noTwoRows_15 ?_
    refine xend_ro_i (xRunS (wc := ([] : va_W)) (As := [.long (p2.toInt64), .long (0 : Int64), .long (7 : Int64)]) (rest := []) C (c_X8_in h) k_X8_in mw_162 ⟨rfl, rfl⟩ ⟨Nat.le_of_ble_eq_true rfl, Nat.le_of_ble_eq_true rfl⟩ hP hD [] rfl rfl hl rfl rfl (Nat.le_of_ble_eq_true rfl) dX8_noTwoRows_18 ⟨Nat.le_refl _, Nat.le_refl _⟩) (fun v5 h => ?_)
    refine lv_if_eq (tgt := 36) hx hb dX8_noTwoRows_21 (by decide) (fun c6 => ?_) (fun c6 => ?_)
    · replace h := And.left h c6
      exact t_X8_noTwoRows_36 C hA _ _ _ _ (lv_sub hl [0] rfl) hP hD hS h
    · replace h := And.right h c6
      refine lv_iload_n hx hb dX8_noTwoRows_24 rfl (lv_at hl 3 rfl) ?_
      refine lv_i2l hx hb dX8_noTwoRows_25 rfl ?_
      refine lv_lconst (v := 0) hx hb dX8_noTwoRows_26 (by decide) ?_
      refine lv_ldc2 hx hb hown (hts _ mw_161) dX8_noTwoRows_27 ?_
      refine xend_ro_i (xRunS (wc := ([] : va_W)) (As := [.long (p3.toInt64), .long (0 : Int64), .long (40 : Int64)]) (rest := []) C (c_X8_in h) k_X8_in mw_162 ⟨rfl, rfl⟩ ⟨Nat.le_of_ble_eq_true rfl, Nat.le_of_ble_eq_true rfl⟩ hP hD [] rfl rfl hl rfl rfl (Nat.le_of_ble_eq_true rfl) dX8_noTwoRows_30 ⟨Nat.le_refl _, Nat.le_refl _⟩) (fun v7 h => ?_)
      refine lv_if_ne (tgt := 43) hx hb dX8_noTwoRows_33 (by decide) (fun c8 => ?_) (fun c8 => ?_)
      · replace h := And.right h c8
        refine lv_aload_n hx hb dX8_noTwoRows_43 rfl (lv_at hl 0 rfl) ?_
        refine gX8_0 C hP dX8_noTwoRows_44 ?_
        refine lv_iload_n hx hb dX8_noTwoRows_47 rfl (lv_at hl 1 rfl) ?_
        have hin := And.left h
        replace h := And.right h
        refine lX8_0 C hP hin dX8_noTwoRows_48 ?_
        refine lv_iconst (v := 2) hx hb dX8_noTwoRows_49 (by decide) ?_
        refine lv_icmp_eq (tgt := 63) hx hb dX8_noTwoRows_50 (by decide) (fun c9 => ?_) (fun c9 => ?_)
        · replace h := And.left h c9
          exact t_X8_noTwoRows_63 C hA _ _ _ _ (lv_sub hl [0] rfl) hP hD hS h
        · replace h := And.right h c9
          refine lv_aload_n hx hb dX8_noTwoRows_53 rfl (lv_at hl 0 rfl) ?_
          refine gX8_0 C hP dX8_noTwoRows_54 ?_
          refine lv_iload_n hx hb dX8_noTwoRows_57 rfl (lv_at hl 2 rfl) ?_
          have hin := And.left h
          replace h := And.right h
          refine lX8_0 C hP hin dX8_noTwoRows_58 ?_
          refine lv_iconst (v := 2) hx hb dX8_noTwoRows_59 (by decide) ?_
          refine lv_icmp_ne (tgt := 70) hx hb dX8_noTwoRows_60 (by decide) (fun c12 => ?_) (fun c12 => ?_)
          · replace h := And.right h c12
            refine lv_aload_n hx hb dX8_noTwoRows_70 rfl (lv_at hl 0 rfl) ?_
            refine gX8_0 C hP dX8_noTwoRows_71 ?_
            refine lv_iload_n hx hb dX8_noTwoRows_74 rfl (lv_at hl 1 rfl) ?_
            have hin := And.left h
            replace h := And.right h
            refine lX8_0 C hP hin dX8_noTwoRows_75 ?_
            refine lv_if_eq (tgt := 88) hx hb dX8_noTwoRows_76 (by decide) (fun c13 => ?_) (fun c13 => ?_)
            · replace h := And.left h c13
              exact t_X8_noTwoRows_88 C hA _ _ _ _ (lv_sub hl [0] rfl) hP hD hS h
            · replace h := And.right h c13
              refine lv_aload_n hx hb dX8_noTwoRows_79 rfl (lv_at hl 0 rfl) ?_
              refine gX8_0 C hP dX8_noTwoRows_80 ?_
              refine lv_iload_n hx hb dX8_noTwoRows_83 rfl (lv_at hl 2 rfl) ?_
              have hin := And.left h
              replace h := And.right h
              refine lX8_0 C hP hin dX8_noTwoRows_84 ?_
              refine lv_if_ne (tgt := 95) hx hb dX8_noTwoRows_85 (by decide) (fun c16 => ?_) (fun c16 => ?_)
              · replace h := And.right h c16
                refine lv_aload_n hx hb dX8_noTwoRows_95 rfl (lv_at hl 0 rfl) ?_
                refine gX8_2 C hP dX8_noTwoRows_96 ?_
                refine lv_iload_n hx hb dX8_noTwoRows_99 rfl (lv_at hl 1 rfl) ?_
                have hin := And.left h
                replace h := And.right h
                refine lX8_2 C hP hin dX8_noTwoRows_100 ?_
                refine lv_iload_n hx hb dX8_noTwoRows_101 rfl (lv_at hl 3 rfl) ?_
                refine lv_icmp_ge (tgt := 114) hx hb dX8_noTwoRows_102 (by decide) (fun c17 => ?_) (fun c17 => ?_)
                · replace h := And.left h c17
                  refine lv_iconst (v := 0) hx hb dX8_noTwoRows_114 (by decide) ?_
                  exact xrw_i C r0 h hP hS dX8_noTwoRows_115
                · replace h := And.right h c17
                  refine lv_aload_n hx hb dX8_noTwoRows_105 rfl (lv_at hl 0 rfl) ?_
                  refine lv_bipush (v := -2) hx hb dX8_noTwoRows_106 (by decide) ?_
                  refine xend_rw_i_id (wf := fun (u : (zS)) => (wX8 K h0 a0 n0 la0 u ++ (([] : va_W)))) (xRunV_id (As := [.int (-2 : Int32)]) (rest := []) C (c_X8_refuse h) k_X8_refuse mw_165 ⟨rfl, rfl⟩ ⟨Nat.le_of_ble_eq_true rfl, Nat.le_of_ble_eq_true rfl⟩ hP hD rfl rfl hl rfl rfl (Nat.le_of_ble_eq_true rfl) dX8_noTwoRows_108 ⟨Nat.le_refl _, Nat.le_refl _⟩) hD hS hA (fun _ => wX8_adr _ _) (fun v18 s19 H locs h hP hD hS => ?_)
                  refine lv_goto (tgt := 115) hx hb dX8_noTwoRows_111 (by decide) ?_
                  exact xrw_i C s19 h hP hS dX8_noTwoRows_115
              · replace h := And.left h c16
                exact t_X8_noTwoRows_88 C hA _ _ _ _ (lv_sub hl [0] rfl) hP hD hS h
          · replace h := And.left h c12
            exact t_X8_noTwoRows_63 C hA _ _ _ _ (lv_sub hl [0] rfl) hP hD hS h
      · replace h := And.left h c8
        exact t_X8_noTwoRows_36 C hA _ _ _ _ (lv_sub hl [0] rfl) hP hD hS h

def wb_X8_areLetters_2 (r0 : zS) (p1 : Nat) (p2 : Int32) (post : Int32 → Prop) (ih : Int32 → Prop) (x3 : Int32) : Prop :=
  (p2 ≤ x3 → post (1 : Int32) ) ∧ (¬ p2 ≤ x3 → vp_in x3 40 ∧ (wp_X8_in (r0.2.2 (100 + p1) x3.toNatClampNeg) (0 : Int64) (25 : Int64) (fun v2 => (v2 = 0 → post (0 : Int32) ) ∧ (¬ v2 = 0 → ∀ v4 : Int32, v4 = x3 + (1 : Int32) → ih v4))))
def wp_X8_areLetters_2 (r0 : zS) (p1 : Nat) (p2 : Int32) (post : Int32 → Prop) (n : Nat) : Int32 → Prop := Nat.rec (motive := fun _ => Int32 → Prop) (fun _ => False) (fun _ ih => wb_X8_areLetters_2 r0 p1 p2 post ih) n
theorem wu_X8_areLetters_2 (r0 : zS) (p1 : Nat) (p2 : Int32) (post : Int32 → Prop) (n : Nat) (x3 : Int32) : wp_X8_areLetters_2 r0 p1 p2 post (n + 1) x3 = wb_X8_areLetters_2 r0 p1 p2 post (wp_X8_areLetters_2 r0 p1 p2 post n) x3 := rfl
def wp_X8_areLetters (r0 : zS) (p1 : Nat) (p2 : Int32) (post : Int32 → Prop) : Prop :=
  ∃ n : Nat, wp_X8_areLetters_2 r0 p1 p2 post n (0 : Int32)
set_option maxHeartbeats 4000000 in
set_option maxRecDepth 100000 in
theorem t_X8_areLetters_2 {p : Program} {l : Launch} {e : Env} {s : State} {m : MethodId} {args : Array Value} {below : List Frame} {meth : Method} {c : Code} {D : va_G} {K : Nat → ClassId} {h0 : Nat} {a0 : Nat → Nat} {n0 : Nat → Option Nat} {la0 : Nat → Nat} {r0 : zS} {p1 : Nat} {p2 : Int32} {post : Int32 → Prop} (C : xC p s m args meth c cX8_areLetters RX8 4 (some .boolean) D vwCl (xty K)) (hr1 : p1 < 8) (hP : va_P D vwCl (wX8 K h0 a0 n0 la0 r0 ++ (([] : va_W))) s.heap) (hD : va_D (va_A (wX8 K h0 a0 n0 la0 r0 ++ (([] : va_W))) s.heap.size) (wX8 K h0 a0 n0 la0 r0 ++ (([] : va_W)))) : ∀ (n : Nat) (x3 : Int32) (ls : Array Slot), lv_has ls 4 [(1, .ref (la0 p1)), (2, .int p2), (3, .int x3)] → wp_X8_areLetters_2 r0 p1 p2 post n x3 → W p l e ({ frames := 1, cells := 0, slots := 0, locals := 25 } : Room) s m args below meth c s.heap [] 0 0 (MQ below (roI post) args s 0 0 (fun _ => False)) (F0 m 2 ls []) := by
  obtain ⟨hx, hb, hr, hml, hown, hts, hlocks, hK, hT⟩ := id C
  intro n
  induction n with
  | zero =>
    intro x3 ls hl h
    exact False.elim h
  | succ n ihn =>
    intro x3 ls hl h
    rw [wu_X8_areLetters_2] at h
    unfold wb_X8_areLetters_2 at h
    refine lv_iload_n hx hb dX8_areLetters_2 rfl (lv_at hl 2 rfl) ?_
    refine lv_iload_n hx hb dX8_areLetters_3 rfl (lv_at hl 1 rfl) ?_
    refine lv_icmp_ge (tgt := 28) hx hb dX8_areLetters_4 (by decide) (fun c1 => ?_) (fun c1 => ?_)
    · replace h := And.left h c1
      refine lv_iconst (v := 1) hx hb dX8_areLetters_28 (by decide) ?_
      exact xro_z C rfl h dX8_areLetters_29
    · replace h := And.right h c1
      refine lv_aload_n hx hb dX8_areLetters_7 rfl (lv_at hl 0 rfl) ?_
      refine lv_iload_n hx hb dX8_areLetters_8 rfl (lv_at hl 2 rfl) ?_
      have hin := And.left h
      replace h := And.right h
      refine va_lald hx hb hK hP (23 + p1) 1 (wX8_row hr1) rfl hin dX8_areLetters_9 ?_
      refine lv_lconst (v := 0) hx hb dX8_areLetters_10 (by decide) ?_
      refine lv_ldc2 hx hb hown (hts _ mw_1110) dX8_areLetters_11 ?_
      refine xend_ro_i (xRunS (wc := ([] : va_W)) (As := [.long (r0.2.2 (100 + p1) x3.toNatClampNeg), .long (0 : Int64), .long (25 : Int64)]) (rest := []) C (c_X8_in h) k_X8_in mw_162 ⟨rfl, rfl⟩ ⟨Nat.le_of_ble_eq_true rfl, Nat.le_of_ble_eq_true rfl⟩ hP hD [] rfl rfl hl rfl rfl (Nat.le_of_ble_eq_true rfl) dX8_areLetters_14 ⟨Nat.le_refl _, Nat.le_refl _⟩) (fun v2 h => ?_)
      refine lv_if_ne (tgt := 22) hx hb dX8_areLetters_17 (by decide) (fun c3 => ?_) (fun c3 => ?_)
      · replace h := And.right h c3
        obtain ⟨v4, ev4⟩ : ∃ y : Int32, y = x3 + (1 : Int32) := ⟨_, rfl⟩
        replace h := h v4 ev4
        refine lv_iinc (v := v4) (lv' := [(3, .int v4), (1, .ref (la0 p1)), (2, .int p2)]) hx hb dX8_areLetters_22 hl (k := 2) rfl (by rw [ev4]; rfl) (by decide) rfl (fun ls hl => ?_)
        refine lv_goto (tgt := 2) hx hb dX8_areLetters_25 (by decide) ?_
        exact ihn _ _ (lv_sub hl [1, 2, 0] rfl) h
      · replace h := And.left h c3
        refine lv_iconst (v := 0) hx hb dX8_areLetters_20 (by decide) ?_
        exact xro_z C rfl h dX8_areLetters_21
set_option maxHeartbeats 4000000 in
set_option maxRecDepth 100000 in
theorem c_X8_areLetters {l : Launch} {D : va_G} {K : Nat → ClassId} {h0 : Nat} {a0 : Nat → Nat} {n0 : Nat → Option Nat} {la0 : Nat → Nat} {r0 : zS} {p1 : Nat} {p2 : Int32} {sz : Nat} {post : Int32 → Prop}  (hr1 : p1 < 8) (h : wp_X8_areLetters r0 p1 p2 post) : Met l yX8_areLetters (Cond.code yX8_areLetters cX8_areLetters 4 (some .boolean) :: wsL_law) ({ frames := 1, cells := 0, slots := 0, locals := 25 } : Room) (va_Pc [.ref h0, .ref (la0 p1), .int p2] (xPre D vwCl (xty K) (wX8 K h0 a0 n0 la0 r0 ++ (([] : va_W))) sz)) (roI post) 0 0 (fun _ => False) := by
  refine xMet (by decide) rfl (Nat.le_of_ble_eq_true rfl) (fun p e s m args below meth c C hnm hP hD hsz ls hl => ?_)
  have hl : lv_has ls 4 [(0, .ref h0), (1, .ref (la0 p1)), (2, .int p2)] := hl
  obtain ⟨hx, hb, hr, hml, hown, hts, hlocks, hK, hT⟩ := id C
  unfold wp_X8_areLetters at h
  refine lv_iconst (v := 0) hx hb dX8_areLetters_0 (by decide) ?_
  refine lv_istore_n (lv' := [(3, .int (0 : Int32)), (0, .ref h0), (1, .ref (la0 p1)), (2, .int p2)]) hx hb dX8_areLetters_1 rfl hl (by decide) rfl (fun ls hl => ?_)
  obtain ⟨n0, h⟩ := h
  exact t_X8_areLetters_2 C hr1 hP hD n0 _ _ (lv_sub hl [2, 3, 0] rfl) h

def wp_X8_code_50 (p1 : Int32) (p2 : Int32) (p3 : Int32) (post : Int32 → (zS) → Prop) (r0 : zS) : Prop :=
  wp_X8_refuse r0 (-2 : Int32) (fun v7 s8 => post v7 s8)
def wb_X8_code_128 (p1 : Int32) (p2 : Int32) (p3 : Int32) (post : Int32 → (zS) → Prop) (ih : (zS) → Int32 → Prop) (r0 : zS) (x5 : Int32) : Prop :=
  (p3 ≤ x5 → post p3 r0) ∧ (¬ p3 ≤ x5 → vp_in p1 8 ∧ (∀ k15 : Nat, k15 = p1.toNatClampNeg → vp_in p1 8 ∧ (vp_in x5 40 ∧ (wp_X8_fit (r0.2.1 1 p1.toNatClampNeg) (r0.2.2 4 x5.toNatClampNeg) (fun v16 => vp_in x5 40 ∧ (∀ j17 : Nat, j17 = x5.toNatClampNeg → ∀ v18 : Int32, v18 = x5 + (1 : Int32) → ih (zL r0 (100 + k15) j17 v16) v18))))))
def wp_X8_code_128 (p1 : Int32) (p2 : Int32) (p3 : Int32) (post : Int32 → (zS) → Prop) (n : Nat) : (zS) → Int32 → Prop := Nat.rec (motive := fun _ => (zS) → Int32 → Prop) (fun _ _ => False) (fun _ ih => wb_X8_code_128 p1 p2 p3 post ih) n
theorem wu_X8_code_128 (p1 : Int32) (p2 : Int32) (p3 : Int32) (post : Int32 → (zS) → Prop) (n : Nat) (r0 : zS) (x5 : Int32) : wp_X8_code_128 p1 p2 p3 post (n + 1) r0 x5 = wb_X8_code_128 p1 p2 p3 post (wp_X8_code_128 p1 p2 p3 post n) r0 x5 := rfl
def wb_X8_code_76 (p1 : Int32) (p2 : Int32) (p3 : Int32) (post : Int32 → (zS) → Prop) (ih : (zS) → Int32 → Prop) (r0 : zS) (x5 : Int32) : Prop :=
  (p3 ≤ x5 → ∃ n : Nat, wp_X8_code_128 p1 p2 p3 post n r0 (0 : Int32)) ∧ (¬ p3 ≤ x5 → vp_in p1 8 ∧ (∀ k19 : Nat, k19 = p1.toNatClampNeg → vp_in x5 40 ∧ (vp_in p2 8 ∧ (∀ k20 : Nat, k20 = p2.toNatClampNeg → vp_in p2 8 ∧ (¬ (r0.2.1 2 p2.toNatClampNeg) = 0 ∧ (vp_in (x5 - x5 / (r0.2.1 2 p2.toNatClampNeg) * (r0.2.1 2 p2.toNatClampNeg)) 40 ∧ (∀ v21 : Int64, v21 = (((r0.2.2 (100 + k19) x5.toNatClampNeg) + (r0.2.2 (100 + k20) (x5 - x5 / (r0.2.1 2 p2.toNatClampNeg) * (r0.2.1 2 p2.toNatClampNeg)).toNatClampNeg)) - ((r0.2.2 (100 + k19) x5.toNatClampNeg) + (r0.2.2 (100 + k20) (x5 - x5 / (r0.2.1 2 p2.toNatClampNeg) * (r0.2.1 2 p2.toNatClampNeg)).toNatClampNeg)) / (26 : Int64) * (26 : Int64)) → vp_in x5 40 ∧ (∀ j22 : Nat, j22 = x5.toNatClampNeg → ∀ v23 : Int32, v23 = x5 + (1 : Int32) → ih (zL r0 4 j22 v21) v23))))))))
def wp_X8_code_76 (p1 : Int32) (p2 : Int32) (p3 : Int32) (post : Int32 → (zS) → Prop) (n : Nat) : (zS) → Int32 → Prop := Nat.rec (motive := fun _ => (zS) → Int32 → Prop) (fun _ _ => False) (fun _ ih => wb_X8_code_76 p1 p2 p3 post ih) n
theorem wu_X8_code_76 (p1 : Int32) (p2 : Int32) (p3 : Int32) (post : Int32 → (zS) → Prop) (n : Nat) (r0 : zS) (x5 : Int32) : wp_X8_code_76 p1 p2 p3 post (n + 1) r0 x5 = wb_X8_code_76 p1 p2 p3 post (wp_X8_code_76 p1 p2 p3 post n) r0 x5 := rfl
def wp_X8_code (r0 : zS) (p1 : Int32) (p2 : Int32) (p3 : Int32) (post : Int32 → (zS) → Prop) : Prop :=
  wp_X8_noTwoRows r0 p1 p2 p3 (fun v1 s2 => (v1 = 0 → vp_in p1 8 ∧ (∀ k4 : Nat, k4 = p1.toNatClampNeg → wp_X8_areLetters s2 k4 p3 (fun v5 => (v5 = 0 → wp_X8_code_50 p1 p2 p3 post s2) ∧ (¬ v5 = 0 → vp_in p2 8 ∧ (∀ k9 : Nat, k9 = p2.toNatClampNeg → vp_in p2 8 ∧ (wp_X8_areLetters s2 k9 (s2.2.1 2 p2.toNatClampNeg) (fun v10 => (v10 = 0 → wp_X8_code_50 p1 p2 p3 post s2) ∧ (¬ v10 = 0 → vp_in p2 8 ∧ (((s2.2.1 2 p2.toNatClampNeg) = 0 → wp_X8_refuse s2 (-5 : Int32) (fun v24 s25 => post v24 s25)) ∧ (¬ (s2.2.1 2 p2.toNatClampNeg) = 0 → ∃ n : Nat, wp_X8_code_76 p1 p2 p3 post n s2 (0 : Int32))))))))))) ∧ (¬ v1 = 0 → post v1 s2))
set_option maxHeartbeats 4000000 in
set_option maxRecDepth 100000 in
theorem t_X8_code_50 {p : Program} {l : Launch} {e : Env} {s : State} {m : MethodId} {args : Array Value} {below : List Frame} {meth : Method} {c : Code} {D : va_G} {K : Nat → ClassId} {h0 : Nat} {a0 : Nat → Nat} {n0 : Nat → Option Nat} {la0 : Nat → Nat} {p1 : Int32} {p2 : Int32} {p3 : Int32} {post : Int32 → (zS) → Prop} {A : Nat → Prop} (C : xC p s m args meth c cX8_code RX8 6 (some .int) D vwCl (xty K)) (hA : ∀ q, s.heap.size ≤ q → A q) : ∀ (r0 : zS) (H : Heap) (locs : List Loc) (ls : Array Slot), lv_has ls 6 [(0, .ref h0)] → va_P D vwCl (wX8 K h0 a0 n0 la0 r0 ++ (([] : va_W))) H → va_D A (wX8 K h0 a0 n0 la0 r0 ++ (([] : va_W))) → va_S A s.heap H locs → wp_X8_code_50 p1 p2 p3 post r0 → W p l e ({ frames := 2, cells := 0, slots := 0, locals := 48 } : Room) s m args below meth c H locs 0 0 (MQ below (va_Qi (fun r (u : (zS)) => post r u) (fun (u : (zS)) t => va_P D vwCl (wX8 K h0 a0 n0 la0 u ++ (([] : va_W))) t.heap) A) args s 0 0 A) (F0 m 50 ls []) := by
  obtain ⟨hx, hb, hr, hml, hown, hts, hlocks, hK, hT⟩ := id C
  intro r0 H locs ls hl hP hD hS h
  unfold wp_X8_code_50 at h
  refine lv_aload_n hx hb dX8_code_50 rfl (lv_at hl 0 rfl) ?_
  refine lv_bipush (v := -2) hx hb dX8_code_51 (by decide) ?_
  refine xend_rw_i_id (wf := fun (u : (zS)) => (wX8 K h0 a0 n0 la0 u ++ (([] : va_W)))) (xRunV_id (As := [.int (-2 : Int32)]) (rest := []) C (c_X8_refuse h) k_X8_refuse mw_165 ⟨rfl, rfl⟩ ⟨Nat.le_of_ble_eq_true rfl, Nat.le_of_ble_eq_true rfl⟩ hP hD rfl rfl hl rfl rfl (Nat.le_of_ble_eq_true rfl) dX8_code_53 ⟨Nat.le_refl _, Nat.le_refl _⟩) hD hS hA (fun _ => wX8_adr _ _) (fun v7 s8 H locs h hP hD hS => ?_)
  exact xrw_i C s8 h hP hS dX8_code_56
set_option maxHeartbeats 4000000 in
set_option maxRecDepth 100000 in
theorem t_X8_code_128 {p : Program} {l : Launch} {e : Env} {s : State} {m : MethodId} {args : Array Value} {below : List Frame} {meth : Method} {c : Code} {D : va_G} {K : Nat → ClassId} {h0 : Nat} {a0 : Nat → Nat} {n0 : Nat → Option Nat} {la0 : Nat → Nat} {p1 : Int32} {p2 : Int32} {p3 : Int32} {post : Int32 → (zS) → Prop} {A : Nat → Prop} (C : xC p s m args meth c cX8_code RX8 6 (some .int) D vwCl (xty K)) (hA : ∀ q, s.heap.size ≤ q → A q) : ∀ (n : Nat) (r0 : zS) (x5 : Int32) (H : Heap) (locs : List Loc) (ls : Array Slot), lv_has ls 6 [(0, .ref h0), (1, .int p1), (3, .int p3), (5, .int x5)] → va_P D vwCl (wX8 K h0 a0 n0 la0 r0 ++ (([] : va_W))) H → va_D A (wX8 K h0 a0 n0 la0 r0 ++ (([] : va_W))) → va_S A s.heap H locs → wp_X8_code_128 p1 p2 p3 post n r0 x5 → W p l e ({ frames := 2, cells := 0, slots := 0, locals := 48 } : Room) s m args below meth c H locs 0 0 (MQ below (va_Qi (fun r (u : (zS)) => post r u) (fun (u : (zS)) t => va_P D vwCl (wX8 K h0 a0 n0 la0 u ++ (([] : va_W))) t.heap) A) args s 0 0 A) (F0 m 128 ls []) := by
  obtain ⟨hx, hb, hr, hml, hown, hts, hlocks, hK, hT⟩ := id C
  intro n
  induction n with
  | zero =>
    intro r0 x5 H locs ls hl hP hD hS h
    exact False.elim h
  | succ n ihn =>
    intro r0 x5 H locs ls hl hP hD hS h
    rw [wu_X8_code_128] at h
    unfold wb_X8_code_128 at h
    refine lv_iload hx hb dX8_code_128 (lv_at hl 3 rfl) ?_
    refine lv_iload_n hx hb dX8_code_130 rfl (lv_at hl 2 rfl) ?_
    refine lv_icmp_ge (tgt := 165) hx hb dX8_code_131 (by decide) (fun c14 => ?_) (fun c14 => ?_)
    · replace h := And.left h c14
      refine lv_iload_n hx hb dX8_code_165 rfl (lv_at hl 2 rfl) ?_
      exact xrw_i C r0 h hP hS dX8_code_166
    · replace h := And.right h c14
      refine lv_aload_n hx hb dX8_code_134 rfl (lv_at hl 0 rfl) ?_
      refine gX8_3 C hP dX8_code_135 ?_
      refine lv_iload_n hx hb dX8_code_138 rfl (lv_at hl 1 rfl) ?_
      have hin := And.left h
      obtain ⟨k15, ek15⟩ : ∃ j : Nat, j = p1.toNatClampNeg := ⟨_, rfl⟩
      replace h := And.right h k15 ek15
      have hk15 : k15 < 8 := by rw [ek15]; exact Nat.not_le.mp (fun q => hin (Or.inr q))
      refine aX8_3 C hP hin ek15 dX8_code_139 ?_
      refine lv_iload hx hb dX8_code_140 (lv_at hl 3 rfl) ?_
      refine lv_aload_n hx hb dX8_code_142 rfl (lv_at hl 0 rfl) ?_
      refine gX8_1 C hP dX8_code_143 ?_
      refine lv_iload_n hx hb dX8_code_146 rfl (lv_at hl 1 rfl) ?_
      have hin := And.left h
      replace h := And.right h
      refine lX8_1 C hP hin dX8_code_147 ?_
      refine lv_aload_n hx hb dX8_code_148 rfl (lv_at hl 0 rfl) ?_
      refine gX8_4 C hP dX8_code_149 ?_
      refine lv_iload hx hb dX8_code_152 (lv_at hl 3 rfl) ?_
      have hin := And.left h
      replace h := And.right h
      refine lX8_4 C hP hin dX8_code_154 ?_
      refine xend_ro_l (xRunS (wc := ([] : va_W)) (As := [.int (r0.2.1 1 p1.toNatClampNeg), .long (r0.2.2 4 x5.toNatClampNeg)]) (rest := [.int x5, .ref (la0 k15)]) C (c_X8_fit h) k_X8_fit mw_206 ⟨rfl, rfl⟩ ⟨Nat.le_of_ble_eq_true rfl, Nat.le_of_ble_eq_true rfl⟩ hP hD [] rfl rfl hl rfl rfl (Nat.le_of_ble_eq_true rfl) dX8_code_155 ⟨Nat.le_refl _, Nat.le_refl _⟩) (fun v16 h => ?_)
      have hin := And.left h
      obtain ⟨j17, ej17⟩ : ∃ j : Nat, j = x5.toNatClampNeg := ⟨_, rfl⟩
      replace h := And.right h j17 ej17
      refine xlast hx hb hK hP hD hS (23 + k15) 1 (wX8_row hk15) rfl hin ej17 dX8_code_158 (fun H locs hP hD hS => ?_)
      rw [wX8_rowset hk15] at hP hD
      obtain ⟨v18, ev18⟩ : ∃ y : Int32, y = x5 + (1 : Int32) := ⟨_, rfl⟩
      replace h := h v18 ev18
      refine lv_iinc (v := v18) (lv' := [(5, .int v18), (0, .ref h0), (1, .int p1), (3, .int p3)]) hx hb dX8_code_159 hl (k := 3) rfl (by rw [ev18]; rfl) (by decide) rfl (fun ls hl => ?_)
      refine lv_goto (tgt := 128) hx hb dX8_code_162 (by decide) ?_
      exact ihn _ _ _ _ _ (lv_sub hl [1, 2, 3, 0] rfl) hP hD hS h
set_option maxHeartbeats 4000000 in
set_option maxRecDepth 100000 in
theorem t_X8_code_76 {p : Program} {l : Launch} {e : Env} {s : State} {m : MethodId} {args : Array Value} {below : List Frame} {meth : Method} {c : Code} {D : va_G} {K : Nat → ClassId} {h0 : Nat} {a0 : Nat → Nat} {n0 : Nat → Option Nat} {la0 : Nat → Nat} {p1 : Int32} {p2 : Int32} {p3 : Int32} {post : Int32 → (zS) → Prop} {A : Nat → Prop} (C : xC p s m args meth c cX8_code RX8 6 (some .int) D vwCl (xty K)) (hA : ∀ q, s.heap.size ≤ q → A q) : ∀ (n : Nat) (r0 : zS) (x5 : Int32) (H : Heap) (locs : List Loc) (ls : Array Slot), lv_has ls 6 [(0, .ref h0), (1, .int p1), (2, .int p2), (3, .int p3), (5, .int x5)] → va_P D vwCl (wX8 K h0 a0 n0 la0 r0 ++ (([] : va_W))) H → va_D A (wX8 K h0 a0 n0 la0 r0 ++ (([] : va_W))) → va_S A s.heap H locs → wp_X8_code_76 p1 p2 p3 post n r0 x5 → W p l e ({ frames := 2, cells := 0, slots := 0, locals := 48 } : Room) s m args below meth c H locs 0 0 (MQ below (va_Qi (fun r (u : (zS)) => post r u) (fun (u : (zS)) t => va_P D vwCl (wX8 K h0 a0 n0 la0 u ++ (([] : va_W))) t.heap) A) args s 0 0 A) (F0 m 76 ls []) := by
  obtain ⟨hx, hb, hr, hml, hown, hts, hlocks, hK, hT⟩ := id C
  intro n
  induction n with
  | zero =>
    intro r0 x5 H locs ls hl hP hD hS h
    exact False.elim h
  | succ n ihn =>
    intro r0 x5 H locs ls hl hP hD hS h
    rw [wu_X8_code_76] at h
    unfold wb_X8_code_76 at h
    refine lv_iload hx hb dX8_code_76 (lv_at hl 4 rfl) ?_
    refine lv_iload_n hx hb dX8_code_78 rfl (lv_at hl 3 rfl) ?_
    refine lv_icmp_ge (tgt := 125) hx hb dX8_code_79 (by decide) (fun c13 => ?_) (fun c13 => ?_)
    · replace h := And.left h c13
      refine lv_iconst (v := 0) hx hb dX8_code_125 (by decide) ?_
      refine lv_istore (lv' := [(5, .int (0 : Int32)), (0, .ref h0), (1, .int p1), (2, .int p2), (3, .int p3)]) hx hb dX8_code_126 hl (by decide) rfl (fun ls hl => ?_)
      obtain ⟨n0, h⟩ := h
      exact t_X8_code_128 C hA n0 _ _ _ _ _ (lv_sub hl [1, 2, 4, 0] rfl) hP hD hS h
    · replace h := And.right h c13
      refine lv_aload_n hx hb dX8_code_82 rfl (lv_at hl 0 rfl) ?_
      refine gX8_4 C hP dX8_code_83 ?_
      refine lv_iload hx hb dX8_code_86 (lv_at hl 4 rfl) ?_
      refine lv_aload_n hx hb dX8_code_88 rfl (lv_at hl 0 rfl) ?_
      refine gX8_3 C hP dX8_code_89 ?_
      refine lv_iload_n hx hb dX8_code_92 rfl (lv_at hl 1 rfl) ?_
      have hin := And.left h
      obtain ⟨k19, ek19⟩ : ∃ j : Nat, j = p1.toNatClampNeg := ⟨_, rfl⟩
      replace h := And.right h k19 ek19
      have hk19 : k19 < 8 := by rw [ek19]; exact Nat.not_le.mp (fun q => hin (Or.inr q))
      refine aX8_3 C hP hin ek19 dX8_code_93 ?_
      refine lv_iload hx hb dX8_code_94 (lv_at hl 4 rfl) ?_
      have hin := And.left h
      replace h := And.right h
      refine va_lald hx hb hK hP (23 + k19) 1 (wX8_row hk19) rfl hin dX8_code_96 ?_
      refine lv_aload_n hx hb dX8_code_97 rfl (lv_at hl 0 rfl) ?_
      refine gX8_3 C hP dX8_code_98 ?_
      refine lv_iload_n hx hb dX8_code_101 rfl (lv_at hl 2 rfl) ?_
      have hin := And.left h
      obtain ⟨k20, ek20⟩ : ∃ j : Nat, j = p2.toNatClampNeg := ⟨_, rfl⟩
      replace h := And.right h k20 ek20
      have hk20 : k20 < 8 := by rw [ek20]; exact Nat.not_le.mp (fun q => hin (Or.inr q))
      refine aX8_3 C hP hin ek20 dX8_code_102 ?_
      refine lv_iload hx hb dX8_code_103 (lv_at hl 4 rfl) ?_
      refine lv_aload_n hx hb dX8_code_105 rfl (lv_at hl 0 rfl) ?_
      refine gX8_2 C hP dX8_code_106 ?_
      refine lv_iload_n hx hb dX8_code_109 rfl (lv_at hl 2 rfl) ?_
      have hin := And.left h
      replace h := And.right h
      refine lX8_2 C hP hin dX8_code_110 ?_
      have hne := And.left h
      replace h := And.right h
      refine lv_irem hx hb dX8_code_111 hne ?_
      have hin := And.left h
      replace h := And.right h
      refine va_lald hx hb hK hP (23 + k20) 1 (wX8_row hk20) rfl hin dX8_code_112 ?_
      refine lv_ladd hx hb dX8_code_113 ?_
      refine lv_ldc2 hx hb hown (hts _ mw_1101) dX8_code_114 ?_
      refine lv_lrem hx hb dX8_code_117 (by decide) ?_
      refine lv_topl (fun v21 ev21 => ?_)
      replace h := h v21 ev21
      have hin := And.left h
      obtain ⟨j22, ej22⟩ : ∃ j : Nat, j = x5.toNatClampNeg := ⟨_, rfl⟩
      replace h := And.right h j22 ej22
      refine sX8_4 C hP hD hS hin ej22 dX8_code_118 (fun H locs hP hD hS => ?_)
      obtain ⟨v23, ev23⟩ : ∃ y : Int32, y = x5 + (1 : Int32) := ⟨_, rfl⟩
      replace h := h v23 ev23
      refine lv_iinc (v := v23) (lv' := [(5, .int v23), (0, .ref h0), (1, .int p1), (2, .int p2), (3, .int p3)]) hx hb dX8_code_119 hl (k := 4) rfl (by rw [ev23]; rfl) (by decide) rfl (fun ls hl => ?_)
      refine lv_goto (tgt := 76) hx hb dX8_code_122 (by decide) ?_
      exact ihn _ _ _ _ _ (lv_sub hl [1, 2, 3, 4, 0] rfl) hP hD hS h
set_option maxHeartbeats 4000000 in
set_option maxRecDepth 100000 in
theorem c_X8_code {l : Launch} {D : va_G} {K : Nat → ClassId} {h0 : Nat} {a0 : Nat → Nat} {n0 : Nat → Option Nat} {la0 : Nat → Nat} {r0 : zS} {p1 : Int32} {p2 : Int32} {p3 : Int32} {sz : Nat} {post : Int32 → (zS) → Prop}   (h : wp_X8_code r0 p1 p2 p3 post) : Met l yX8_code (Cond.code yX8_code cX8_code 6 (some .int) :: wsL_law) ({ frames := 2, cells := 0, slots := 0, locals := 48 } : Room) (va_Pc [.ref h0, .int p1, .int p2, .int p3] (xPre D vwCl (xty K) (wX8 K h0 a0 n0 la0 r0 ++ (([] : va_W))) sz)) (va_Qi (fun r (u : (zS)) => post r u) (fun (u : (zS)) t => va_P D vwCl (wX8 K h0 a0 n0 la0 u ++ (([] : va_W))) t.heap) (va_A (wX8 K h0 a0 n0 la0 r0 ++ (([] : va_W))) sz)) 0 0 (va_A (wX8 K h0 a0 n0 la0 r0 ++ (([] : va_W))) sz) := by
  refine xMet (by decide) rfl (Nat.le_of_ble_eq_true rfl) (fun p e s m args below meth c C hnm hP hD hsz ls hl => ?_)
  have hl : lv_has ls 6 [(0, .ref h0), (1, .int p1), (2, .int p2), (3, .int p3)] := hl
  obtain ⟨hx, hb, hr, hml, hown, hts, hlocks, hK, hT⟩ := id C
  subst hsz
  generalize hAe : va_A (wX8 K h0 a0 n0 la0 r0 ++ (([] : va_W))) s.heap.size = A at hD ⊢
  have hA : ∀ q : Nat, s.heap.size ≤ q → A q := fun q h => by rw [← hAe]; exact Or.inr h
  have hS : va_S A s.heap s.heap [] := va_S.rf
  have hP : va_P D vwCl (wX8 K h0 a0 n0 la0 r0 ++ (([] : va_W))) s.heap := hP
  unfold wp_X8_code at h
  refine lv_aload_n hx hb dX8_code_0 rfl (lv_at hl 0 rfl) ?_
  refine lv_iload_n hx hb dX8_code_1 rfl (lv_at hl 1 rfl) ?_
  refine lv_iload_n hx hb dX8_code_2 rfl (lv_at hl 2 rfl) ?_
  refine lv_iload_n hx hb dX8_code_3 rfl (lv_at hl 3 rfl) ?_
  refine xend_rw_i_id (wf := fun (u : (zS)) => (wX8 K h0 a0 n0 la0 u ++ (([] : va_W)))) (xRunV_id (As := [.int p1, .int p2, .int p3]) (rest := []) C (c_X8_noTwoRows h) k_X8_noTwoRows mw_1102 ⟨rfl, rfl⟩ ⟨Nat.le_of_ble_eq_true rfl, Nat.le_of_ble_eq_true rfl⟩ hP hD rfl rfl hl rfl rfl (Nat.le_of_ble_eq_true rfl) dX8_code_4 ⟨Nat.le_refl _, Nat.le_refl _⟩) hD hS hA (fun _ => wX8_adr _ _) (fun v1 s2 H locs h hP hD hS => ?_)
  refine lv_istore (lv' := [(4, .int v1), (0, .ref h0), (1, .int p1), (2, .int p2), (3, .int p3)]) hx hb dX8_code_7 hl (by decide) rfl (fun ls hl => ?_)
  refine lv_iload hx hb dX8_code_9 (lv_at hl 0 rfl) ?_
  refine lv_if_eq (tgt := 17) hx hb dX8_code_11 (by decide) (fun c3 => ?_) (fun c3 => ?_)
  · replace h := And.left h c3
    refine lv_aload_n hx hb dX8_code_17 rfl (lv_at hl 1 rfl) ?_
    refine lv_aload_n hx hb dX8_code_18 rfl (lv_at hl 1 rfl) ?_
    refine gX8_3 C hP dX8_code_19 ?_
    refine lv_iload_n hx hb dX8_code_22 rfl (lv_at hl 2 rfl) ?_
    have hin := And.left h
    obtain ⟨k4, ek4⟩ : ∃ j : Nat, j = p1.toNatClampNeg := ⟨_, rfl⟩
    replace h := And.right h k4 ek4
    have hk4 : k4 < 8 := by rw [ek4]; exact Nat.not_le.mp (fun q => hin (Or.inr q))
    refine aX8_3 C hP hin ek4 dX8_code_23 ?_
    refine lv_iload_n hx hb dX8_code_24 rfl (lv_at hl 4 rfl) ?_
    refine xend_ro_i (xRunV_id (As := [.ref (la0 k4), .int p3]) (rest := []) C (c_X8_areLetters hk4 h) k_X8_areLetters mw_1106 ⟨rfl, rfl⟩ ⟨Nat.le_of_ble_eq_true rfl, Nat.le_of_ble_eq_true rfl⟩ hP hD rfl rfl hl rfl rfl (Nat.le_of_ble_eq_true rfl) dX8_code_25 ⟨Nat.le_refl _, Nat.le_refl _⟩) (fun v5 h => ?_)
    refine lv_if_eq (tgt := 50) hx hb dX8_code_28 (by decide) (fun c6 => ?_) (fun c6 => ?_)
    · replace h := And.left h c6
      exact t_X8_code_50 C hA _ _ _ _ (lv_sub hl [1] rfl) hP hD hS h
    · replace h := And.right h c6
      refine lv_aload_n hx hb dX8_code_31 rfl (lv_at hl 1 rfl) ?_
      refine lv_aload_n hx hb dX8_code_32 rfl (lv_at hl 1 rfl) ?_
      refine gX8_3 C hP dX8_code_33 ?_
      refine lv_iload_n hx hb dX8_code_36 rfl (lv_at hl 3 rfl) ?_
      have hin := And.left h
      obtain ⟨k9, ek9⟩ : ∃ j : Nat, j = p2.toNatClampNeg := ⟨_, rfl⟩
      replace h := And.right h k9 ek9
      have hk9 : k9 < 8 := by rw [ek9]; exact Nat.not_le.mp (fun q => hin (Or.inr q))
      refine aX8_3 C hP hin ek9 dX8_code_37 ?_
      refine lv_aload_n hx hb dX8_code_38 rfl (lv_at hl 1 rfl) ?_
      refine gX8_2 C hP dX8_code_39 ?_
      refine lv_iload_n hx hb dX8_code_42 rfl (lv_at hl 3 rfl) ?_
      have hin := And.left h
      replace h := And.right h
      refine lX8_2 C hP hin dX8_code_43 ?_
      refine xend_ro_i (xRunV_id (As := [.ref (la0 k9), .int (s2.2.1 2 p2.toNatClampNeg)]) (rest := []) C (c_X8_areLetters hk9 h) k_X8_areLetters mw_1106 ⟨rfl, rfl⟩ ⟨Nat.le_of_ble_eq_true rfl, Nat.le_of_ble_eq_true rfl⟩ hP hD rfl rfl hl rfl rfl (Nat.le_of_ble_eq_true rfl) dX8_code_44 ⟨Nat.le_refl _, Nat.le_refl _⟩) (fun v10 h => ?_)
      refine lv_if_ne (tgt := 57) hx hb dX8_code_47 (by decide) (fun c11 => ?_) (fun c11 => ?_)
      · replace h := And.right h c11
        refine lv_aload_n hx hb dX8_code_57 rfl (lv_at hl 1 rfl) ?_
        refine gX8_2 C hP dX8_code_58 ?_
        refine lv_iload_n hx hb dX8_code_61 rfl (lv_at hl 3 rfl) ?_
        have hin := And.left h
        replace h := And.right h
        refine lX8_2 C hP hin dX8_code_62 ?_
        refine lv_if_ne (tgt := 73) hx hb dX8_code_63 (by decide) (fun c12 => ?_) (fun c12 => ?_)
        · replace h := And.right h c12
          refine lv_iconst (v := 0) hx hb dX8_code_73 (by decide) ?_
          refine lv_istore (lv' := [(5, .int (0 : Int32)), (4, .int v1), (0, .ref h0), (1, .int p1), (2, .int p2), (3, .int p3)]) hx hb dX8_code_74 hl (by decide) rfl (fun ls hl => ?_)
          obtain ⟨n0, h⟩ := h
          exact t_X8_code_76 C hA n0 _ _ _ _ _ (lv_sub hl [2, 3, 4, 5, 0] rfl) hP hD hS h
        · replace h := And.left h c12
          refine lv_aload_n hx hb dX8_code_66 rfl (lv_at hl 1 rfl) ?_
          refine lv_bipush (v := -5) hx hb dX8_code_67 (by decide) ?_
          refine xend_rw_i_id (wf := fun (u : (zS)) => (wX8 K h0 a0 n0 la0 u ++ (([] : va_W)))) (xRunV_id (As := [.int (-5 : Int32)]) (rest := []) C (c_X8_refuse h) k_X8_refuse mw_165 ⟨rfl, rfl⟩ ⟨Nat.le_of_ble_eq_true rfl, Nat.le_of_ble_eq_true rfl⟩ hP hD rfl rfl hl rfl rfl (Nat.le_of_ble_eq_true rfl) dX8_code_69 ⟨Nat.le_refl _, Nat.le_refl _⟩) hD hS hA (fun _ => wX8_adr _ _) (fun v24 s25 H locs h hP hD hS => ?_)
          exact xrw_i C s25 h hP hS dX8_code_72
      · replace h := And.left h c11
        exact t_X8_code_50 C hA _ _ _ _ (lv_sub hl [1] rfl) hP hD hS h
  · replace h := And.right h c3
    refine lv_iload hx hb dX8_code_14 (lv_at hl 0 rfl) ?_
    exact xrw_i C s2 h hP hS dX8_code_16

def wp_X8_keyLength_55 (p1 : Int32) (p2 : Int32) (p3 : Int32) (post : Int32 → (zS) → Prop) (r0 : zS) : Prop :=
  wp_X8_refuse r0 (-2 : Int32) (fun v5 s6 => post v5 s6)
def wp_X8_keyLength_163 (p1 : Int32) (p2 : Int32) (p3 : Int32) (post : Int32 → (zS) → Prop) (k65 : (zS) → Int32 → Prop) (k78 : (zS) → Int32 → Int32 → Int32 → Prop) (r0 : zS) (x5 : Int32) (x7 : Int32) (y0 : Int32) (y1 : Int32) : Prop :=
  ∀ v24 : Int32, v24 = (y1 &&& y0) → ∀ v25 : Int32, v25 = x7 + (1 : Int32) → k78 r0 x5 v24 v25
def wb_X8_keyLength_78 (p1 : Int32) (p2 : Int32) (p3 : Int32) (post : Int32 → (zS) → Prop) (k65 : (zS) → Int32 → Prop) (ih : (zS) → Int32 → Int32 → Int32 → Prop) (r0 : zS) (x5 : Int32) (x6 : Int32) (x7 : Int32) : Prop :=
  (p3 ≤ x7 → (x6 = 0 → ∀ v16 : Int32, v16 = x5 + (1 : Int32) → k65 r0 v16) ∧ (¬ x6 = 0 → post x5 r0)) ∧ (¬ p3 ≤ x7 → vp_in p2 8 ∧ (∀ k17 : Nat, k17 = p2.toNatClampNeg → vp_in x7 40 ∧ (vp_in p1 8 ∧ (∀ k18 : Nat, k18 = p1.toNatClampNeg → vp_in x7 40 ∧ (∀ v19 : Int64, v19 = (((r0.2.2 (100 + k17) x7.toNatClampNeg) - (r0.2.2 (100 + k18) x7.toNatClampNeg)) + (26 : Int64)) → vp_in p2 8 ∧ (∀ k20 : Nat, k20 = p2.toNatClampNeg → vp_in (x7 - x5) 40 ∧ (vp_in p1 8 ∧ (∀ k21 : Nat, k21 = p1.toNatClampNeg → vp_in (x7 - x5) 40 ∧ (∀ v22 : Int64, v22 = (((r0.2.2 (100 + k20) (x7 - x5).toNatClampNeg) - (r0.2.2 (100 + k21) (x7 - x5).toNatClampNeg)) + (26 : Int64)) → ((lg_cmp (v19 - v19 / (26 : Int64) * (26 : Int64)) (v22 - v22 / (26 : Int64) * (26 : Int64))) = 0 → wp_X8_keyLength_163 p1 p2 p3 post k65 ih r0 x5 x7 (1 : Int32) x6) ∧ (¬ (lg_cmp (v19 - v19 / (26 : Int64) * (26 : Int64)) (v22 - v22 / (26 : Int64) * (26 : Int64))) = 0 → wp_X8_keyLength_163 p1 p2 p3 post k65 ih r0 x5 x7 (0 : Int32) x6))))))))))
def wp_X8_keyLength_78 (p1 : Int32) (p2 : Int32) (p3 : Int32) (post : Int32 → (zS) → Prop) (k65 : (zS) → Int32 → Prop) (n : Nat) : (zS) → Int32 → Int32 → Int32 → Prop := Nat.rec (motive := fun _ => (zS) → Int32 → Int32 → Int32 → Prop) (fun _ _ _ _ => False) (fun _ ih => wb_X8_keyLength_78 p1 p2 p3 post k65 ih) n
theorem wu_X8_keyLength_78 (p1 : Int32) (p2 : Int32) (p3 : Int32) (post : Int32 → (zS) → Prop) (k65 : (zS) → Int32 → Prop) (n : Nat) (r0 : zS) (x5 : Int32) (x6 : Int32) (x7 : Int32) : wp_X8_keyLength_78 p1 p2 p3 post k65 (n + 1) r0 x5 x6 x7 = wb_X8_keyLength_78 p1 p2 p3 post k65 (wp_X8_keyLength_78 p1 p2 p3 post k65 n) r0 x5 x6 x7 := rfl
def wb_X8_keyLength_65 (p1 : Int32) (p2 : Int32) (p3 : Int32) (post : Int32 → (zS) → Prop) (ih : (zS) → Int32 → Prop) (r0 : zS) (x5 : Int32) : Prop :=
  (p3 ≤ x5 → post p3 r0) ∧ (¬ p3 ≤ x5 → ∃ n : Nat, wp_X8_keyLength_78 p1 p2 p3 post ih n r0 x5 (1 : Int32) x5)
def wp_X8_keyLength_65 (p1 : Int32) (p2 : Int32) (p3 : Int32) (post : Int32 → (zS) → Prop) (n : Nat) : (zS) → Int32 → Prop := Nat.rec (motive := fun _ => (zS) → Int32 → Prop) (fun _ _ => False) (fun _ ih => wb_X8_keyLength_65 p1 p2 p3 post ih) n
theorem wu_X8_keyLength_65 (p1 : Int32) (p2 : Int32) (p3 : Int32) (post : Int32 → (zS) → Prop) (n : Nat) (r0 : zS) (x5 : Int32) : wp_X8_keyLength_65 p1 p2 p3 post (n + 1) r0 x5 = wb_X8_keyLength_65 p1 p2 p3 post (wp_X8_keyLength_65 p1 p2 p3 post n) r0 x5 := rfl
def wp_X8_keyLength (r0 : zS) (p1 : Int32) (p2 : Int32) (p3 : Int32) (post : Int32 → (zS) → Prop) : Prop :=
  wp_X8_noTwoRows r0 p1 p2 p3 (fun v1 s2 => (v1 = 0 → vp_in p2 8 ∧ (((s2.2.1 2 p2.toNatClampNeg) < p3 → wp_X8_keyLength_55 p1 p2 p3 post s2) ∧ (¬ (s2.2.1 2 p2.toNatClampNeg) < p3 → vp_in p1 8 ∧ (∀ k7 : Nat, k7 = p1.toNatClampNeg → wp_X8_areLetters s2 k7 p3 (fun v8 => (v8 = 0 → wp_X8_keyLength_55 p1 p2 p3 post s2) ∧ (¬ v8 = 0 → vp_in p2 8 ∧ (∀ k10 : Nat, k10 = p2.toNatClampNeg → wp_X8_areLetters s2 k10 p3 (fun v11 => (v11 = 0 → wp_X8_keyLength_55 p1 p2 p3 post s2) ∧ (¬ v11 = 0 → ∃ n : Nat, wp_X8_keyLength_65 p1 p2 p3 post n s2 (1 : Int32)))))))))) ∧ (¬ v1 = 0 → post v1 s2))
set_option maxHeartbeats 4000000 in
set_option maxRecDepth 100000 in
theorem t_X8_keyLength_55 {p : Program} {l : Launch} {e : Env} {s : State} {m : MethodId} {args : Array Value} {below : List Frame} {meth : Method} {c : Code} {D : va_G} {K : Nat → ClassId} {h0 : Nat} {a0 : Nat → Nat} {n0 : Nat → Option Nat} {la0 : Nat → Nat} {p1 : Int32} {p2 : Int32} {p3 : Int32} {post : Int32 → (zS) → Prop} {A : Nat → Prop} (C : xC p s m args meth c cX8_keyLength RX8 12 (some .int) D vwCl (xty K)) (hA : ∀ q, s.heap.size ≤ q → A q) : ∀ (r0 : zS) (H : Heap) (locs : List Loc) (ls : Array Slot), lv_has ls 12 [(0, .ref h0)] → va_P D vwCl (wX8 K h0 a0 n0 la0 r0 ++ (([] : va_W))) H → va_D A (wX8 K h0 a0 n0 la0 r0 ++ (([] : va_W))) → va_S A s.heap H locs → wp_X8_keyLength_55 p1 p2 p3 post r0 → W p l e ({ frames := 2, cells := 0, slots := 0, locals := 48 } : Room) s m args below meth c H locs 0 0 (MQ below (va_Qi (fun r (u : (zS)) => post r u) (fun (u : (zS)) t => va_P D vwCl (wX8 K h0 a0 n0 la0 u ++ (([] : va_W))) t.heap) A) args s 0 0 A) (F0 m 55 ls []) := by
  obtain ⟨hx, hb, hr, hml, hown, hts, hlocks, hK, hT⟩ := id C
  intro r0 H locs ls hl hP hD hS h
  unfold wp_X8_keyLength_55 at h
  refine lv_aload_n hx hb dX8_keyLength_55 rfl (lv_at hl 0 rfl) ?_
  refine lv_bipush (v := -2) hx hb dX8_keyLength_56 (by decide) ?_
  refine xend_rw_i_id (wf := fun (u : (zS)) => (wX8 K h0 a0 n0 la0 u ++ (([] : va_W)))) (xRunV_id (As := [.int (-2 : Int32)]) (rest := []) C (c_X8_refuse h) k_X8_refuse mw_165 ⟨rfl, rfl⟩ ⟨Nat.le_of_ble_eq_true rfl, Nat.le_of_ble_eq_true rfl⟩ hP hD rfl rfl hl rfl rfl (Nat.le_of_ble_eq_true rfl) dX8_keyLength_58 ⟨Nat.le_refl _, Nat.le_refl _⟩) hD hS hA (fun _ => wX8_adr _ _) (fun v5 s6 H locs h hP hD hS => ?_)
  exact xrw_i C s6 h hP hS dX8_keyLength_61
set_option maxHeartbeats 4000000 in
set_option maxRecDepth 100000 in
theorem t_X8_keyLength_163 {p : Program} {l : Launch} {e : Env} {s : State} {m : MethodId} {args : Array Value} {below : List Frame} {meth : Method} {c : Code} {D : va_G} {K : Nat → ClassId} {h0 : Nat} {a0 : Nat → Nat} {n0 : Nat → Option Nat} {la0 : Nat → Nat} {p1 : Int32} {p2 : Int32} {p3 : Int32} {post : Int32 → (zS) → Prop} {A : Nat → Prop} (C : xC p s m args meth c cX8_keyLength RX8 12 (some .int) D vwCl (xty K)) (hA : ∀ q, s.heap.size ≤ q → A q) {k65 : (zS) → Int32 → Prop} (hk65 : ∀ (r0 : zS) (x5 : Int32) (H : Heap) (locs : List Loc) (ls : Array Slot), lv_has ls 12 [(0, .ref h0), (1, .int p1), (2, .int p2), (3, .int p3), (5, .int x5)] → va_P D vwCl (wX8 K h0 a0 n0 la0 r0 ++ (([] : va_W))) H → va_D A (wX8 K h0 a0 n0 la0 r0 ++ (([] : va_W))) → va_S A s.heap H locs → k65 r0 x5  → W p l e ({ frames := 2, cells := 0, slots := 0, locals := 48 } : Room) s m args below meth c H locs 0 0 (MQ below (va_Qi (fun r (u : (zS)) => post r u) (fun (u : (zS)) t => va_P D vwCl (wX8 K h0 a0 n0 la0 u ++ (([] : va_W))) t.heap) A) args s 0 0 A) (F0 m 65 ls [])) {k78 : (zS) → Int32 → Int32 → Int32 → Prop} (hk78 : ∀ (r0 : zS) (x5 : Int32) (x6 : Int32) (x7 : Int32) (H : Heap) (locs : List Loc) (ls : Array Slot), lv_has ls 12 [(0, .ref h0), (1, .int p1), (2, .int p2), (3, .int p3), (5, .int x5), (6, .int x6), (7, .int x7)] → va_P D vwCl (wX8 K h0 a0 n0 la0 r0 ++ (([] : va_W))) H → va_D A (wX8 K h0 a0 n0 la0 r0 ++ (([] : va_W))) → va_S A s.heap H locs → k78 r0 x5 x6 x7  → W p l e ({ frames := 2, cells := 0, slots := 0, locals := 48 } : Room) s m args below meth c H locs 0 0 (MQ below (va_Qi (fun r (u : (zS)) => post r u) (fun (u : (zS)) t => va_P D vwCl (wX8 K h0 a0 n0 la0 u ++ (([] : va_W))) t.heap) A) args s 0 0 A) (F0 m 78 ls [])) : ∀ (r0 : zS) (x5 : Int32) (x7 : Int32) (y0 : Int32) (y1 : Int32) (H : Heap) (locs : List Loc) (ls : Array Slot), lv_has ls 12 [(0, .ref h0), (1, .int p1), (2, .int p2), (3, .int p3), (5, .int x5), (7, .int x7)] → va_P D vwCl (wX8 K h0 a0 n0 la0 r0 ++ (([] : va_W))) H → va_D A (wX8 K h0 a0 n0 la0 r0 ++ (([] : va_W))) → va_S A s.heap H locs → wp_X8_keyLength_163 p1 p2 p3 post k65 k78 r0 x5 x7 y0 y1 → W p l e ({ frames := 2, cells := 0, slots := 0, locals := 48 } : Room) s m args below meth c H locs 0 0 (MQ below (va_Qi (fun r (u : (zS)) => post r u) (fun (u : (zS)) t => va_P D vwCl (wX8 K h0 a0 n0 la0 u ++ (([] : va_W))) t.heap) A) args s 0 0 A) (F0 m 163 ls [.int y0, .int y1]) := by
  obtain ⟨hx, hb, hr, hml, hown, hts, hlocks, hK, hT⟩ := id C
  intro r0 x5 x7 y0 y1 H locs ls hl hP hD hS h
  unfold wp_X8_keyLength_163 at h
  refine lv_iand hx hb dX8_keyLength_163 ?_
  refine lv_topi (fun v24 ev24 => ?_)
  replace h := h v24 ev24
  refine lv_istore (lv' := [(6, .int v24), (0, .ref h0), (1, .int p1), (2, .int p2), (3, .int p3), (5, .int x5), (7, .int x7)]) hx hb dX8_keyLength_164 hl (by decide) rfl (fun ls hl => ?_)
  obtain ⟨v25, ev25⟩ : ∃ y : Int32, y = x7 + (1 : Int32) := ⟨_, rfl⟩
  replace h := h v25 ev25
  refine lv_iinc (v := v25) (lv' := [(7, .int v25), (6, .int v24), (0, .ref h0), (1, .int p1), (2, .int p2), (3, .int p3), (5, .int x5)]) hx hb dX8_keyLength_166 hl (k := 6) rfl (by rw [ev25]; rfl) (by decide) rfl (fun ls hl => ?_)
  refine lv_goto (tgt := 78) hx hb dX8_keyLength_169 (by decide) ?_
  exact hk78 _ _ _ _ _ _ _ (lv_sub hl [2, 3, 4, 5, 6, 1, 0] rfl) hP hD hS h
set_option maxHeartbeats 4000000 in
set_option maxRecDepth 100000 in
theorem t_X8_keyLength_78 {p : Program} {l : Launch} {e : Env} {s : State} {m : MethodId} {args : Array Value} {below : List Frame} {meth : Method} {c : Code} {D : va_G} {K : Nat → ClassId} {h0 : Nat} {a0 : Nat → Nat} {n0 : Nat → Option Nat} {la0 : Nat → Nat} {p1 : Int32} {p2 : Int32} {p3 : Int32} {post : Int32 → (zS) → Prop} {A : Nat → Prop} (C : xC p s m args meth c cX8_keyLength RX8 12 (some .int) D vwCl (xty K)) (hA : ∀ q, s.heap.size ≤ q → A q) {k65 : (zS) → Int32 → Prop} (hk65 : ∀ (r0 : zS) (x5 : Int32) (H : Heap) (locs : List Loc) (ls : Array Slot), lv_has ls 12 [(0, .ref h0), (1, .int p1), (2, .int p2), (3, .int p3), (5, .int x5)] → va_P D vwCl (wX8 K h0 a0 n0 la0 r0 ++ (([] : va_W))) H → va_D A (wX8 K h0 a0 n0 la0 r0 ++ (([] : va_W))) → va_S A s.heap H locs → k65 r0 x5  → W p l e ({ frames := 2, cells := 0, slots := 0, locals := 48 } : Room) s m args below meth c H locs 0 0 (MQ below (va_Qi (fun r (u : (zS)) => post r u) (fun (u : (zS)) t => va_P D vwCl (wX8 K h0 a0 n0 la0 u ++ (([] : va_W))) t.heap) A) args s 0 0 A) (F0 m 65 ls [])) : ∀ (n : Nat) (r0 : zS) (x5 : Int32) (x6 : Int32) (x7 : Int32) (H : Heap) (locs : List Loc) (ls : Array Slot), lv_has ls 12 [(0, .ref h0), (1, .int p1), (2, .int p2), (3, .int p3), (5, .int x5), (6, .int x6), (7, .int x7)] → va_P D vwCl (wX8 K h0 a0 n0 la0 r0 ++ (([] : va_W))) H → va_D A (wX8 K h0 a0 n0 la0 r0 ++ (([] : va_W))) → va_S A s.heap H locs → wp_X8_keyLength_78 p1 p2 p3 post k65 n r0 x5 x6 x7 → W p l e ({ frames := 2, cells := 0, slots := 0, locals := 48 } : Room) s m args below meth c H locs 0 0 (MQ below (va_Qi (fun r (u : (zS)) => post r u) (fun (u : (zS)) t => va_P D vwCl (wX8 K h0 a0 n0 la0 u ++ (([] : va_W))) t.heap) A) args s 0 0 A) (F0 m 78 ls []) := by
  obtain ⟨hx, hb, hr, hml, hown, hts, hlocks, hK, hT⟩ := id C
  intro n
  induction n with
  | zero =>
    intro r0 x5 x6 x7 H locs ls hl hP hD hS h
    exact False.elim h
  | succ n ihn =>
    intro r0 x5 x6 x7 H locs ls hl hP hD hS h
    rw [wu_X8_keyLength_78] at h
    unfold wb_X8_keyLength_78 at h
    refine lv_iload hx hb dX8_keyLength_78 (lv_at hl 6 rfl) ?_
    refine lv_iload_n hx hb dX8_keyLength_80 rfl (lv_at hl 3 rfl) ?_
    refine lv_icmp_ge (tgt := 172) hx hb dX8_keyLength_81 (by decide) (fun c14 => ?_) (fun c14 => ?_)
    · replace h := And.left h c14
      refine lv_iload hx hb dX8_keyLength_172 (lv_at hl 5 rfl) ?_
      refine lv_if_eq (tgt := 180) hx hb dX8_keyLength_174 (by decide) (fun c15 => ?_) (fun c15 => ?_)
      · replace h := And.left h c15
        obtain ⟨v16, ev16⟩ : ∃ y : Int32, y = x5 + (1 : Int32) := ⟨_, rfl⟩
        replace h := h v16 ev16
        refine lv_iinc (v := v16) (lv' := [(5, .int v16), (0, .ref h0), (1, .int p1), (2, .int p2), (3, .int p3), (6, .int x6), (7, .int x7)]) hx hb dX8_keyLength_180 hl (k := 4) rfl (by rw [ev16]; rfl) (by decide) rfl (fun ls hl => ?_)
        refine lv_goto (tgt := 65) hx hb dX8_keyLength_183 (by decide) ?_
        exact hk65 _ _ _ _ _ (lv_sub hl [1, 2, 3, 4, 0] rfl) hP hD hS h
      · replace h := And.right h c15
        refine lv_iload hx hb dX8_keyLength_177 (lv_at hl 4 rfl) ?_
        exact xrw_i C r0 h hP hS dX8_keyLength_179
    · replace h := And.right h c14
      refine lv_aload_n hx hb dX8_keyLength_84 rfl (lv_at hl 0 rfl) ?_
      refine gX8_3 C hP dX8_keyLength_85 ?_
      refine lv_iload_n hx hb dX8_keyLength_88 rfl (lv_at hl 2 rfl) ?_
      have hin := And.left h
      obtain ⟨k17, ek17⟩ : ∃ j : Nat, j = p2.toNatClampNeg := ⟨_, rfl⟩
      replace h := And.right h k17 ek17
      have hk17 : k17 < 8 := by rw [ek17]; exact Nat.not_le.mp (fun q => hin (Or.inr q))
      refine aX8_3 C hP hin ek17 dX8_keyLength_89 ?_
      refine lv_iload hx hb dX8_keyLength_90 (lv_at hl 6 rfl) ?_
      have hin := And.left h
      replace h := And.right h
      refine va_lald hx hb hK hP (23 + k17) 1 (wX8_row hk17) rfl hin dX8_keyLength_92 ?_
      refine lv_aload_n hx hb dX8_keyLength_93 rfl (lv_at hl 0 rfl) ?_
      refine gX8_3 C hP dX8_keyLength_94 ?_
      refine lv_iload_n hx hb dX8_keyLength_97 rfl (lv_at hl 1 rfl) ?_
      have hin := And.left h
      obtain ⟨k18, ek18⟩ : ∃ j : Nat, j = p1.toNatClampNeg := ⟨_, rfl⟩
      replace h := And.right h k18 ek18
      have hk18 : k18 < 8 := by rw [ek18]; exact Nat.not_le.mp (fun q => hin (Or.inr q))
      refine aX8_3 C hP hin ek18 dX8_keyLength_98 ?_
      refine lv_iload hx hb dX8_keyLength_99 (lv_at hl 6 rfl) ?_
      have hin := And.left h
      replace h := And.right h
      refine va_lald hx hb hK hP (23 + k18) 1 (wX8_row hk18) rfl hin dX8_keyLength_101 ?_
      refine lv_lsub hx hb dX8_keyLength_102 ?_
      refine lv_ldc2 hx hb hown (hts _ mw_1101) dX8_keyLength_103 ?_
      refine lv_ladd hx hb dX8_keyLength_106 ?_
      refine lv_topl (fun v19 ev19 => ?_)
      replace h := h v19 ev19
      refine lv_lstore (lv' := [(8, .long v19), (0, .ref h0), (1, .int p1), (2, .int p2), (3, .int p3), (5, .int x5), (6, .int x6), (7, .int x7)]) hx hb dX8_keyLength_107 hl (by decide) rfl (fun ls hl => ?_)
      refine lv_aload_n hx hb dX8_keyLength_109 rfl (lv_at hl 1 rfl) ?_
      refine gX8_3 C hP dX8_keyLength_110 ?_
      refine lv_iload_n hx hb dX8_keyLength_113 rfl (lv_at hl 3 rfl) ?_
      have hin := And.left h
      obtain ⟨k20, ek20⟩ : ∃ j : Nat, j = p2.toNatClampNeg := ⟨_, rfl⟩
      replace h := And.right h k20 ek20
      have hk20 : k20 < 8 := by rw [ek20]; exact Nat.not_le.mp (fun q => hin (Or.inr q))
      refine aX8_3 C hP hin ek20 dX8_keyLength_114 ?_
      refine lv_iload hx hb dX8_keyLength_115 (lv_at hl 7 rfl) ?_
      refine lv_iload hx hb dX8_keyLength_117 (lv_at hl 5 rfl) ?_
      refine lv_isub hx hb dX8_keyLength_119 ?_
      have hin := And.left h
      replace h := And.right h
      refine va_lald hx hb hK hP (23 + k20) 1 (wX8_row hk20) rfl hin dX8_keyLength_120 ?_
      refine lv_aload_n hx hb dX8_keyLength_121 rfl (lv_at hl 1 rfl) ?_
      refine gX8_3 C hP dX8_keyLength_122 ?_
      refine lv_iload_n hx hb dX8_keyLength_125 rfl (lv_at hl 2 rfl) ?_
      have hin := And.left h
      obtain ⟨k21, ek21⟩ : ∃ j : Nat, j = p1.toNatClampNeg := ⟨_, rfl⟩
      replace h := And.right h k21 ek21
      have hk21 : k21 < 8 := by rw [ek21]; exact Nat.not_le.mp (fun q => hin (Or.inr q))
      refine aX8_3 C hP hin ek21 dX8_keyLength_126 ?_
      refine lv_iload hx hb dX8_keyLength_127 (lv_at hl 7 rfl) ?_
      refine lv_iload hx hb dX8_keyLength_129 (lv_at hl 5 rfl) ?_
      refine lv_isub hx hb dX8_keyLength_131 ?_
      have hin := And.left h
      replace h := And.right h
      refine va_lald hx hb hK hP (23 + k21) 1 (wX8_row hk21) rfl hin dX8_keyLength_132 ?_
      refine lv_lsub hx hb dX8_keyLength_133 ?_
      refine lv_ldc2 hx hb hown (hts _ mw_1101) dX8_keyLength_134 ?_
      refine lv_ladd hx hb dX8_keyLength_137 ?_
      refine lv_topl (fun v22 ev22 => ?_)
      replace h := h v22 ev22
      refine lv_lstore (lv' := [(10, .long v22), (8, .long v19), (0, .ref h0), (1, .int p1), (2, .int p2), (3, .int p3), (5, .int x5), (6, .int x6), (7, .int x7)]) hx hb dX8_keyLength_138 hl (by decide) rfl (fun ls hl => ?_)
      refine lv_iload hx hb dX8_keyLength_140 (lv_at hl 7 rfl) ?_
      refine lv_lload hx hb dX8_keyLength_142 (lv_at hl 1 rfl) ?_
      refine lv_ldc2 hx hb hown (hts _ mw_1101) dX8_keyLength_144 ?_
      refine lv_lrem hx hb dX8_keyLength_147 (by decide) ?_
      refine lv_lload hx hb dX8_keyLength_148 (lv_at hl 0 rfl) ?_
      refine lv_ldc2 hx hb hown (hts _ mw_1101) dX8_keyLength_150 ?_
      refine lv_lrem hx hb dX8_keyLength_153 (by decide) ?_
      refine W.lcmp hx hb dX8_keyLength_154 ?_
      refine lv_if_ne (tgt := 162) hx hb dX8_keyLength_155 (by decide) (fun c23 => ?_) (fun c23 => ?_)
      · replace h := And.right h c23
        refine lv_iconst (v := 0) hx hb dX8_keyLength_162 (by decide) ?_
        exact t_X8_keyLength_163 C hA hk65 ihn _ _ _ _ _ _ _ _ (lv_sub hl [2, 3, 4, 5, 6, 8] rfl) hP hD hS h
      · replace h := And.left h c23
        refine lv_iconst (v := 1) hx hb dX8_keyLength_158 (by decide) ?_
        refine lv_goto (tgt := 163) hx hb dX8_keyLength_159 (by decide) ?_
        exact t_X8_keyLength_163 C hA hk65 ihn _ _ _ _ _ _ _ _ (lv_sub hl [2, 3, 4, 5, 6, 8] rfl) hP hD hS h
set_option maxHeartbeats 4000000 in
set_option maxRecDepth 100000 in
theorem t_X8_keyLength_65 {p : Program} {l : Launch} {e : Env} {s : State} {m : MethodId} {args : Array Value} {below : List Frame} {meth : Method} {c : Code} {D : va_G} {K : Nat → ClassId} {h0 : Nat} {a0 : Nat → Nat} {n0 : Nat → Option Nat} {la0 : Nat → Nat} {p1 : Int32} {p2 : Int32} {p3 : Int32} {post : Int32 → (zS) → Prop} {A : Nat → Prop} (C : xC p s m args meth c cX8_keyLength RX8 12 (some .int) D vwCl (xty K)) (hA : ∀ q, s.heap.size ≤ q → A q) : ∀ (n : Nat) (r0 : zS) (x5 : Int32) (H : Heap) (locs : List Loc) (ls : Array Slot), lv_has ls 12 [(0, .ref h0), (1, .int p1), (2, .int p2), (3, .int p3), (5, .int x5)] → va_P D vwCl (wX8 K h0 a0 n0 la0 r0 ++ (([] : va_W))) H → va_D A (wX8 K h0 a0 n0 la0 r0 ++ (([] : va_W))) → va_S A s.heap H locs → wp_X8_keyLength_65 p1 p2 p3 post n r0 x5 → W p l e ({ frames := 2, cells := 0, slots := 0, locals := 48 } : Room) s m args below meth c H locs 0 0 (MQ below (va_Qi (fun r (u : (zS)) => post r u) (fun (u : (zS)) t => va_P D vwCl (wX8 K h0 a0 n0 la0 u ++ (([] : va_W))) t.heap) A) args s 0 0 A) (F0 m 65 ls []) := by
  obtain ⟨hx, hb, hr, hml, hown, hts, hlocks, hK, hT⟩ := id C
  intro n
  induction n with
  | zero =>
    intro r0 x5 H locs ls hl hP hD hS h
    exact False.elim h
  | succ n ihn =>
    intro r0 x5 H locs ls hl hP hD hS h
    rw [wu_X8_keyLength_65] at h
    unfold wb_X8_keyLength_65 at h
    refine lv_iload hx hb dX8_keyLength_65 (lv_at hl 4 rfl) ?_
    refine lv_iload_n hx hb dX8_keyLength_67 rfl (lv_at hl 3 rfl) ?_
    refine lv_icmp_ge (tgt := 186) hx hb dX8_keyLength_68 (by decide) (fun c13 => ?_) (fun c13 => ?_)
    · replace h := And.left h c13
      refine lv_iload_n hx hb dX8_keyLength_186 rfl (lv_at hl 3 rfl) ?_
      exact xrw_i C r0 h hP hS dX8_keyLength_187
    · replace h := And.right h c13
      refine lv_iconst (v := 1) hx hb dX8_keyLength_71 (by decide) ?_
      refine lv_istore (lv' := [(6, .int (1 : Int32)), (0, .ref h0), (1, .int p1), (2, .int p2), (3, .int p3), (5, .int x5)]) hx hb dX8_keyLength_72 hl (by decide) rfl (fun ls hl => ?_)
      refine lv_iload hx hb dX8_keyLength_74 (lv_at hl 5 rfl) ?_
      refine lv_istore (lv' := [(7, .int x5), (6, .int (1 : Int32)), (0, .ref h0), (1, .int p1), (2, .int p2), (3, .int p3), (5, .int x5)]) hx hb dX8_keyLength_76 hl (by decide) rfl (fun ls hl => ?_)
      obtain ⟨n0, h⟩ := h
      exact t_X8_keyLength_78 C hA ihn n0 _ _ _ _ _ _ _ (lv_sub hl [2, 3, 4, 5, 6, 1, 0] rfl) hP hD hS h
set_option maxHeartbeats 4000000 in
set_option maxRecDepth 100000 in
theorem c_X8_keyLength {l : Launch} {D : va_G} {K : Nat → ClassId} {h0 : Nat} {a0 : Nat → Nat} {n0 : Nat → Option Nat} {la0 : Nat → Nat} {r0 : zS} {p1 : Int32} {p2 : Int32} {p3 : Int32} {sz : Nat} {post : Int32 → (zS) → Prop}   (h : wp_X8_keyLength r0 p1 p2 p3 post) : Met l yX8_keyLength (Cond.code yX8_keyLength cX8_keyLength 12 (some .int) :: wsL_law) ({ frames := 2, cells := 0, slots := 0, locals := 48 } : Room) (va_Pc [.ref h0, .int p1, .int p2, .int p3] (xPre D vwCl (xty K) (wX8 K h0 a0 n0 la0 r0 ++ (([] : va_W))) sz)) (va_Qi (fun r (u : (zS)) => post r u) (fun (u : (zS)) t => va_P D vwCl (wX8 K h0 a0 n0 la0 u ++ (([] : va_W))) t.heap) (va_A (wX8 K h0 a0 n0 la0 r0 ++ (([] : va_W))) sz)) 0 0 (va_A (wX8 K h0 a0 n0 la0 r0 ++ (([] : va_W))) sz) := by
  refine xMet (by decide) rfl (Nat.le_of_ble_eq_true rfl) (fun p e s m args below meth c C hnm hP hD hsz ls hl => ?_)
  have hl : lv_has ls 12 [(0, .ref h0), (1, .int p1), (2, .int p2), (3, .int p3)] := hl
  obtain ⟨hx, hb, hr, hml, hown, hts, hlocks, hK, hT⟩ := id C
  subst hsz
  generalize hAe : va_A (wX8 K h0 a0 n0 la0 r0 ++ (([] : va_W))) s.heap.size = A at hD ⊢
  have hA : ∀ q : Nat, s.heap.size ≤ q → A q := fun q h => by rw [← hAe]; exact Or.inr h
  have hS : va_S A s.heap s.heap [] := va_S.rf
  have hP : va_P D vwCl (wX8 K h0 a0 n0 la0 r0 ++ (([] : va_W))) s.heap := hP
  unfold wp_X8_keyLength at h
  refine lv_aload_n hx hb dX8_keyLength_0 rfl (lv_at hl 0 rfl) ?_
  refine lv_iload_n hx hb dX8_keyLength_1 rfl (lv_at hl 1 rfl) ?_
  refine lv_iload_n hx hb dX8_keyLength_2 rfl (lv_at hl 2 rfl) ?_
  refine lv_iload_n hx hb dX8_keyLength_3 rfl (lv_at hl 3 rfl) ?_
  refine xend_rw_i_id (wf := fun (u : (zS)) => (wX8 K h0 a0 n0 la0 u ++ (([] : va_W)))) (xRunV_id (As := [.int p1, .int p2, .int p3]) (rest := []) C (c_X8_noTwoRows h) k_X8_noTwoRows mw_1102 ⟨rfl, rfl⟩ ⟨Nat.le_of_ble_eq_true rfl, Nat.le_of_ble_eq_true rfl⟩ hP hD rfl rfl hl rfl rfl (Nat.le_of_ble_eq_true rfl) dX8_keyLength_4 ⟨Nat.le_refl _, Nat.le_refl _⟩) hD hS hA (fun _ => wX8_adr _ _) (fun v1 s2 H locs h hP hD hS => ?_)
  refine lv_istore (lv' := [(4, .int v1), (0, .ref h0), (1, .int p1), (2, .int p2), (3, .int p3)]) hx hb dX8_keyLength_7 hl (by decide) rfl (fun ls hl => ?_)
  refine lv_iload hx hb dX8_keyLength_9 (lv_at hl 0 rfl) ?_
  refine lv_if_eq (tgt := 17) hx hb dX8_keyLength_11 (by decide) (fun c3 => ?_) (fun c3 => ?_)
  · replace h := And.left h c3
    refine lv_aload_n hx hb dX8_keyLength_17 rfl (lv_at hl 1 rfl) ?_
    refine gX8_2 C hP dX8_keyLength_18 ?_
    refine lv_iload_n hx hb dX8_keyLength_21 rfl (lv_at hl 3 rfl) ?_
    have hin := And.left h
    replace h := And.right h
    refine lX8_2 C hP hin dX8_keyLength_22 ?_
    refine lv_iload_n hx hb dX8_keyLength_23 rfl (lv_at hl 4 rfl) ?_
    refine lv_icmp_lt (tgt := 55) hx hb dX8_keyLength_24 (by decide) (fun c4 => ?_) (fun c4 => ?_)
    · replace h := And.left h c4
      exact t_X8_keyLength_55 C hA _ _ _ _ (lv_sub hl [1] rfl) hP hD hS h
    · replace h := And.right h c4
      refine lv_aload_n hx hb dX8_keyLength_27 rfl (lv_at hl 1 rfl) ?_
      refine lv_aload_n hx hb dX8_keyLength_28 rfl (lv_at hl 1 rfl) ?_
      refine gX8_3 C hP dX8_keyLength_29 ?_
      refine lv_iload_n hx hb dX8_keyLength_32 rfl (lv_at hl 2 rfl) ?_
      have hin := And.left h
      obtain ⟨k7, ek7⟩ : ∃ j : Nat, j = p1.toNatClampNeg := ⟨_, rfl⟩
      replace h := And.right h k7 ek7
      have hk7 : k7 < 8 := by rw [ek7]; exact Nat.not_le.mp (fun q => hin (Or.inr q))
      refine aX8_3 C hP hin ek7 dX8_keyLength_33 ?_
      refine lv_iload_n hx hb dX8_keyLength_34 rfl (lv_at hl 4 rfl) ?_
      refine xend_ro_i (xRunV_id (As := [.ref (la0 k7), .int p3]) (rest := []) C (c_X8_areLetters hk7 h) k_X8_areLetters mw_1106 ⟨rfl, rfl⟩ ⟨Nat.le_of_ble_eq_true rfl, Nat.le_of_ble_eq_true rfl⟩ hP hD rfl rfl hl rfl rfl (Nat.le_of_ble_eq_true rfl) dX8_keyLength_35 ⟨Nat.le_refl _, Nat.le_refl _⟩) (fun v8 h => ?_)
      refine lv_if_eq (tgt := 55) hx hb dX8_keyLength_38 (by decide) (fun c9 => ?_) (fun c9 => ?_)
      · replace h := And.left h c9
        exact t_X8_keyLength_55 C hA _ _ _ _ (lv_sub hl [1] rfl) hP hD hS h
      · replace h := And.right h c9
        refine lv_aload_n hx hb dX8_keyLength_41 rfl (lv_at hl 1 rfl) ?_
        refine lv_aload_n hx hb dX8_keyLength_42 rfl (lv_at hl 1 rfl) ?_
        refine gX8_3 C hP dX8_keyLength_43 ?_
        refine lv_iload_n hx hb dX8_keyLength_46 rfl (lv_at hl 3 rfl) ?_
        have hin := And.left h
        obtain ⟨k10, ek10⟩ : ∃ j : Nat, j = p2.toNatClampNeg := ⟨_, rfl⟩
        replace h := And.right h k10 ek10
        have hk10 : k10 < 8 := by rw [ek10]; exact Nat.not_le.mp (fun q => hin (Or.inr q))
        refine aX8_3 C hP hin ek10 dX8_keyLength_47 ?_
        refine lv_iload_n hx hb dX8_keyLength_48 rfl (lv_at hl 4 rfl) ?_
        refine xend_ro_i (xRunV_id (As := [.ref (la0 k10), .int p3]) (rest := []) C (c_X8_areLetters hk10 h) k_X8_areLetters mw_1106 ⟨rfl, rfl⟩ ⟨Nat.le_of_ble_eq_true rfl, Nat.le_of_ble_eq_true rfl⟩ hP hD rfl rfl hl rfl rfl (Nat.le_of_ble_eq_true rfl) dX8_keyLength_49 ⟨Nat.le_refl _, Nat.le_refl _⟩) (fun v11 h => ?_)
        refine lv_if_ne (tgt := 62) hx hb dX8_keyLength_52 (by decide) (fun c12 => ?_) (fun c12 => ?_)
        · replace h := And.right h c12
          refine lv_iconst (v := 1) hx hb dX8_keyLength_62 (by decide) ?_
          refine lv_istore (lv' := [(5, .int (1 : Int32)), (4, .int v1), (0, .ref h0), (1, .int p1), (2, .int p2), (3, .int p3)]) hx hb dX8_keyLength_63 hl (by decide) rfl (fun ls hl => ?_)
          obtain ⟨n0, h⟩ := h
          exact t_X8_keyLength_65 C hA n0 _ _ _ _ _ (lv_sub hl [2, 3, 4, 5, 0] rfl) hP hD hS h
        · replace h := And.left h c12
          exact t_X8_keyLength_55 C hA _ _ _ _ (lv_sub hl [1] rfl) hP hD hS h
  · replace h := And.right h c3
    refine lv_iload hx hb dX8_keyLength_14 (lv_at hl 0 rfl) ?_
    exact xrw_i C s2 h hP hS dX8_keyLength_16

def wp_X8_below (r0 : zS) (p1 : Int32) (post : Int32 → (zS) → Prop) : Prop :=
  ∀ v1 : Int32, v1 = (((r0.1 25) * (1103515245 : Int32)) + (12345 : Int32)) → ¬ p1 = 0 ∧ (post (((((zI r0 25 v1).1 25)).toUInt32 >>> (((16 : Int32)).toUInt32 &&& Int32.toUInt32 31)).toInt32 - ((((zI r0 25 v1).1 25)).toUInt32 >>> (((16 : Int32)).toUInt32 &&& Int32.toUInt32 31)).toInt32 / p1 * p1) (zI r0 25 v1))
set_option maxHeartbeats 4000000 in
set_option maxRecDepth 100000 in
theorem c_X8_below {l : Launch} {D : va_G} {K : Nat → ClassId} {h0 : Nat} {a0 : Nat → Nat} {n0 : Nat → Option Nat} {la0 : Nat → Nat} {r0 : zS} {p1 : Int32} {sz : Nat} {post : Int32 → (zS) → Prop}   (h : wp_X8_below r0 p1 post) : Met l yX8_below (Cond.code yX8_below cX8_below 2 (some .int) :: wsL_law) ({ frames := 0, cells := 0, slots := 0, locals := 0 } : Room) (va_Pc [.ref h0, .int p1] (xPre D vwCl (xty K) (wX8 K h0 a0 n0 la0 r0 ++ (([] : va_W))) sz)) (va_Qi (fun r (u : (zS)) => post r u) (fun (u : (zS)) t => va_P D vwCl (wX8 K h0 a0 n0 la0 u ++ (([] : va_W))) t.heap) (va_A (wX8 K h0 a0 n0 la0 r0 ++ (([] : va_W))) sz)) 0 0 (va_A (wX8 K h0 a0 n0 la0 r0 ++ (([] : va_W))) sz) := by
  refine xMet (by decide) rfl (Nat.le_of_ble_eq_true rfl) (fun p e s m args below meth c C hnm hP hD hsz ls hl => ?_)
  have hl : lv_has ls 2 [(0, .ref h0), (1, .int p1)] := hl
  obtain ⟨hx, hb, hr, hml, hown, hts, hlocks, hK, hT⟩ := id C
  subst hsz
  generalize hAe : va_A (wX8 K h0 a0 n0 la0 r0 ++ (([] : va_W))) s.heap.size = A at hD ⊢
  have hA : ∀ q : Nat, s.heap.size ≤ q → A q := fun q h => by rw [← hAe]; exact Or.inr h
  have hS : va_S A s.heap s.heap [] := va_S.rf
  have hP : va_P D vwCl (wX8 K h0 a0 n0 la0 r0 ++ (([] : va_W))) s.heap := hP
  unfold wp_X8_below at h
  refine lv_aload_n hx hb dX8_below_0 rfl (lv_at hl 0 rfl) ?_
  refine lv_aload_n hx hb dX8_below_1 rfl (lv_at hl 0 rfl) ?_
  refine gX8_25 C hP dX8_below_2 ?_
  refine lv_ldcw hx hb hown (hts _ mw_1155) dX8_below_5 ?_
  refine lv_imul hx hb dX8_below_8 ?_
  refine lv_sipush (v := 12345) hx hb dX8_below_9 (by decide) ?_
  refine lv_iadd hx hb dX8_below_12 ?_
  refine lv_topi (fun v1 ev1 => ?_)
  replace h := h v1 ev1
  refine pX8_25 C hP hD hS dX8_below_13 (fun H locs hP hD hS => ?_)
  refine lv_aload_n hx hb dX8_below_16 rfl (lv_at hl 0 rfl) ?_
  refine gX8_25 C hP dX8_below_17 ?_
  refine lv_bipush (v := 16) hx hb dX8_below_20 (by decide) ?_
  refine lv_iushr hx hb dX8_below_22 rfl ?_
  refine lv_iload_n hx hb dX8_below_23 rfl (lv_at hl 1 rfl) ?_
  have hne := And.left h
  replace h := And.right h
  refine lv_irem hx hb dX8_below_24 hne ?_
  exact xrw_i C (zI r0 25 v1) h hP hS dX8_below_25

def wp_X8_keepNote_83 (p1 : Int32) (p2 : Int32) (p3 : Int32) (post : (zS) → Prop) (r0 : zS) : Prop :=
  vp_in (r0.1 21) 16 ∧ (∀ j2 : Nat, j2 = (r0.1 21).toNatClampNeg → vp_in ((zA r0 22 j2 p1).1 21) 16 ∧ (∀ j3 : Nat, j3 = ((zA r0 22 j2 p1).1 21).toNatClampNeg → vp_in ((zA (zA r0 22 j2 p1) 23 j3 p2).1 21) 16 ∧ (∀ j4 : Nat, j4 = ((zA (zA r0 22 j2 p1) 23 j3 p2).1 21).toNatClampNeg → ∀ v5 : Int32, v5 = (((zA (zA (zA r0 22 j2 p1) 23 j3 p2) 24 j4 p3).1 21) + (1 : Int32)) → post (zI (zA (zA (zA r0 22 j2 p1) 23 j3 p2) 24 j4 p3) 21 v5))))
def wb_X8_keepNote_12 (p1 : Int32) (p2 : Int32) (p3 : Int32) (post : (zS) → Prop) (ih : (zS) → Int32 → Prop) (r0 : zS) (x4 : Int32) : Prop :=
  ((16 : Int32) ≤ x4 → ∀ v7 : Int32, v7 = ((r0.1 21) - (1 : Int32)) → wp_X8_keepNote_83 p1 p2 p3 post (zI r0 21 v7)) ∧ (¬ (16 : Int32) ≤ x4 → vp_in x4 16 ∧ (∀ v8 : Int32, v8 = (r0.2.1 22 x4.toNatClampNeg) → vp_in (x4 - (1 : Int32)) 16 ∧ (∀ j9 : Nat, j9 = (x4 - (1 : Int32)).toNatClampNeg → vp_in x4 16 ∧ (∀ v10 : Int32, v10 = ((zA r0 22 j9 v8).2.1 23 x4.toNatClampNeg) → vp_in (x4 - (1 : Int32)) 16 ∧ (∀ j11 : Nat, j11 = (x4 - (1 : Int32)).toNatClampNeg → vp_in x4 16 ∧ (∀ v12 : Int32, v12 = ((zA (zA r0 22 j9 v8) 23 j11 v10).2.1 24 x4.toNatClampNeg) → vp_in (x4 - (1 : Int32)) 16 ∧ (∀ j13 : Nat, j13 = (x4 - (1 : Int32)).toNatClampNeg → ∀ v14 : Int32, v14 = x4 + (1 : Int32) → ih (zA (zA (zA r0 22 j9 v8) 23 j11 v10) 24 j13 v12) v14)))))))
def wp_X8_keepNote_12 (p1 : Int32) (p2 : Int32) (p3 : Int32) (post : (zS) → Prop) (n : Nat) : (zS) → Int32 → Prop := Nat.rec (motive := fun _ => (zS) → Int32 → Prop) (fun _ _ => False) (fun _ ih => wb_X8_keepNote_12 p1 p2 p3 post ih) n
theorem wu_X8_keepNote_12 (p1 : Int32) (p2 : Int32) (p3 : Int32) (post : (zS) → Prop) (n : Nat) (r0 : zS) (x4 : Int32) : wp_X8_keepNote_12 p1 p2 p3 post (n + 1) r0 x4 = wb_X8_keepNote_12 p1 p2 p3 post (wp_X8_keepNote_12 p1 p2 p3 post n) r0 x4 := rfl
def wp_X8_keepNote (r0 : zS) (p1 : Int32) (p2 : Int32) (p3 : Int32) (post : (zS) → Prop) : Prop :=
  ((r0.1 21) = (16 : Int32) → ∃ n : Nat, wp_X8_keepNote_12 p1 p2 p3 post n r0 (1 : Int32)) ∧ (¬ (r0.1 21) = (16 : Int32) → wp_X8_keepNote_83 p1 p2 p3 post r0)
set_option maxHeartbeats 4000000 in
set_option maxRecDepth 100000 in
theorem t_X8_keepNote_83 {p : Program} {l : Launch} {e : Env} {s : State} {m : MethodId} {args : Array Value} {below : List Frame} {meth : Method} {c : Code} {D : va_G} {K : Nat → ClassId} {h0 : Nat} {a0 : Nat → Nat} {n0 : Nat → Option Nat} {la0 : Nat → Nat} {p1 : Int32} {p2 : Int32} {p3 : Int32} {post : (zS) → Prop} {A : Nat → Prop} (C : xC p s m args meth c cX8_keepNote RX8 5 none D vwCl (xty K)) (hA : ∀ q, s.heap.size ≤ q → A q) : ∀ (r0 : zS) (H : Heap) (locs : List Loc) (ls : Array Slot), lv_has ls 5 [(0, .ref h0), (1, .int p1), (2, .int p2), (3, .int p3)] → va_P D vwCl (wX8 K h0 a0 n0 la0 r0 ++ (([] : va_W))) H → va_D A (wX8 K h0 a0 n0 la0 r0 ++ (([] : va_W))) → va_S A s.heap H locs → wp_X8_keepNote_83 p1 p2 p3 post r0 → W p l e ({ frames := 0, cells := 0, slots := 0, locals := 0 } : Room) s m args below meth c H locs 0 0 (MQ below (va_Qv (fun (u : (zS)) => post u) (fun (u : (zS)) t => va_P D vwCl (wX8 K h0 a0 n0 la0 u ++ (([] : va_W))) t.heap) A) args s 0 0 A) (F0 m 83 ls []) := by
  obtain ⟨hx, hb, hr, hml, hown, hts, hlocks, hK, hT⟩ := id C
  intro r0 H locs ls hl hP hD hS h
  unfold wp_X8_keepNote_83 at h
  refine lv_aload_n hx hb dX8_keepNote_83 rfl (lv_at hl 0 rfl) ?_
  refine gX8_22 C hP dX8_keepNote_84 ?_
  refine lv_aload_n hx hb dX8_keepNote_87 rfl (lv_at hl 0 rfl) ?_
  refine gX8_21 C hP dX8_keepNote_88 ?_
  refine lv_iload_n hx hb dX8_keepNote_91 rfl (lv_at hl 1 rfl) ?_
  have hin := And.left h
  obtain ⟨j2, ej2⟩ : ∃ j : Nat, j = (r0.1 21).toNatClampNeg := ⟨_, rfl⟩
  replace h := And.right h j2 ej2
  refine sX8_22 C hP hD hS hin ej2 dX8_keepNote_92 (fun H locs hP hD hS => ?_)
  refine lv_aload_n hx hb dX8_keepNote_93 rfl (lv_at hl 0 rfl) ?_
  refine gX8_23 C hP dX8_keepNote_94 ?_
  refine lv_aload_n hx hb dX8_keepNote_97 rfl (lv_at hl 0 rfl) ?_
  refine gX8_21 C hP dX8_keepNote_98 ?_
  refine lv_iload_n hx hb dX8_keepNote_101 rfl (lv_at hl 2 rfl) ?_
  have hin := And.left h
  obtain ⟨j3, ej3⟩ : ∃ j : Nat, j = ((zA r0 22 j2 p1).1 21).toNatClampNeg := ⟨_, rfl⟩
  replace h := And.right h j3 ej3
  refine sX8_23 C hP hD hS hin ej3 dX8_keepNote_102 (fun H locs hP hD hS => ?_)
  refine lv_aload_n hx hb dX8_keepNote_103 rfl (lv_at hl 0 rfl) ?_
  refine gX8_24 C hP dX8_keepNote_104 ?_
  refine lv_aload_n hx hb dX8_keepNote_107 rfl (lv_at hl 0 rfl) ?_
  refine gX8_21 C hP dX8_keepNote_108 ?_
  refine lv_iload_n hx hb dX8_keepNote_111 rfl (lv_at hl 3 rfl) ?_
  have hin := And.left h
  obtain ⟨j4, ej4⟩ : ∃ j : Nat, j = ((zA (zA r0 22 j2 p1) 23 j3 p2).1 21).toNatClampNeg := ⟨_, rfl⟩
  replace h := And.right h j4 ej4
  refine sX8_24 C hP hD hS hin ej4 dX8_keepNote_112 (fun H locs hP hD hS => ?_)
  refine lv_aload_n hx hb dX8_keepNote_113 rfl (lv_at hl 0 rfl) ?_
  refine lv_dup hx hb dX8_keepNote_114 rfl ?_
  refine gX8_21 C hP dX8_keepNote_115 ?_
  refine lv_iconst (v := 1) hx hb dX8_keepNote_118 (by decide) ?_
  refine lv_iadd hx hb dX8_keepNote_119 ?_
  refine lv_topi (fun v5 ev5 => ?_)
  replace h := h v5 ev5
  refine pX8_21 C hP hD hS dX8_keepNote_120 (fun H locs hP hD hS => ?_)
  exact xrw_v C (zI (zA (zA (zA r0 22 j2 p1) 23 j3 p2) 24 j4 p3) 21 v5) h hP hS dX8_keepNote_123
set_option maxHeartbeats 4000000 in
set_option maxRecDepth 100000 in
theorem t_X8_keepNote_12 {p : Program} {l : Launch} {e : Env} {s : State} {m : MethodId} {args : Array Value} {below : List Frame} {meth : Method} {c : Code} {D : va_G} {K : Nat → ClassId} {h0 : Nat} {a0 : Nat → Nat} {n0 : Nat → Option Nat} {la0 : Nat → Nat} {p1 : Int32} {p2 : Int32} {p3 : Int32} {post : (zS) → Prop} {A : Nat → Prop} (C : xC p s m args meth c cX8_keepNote RX8 5 none D vwCl (xty K)) (hA : ∀ q, s.heap.size ≤ q → A q) : ∀ (n : Nat) (r0 : zS) (x4 : Int32) (H : Heap) (locs : List Loc) (ls : Array Slot), lv_has ls 5 [(0, .ref h0), (1, .int p1), (2, .int p2), (3, .int p3), (4, .int x4)] → va_P D vwCl (wX8 K h0 a0 n0 la0 r0 ++ (([] : va_W))) H → va_D A (wX8 K h0 a0 n0 la0 r0 ++ (([] : va_W))) → va_S A s.heap H locs → wp_X8_keepNote_12 p1 p2 p3 post n r0 x4 → W p l e ({ frames := 0, cells := 0, slots := 0, locals := 0 } : Room) s m args below meth c H locs 0 0 (MQ below (va_Qv (fun (u : (zS)) => post u) (fun (u : (zS)) t => va_P D vwCl (wX8 K h0 a0 n0 la0 u ++ (([] : va_W))) t.heap) A) args s 0 0 A) (F0 m 12 ls []) := by
  obtain ⟨hx, hb, hr, hml, hown, hts, hlocks, hK, hT⟩ := id C
  intro n
  induction n with
  | zero =>
    intro r0 x4 H locs ls hl hP hD hS h
    exact False.elim h
  | succ n ihn =>
    intro r0 x4 H locs ls hl hP hD hS h
    rw [wu_X8_keepNote_12] at h
    unfold wb_X8_keepNote_12 at h
    refine lv_iload hx hb dX8_keepNote_12 (lv_at hl 4 rfl) ?_
    refine lv_bipush (v := 16) hx hb dX8_keepNote_14 (by decide) ?_
    refine lv_icmp_ge (tgt := 73) hx hb dX8_keepNote_16 (by decide) (fun c6 => ?_) (fun c6 => ?_)
    · replace h := And.left h c6
      refine lv_aload_n hx hb dX8_keepNote_73 rfl (lv_at hl 0 rfl) ?_
      refine lv_dup hx hb dX8_keepNote_74 rfl ?_
      refine gX8_21 C hP dX8_keepNote_75 ?_
      refine lv_iconst (v := 1) hx hb dX8_keepNote_78 (by decide) ?_
      refine lv_isub hx hb dX8_keepNote_79 ?_
      refine lv_topi (fun v7 ev7 => ?_)
      replace h := h v7 ev7
      refine pX8_21 C hP hD hS dX8_keepNote_80 (fun H locs hP hD hS => ?_)
      exact t_X8_keepNote_83 C hA _ _ _ _ (lv_sub hl [0, 1, 2, 3] rfl) hP hD hS h
    · replace h := And.right h c6
      refine lv_aload_n hx hb dX8_keepNote_19 rfl (lv_at hl 0 rfl) ?_
      refine gX8_22 C hP dX8_keepNote_20 ?_
      refine lv_iload hx hb dX8_keepNote_23 (lv_at hl 4 rfl) ?_
      refine lv_iconst (v := 1) hx hb dX8_keepNote_25 (by decide) ?_
      refine lv_isub hx hb dX8_keepNote_26 ?_
      refine lv_aload_n hx hb dX8_keepNote_27 rfl (lv_at hl 0 rfl) ?_
      refine gX8_22 C hP dX8_keepNote_28 ?_
      refine lv_iload hx hb dX8_keepNote_31 (lv_at hl 4 rfl) ?_
      have hin := And.left h
      replace h := And.right h
      refine lX8_22 C hP hin dX8_keepNote_33 ?_
      refine lv_topi (fun v8 ev8 => ?_)
      replace h := h v8 ev8
      have hin := And.left h
      obtain ⟨j9, ej9⟩ : ∃ j : Nat, j = (x4 - (1 : Int32)).toNatClampNeg := ⟨_, rfl⟩
      replace h := And.right h j9 ej9
      refine sX8_22 C hP hD hS hin ej9 dX8_keepNote_34 (fun H locs hP hD hS => ?_)
      refine lv_aload_n hx hb dX8_keepNote_35 rfl (lv_at hl 0 rfl) ?_
      refine gX8_23 C hP dX8_keepNote_36 ?_
      refine lv_iload hx hb dX8_keepNote_39 (lv_at hl 4 rfl) ?_
      refine lv_iconst (v := 1) hx hb dX8_keepNote_41 (by decide) ?_
      refine lv_isub hx hb dX8_keepNote_42 ?_
      refine lv_aload_n hx hb dX8_keepNote_43 rfl (lv_at hl 0 rfl) ?_
      refine gX8_23 C hP dX8_keepNote_44 ?_
      refine lv_iload hx hb dX8_keepNote_47 (lv_at hl 4 rfl) ?_
      have hin := And.left h
      replace h := And.right h
      refine lX8_23 C hP hin dX8_keepNote_49 ?_
      refine lv_topi (fun v10 ev10 => ?_)
      replace h := h v10 ev10
      have hin := And.left h
      obtain ⟨j11, ej11⟩ : ∃ j : Nat, j = (x4 - (1 : Int32)).toNatClampNeg := ⟨_, rfl⟩
      replace h := And.right h j11 ej11
      refine sX8_23 C hP hD hS hin ej11 dX8_keepNote_50 (fun H locs hP hD hS => ?_)
      refine lv_aload_n hx hb dX8_keepNote_51 rfl (lv_at hl 0 rfl) ?_
      refine gX8_24 C hP dX8_keepNote_52 ?_
      refine lv_iload hx hb dX8_keepNote_55 (lv_at hl 4 rfl) ?_
      refine lv_iconst (v := 1) hx hb dX8_keepNote_57 (by decide) ?_
      refine lv_isub hx hb dX8_keepNote_58 ?_
      refine lv_aload_n hx hb dX8_keepNote_59 rfl (lv_at hl 0 rfl) ?_
      refine gX8_24 C hP dX8_keepNote_60 ?_
      refine lv_iload hx hb dX8_keepNote_63 (lv_at hl 4 rfl) ?_
      have hin := And.left h
      replace h := And.right h
      refine lX8_24 C hP hin dX8_keepNote_65 ?_
      refine lv_topi (fun v12 ev12 => ?_)
      replace h := h v12 ev12
      have hin := And.left h
      obtain ⟨j13, ej13⟩ : ∃ j : Nat, j = (x4 - (1 : Int32)).toNatClampNeg := ⟨_, rfl⟩
      replace h := And.right h j13 ej13
      refine sX8_24 C hP hD hS hin ej13 dX8_keepNote_66 (fun H locs hP hD hS => ?_)
      obtain ⟨v14, ev14⟩ : ∃ y : Int32, y = x4 + (1 : Int32) := ⟨_, rfl⟩
      replace h := h v14 ev14
      refine lv_iinc (v := v14) (lv' := [(4, .int v14), (0, .ref h0), (1, .int p1), (2, .int p2), (3, .int p3)]) hx hb dX8_keepNote_67 hl (k := 4) rfl (by rw [ev14]; rfl) (by decide) rfl (fun ls hl => ?_)
      refine lv_goto (tgt := 12) hx hb dX8_keepNote_70 (by decide) ?_
      exact ihn _ _ _ _ _ (lv_sub hl [1, 2, 3, 4, 0] rfl) hP hD hS h
set_option maxHeartbeats 4000000 in
set_option maxRecDepth 100000 in
theorem c_X8_keepNote {l : Launch} {D : va_G} {K : Nat → ClassId} {h0 : Nat} {a0 : Nat → Nat} {n0 : Nat → Option Nat} {la0 : Nat → Nat} {r0 : zS} {p1 : Int32} {p2 : Int32} {p3 : Int32} {sz : Nat} {post : (zS) → Prop}   (h : wp_X8_keepNote r0 p1 p2 p3 post) : Met l yX8_keepNote (Cond.code yX8_keepNote cX8_keepNote 5 none :: wsL_law) ({ frames := 0, cells := 0, slots := 0, locals := 0 } : Room) (va_Pc [.ref h0, .int p1, .int p2, .int p3] (xPre D vwCl (xty K) (wX8 K h0 a0 n0 la0 r0 ++ (([] : va_W))) sz)) (va_Qv (fun (u : (zS)) => post u) (fun (u : (zS)) t => va_P D vwCl (wX8 K h0 a0 n0 la0 u ++ (([] : va_W))) t.heap) (va_A (wX8 K h0 a0 n0 la0 r0 ++ (([] : va_W))) sz)) 0 0 (va_A (wX8 K h0 a0 n0 la0 r0 ++ (([] : va_W))) sz) := by
  refine xMet (by decide) rfl (Nat.le_of_ble_eq_true rfl) (fun p e s m args below meth c C hnm hP hD hsz ls hl => ?_)
  have hl : lv_has ls 5 [(0, .ref h0), (1, .int p1), (2, .int p2), (3, .int p3)] := hl
  obtain ⟨hx, hb, hr, hml, hown, hts, hlocks, hK, hT⟩ := id C
  subst hsz
  generalize hAe : va_A (wX8 K h0 a0 n0 la0 r0 ++ (([] : va_W))) s.heap.size = A at hD ⊢
  have hA : ∀ q : Nat, s.heap.size ≤ q → A q := fun q h => by rw [← hAe]; exact Or.inr h
  have hS : va_S A s.heap s.heap [] := va_S.rf
  have hP : va_P D vwCl (wX8 K h0 a0 n0 la0 r0 ++ (([] : va_W))) s.heap := hP
  unfold wp_X8_keepNote at h
  refine lv_aload_n hx hb dX8_keepNote_0 rfl (lv_at hl 0 rfl) ?_
  refine gX8_21 C hP dX8_keepNote_1 ?_
  refine lv_bipush (v := 16) hx hb dX8_keepNote_4 (by decide) ?_
  refine lv_icmp_ne (tgt := 83) hx hb dX8_keepNote_6 (by decide) (fun c1 => ?_) (fun c1 => ?_)
  · replace h := And.right h c1
    exact t_X8_keepNote_83 C hA _ _ _ _ (lv_sub hl [0, 1, 2, 3] rfl) hP hD hS h
  · replace h := And.left h c1
    refine lv_iconst (v := 1) hx hb dX8_keepNote_9 (by decide) ?_
    refine lv_istore (lv' := [(4, .int (1 : Int32)), (0, .ref h0), (1, .int p1), (2, .int p2), (3, .int p3)]) hx hb dX8_keepNote_10 hl (by decide) rfl (fun ls hl => ?_)
    obtain ⟨n0, h⟩ := h
    exact t_X8_keepNote_12 C hA n0 _ _ _ _ _ (lv_sub hl [1, 2, 3, 4, 0] rfl) hP hD hS h

def wp_X8_send_168 (p1 : Int32) (p2 : Int32) (post : Int32 → (zS) → Prop) (r0 : zS) (x3 : Int32) (x4 : Int32) : Prop :=
  wp_X8_keepNote r0 x3 (x3 &&& ((((1 : Int32) <<< (p1 &&& 31)) ||| ((1 : Int32) <<< (p2 &&& 31))) ^^^ (-1 : Int32))) x4 (fun s9 => ∀ v10 : Int32, v10 = ((s9.1 19) + (1 : Int32)) → ∀ v11 : Int32, v11 = (((zI s9 19 v10).1 20) + x4) → post x4 (zI (zI s9 19 v10) 20 v11))
def wp_X8_send_138 (p1 : Int32) (p2 : Int32) (post : Int32 → (zS) → Prop) (k79 : (zS) → Int32 → Int32 → Int32 → Prop) (r0 : zS) (x3 : Int32) (x5 : Int32) (y0 : Int32) : Prop :=
  vp_in (x5 - (1 : Int32)) 12 ∧ (wp_X8_takes r0 (r0.2.1 45 (x5 - (1 : Int32)).toNatClampNeg) (fun v18 => ∀ v19 : Int32, v19 = ((r0.1 18) + v18) → ∀ v20 : Int32, v20 = x5 + (1 : Int32) → k79 (zI r0 18 v19) x3 y0 v20))
def wp_X8_send_127 (p1 : Int32) (p2 : Int32) (post : Int32 → (zS) → Prop) (k79 : (zS) → Int32 → Int32 → Int32 → Prop) (r0 : zS) (x3 : Int32) (x5 : Int32) (y0 : Int32) (y1 : Int32) (y2 : Int32) (y3 : Int32) : Prop :=
  wp_X8_lossAt r0 y2 y1 y0 (fun v16 => (v16 ≤ y3 → wp_X8_send_138 p1 p2 post k79 r0 x3 x5 (1 : Int32)) ∧ (¬ v16 ≤ y3 → wp_X8_send_138 p1 p2 post k79 r0 x3 x5 (0 : Int32)))
def wb_X8_send_79 (p1 : Int32) (p2 : Int32) (post : Int32 → (zS) → Prop) (ih : (zS) → Int32 → Int32 → Int32 → Prop) (r0 : zS) (x3 : Int32) (x4 : Int32) (x5 : Int32) : Prop :=
  ((r0.1 43) < x5 → wp_X8_send_168 p1 p2 post r0 x3 x4) ∧ (¬ (r0.1 43) < x5 → (x4 = (1 : Int32) → wp_X8_below r0 (1000 : Int32) (fun v13 s14 => vp_in x5 12 ∧ ((x5 = (s14.1 43) → wp_X8_send_127 p1 p2 post ih s14 x3 x5 (1 : Int32) (s14.1 18) (s14.2.1 45 x5.toNatClampNeg) v13) ∧ (¬ x5 = (s14.1 43) → wp_X8_send_127 p1 p2 post ih s14 x3 x5 (0 : Int32) (s14.1 18) (s14.2.1 45 x5.toNatClampNeg) v13)))) ∧ (¬ x4 = (1 : Int32) → wp_X8_send_168 p1 p2 post r0 x3 x4))
def wp_X8_send_79 (p1 : Int32) (p2 : Int32) (post : Int32 → (zS) → Prop) (n : Nat) : (zS) → Int32 → Int32 → Int32 → Prop := Nat.rec (motive := fun _ => (zS) → Int32 → Int32 → Int32 → Prop) (fun _ _ _ _ => False) (fun _ ih => wb_X8_send_79 p1 p2 post ih) n
theorem wu_X8_send_79 (p1 : Int32) (p2 : Int32) (post : Int32 → (zS) → Prop) (n : Nat) (r0 : zS) (x3 : Int32) (x4 : Int32) (x5 : Int32) : wp_X8_send_79 p1 p2 post (n + 1) r0 x3 x4 x5 = wb_X8_send_79 p1 p2 post (wp_X8_send_79 p1 p2 post n) r0 x3 x4 x5 := rfl
def wb_X8_send_46 (p1 : Int32) (p2 : Int32) (post : Int32 → (zS) → Prop) (ih : (zS) → Int32 → Int32 → Prop) (r0 : zS) (x3 : Int32) (x4 : Int32) : Prop :=
  ((r0.1 43) < x4 → ∃ n : Nat, wp_X8_send_79 p1 p2 post n r0 x3 (1 : Int32) (1 : Int32)) ∧ (¬ (r0.1 43) < x4 → vp_in x4 12 ∧ (∀ v21 : Int32, v21 = (x3 ||| ((1 : Int32) <<< ((r0.2.1 45 x4.toNatClampNeg) &&& 31))) → ∀ v22 : Int32, v22 = x4 + (1 : Int32) → ih r0 v21 v22))
def wp_X8_send_46 (p1 : Int32) (p2 : Int32) (post : Int32 → (zS) → Prop) (n : Nat) : (zS) → Int32 → Int32 → Prop := Nat.rec (motive := fun _ => (zS) → Int32 → Int32 → Prop) (fun _ _ _ => False) (fun _ ih => wb_X8_send_46 p1 p2 post ih) n
theorem wu_X8_send_46 (p1 : Int32) (p2 : Int32) (post : Int32 → (zS) → Prop) (n : Nat) (r0 : zS) (x3 : Int32) (x4 : Int32) : wp_X8_send_46 p1 p2 post (n + 1) r0 x3 x4 = wb_X8_send_46 p1 p2 post (wp_X8_send_46 p1 p2 post n) r0 x3 x4 := rfl
def wp_X8_send (r0 : zS) (p1 : Int32) (p2 : Int32) (post : Int32 → (zS) → Prop) : Prop :=
  wp_X8_areTwo r0 p1 p2 (fun v1 => (v1 = 0 → wp_X8_refuse r0 (-2 : Int32) (fun v25 s26 => post v25 s26)) ∧ (¬ v1 = 0 → wp_X8_findWays r0 p1 p2 (r0.1 18) (0 : Int32) (fun s4 => ((s4.1 38) = 0 → wp_X8_refuse s4 (-5 : Int32) (fun v23 s24 => post v23 s24)) ∧ (¬ (s4.1 38) = 0 → ∃ n : Nat, wp_X8_send_46 p1 p2 post n s4 (0 : Int32) (0 : Int32)))))
set_option maxHeartbeats 4000000 in
set_option maxRecDepth 100000 in
theorem t_X8_send_168 {p : Program} {l : Launch} {e : Env} {s : State} {m : MethodId} {args : Array Value} {below : List Frame} {meth : Method} {c : Code} {D : va_G} {K : Nat → ClassId} {h0 : Nat} {a0 : Nat → Nat} {n0 : Nat → Option Nat} {la0 : Nat → Nat} {p1 : Int32} {p2 : Int32} {post : Int32 → (zS) → Prop} {A : Nat → Prop} (C : xC p s m args meth c cX8_send RX8 6 (some .int) D vwCl (xty K)) (hA : ∀ q, s.heap.size ≤ q → A q) : ∀ (r0 : zS) (x3 : Int32) (x4 : Int32) (H : Heap) (locs : List Loc) (ls : Array Slot), lv_has ls 6 [(0, .ref h0), (1, .int p1), (2, .int p2), (3, .int x3), (4, .int x4)] → va_P D vwCl (wX8 K h0 a0 n0 la0 r0 ++ (([] : va_W))) H → va_D A (wX8 K h0 a0 n0 la0 r0 ++ (([] : va_W))) → va_S A s.heap H locs → wp_X8_send_168 p1 p2 post r0 x3 x4 → W p l e ({ frames := 15, cells := 0, slots := 0, locals := 540 } : Room) s m args below meth c H locs 0 0 (MQ below (va_Qi (fun r (u : (zS)) => post r u) (fun (u : (zS)) t => va_P D vwCl (wX8 K h0 a0 n0 la0 u ++ (([] : va_W))) t.heap) A) args s 0 0 A) (F0 m 168 ls []) := by
  obtain ⟨hx, hb, hr, hml, hown, hts, hlocks, hK, hT⟩ := id C
  intro r0 x3 x4 H locs ls hl hP hD hS h
  unfold wp_X8_send_168 at h
  refine lv_aload_n hx hb dX8_send_168 rfl (lv_at hl 0 rfl) ?_
  refine lv_iload_n hx hb dX8_send_169 rfl (lv_at hl 3 rfl) ?_
  refine lv_iload_n hx hb dX8_send_170 rfl (lv_at hl 3 rfl) ?_
  refine lv_iconst (v := 1) hx hb dX8_send_171 (by decide) ?_
  refine lv_iload_n hx hb dX8_send_172 rfl (lv_at hl 1 rfl) ?_
  refine lv_ishl hx hb dX8_send_173 ?_
  refine lv_iconst (v := 1) hx hb dX8_send_174 (by decide) ?_
  refine lv_iload_n hx hb dX8_send_175 rfl (lv_at hl 2 rfl) ?_
  refine lv_ishl hx hb dX8_send_176 ?_
  refine lv_ior hx hb dX8_send_177 ?_
  refine lv_iconst (v := -1) hx hb dX8_send_178 (by decide) ?_
  refine lv_ixor hx hb dX8_send_179 ?_
  refine lv_iand hx hb dX8_send_180 ?_
  refine lv_iload hx hb dX8_send_181 (lv_at hl 4 rfl) ?_
  refine xend_rw_v_id (wf := fun (u : (zS)) => (wX8 K h0 a0 n0 la0 u ++ (([] : va_W)))) (xRunV_id (As := [.int x3, .int (x3 &&& ((((1 : Int32) <<< (p1 &&& 31)) ||| ((1 : Int32) <<< (p2 &&& 31))) ^^^ (-1 : Int32))), .int x4]) (rest := []) C (c_X8_keepNote h) k_X8_keepNote mw_1156 ⟨rfl, rfl⟩ ⟨Nat.le_of_ble_eq_true rfl, Nat.le_of_ble_eq_true rfl⟩ hP hD rfl rfl hl rfl rfl (Nat.le_of_ble_eq_true rfl) dX8_send_183 ⟨Nat.le_refl _, Nat.le_refl _⟩) hD hS hA (fun _ => wX8_adr _ _) (fun s9 H locs h hP hD hS => ?_)
  refine lv_aload_n hx hb dX8_send_186 rfl (lv_at hl 0 rfl) ?_
  refine lv_dup hx hb dX8_send_187 rfl ?_
  refine gX8_19 C hP dX8_send_188 ?_
  refine lv_iconst (v := 1) hx hb dX8_send_191 (by decide) ?_
  refine lv_iadd hx hb dX8_send_192 ?_
  refine lv_topi (fun v10 ev10 => ?_)
  replace h := h v10 ev10
  refine pX8_19 C hP hD hS dX8_send_193 (fun H locs hP hD hS => ?_)
  refine lv_aload_n hx hb dX8_send_196 rfl (lv_at hl 0 rfl) ?_
  refine lv_dup hx hb dX8_send_197 rfl ?_
  refine gX8_20 C hP dX8_send_198 ?_
  refine lv_iload hx hb dX8_send_201 (lv_at hl 4 rfl) ?_
  refine lv_iadd hx hb dX8_send_203 ?_
  refine lv_topi (fun v11 ev11 => ?_)
  replace h := h v11 ev11
  refine pX8_20 C hP hD hS dX8_send_204 (fun H locs hP hD hS => ?_)
  refine lv_iload hx hb dX8_send_207 (lv_at hl 4 rfl) ?_
  exact xrw_i C (zI (zI s9 19 v10) 20 v11) h hP hS dX8_send_209
set_option maxHeartbeats 4000000 in
set_option maxRecDepth 100000 in
theorem t_X8_send_138 {p : Program} {l : Launch} {e : Env} {s : State} {m : MethodId} {args : Array Value} {below : List Frame} {meth : Method} {c : Code} {D : va_G} {K : Nat → ClassId} {h0 : Nat} {a0 : Nat → Nat} {n0 : Nat → Option Nat} {la0 : Nat → Nat} {p1 : Int32} {p2 : Int32} {post : Int32 → (zS) → Prop} {A : Nat → Prop} (C : xC p s m args meth c cX8_send RX8 6 (some .int) D vwCl (xty K)) (hA : ∀ q, s.heap.size ≤ q → A q) {k79 : (zS) → Int32 → Int32 → Int32 → Prop} (hk79 : ∀ (r0 : zS) (x3 : Int32) (x4 : Int32) (x5 : Int32) (H : Heap) (locs : List Loc) (ls : Array Slot), lv_has ls 6 [(0, .ref h0), (1, .int p1), (2, .int p2), (3, .int x3), (4, .int x4), (5, .int x5)] → va_P D vwCl (wX8 K h0 a0 n0 la0 r0 ++ (([] : va_W))) H → va_D A (wX8 K h0 a0 n0 la0 r0 ++ (([] : va_W))) → va_S A s.heap H locs → k79 r0 x3 x4 x5  → W p l e ({ frames := 15, cells := 0, slots := 0, locals := 540 } : Room) s m args below meth c H locs 0 0 (MQ below (va_Qi (fun r (u : (zS)) => post r u) (fun (u : (zS)) t => va_P D vwCl (wX8 K h0 a0 n0 la0 u ++ (([] : va_W))) t.heap) A) args s 0 0 A) (F0 m 79 ls [])) : ∀ (r0 : zS) (x3 : Int32) (x5 : Int32) (y0 : Int32) (H : Heap) (locs : List Loc) (ls : Array Slot), lv_has ls 6 [(0, .ref h0), (1, .int p1), (2, .int p2), (3, .int x3), (5, .int x5)] → va_P D vwCl (wX8 K h0 a0 n0 la0 r0 ++ (([] : va_W))) H → va_D A (wX8 K h0 a0 n0 la0 r0 ++ (([] : va_W))) → va_S A s.heap H locs → wp_X8_send_138 p1 p2 post k79 r0 x3 x5 y0 → W p l e ({ frames := 15, cells := 0, slots := 0, locals := 540 } : Room) s m args below meth c H locs 0 0 (MQ below (va_Qi (fun r (u : (zS)) => post r u) (fun (u : (zS)) t => va_P D vwCl (wX8 K h0 a0 n0 la0 u ++ (([] : va_W))) t.heap) A) args s 0 0 A) (F0 m 138 ls [.int y0]) := by
  obtain ⟨hx, hb, hr, hml, hown, hts, hlocks, hK, hT⟩ := id C
  intro r0 x3 x5 y0 H locs ls hl hP hD hS h
  unfold wp_X8_send_138 at h
  refine lv_istore (lv' := [(4, .int y0), (0, .ref h0), (1, .int p1), (2, .int p2), (3, .int x3), (5, .int x5)]) hx hb dX8_send_138 hl (by decide) rfl (fun ls hl => ?_)
  refine lv_aload_n hx hb dX8_send_140 rfl (lv_at hl 1 rfl) ?_
  refine lv_dup hx hb dX8_send_141 rfl ?_
  refine gX8_18 C hP dX8_send_142 ?_
  refine lv_aload_n hx hb dX8_send_145 rfl (lv_at hl 1 rfl) ?_
  refine lv_aload_n hx hb dX8_send_146 rfl (lv_at hl 1 rfl) ?_
  refine gX8_45 C hP dX8_send_147 ?_
  refine lv_iload hx hb dX8_send_150 (lv_at hl 5 rfl) ?_
  refine lv_iconst (v := 1) hx hb dX8_send_152 (by decide) ?_
  refine lv_isub hx hb dX8_send_153 ?_
  have hin := And.left h
  replace h := And.right h
  refine lX8_45 C hP hin dX8_send_154 ?_
  refine xend_ro_i (xRunV_id (As := [.int (r0.2.1 45 (x5 - (1 : Int32)).toNatClampNeg)]) (rest := [.int (r0.1 18), .ref h0]) C (c_X8_takes h) k_X8_takes mw_348 ⟨rfl, rfl⟩ ⟨Nat.le_of_ble_eq_true rfl, Nat.le_of_ble_eq_true rfl⟩ hP hD rfl rfl hl rfl rfl (Nat.le_of_ble_eq_true rfl) dX8_send_155 ⟨Nat.le_refl _, Nat.le_refl _⟩) (fun v18 h => ?_)
  refine lv_iadd hx hb dX8_send_158 ?_
  refine lv_topi (fun v19 ev19 => ?_)
  replace h := h v19 ev19
  refine pX8_18 C hP hD hS dX8_send_159 (fun H locs hP hD hS => ?_)
  obtain ⟨v20, ev20⟩ : ∃ y : Int32, y = x5 + (1 : Int32) := ⟨_, rfl⟩
  replace h := h v20 ev20
  refine lv_iinc (v := v20) (lv' := [(5, .int v20), (4, .int y0), (0, .ref h0), (1, .int p1), (2, .int p2), (3, .int x3)]) hx hb dX8_send_162 hl (k := 5) rfl (by rw [ev20]; rfl) (by decide) rfl (fun ls hl => ?_)
  refine lv_goto (tgt := 79) hx hb dX8_send_165 (by decide) ?_
  exact hk79 _ _ _ _ _ _ _ (lv_sub hl [2, 3, 4, 5, 1, 0] rfl) hP hD hS h
set_option maxHeartbeats 4000000 in
set_option maxRecDepth 100000 in
theorem t_X8_send_127 {p : Program} {l : Launch} {e : Env} {s : State} {m : MethodId} {args : Array Value} {below : List Frame} {meth : Method} {c : Code} {D : va_G} {K : Nat → ClassId} {h0 : Nat} {a0 : Nat → Nat} {n0 : Nat → Option Nat} {la0 : Nat → Nat} {p1 : Int32} {p2 : Int32} {post : Int32 → (zS) → Prop} {A : Nat → Prop} (C : xC p s m args meth c cX8_send RX8 6 (some .int) D vwCl (xty K)) (hA : ∀ q, s.heap.size ≤ q → A q) {k79 : (zS) → Int32 → Int32 → Int32 → Prop} (hk79 : ∀ (r0 : zS) (x3 : Int32) (x4 : Int32) (x5 : Int32) (H : Heap) (locs : List Loc) (ls : Array Slot), lv_has ls 6 [(0, .ref h0), (1, .int p1), (2, .int p2), (3, .int x3), (4, .int x4), (5, .int x5)] → va_P D vwCl (wX8 K h0 a0 n0 la0 r0 ++ (([] : va_W))) H → va_D A (wX8 K h0 a0 n0 la0 r0 ++ (([] : va_W))) → va_S A s.heap H locs → k79 r0 x3 x4 x5  → W p l e ({ frames := 15, cells := 0, slots := 0, locals := 540 } : Room) s m args below meth c H locs 0 0 (MQ below (va_Qi (fun r (u : (zS)) => post r u) (fun (u : (zS)) t => va_P D vwCl (wX8 K h0 a0 n0 la0 u ++ (([] : va_W))) t.heap) A) args s 0 0 A) (F0 m 79 ls [])) : ∀ (r0 : zS) (x3 : Int32) (x5 : Int32) (y0 : Int32) (y1 : Int32) (y2 : Int32) (y3 : Int32) (H : Heap) (locs : List Loc) (ls : Array Slot), lv_has ls 6 [(0, .ref h0), (1, .int p1), (2, .int p2), (3, .int x3), (5, .int x5)] → va_P D vwCl (wX8 K h0 a0 n0 la0 r0 ++ (([] : va_W))) H → va_D A (wX8 K h0 a0 n0 la0 r0 ++ (([] : va_W))) → va_S A s.heap H locs → wp_X8_send_127 p1 p2 post k79 r0 x3 x5 y0 y1 y2 y3 → W p l e ({ frames := 15, cells := 0, slots := 0, locals := 540 } : Room) s m args below meth c H locs 0 0 (MQ below (va_Qi (fun r (u : (zS)) => post r u) (fun (u : (zS)) t => va_P D vwCl (wX8 K h0 a0 n0 la0 u ++ (([] : va_W))) t.heap) A) args s 0 0 A) (F0 m 127 ls [.int y0, .int y1, .int y2, .ref h0, .int y3]) := by
  obtain ⟨hx, hb, hr, hml, hown, hts, hlocks, hK, hT⟩ := id C
  intro r0 x3 x5 y0 y1 y2 y3 H locs ls hl hP hD hS h
  unfold wp_X8_send_127 at h
  refine xend_ro_i (xRunV_id (As := [.int y2, .int y1, .int y0]) (rest := [.int y3]) C (c_X8_lossAt h) k_X8_lossAt mw_743 ⟨rfl, rfl⟩ ⟨Nat.le_of_ble_eq_true rfl, Nat.le_of_ble_eq_true rfl⟩ hP hD rfl rfl hl rfl rfl (Nat.le_of_ble_eq_true rfl) dX8_send_127 ⟨Nat.le_refl _, Nat.le_refl _⟩) (fun v16 h => ?_)
  refine lv_icmp_ge (tgt := 137) hx hb dX8_send_130 (by decide) (fun c17 => ?_) (fun c17 => ?_)
  · replace h := And.left h c17
    refine lv_iconst (v := 1) hx hb dX8_send_137 (by decide) ?_
    exact t_X8_send_138 C hA hk79 _ _ _ _ _ _ _ (lv_sub hl [0, 1, 2, 3, 4] rfl) hP hD hS h
  · replace h := And.right h c17
    refine lv_iconst (v := 0) hx hb dX8_send_133 (by decide) ?_
    refine lv_goto (tgt := 138) hx hb dX8_send_134 (by decide) ?_
    exact t_X8_send_138 C hA hk79 _ _ _ _ _ _ _ (lv_sub hl [0, 1, 2, 3, 4] rfl) hP hD hS h
set_option maxHeartbeats 4000000 in
set_option maxRecDepth 100000 in
theorem t_X8_send_79 {p : Program} {l : Launch} {e : Env} {s : State} {m : MethodId} {args : Array Value} {below : List Frame} {meth : Method} {c : Code} {D : va_G} {K : Nat → ClassId} {h0 : Nat} {a0 : Nat → Nat} {n0 : Nat → Option Nat} {la0 : Nat → Nat} {p1 : Int32} {p2 : Int32} {post : Int32 → (zS) → Prop} {A : Nat → Prop} (C : xC p s m args meth c cX8_send RX8 6 (some .int) D vwCl (xty K)) (hA : ∀ q, s.heap.size ≤ q → A q) : ∀ (n : Nat) (r0 : zS) (x3 : Int32) (x4 : Int32) (x5 : Int32) (H : Heap) (locs : List Loc) (ls : Array Slot), lv_has ls 6 [(0, .ref h0), (1, .int p1), (2, .int p2), (3, .int x3), (4, .int x4), (5, .int x5)] → va_P D vwCl (wX8 K h0 a0 n0 la0 r0 ++ (([] : va_W))) H → va_D A (wX8 K h0 a0 n0 la0 r0 ++ (([] : va_W))) → va_S A s.heap H locs → wp_X8_send_79 p1 p2 post n r0 x3 x4 x5 → W p l e ({ frames := 15, cells := 0, slots := 0, locals := 540 } : Room) s m args below meth c H locs 0 0 (MQ below (va_Qi (fun r (u : (zS)) => post r u) (fun (u : (zS)) t => va_P D vwCl (wX8 K h0 a0 n0 la0 u ++ (([] : va_W))) t.heap) A) args s 0 0 A) (F0 m 79 ls []) := by
  obtain ⟨hx, hb, hr, hml, hown, hts, hlocks, hK, hT⟩ := id C
  intro n
  induction n with
  | zero =>
    intro r0 x3 x4 x5 H locs ls hl hP hD hS h
    exact False.elim h
  | succ n ihn =>
    intro r0 x3 x4 x5 H locs ls hl hP hD hS h
    rw [wu_X8_send_79] at h
    unfold wb_X8_send_79 at h
    refine lv_iload hx hb dX8_send_79 (lv_at hl 5 rfl) ?_
    refine lv_aload_n hx hb dX8_send_81 rfl (lv_at hl 0 rfl) ?_
    refine gX8_43 C hP dX8_send_82 ?_
    refine lv_icmp_gt (tgt := 168) hx hb dX8_send_85 (by decide) (fun c7 => ?_) (fun c7 => ?_)
    · replace h := And.left h c7
      exact t_X8_send_168 C hA _ _ _ _ _ _ (lv_sub hl [0, 1, 2, 3, 4] rfl) hP hD hS h
    · replace h := And.right h c7
      refine lv_iload hx hb dX8_send_88 (lv_at hl 4 rfl) ?_
      refine lv_iconst (v := 1) hx hb dX8_send_90 (by decide) ?_
      refine lv_icmp_ne (tgt := 168) hx hb dX8_send_91 (by decide) (fun c12 => ?_) (fun c12 => ?_)
      · replace h := And.right h c12
        exact t_X8_send_168 C hA _ _ _ _ _ _ (lv_sub hl [0, 1, 2, 3, 4] rfl) hP hD hS h
      · replace h := And.left h c12
        refine lv_aload_n hx hb dX8_send_94 rfl (lv_at hl 0 rfl) ?_
        refine lv_sipush (v := 1000) hx hb dX8_send_95 (by decide) ?_
        refine xend_rw_i_id (wf := fun (u : (zS)) => (wX8 K h0 a0 n0 la0 u ++ (([] : va_W)))) (xRunV_id (As := [.int (1000 : Int32)]) (rest := []) C (c_X8_below h) k_X8_below mw_1151 ⟨rfl, rfl⟩ ⟨Nat.le_of_ble_eq_true rfl, Nat.le_of_ble_eq_true rfl⟩ hP hD rfl rfl hl rfl rfl (Nat.le_of_ble_eq_true rfl) dX8_send_98 ⟨Nat.le_refl _, Nat.le_refl _⟩) hD hS hA (fun _ => wX8_adr _ _) (fun v13 s14 H locs h hP hD hS => ?_)
        refine lv_aload_n hx hb dX8_send_101 rfl (lv_at hl 0 rfl) ?_
        refine lv_aload_n hx hb dX8_send_102 rfl (lv_at hl 0 rfl) ?_
        refine gX8_45 C hP dX8_send_103 ?_
        refine lv_iload hx hb dX8_send_106 (lv_at hl 5 rfl) ?_
        have hin := And.left h
        replace h := And.right h
        refine lX8_45 C hP hin dX8_send_108 ?_
        refine lv_aload_n hx hb dX8_send_109 rfl (lv_at hl 0 rfl) ?_
        refine gX8_18 C hP dX8_send_110 ?_
        refine lv_iload hx hb dX8_send_113 (lv_at hl 5 rfl) ?_
        refine lv_aload_n hx hb dX8_send_115 rfl (lv_at hl 0 rfl) ?_
        refine gX8_43 C hP dX8_send_116 ?_
        refine lv_icmp_ne (tgt := 126) hx hb dX8_send_119 (by decide) (fun c15 => ?_) (fun c15 => ?_)
        · replace h := And.right h c15
          refine lv_iconst (v := 0) hx hb dX8_send_126 (by decide) ?_
          exact t_X8_send_127 C hA ihn _ _ _ _ _ _ _ _ _ _ (lv_sub hl [0, 1, 2, 3, 5] rfl) hP hD hS h
        · replace h := And.left h c15
          refine lv_iconst (v := 1) hx hb dX8_send_122 (by decide) ?_
          refine lv_goto (tgt := 127) hx hb dX8_send_123 (by decide) ?_
          exact t_X8_send_127 C hA ihn _ _ _ _ _ _ _ _ _ _ (lv_sub hl [0, 1, 2, 3, 5] rfl) hP hD hS h
set_option maxHeartbeats 4000000 in
set_option maxRecDepth 100000 in
theorem t_X8_send_46 {p : Program} {l : Launch} {e : Env} {s : State} {m : MethodId} {args : Array Value} {below : List Frame} {meth : Method} {c : Code} {D : va_G} {K : Nat → ClassId} {h0 : Nat} {a0 : Nat → Nat} {n0 : Nat → Option Nat} {la0 : Nat → Nat} {p1 : Int32} {p2 : Int32} {post : Int32 → (zS) → Prop} {A : Nat → Prop} (C : xC p s m args meth c cX8_send RX8 6 (some .int) D vwCl (xty K)) (hA : ∀ q, s.heap.size ≤ q → A q) : ∀ (n : Nat) (r0 : zS) (x3 : Int32) (x4 : Int32) (H : Heap) (locs : List Loc) (ls : Array Slot), lv_has ls 6 [(0, .ref h0), (1, .int p1), (2, .int p2), (3, .int x3), (4, .int x4)] → va_P D vwCl (wX8 K h0 a0 n0 la0 r0 ++ (([] : va_W))) H → va_D A (wX8 K h0 a0 n0 la0 r0 ++ (([] : va_W))) → va_S A s.heap H locs → wp_X8_send_46 p1 p2 post n r0 x3 x4 → W p l e ({ frames := 15, cells := 0, slots := 0, locals := 540 } : Room) s m args below meth c H locs 0 0 (MQ below (va_Qi (fun r (u : (zS)) => post r u) (fun (u : (zS)) t => va_P D vwCl (wX8 K h0 a0 n0 la0 u ++ (([] : va_W))) t.heap) A) args s 0 0 A) (F0 m 46 ls []) := by
  obtain ⟨hx, hb, hr, hml, hown, hts, hlocks, hK, hT⟩ := id C
  intro n
  induction n with
  | zero =>
    intro r0 x3 x4 H locs ls hl hP hD hS h
    exact False.elim h
  | succ n ihn =>
    intro r0 x3 x4 H locs ls hl hP hD hS h
    rw [wu_X8_send_46] at h
    unfold wb_X8_send_46 at h
    refine lv_iload hx hb dX8_send_46 (lv_at hl 4 rfl) ?_
    refine lv_aload_n hx hb dX8_send_48 rfl (lv_at hl 0 rfl) ?_
    refine gX8_43 C hP dX8_send_49 ?_
    refine lv_icmp_gt (tgt := 73) hx hb dX8_send_52 (by decide) (fun c6 => ?_) (fun c6 => ?_)
    · replace h := And.left h c6
      refine lv_iconst (v := 1) hx hb dX8_send_73 (by decide) ?_
      refine lv_istore (lv' := [(4, .int (1 : Int32)), (0, .ref h0), (1, .int p1), (2, .int p2), (3, .int x3)]) hx hb dX8_send_74 hl (by decide) rfl (fun ls hl => ?_)
      refine lv_iconst (v := 1) hx hb dX8_send_76 (by decide) ?_
      refine lv_istore (lv' := [(5, .int (1 : Int32)), (4, .int (1 : Int32)), (0, .ref h0), (1, .int p1), (2, .int p2), (3, .int x3)]) hx hb dX8_send_77 hl (by decide) rfl (fun ls hl => ?_)
      obtain ⟨n0, h⟩ := h
      exact t_X8_send_79 C hA n0 _ _ _ _ _ _ _ (lv_sub hl [2, 3, 4, 5, 1, 0] rfl) hP hD hS h
    · replace h := And.right h c6
      refine lv_iload_n hx hb dX8_send_55 rfl (lv_at hl 3 rfl) ?_
      refine lv_iconst (v := 1) hx hb dX8_send_56 (by decide) ?_
      refine lv_aload_n hx hb dX8_send_57 rfl (lv_at hl 0 rfl) ?_
      refine gX8_45 C hP dX8_send_58 ?_
      refine lv_iload hx hb dX8_send_61 (lv_at hl 4 rfl) ?_
      have hin := And.left h
      replace h := And.right h
      refine lX8_45 C hP hin dX8_send_63 ?_
      refine lv_ishl hx hb dX8_send_64 ?_
      refine lv_ior hx hb dX8_send_65 ?_
      refine lv_topi (fun v21 ev21 => ?_)
      replace h := h v21 ev21
      refine lv_istore_n (lv' := [(3, .int v21), (0, .ref h0), (1, .int p1), (2, .int p2), (4, .int x4)]) hx hb dX8_send_66 rfl hl (by decide) rfl (fun ls hl => ?_)
      obtain ⟨v22, ev22⟩ : ∃ y : Int32, y = x4 + (1 : Int32) := ⟨_, rfl⟩
      replace h := h v22 ev22
      refine lv_iinc (v := v22) (lv' := [(4, .int v22), (3, .int v21), (0, .ref h0), (1, .int p1), (2, .int p2)]) hx hb dX8_send_67 hl (k := 4) rfl (by rw [ev22]; rfl) (by decide) rfl (fun ls hl => ?_)
      refine lv_goto (tgt := 46) hx hb dX8_send_70 (by decide) ?_
      exact ihn _ _ _ _ _ _ (lv_sub hl [2, 3, 4, 1, 0] rfl) hP hD hS h
set_option maxHeartbeats 4000000 in
set_option maxRecDepth 100000 in
theorem c_X8_send {l : Launch} {D : va_G} {K : Nat → ClassId} {h0 : Nat} {a0 : Nat → Nat} {n0 : Nat → Option Nat} {la0 : Nat → Nat} {r0 : zS} {p1 : Int32} {p2 : Int32} {sz : Nat} {post : Int32 → (zS) → Prop}   (h : wp_X8_send r0 p1 p2 post) : Met l yX8_send (Cond.code yX8_send cX8_send 6 (some .int) :: wsL_law) ({ frames := 15, cells := 0, slots := 0, locals := 540 } : Room) (va_Pc [.ref h0, .int p1, .int p2] (xPre D vwCl (xty K) (wX8 K h0 a0 n0 la0 r0 ++ (([] : va_W))) sz)) (va_Qi (fun r (u : (zS)) => post r u) (fun (u : (zS)) t => va_P D vwCl (wX8 K h0 a0 n0 la0 u ++ (([] : va_W))) t.heap) (va_A (wX8 K h0 a0 n0 la0 r0 ++ (([] : va_W))) sz)) 0 0 (va_A (wX8 K h0 a0 n0 la0 r0 ++ (([] : va_W))) sz) := by
  refine xMet (by decide) rfl (Nat.le_of_ble_eq_true rfl) (fun p e s m args below meth c C hnm hP hD hsz ls hl => ?_)
  have hl : lv_has ls 6 [(0, .ref h0), (1, .int p1), (2, .int p2)] := hl
  obtain ⟨hx, hb, hr, hml, hown, hts, hlocks, hK, hT⟩ := id C
  subst hsz
  generalize hAe : va_A (wX8 K h0 a0 n0 la0 r0 ++ (([] : va_W))) s.heap.size = A at hD ⊢
  have hA : ∀ q : Nat, s.heap.size ≤ q → A q := fun q h => by rw [← hAe]; exact Or.inr h
  have hS : va_S A s.heap s.heap [] := va_S.rf
  have hP : va_P D vwCl (wX8 K h0 a0 n0 la0 r0 ++ (([] : va_W))) s.heap := hP
  unfold wp_X8_send at h
  refine lv_aload_n hx hb dX8_send_0 rfl (lv_at hl 0 rfl) ?_
  refine lv_iload_n hx hb dX8_send_1 rfl (lv_at hl 1 rfl) ?_
  refine lv_iload_n hx hb dX8_send_2 rfl (lv_at hl 2 rfl) ?_
  refine xend_ro_i (xRunV_id (As := [.int p1, .int p2]) (rest := []) C (c_X8_areTwo h) k_X8_areTwo mw_449 ⟨rfl, rfl⟩ ⟨Nat.le_of_ble_eq_true rfl, Nat.le_of_ble_eq_true rfl⟩ hP hD rfl rfl hl rfl rfl (Nat.le_of_ble_eq_true rfl) dX8_send_3 ⟨Nat.le_refl _, Nat.le_refl _⟩) (fun v1 h => ?_)
  refine lv_if_ne (tgt := 16) hx hb dX8_send_6 (by decide) (fun c2 => ?_) (fun c2 => ?_)
  · replace h := And.right h c2
    refine lv_aload_n hx hb dX8_send_16 rfl (lv_at hl 0 rfl) ?_
    refine lv_iload_n hx hb dX8_send_17 rfl (lv_at hl 1 rfl) ?_
    refine lv_iload_n hx hb dX8_send_18 rfl (lv_at hl 2 rfl) ?_
    refine lv_aload_n hx hb dX8_send_19 rfl (lv_at hl 0 rfl) ?_
    refine gX8_18 C hP dX8_send_20 ?_
    refine lv_iconst (v := 0) hx hb dX8_send_23 (by decide) ?_
    refine xend_rw_v_id (wf := fun (u : (zS)) => (wX8 K h0 a0 n0 la0 u ++ (([] : va_W)))) (xRunV_id (As := [.int p1, .int p2, .int (r0.1 18), .int (0 : Int32)]) (rest := []) C (c_X8_findWays h) k_X8_findWays mw_776 ⟨rfl, rfl⟩ ⟨Nat.le_of_ble_eq_true rfl, Nat.le_of_ble_eq_true rfl⟩ hP hD rfl rfl hl rfl rfl (Nat.le_of_ble_eq_true rfl) dX8_send_24 ⟨Nat.le_refl _, Nat.le_refl _⟩) hD hS hA (fun _ => wX8_adr _ _) (fun s4 H locs h hP hD hS => ?_)
    refine lv_aload_n hx hb dX8_send_27 rfl (lv_at hl 0 rfl) ?_
    refine gX8_38 C hP dX8_send_28 ?_
    refine lv_if_ne (tgt := 41) hx hb dX8_send_31 (by decide) (fun c5 => ?_) (fun c5 => ?_)
    · replace h := And.right h c5
      refine lv_iconst (v := 0) hx hb dX8_send_41 (by decide) ?_
      refine lv_istore_n (lv' := [(3, .int (0 : Int32)), (0, .ref h0), (1, .int p1), (2, .int p2)]) hx hb dX8_send_42 rfl hl (by decide) rfl (fun ls hl => ?_)
      refine lv_iconst (v := 0) hx hb dX8_send_43 (by decide) ?_
      refine lv_istore (lv' := [(4, .int (0 : Int32)), (3, .int (0 : Int32)), (0, .ref h0), (1, .int p1), (2, .int p2)]) hx hb dX8_send_44 hl (by decide) rfl (fun ls hl => ?_)
      obtain ⟨n0, h⟩ := h
      exact t_X8_send_46 C hA n0 _ _ _ _ _ _ (lv_sub hl [2, 3, 4, 1, 0] rfl) hP hD hS h
    · replace h := And.left h c5
      refine lv_aload_n hx hb dX8_send_34 rfl (lv_at hl 0 rfl) ?_
      refine lv_bipush (v := -5) hx hb dX8_send_35 (by decide) ?_
      refine xend_rw_i_id (wf := fun (u : (zS)) => (wX8 K h0 a0 n0 la0 u ++ (([] : va_W)))) (xRunV_id (As := [.int (-5 : Int32)]) (rest := []) C (c_X8_refuse h) k_X8_refuse mw_165 ⟨rfl, rfl⟩ ⟨Nat.le_of_ble_eq_true rfl, Nat.le_of_ble_eq_true rfl⟩ hP hD rfl rfl hl rfl rfl (Nat.le_of_ble_eq_true rfl) dX8_send_37 ⟨Nat.le_refl _, Nat.le_refl _⟩) hD hS hA (fun _ => wX8_adr _ _) (fun v23 s24 H locs h hP hD hS => ?_)
      exact xrw_i C s24 h hP hS dX8_send_40
  · replace h := And.left h c2
    refine lv_aload_n hx hb dX8_send_9 rfl (lv_at hl 0 rfl) ?_
    refine lv_bipush (v := -2) hx hb dX8_send_10 (by decide) ?_
    refine xend_rw_i_id (wf := fun (u : (zS)) => (wX8 K h0 a0 n0 la0 u ++ (([] : va_W)))) (xRunV_id (As := [.int (-2 : Int32)]) (rest := []) C (c_X8_refuse h) k_X8_refuse mw_165 ⟨rfl, rfl⟩ ⟨Nat.le_of_ble_eq_true rfl, Nat.le_of_ble_eq_true rfl⟩ hP hD rfl rfl hl rfl rfl (Nat.le_of_ble_eq_true rfl) dX8_send_12 ⟨Nat.le_refl _, Nat.le_refl _⟩) hD hS hA (fun _ => wX8_adr _ _) (fun v25 s26 H locs h hP hD hS => ?_)
    exact xrw_i C s26 h hP hS dX8_send_15
