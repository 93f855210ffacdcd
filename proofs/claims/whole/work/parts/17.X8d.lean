def wp_X8_note (r0 : zS) (p1 : Int32) (post : Int32 → (zS) → Prop) : Prop :=
  ((-1 : Int32) ≤ p1 → (p1 < (r0.1 21) → (p1 = (-1 : Int32) → post (r0.1 21) r0) ∧ (¬ p1 = (-1 : Int32) → vp_in p1 16 ∧ (post (r0.2.1 22 p1.toNatClampNeg) r0))) ∧ (¬ p1 < (r0.1 21) → wp_X8_refuse r0 (-5 : Int32) (fun v4 s5 => post v4 s5))) ∧ (¬ (-1 : Int32) ≤ p1 → wp_X8_refuse r0 (-2 : Int32) (fun v6 s7 => post v6 s7))
set_option maxHeartbeats 4000000 in
set_option maxRecDepth 100000 in
theorem c_X8_note {l : Launch} {D : va_G} {K : Nat → ClassId} {h0 : Nat} {a0 : Nat → Nat} {n0 : Nat → Option Nat} {la0 : Nat → Nat} {r0 : zS} {p1 : Int32} {sz : Nat} {post : Int32 → (zS) → Prop}   (h : wp_X8_note r0 p1 post) : Met l yX8_note (Cond.code yX8_note cX8_note 2 (some .int) :: wsL_law) ({ frames := 1, cells := 0, slots := 0, locals := 21 } : Room) (va_Pc [.ref h0, .int p1] (xPre D vwCl (xty K) (wX8 K h0 a0 n0 la0 r0 ++ (([] : va_W))) sz)) (va_Qi (fun r (u : (zS)) => post r u) (fun (u : (zS)) t => va_P D vwCl (wX8 K h0 a0 n0 la0 u ++ (([] : va_W))) t.heap) (va_A (wX8 K h0 a0 n0 la0 r0 ++ (([] : va_W))) sz)) 0 0 (va_A (wX8 K h0 a0 n0 la0 r0 ++ (([] : va_W))) sz) := by
  refine xMet (by decide) rfl (Nat.le_of_ble_eq_true rfl) (fun p e s m args below meth c C hnm hP hD hsz ls hl => ?_)
  have hl : lv_has ls 2 [(0, .ref h0), (1, .int p1)] := hl
  obtain ⟨hx, hb, hr, hml, hown, hts, hlocks, hK, hT⟩ := id C
  subst hsz
  generalize hAe : va_A (wX8 K h0 a0 n0 la0 r0 ++ (([] : va_W))) s.heap.size = A at hD ⊢
  have hA : ∀ q : Nat, s.heap.size ≤ q → A q := fun q h => by rw [← hAe]; exact Or.inr h
  have hS : va_S A s.heap s.heap [] := va_S.rf
  have hP : va_P D vwCl (wX8 K h0 a0 n0 la0 r0 ++ (([] : va_W))) s.heap := hP
  unfold wp_X8_note at h
  refine lv_iload_n hx hb dX8_note_0 rfl (lv_at hl 1 rfl) ?_
  refine lv_iconst (v := -1) hx hb dX8_note_1 (by decide) ?_
  refine lv_icmp_ge (tgt := 12) hx hb dX8_note_2 (by decide) (fun c1 => ?_) (fun c1 => ?_)
  · replace h := And.left h c1
    refine lv_iload_n hx hb dX8_note_12 rfl (lv_at hl 1 rfl) ?_
    refine lv_aload_n hx hb dX8_note_13 rfl (lv_at hl 0 rfl) ?_
    refine gX8_21 C hP dX8_note_14 ?_
    refine lv_icmp_lt (tgt := 27) hx hb dX8_note_17 (by decide) (fun c2 => ?_) (fun c2 => ?_)
    · replace h := And.left h c2
      refine lv_iload_n hx hb dX8_note_27 rfl (lv_at hl 1 rfl) ?_
      refine lv_iconst (v := -1) hx hb dX8_note_28 (by decide) ?_
      refine lv_icmp_ne (tgt := 39) hx hb dX8_note_29 (by decide) (fun c3 => ?_) (fun c3 => ?_)
      · replace h := And.right h c3
        refine lv_aload_n hx hb dX8_note_39 rfl (lv_at hl 0 rfl) ?_
        refine gX8_22 C hP dX8_note_40 ?_
        refine lv_iload_n hx hb dX8_note_43 rfl (lv_at hl 1 rfl) ?_
        have hin := And.left h
        replace h := And.right h
        refine lX8_22 C hP hin dX8_note_44 ?_
        exact xrw_i C r0 h hP hS dX8_note_45
      · replace h := And.left h c3
        refine lv_aload_n hx hb dX8_note_32 rfl (lv_at hl 0 rfl) ?_
        refine gX8_21 C hP dX8_note_33 ?_
        refine lv_goto (tgt := 45) hx hb dX8_note_36 (by decide) ?_
        exact xrw_i C r0 h hP hS dX8_note_45
    · replace h := And.right h c2
      refine lv_aload_n hx hb dX8_note_20 rfl (lv_at hl 0 rfl) ?_
      refine lv_bipush (v := -5) hx hb dX8_note_21 (by decide) ?_
      refine xend_rw_i_id (wf := fun (u : (zS)) => (wX8 K h0 a0 n0 la0 u ++ (([] : va_W)))) (xRunV_id (As := [.int (-5 : Int32)]) (rest := []) C (c_X8_refuse h) k_X8_refuse mw_165 ⟨rfl, rfl⟩ ⟨Nat.le_of_ble_eq_true rfl, Nat.le_of_ble_eq_true rfl⟩ hP hD rfl rfl hl rfl rfl (Nat.le_of_ble_eq_true rfl) dX8_note_23 ⟨Nat.le_refl _, Nat.le_refl _⟩) hD hS hA (fun _ => wX8_adr _ _) (fun v4 s5 H locs h hP hD hS => ?_)
      exact xrw_i C s5 h hP hS dX8_note_26
  · replace h := And.right h c1
    refine lv_aload_n hx hb dX8_note_5 rfl (lv_at hl 0 rfl) ?_
    refine lv_bipush (v := -2) hx hb dX8_note_6 (by decide) ?_
    refine xend_rw_i_id (wf := fun (u : (zS)) => (wX8 K h0 a0 n0 la0 u ++ (([] : va_W)))) (xRunV_id (As := [.int (-2 : Int32)]) (rest := []) C (c_X8_refuse h) k_X8_refuse mw_165 ⟨rfl, rfl⟩ ⟨Nat.le_of_ble_eq_true rfl, Nat.le_of_ble_eq_true rfl⟩ hP hD rfl rfl hl rfl rfl (Nat.le_of_ble_eq_true rfl) dX8_note_8 ⟨Nat.le_refl _, Nat.le_refl _⟩) hD hS hA (fun _ => wX8_adr _ _) (fun v6 s7 H locs h hP hD hS => ?_)
    exact xrw_i C s7 h hP hS dX8_note_11

def wp_X8_came (r0 : zS) (p1 : Int32) (post : Int32 → (zS) → Prop) : Prop :=
  (0 ≤ p1 → ((r0.1 21) ≤ p1 → wp_X8_refuse r0 (-5 : Int32) (fun v3 s4 => post v3 s4)) ∧ (¬ (r0.1 21) ≤ p1 → vp_in p1 16 ∧ (post (r0.2.1 24 p1.toNatClampNeg) r0))) ∧ (¬ 0 ≤ p1 → wp_X8_refuse r0 (-2 : Int32) (fun v5 s6 => post v5 s6))
set_option maxHeartbeats 4000000 in
set_option maxRecDepth 100000 in
theorem c_X8_came {l : Launch} {D : va_G} {K : Nat → ClassId} {h0 : Nat} {a0 : Nat → Nat} {n0 : Nat → Option Nat} {la0 : Nat → Nat} {r0 : zS} {p1 : Int32} {sz : Nat} {post : Int32 → (zS) → Prop}   (h : wp_X8_came r0 p1 post) : Met l yX8_came (Cond.code yX8_came cX8_came 2 (some .int) :: wsL_law) ({ frames := 1, cells := 0, slots := 0, locals := 21 } : Room) (va_Pc [.ref h0, .int p1] (xPre D vwCl (xty K) (wX8 K h0 a0 n0 la0 r0 ++ (([] : va_W))) sz)) (va_Qi (fun r (u : (zS)) => post r u) (fun (u : (zS)) t => va_P D vwCl (wX8 K h0 a0 n0 la0 u ++ (([] : va_W))) t.heap) (va_A (wX8 K h0 a0 n0 la0 r0 ++ (([] : va_W))) sz)) 0 0 (va_A (wX8 K h0 a0 n0 la0 r0 ++ (([] : va_W))) sz) := by
  refine xMet (by decide) rfl (Nat.le_of_ble_eq_true rfl) (fun p e s m args below meth c C hnm hP hD hsz ls hl => ?_)
  have hl : lv_has ls 2 [(0, .ref h0), (1, .int p1)] := hl
  obtain ⟨hx, hb, hr, hml, hown, hts, hlocks, hK, hT⟩ := id C
  subst hsz
  generalize hAe : va_A (wX8 K h0 a0 n0 la0 r0 ++ (([] : va_W))) s.heap.size = A at hD ⊢
  have hA : ∀ q : Nat, s.heap.size ≤ q → A q := fun q h => by rw [← hAe]; exact Or.inr h
  have hS : va_S A s.heap s.heap [] := va_S.rf
  have hP : va_P D vwCl (wX8 K h0 a0 n0 la0 r0 ++ (([] : va_W))) s.heap := hP
  unfold wp_X8_came at h
  refine lv_iload_n hx hb dX8_came_0 rfl (lv_at hl 1 rfl) ?_
  refine lv_if_ge (tgt := 11) hx hb dX8_came_1 (by decide) (fun c1 => ?_) (fun c1 => ?_)
  · replace h := And.left h c1
    refine lv_iload_n hx hb dX8_came_11 rfl (lv_at hl 1 rfl) ?_
    refine lv_aload_n hx hb dX8_came_12 rfl (lv_at hl 0 rfl) ?_
    refine gX8_21 C hP dX8_came_13 ?_
    refine lv_icmp_ge (tgt := 28) hx hb dX8_came_16 (by decide) (fun c2 => ?_) (fun c2 => ?_)
    · replace h := And.left h c2
      refine lv_aload_n hx hb dX8_came_28 rfl (lv_at hl 0 rfl) ?_
      refine lv_bipush (v := -5) hx hb dX8_came_29 (by decide) ?_
      refine xend_rw_i_id (wf := fun (u : (zS)) => (wX8 K h0 a0 n0 la0 u ++ (([] : va_W)))) (xRunV_id (As := [.int (-5 : Int32)]) (rest := []) C (c_X8_refuse h) k_X8_refuse mw_165 ⟨rfl, rfl⟩ ⟨Nat.le_of_ble_eq_true rfl, Nat.le_of_ble_eq_true rfl⟩ hP hD rfl rfl hl rfl rfl (Nat.le_of_ble_eq_true rfl) dX8_came_31 ⟨Nat.le_refl _, Nat.le_refl _⟩) hD hS hA (fun _ => wX8_adr _ _) (fun v3 s4 H locs h hP hD hS => ?_)
      exact xrw_i C s4 h hP hS dX8_came_34
    · replace h := And.right h c2
      refine lv_aload_n hx hb dX8_came_19 rfl (lv_at hl 0 rfl) ?_
      refine gX8_24 C hP dX8_came_20 ?_
      refine lv_iload_n hx hb dX8_came_23 rfl (lv_at hl 1 rfl) ?_
      have hin := And.left h
      replace h := And.right h
      refine lX8_24 C hP hin dX8_came_24 ?_
      refine lv_goto (tgt := 34) hx hb dX8_came_25 (by decide) ?_
      exact xrw_i C r0 h hP hS dX8_came_34
  · replace h := And.right h c1
    refine lv_aload_n hx hb dX8_came_4 rfl (lv_at hl 0 rfl) ?_
    refine lv_bipush (v := -2) hx hb dX8_came_5 (by decide) ?_
    refine xend_rw_i_id (wf := fun (u : (zS)) => (wX8 K h0 a0 n0 la0 u ++ (([] : va_W)))) (xRunV_id (As := [.int (-2 : Int32)]) (rest := []) C (c_X8_refuse h) k_X8_refuse mw_165 ⟨rfl, rfl⟩ ⟨Nat.le_of_ble_eq_true rfl, Nat.le_of_ble_eq_true rfl⟩ hP hD rfl rfl hl rfl rfl (Nat.le_of_ble_eq_true rfl) dX8_came_7 ⟨Nat.le_refl _, Nat.le_refl _⟩) hD hS hA (fun _ => wX8_adr _ _) (fun v5 s6 H locs h hP hD hS => ?_)
    exact xrw_i C s6 h hP hS dX8_came_10

def wp_X8_suspect_118 (r0 : zS) (post : Int32 → Prop) (k6 : Int32 → Int32 → Int32 → Prop) (x1 : Int32) (x2 : Int32) (x3 : Int32) : Prop :=
  ∀ v4 : Int32, v4 = x3 + (1 : Int32) → k6 x1 x2 v4
def wp_X8_suspect_93 (r0 : zS) (post : Int32 → Prop) (k6 : Int32 → Int32 → Int32 → Prop) (k23 : Int32 → Int32 → Int32 → Int32 → Int32 → Int32 → Prop) (x1 : Int32) (x2 : Int32) (x3 : Int32) (x4 : Int32) (x6 : Int32) (y0 : Int32) (y1 : Int32) : Prop :=
  ∀ v10 : Int32, v10 = (y1 ||| y0) → ∀ v11 : Int32, v11 = x6 + (1 : Int32) → k23 x1 x2 x3 x4 v10 v11
def wp_X8_suspect_92 (r0 : zS) (post : Int32 → Prop) (k6 : Int32 → Int32 → Int32 → Prop) (k23 : Int32 → Int32 → Int32 → Int32 → Int32 → Int32 → Prop) (x1 : Int32) (x2 : Int32) (x3 : Int32) (x4 : Int32) (x6 : Int32) (y0 : Int32) : Prop :=
  wp_X8_suspect_93 r0 post k6 k23 x1 x2 x3 x4 x6 (0 : Int32) y0
def wp_X8_suspect_67 (r0 : zS) (post : Int32 → Prop) (k6 : Int32 → Int32 → Int32 → Prop) (k23 : Int32 → Int32 → Int32 → Int32 → Int32 → Int32 → Prop) (x1 : Int32) (x2 : Int32) (x3 : Int32) (x5 : Int32) (x6 : Int32) (x7 : Int32) (y0 : Int32) (y1 : Int32) : Prop :=
  ∀ v8 : Int32, v8 = (y1 + y0) → (x7 = 0 → wp_X8_suspect_92 r0 post k6 k23 x1 x2 x3 v8 x6 x5) ∧ (¬ x7 = 0 → vp_in x6 16 ∧ (((r0.2.1 24 x6.toNatClampNeg) = (1 : Int32) → wp_X8_suspect_93 r0 post k6 k23 x1 x2 x3 v8 x6 (1 : Int32) x5) ∧ (¬ (r0.2.1 24 x6.toNatClampNeg) = (1 : Int32) → wp_X8_suspect_92 r0 post k6 k23 x1 x2 x3 v8 x6 x5)))
def wp_X8_suspect_66 (r0 : zS) (post : Int32 → Prop) (k6 : Int32 → Int32 → Int32 → Prop) (k23 : Int32 → Int32 → Int32 → Int32 → Int32 → Int32 → Prop) (x1 : Int32) (x2 : Int32) (x3 : Int32) (x5 : Int32) (x6 : Int32) (x7 : Int32) (y0 : Int32) : Prop :=
  wp_X8_suspect_67 r0 post k6 k23 x1 x2 x3 x5 x6 x7 (0 : Int32) y0
def wb_X8_suspect_23 (r0 : zS) (post : Int32 → Prop) (k6 : Int32 → Int32 → Int32 → Prop) (ih : Int32 → Int32 → Int32 → Int32 → Int32 → Int32 → Prop) (x1 : Int32) (x2 : Int32) (x3 : Int32) (x4 : Int32) (x5 : Int32) (x6 : Int32) : Prop :=
  ((r0.1 21) ≤ x6 → (x5 = 0 → (x4 ≤ x2 → wp_X8_suspect_118 r0 post k6 x1 x2 x3) ∧ (¬ x4 ≤ x2 → wp_X8_suspect_118 r0 post k6 x3 x4 x3)) ∧ (¬ x5 = 0 → wp_X8_suspect_118 r0 post k6 x1 x2 x3)) ∧ (¬ (r0.1 21) ≤ x6 → vp_in x6 16 ∧ (wp_X8_has (r0.2.1 23 x6.toNatClampNeg) x3 (fun v6 => (v6 = 0 → wp_X8_suspect_66 r0 post k6 ih x1 x2 x3 x5 x6 v6 x4) ∧ (¬ v6 = 0 → vp_in x6 16 ∧ (((r0.2.1 24 x6.toNatClampNeg) = 0 → wp_X8_suspect_67 r0 post k6 ih x1 x2 x3 x5 x6 v6 (1 : Int32) x4) ∧ (¬ (r0.2.1 24 x6.toNatClampNeg) = 0 → wp_X8_suspect_66 r0 post k6 ih x1 x2 x3 x5 x6 v6 x4))))))
def wp_X8_suspect_23 (r0 : zS) (post : Int32 → Prop) (k6 : Int32 → Int32 → Int32 → Prop) (n : Nat) : Int32 → Int32 → Int32 → Int32 → Int32 → Int32 → Prop := Nat.rec (motive := fun _ => Int32 → Int32 → Int32 → Int32 → Int32 → Int32 → Prop) (fun _ _ _ _ _ _ => False) (fun _ ih => wb_X8_suspect_23 r0 post k6 ih) n
theorem wu_X8_suspect_23 (r0 : zS) (post : Int32 → Prop) (k6 : Int32 → Int32 → Int32 → Prop) (n : Nat) (x1 : Int32) (x2 : Int32) (x3 : Int32) (x4 : Int32) (x5 : Int32) (x6 : Int32) : wp_X8_suspect_23 r0 post k6 (n + 1) x1 x2 x3 x4 x5 x6 = wb_X8_suspect_23 r0 post k6 (wp_X8_suspect_23 r0 post k6 n) x1 x2 x3 x4 x5 x6 := rfl
def wb_X8_suspect_6 (r0 : zS) (post : Int32 → Prop) (ih : Int32 → Int32 → Int32 → Prop) (x1 : Int32) (x2 : Int32) (x3 : Int32) : Prop :=
  ((r0.1 10) ≤ x3 → post x1 ) ∧ (¬ (r0.1 10) ≤ x3 → ∃ n : Nat, wp_X8_suspect_23 r0 post ih n x1 x2 x3 (0 : Int32) (0 : Int32) (0 : Int32))
def wp_X8_suspect_6 (r0 : zS) (post : Int32 → Prop) (n : Nat) : Int32 → Int32 → Int32 → Prop := Nat.rec (motive := fun _ => Int32 → Int32 → Int32 → Prop) (fun _ _ _ => False) (fun _ ih => wb_X8_suspect_6 r0 post ih) n
theorem wu_X8_suspect_6 (r0 : zS) (post : Int32 → Prop) (n : Nat) (x1 : Int32) (x2 : Int32) (x3 : Int32) : wp_X8_suspect_6 r0 post (n + 1) x1 x2 x3 = wb_X8_suspect_6 r0 post (wp_X8_suspect_6 r0 post n) x1 x2 x3 := rfl
def wp_X8_suspect (r0 : zS) (post : Int32 → Prop) : Prop :=
  ∃ n : Nat, wp_X8_suspect_6 r0 post n (-1 : Int32) (0 : Int32) (0 : Int32)
set_option maxHeartbeats 4000000 in
set_option maxRecDepth 100000 in
theorem t_X8_suspect_118 {p : Program} {l : Launch} {e : Env} {s : State} {m : MethodId} {args : Array Value} {below : List Frame} {meth : Method} {c : Code} {D : va_G} {K : Nat → ClassId} {h0 : Nat} {a0 : Nat → Nat} {n0 : Nat → Option Nat} {la0 : Nat → Nat} {r0 : zS} {post : Int32 → Prop} (C : xC p s m args meth c cX8_suspect RX8 8 (some .int) D vwCl (xty K)) (hP : va_P D vwCl (wX8 K h0 a0 n0 la0 r0 ++ (([] : va_W))) s.heap) (hD : va_D (va_A (wX8 K h0 a0 n0 la0 r0 ++ (([] : va_W))) s.heap.size) (wX8 K h0 a0 n0 la0 r0 ++ (([] : va_W)))) {k6 : Int32 → Int32 → Int32 → Prop} (hk6 : ∀ (x1 : Int32) (x2 : Int32) (x3 : Int32) (ls : Array Slot), lv_has ls 8 [(0, .ref h0), (1, .int x1), (2, .int x2), (3, .int x3)] → k6  x1 x2 x3  → W p l e ({ frames := 1, cells := 0, slots := 0, locals := 21 } : Room) s m args below meth c s.heap [] 0 0 (MQ below (roI post) args s 0 0 (fun _ => False)) (F0 m 6 ls [])) : ∀ (x1 : Int32) (x2 : Int32) (x3 : Int32) (ls : Array Slot), lv_has ls 8 [(0, .ref h0), (1, .int x1), (2, .int x2), (3, .int x3)] → wp_X8_suspect_118 r0 post k6 x1 x2 x3 → W p l e ({ frames := 1, cells := 0, slots := 0, locals := 21 } : Room) s m args below meth c s.heap [] 0 0 (MQ below (roI post) args s 0 0 (fun _ => False)) (F0 m 118 ls []) := by
  obtain ⟨hx, hb, hr, hml, hown, hts, hlocks, hK, hT⟩ := id C
  intro x1 x2 x3 ls hl h
  unfold wp_X8_suspect_118 at h
  obtain ⟨v4, ev4⟩ : ∃ y : Int32, y = x3 + (1 : Int32) := ⟨_, rfl⟩
  replace h := h v4 ev4
  refine lv_iinc (v := v4) (lv' := [(3, .int v4), (0, .ref h0), (1, .int x1), (2, .int x2)]) hx hb dX8_suspect_118 hl (k := 3) rfl (by rw [ev4]; rfl) (by decide) rfl (fun ls hl => ?_)
  refine lv_goto (tgt := 6) hx hb dX8_suspect_121 (by decide) ?_
  exact hk6 _ _ _ _ (lv_sub hl [1, 2, 3, 0] rfl) h
set_option maxHeartbeats 4000000 in
set_option maxRecDepth 100000 in
theorem t_X8_suspect_93 {p : Program} {l : Launch} {e : Env} {s : State} {m : MethodId} {args : Array Value} {below : List Frame} {meth : Method} {c : Code} {D : va_G} {K : Nat → ClassId} {h0 : Nat} {a0 : Nat → Nat} {n0 : Nat → Option Nat} {la0 : Nat → Nat} {r0 : zS} {post : Int32 → Prop} (C : xC p s m args meth c cX8_suspect RX8 8 (some .int) D vwCl (xty K)) (hP : va_P D vwCl (wX8 K h0 a0 n0 la0 r0 ++ (([] : va_W))) s.heap) (hD : va_D (va_A (wX8 K h0 a0 n0 la0 r0 ++ (([] : va_W))) s.heap.size) (wX8 K h0 a0 n0 la0 r0 ++ (([] : va_W)))) {k6 : Int32 → Int32 → Int32 → Prop} (hk6 : ∀ (x1 : Int32) (x2 : Int32) (x3 : Int32) (ls : Array Slot), lv_has ls 8 [(0, .ref h0), (1, .int x1), (2, .int x2), (3, .int x3)] → k6  x1 x2 x3  → W p l e ({ frames := 1, cells := 0, slots := 0, locals := 21 } : Room) s m args below meth c s.heap [] 0 0 (MQ below (roI post) args s 0 0 (fun _ => False)) (F0 m 6 ls [])) {k23 : Int32 → Int32 → Int32 → Int32 → Int32 → Int32 → Prop} (hk23 : ∀ (x1 : Int32) (x2 : Int32) (x3 : Int32) (x4 : Int32) (x5 : Int32) (x6 : Int32) (ls : Array Slot), lv_has ls 8 [(0, .ref h0), (1, .int x1), (2, .int x2), (3, .int x3), (4, .int x4), (5, .int x5), (6, .int x6)] → k23  x1 x2 x3 x4 x5 x6  → W p l e ({ frames := 1, cells := 0, slots := 0, locals := 21 } : Room) s m args below meth c s.heap [] 0 0 (MQ below (roI post) args s 0 0 (fun _ => False)) (F0 m 23 ls [])) : ∀ (x1 : Int32) (x2 : Int32) (x3 : Int32) (x4 : Int32) (x6 : Int32) (y0 : Int32) (y1 : Int32) (ls : Array Slot), lv_has ls 8 [(0, .ref h0), (1, .int x1), (2, .int x2), (3, .int x3), (4, .int x4), (6, .int x6)] → wp_X8_suspect_93 r0 post k6 k23 x1 x2 x3 x4 x6 y0 y1 → W p l e ({ frames := 1, cells := 0, slots := 0, locals := 21 } : Room) s m args below meth c s.heap [] 0 0 (MQ below (roI post) args s 0 0 (fun _ => False)) (F0 m 93 ls [.int y0, .int y1]) := by
  obtain ⟨hx, hb, hr, hml, hown, hts, hlocks, hK, hT⟩ := id C
  intro x1 x2 x3 x4 x6 y0 y1 ls hl h
  unfold wp_X8_suspect_93 at h
  refine lv_ior hx hb dX8_suspect_93 ?_
  refine lv_topi (fun v10 ev10 => ?_)
  replace h := h v10 ev10
  refine lv_istore (lv' := [(5, .int v10), (0, .ref h0), (1, .int x1), (2, .int x2), (3, .int x3), (4, .int x4), (6, .int x6)]) hx hb dX8_suspect_94 hl (by decide) rfl (fun ls hl => ?_)
  obtain ⟨v11, ev11⟩ : ∃ y : Int32, y = x6 + (1 : Int32) := ⟨_, rfl⟩
  replace h := h v11 ev11
  refine lv_iinc (v := v11) (lv' := [(6, .int v11), (5, .int v10), (0, .ref h0), (1, .int x1), (2, .int x2), (3, .int x3), (4, .int x4)]) hx hb dX8_suspect_96 hl (k := 6) rfl (by rw [ev11]; rfl) (by decide) rfl (fun ls hl => ?_)
  refine lv_goto (tgt := 23) hx hb dX8_suspect_99 (by decide) ?_
  exact hk23 _ _ _ _ _ _ _ (lv_sub hl [2, 3, 4, 5, 6, 1, 0] rfl) h
set_option maxHeartbeats 4000000 in
set_option maxRecDepth 100000 in
theorem t_X8_suspect_92 {p : Program} {l : Launch} {e : Env} {s : State} {m : MethodId} {args : Array Value} {below : List Frame} {meth : Method} {c : Code} {D : va_G} {K : Nat → ClassId} {h0 : Nat} {a0 : Nat → Nat} {n0 : Nat → Option Nat} {la0 : Nat → Nat} {r0 : zS} {post : Int32 → Prop} (C : xC p s m args meth c cX8_suspect RX8 8 (some .int) D vwCl (xty K)) (hP : va_P D vwCl (wX8 K h0 a0 n0 la0 r0 ++ (([] : va_W))) s.heap) (hD : va_D (va_A (wX8 K h0 a0 n0 la0 r0 ++ (([] : va_W))) s.heap.size) (wX8 K h0 a0 n0 la0 r0 ++ (([] : va_W)))) {k6 : Int32 → Int32 → Int32 → Prop} (hk6 : ∀ (x1 : Int32) (x2 : Int32) (x3 : Int32) (ls : Array Slot), lv_has ls 8 [(0, .ref h0), (1, .int x1), (2, .int x2), (3, .int x3)] → k6  x1 x2 x3  → W p l e ({ frames := 1, cells := 0, slots := 0, locals := 21 } : Room) s m args below meth c s.heap [] 0 0 (MQ below (roI post) args s 0 0 (fun _ => False)) (F0 m 6 ls [])) {k23 : Int32 → Int32 → Int32 → Int32 → Int32 → Int32 → Prop} (hk23 : ∀ (x1 : Int32) (x2 : Int32) (x3 : Int32) (x4 : Int32) (x5 : Int32) (x6 : Int32) (ls : Array Slot), lv_has ls 8 [(0, .ref h0), (1, .int x1), (2, .int x2), (3, .int x3), (4, .int x4), (5, .int x5), (6, .int x6)] → k23  x1 x2 x3 x4 x5 x6  → W p l e ({ frames := 1, cells := 0, slots := 0, locals := 21 } : Room) s m args below meth c s.heap [] 0 0 (MQ below (roI post) args s 0 0 (fun _ => False)) (F0 m 23 ls [])) : ∀ (x1 : Int32) (x2 : Int32) (x3 : Int32) (x4 : Int32) (x6 : Int32) (y0 : Int32) (ls : Array Slot), lv_has ls 8 [(0, .ref h0), (1, .int x1), (2, .int x2), (3, .int x3), (4, .int x4), (6, .int x6)] → wp_X8_suspect_92 r0 post k6 k23 x1 x2 x3 x4 x6 y0 → W p l e ({ frames := 1, cells := 0, slots := 0, locals := 21 } : Room) s m args below meth c s.heap [] 0 0 (MQ below (roI post) args s 0 0 (fun _ => False)) (F0 m 92 ls [.int y0]) := by
  obtain ⟨hx, hb, hr, hml, hown, hts, hlocks, hK, hT⟩ := id C
  intro x1 x2 x3 x4 x6 y0 ls hl h
  unfold wp_X8_suspect_92 at h
  refine lv_iconst (v := 0) hx hb dX8_suspect_92 (by decide) ?_
  exact t_X8_suspect_93 C hP hD hk6 hk23 _ _ _ _ _ _ _ _ (lv_sub hl [0, 1, 2, 3, 4, 5] rfl) h
set_option maxHeartbeats 4000000 in
set_option maxRecDepth 100000 in
theorem t_X8_suspect_67 {p : Program} {l : Launch} {e : Env} {s : State} {m : MethodId} {args : Array Value} {below : List Frame} {meth : Method} {c : Code} {D : va_G} {K : Nat → ClassId} {h0 : Nat} {a0 : Nat → Nat} {n0 : Nat → Option Nat} {la0 : Nat → Nat} {r0 : zS} {post : Int32 → Prop} (C : xC p s m args meth c cX8_suspect RX8 8 (some .int) D vwCl (xty K)) (hP : va_P D vwCl (wX8 K h0 a0 n0 la0 r0 ++ (([] : va_W))) s.heap) (hD : va_D (va_A (wX8 K h0 a0 n0 la0 r0 ++ (([] : va_W))) s.heap.size) (wX8 K h0 a0 n0 la0 r0 ++ (([] : va_W)))) {k6 : Int32 → Int32 → Int32 → Prop} (hk6 : ∀ (x1 : Int32) (x2 : Int32) (x3 : Int32) (ls : Array Slot), lv_has ls 8 [(0, .ref h0), (1, .int x1), (2, .int x2), (3, .int x3)] → k6  x1 x2 x3  → W p l e ({ frames := 1, cells := 0, slots := 0, locals := 21 } : Room) s m args below meth c s.heap [] 0 0 (MQ below (roI post) args s 0 0 (fun _ => False)) (F0 m 6 ls [])) {k23 : Int32 → Int32 → Int32 → Int32 → Int32 → Int32 → Prop} (hk23 : ∀ (x1 : Int32) (x2 : Int32) (x3 : Int32) (x4 : Int32) (x5 : Int32) (x6 : Int32) (ls : Array Slot), lv_has ls 8 [(0, .ref h0), (1, .int x1), (2, .int x2), (3, .int x3), (4, .int x4), (5, .int x5), (6, .int x6)] → k23  x1 x2 x3 x4 x5 x6  → W p l e ({ frames := 1, cells := 0, slots := 0, locals := 21 } : Room) s m args below meth c s.heap [] 0 0 (MQ below (roI post) args s 0 0 (fun _ => False)) (F0 m 23 ls [])) : ∀ (x1 : Int32) (x2 : Int32) (x3 : Int32) (x5 : Int32) (x6 : Int32) (x7 : Int32) (y0 : Int32) (y1 : Int32) (ls : Array Slot), lv_has ls 8 [(0, .ref h0), (1, .int x1), (2, .int x2), (3, .int x3), (5, .int x5), (6, .int x6), (7, .int x7)] → wp_X8_suspect_67 r0 post k6 k23 x1 x2 x3 x5 x6 x7 y0 y1 → W p l e ({ frames := 1, cells := 0, slots := 0, locals := 21 } : Room) s m args below meth c s.heap [] 0 0 (MQ below (roI post) args s 0 0 (fun _ => False)) (F0 m 67 ls [.int y0, .int y1]) := by
  obtain ⟨hx, hb, hr, hml, hown, hts, hlocks, hK, hT⟩ := id C
  intro x1 x2 x3 x5 x6 x7 y0 y1 ls hl h
  unfold wp_X8_suspect_67 at h
  refine lv_iadd hx hb dX8_suspect_67 ?_
  refine lv_topi (fun v8 ev8 => ?_)
  replace h := h v8 ev8
  refine lv_istore (lv' := [(4, .int v8), (0, .ref h0), (1, .int x1), (2, .int x2), (3, .int x3), (5, .int x5), (6, .int x6), (7, .int x7)]) hx hb dX8_suspect_68 hl (by decide) rfl (fun ls hl => ?_)
  refine lv_iload hx hb dX8_suspect_70 (lv_at hl 5 rfl) ?_
  refine lv_iload hx hb dX8_suspect_72 (lv_at hl 7 rfl) ?_
  refine lv_if_eq (tgt := 92) hx hb dX8_suspect_74 (by decide) (fun c9 => ?_) (fun c9 => ?_)
  · replace h := And.left h c9
    exact t_X8_suspect_92 C hP hD hk6 hk23 _ _ _ _ _ _ _ (lv_sub hl [1, 2, 3, 4, 0, 6] rfl) h
  · replace h := And.right h c9
    refine lv_aload_n hx hb dX8_suspect_77 rfl (lv_at hl 1 rfl) ?_
    refine gX8_24 C hP dX8_suspect_78 ?_
    refine lv_iload hx hb dX8_suspect_81 (lv_at hl 6 rfl) ?_
    have hin := And.left h
    replace h := And.right h
    refine lX8_24 C hP hin dX8_suspect_83 ?_
    refine lv_iconst (v := 1) hx hb dX8_suspect_84 (by decide) ?_
    refine lv_icmp_ne (tgt := 92) hx hb dX8_suspect_85 (by decide) (fun c12 => ?_) (fun c12 => ?_)
    · replace h := And.right h c12
      exact t_X8_suspect_92 C hP hD hk6 hk23 _ _ _ _ _ _ _ (lv_sub hl [1, 2, 3, 4, 0, 6] rfl) h
    · replace h := And.left h c12
      refine lv_iconst (v := 1) hx hb dX8_suspect_88 (by decide) ?_
      refine lv_goto (tgt := 93) hx hb dX8_suspect_89 (by decide) ?_
      exact t_X8_suspect_93 C hP hD hk6 hk23 _ _ _ _ _ _ _ _ (lv_sub hl [1, 2, 3, 4, 0, 6] rfl) h
set_option maxHeartbeats 4000000 in
set_option maxRecDepth 100000 in
theorem t_X8_suspect_66 {p : Program} {l : Launch} {e : Env} {s : State} {m : MethodId} {args : Array Value} {below : List Frame} {meth : Method} {c : Code} {D : va_G} {K : Nat → ClassId} {h0 : Nat} {a0 : Nat → Nat} {n0 : Nat → Option Nat} {la0 : Nat → Nat} {r0 : zS} {post : Int32 → Prop} (C : xC p s m args meth c cX8_suspect RX8 8 (some .int) D vwCl (xty K)) (hP : va_P D vwCl (wX8 K h0 a0 n0 la0 r0 ++ (([] : va_W))) s.heap) (hD : va_D (va_A (wX8 K h0 a0 n0 la0 r0 ++ (([] : va_W))) s.heap.size) (wX8 K h0 a0 n0 la0 r0 ++ (([] : va_W)))) {k6 : Int32 → Int32 → Int32 → Prop} (hk6 : ∀ (x1 : Int32) (x2 : Int32) (x3 : Int32) (ls : Array Slot), lv_has ls 8 [(0, .ref h0), (1, .int x1), (2, .int x2), (3, .int x3)] → k6  x1 x2 x3  → W p l e ({ frames := 1, cells := 0, slots := 0, locals := 21 } : Room) s m args below meth c s.heap [] 0 0 (MQ below (roI post) args s 0 0 (fun _ => False)) (F0 m 6 ls [])) {k23 : Int32 → Int32 → Int32 → Int32 → Int32 → Int32 → Prop} (hk23 : ∀ (x1 : Int32) (x2 : Int32) (x3 : Int32) (x4 : Int32) (x5 : Int32) (x6 : Int32) (ls : Array Slot), lv_has ls 8 [(0, .ref h0), (1, .int x1), (2, .int x2), (3, .int x3), (4, .int x4), (5, .int x5), (6, .int x6)] → k23  x1 x2 x3 x4 x5 x6  → W p l e ({ frames := 1, cells := 0, slots := 0, locals := 21 } : Room) s m args below meth c s.heap [] 0 0 (MQ below (roI post) args s 0 0 (fun _ => False)) (F0 m 23 ls [])) : ∀ (x1 : Int32) (x2 : Int32) (x3 : Int32) (x5 : Int32) (x6 : Int32) (x7 : Int32) (y0 : Int32) (ls : Array Slot), lv_has ls 8 [(0, .ref h0), (1, .int x1), (2, .int x2), (3, .int x3), (5, .int x5), (6, .int x6), (7, .int x7)] → wp_X8_suspect_66 r0 post k6 k23 x1 x2 x3 x5 x6 x7 y0 → W p l e ({ frames := 1, cells := 0, slots := 0, locals := 21 } : Room) s m args below meth c s.heap [] 0 0 (MQ below (roI post) args s 0 0 (fun _ => False)) (F0 m 66 ls [.int y0]) := by
  obtain ⟨hx, hb, hr, hml, hown, hts, hlocks, hK, hT⟩ := id C
  intro x1 x2 x3 x5 x6 x7 y0 ls hl h
  unfold wp_X8_suspect_66 at h
  refine lv_iconst (v := 0) hx hb dX8_suspect_66 (by decide) ?_
  exact t_X8_suspect_67 C hP hD hk6 hk23 _ _ _ _ _ _ _ _ _ (lv_sub hl [0, 1, 2, 3, 4, 5, 6] rfl) h
set_option maxHeartbeats 4000000 in
set_option maxRecDepth 100000 in
theorem t_X8_suspect_23 {p : Program} {l : Launch} {e : Env} {s : State} {m : MethodId} {args : Array Value} {below : List Frame} {meth : Method} {c : Code} {D : va_G} {K : Nat → ClassId} {h0 : Nat} {a0 : Nat → Nat} {n0 : Nat → Option Nat} {la0 : Nat → Nat} {r0 : zS} {post : Int32 → Prop} (C : xC p s m args meth c cX8_suspect RX8 8 (some .int) D vwCl (xty K)) (hP : va_P D vwCl (wX8 K h0 a0 n0 la0 r0 ++ (([] : va_W))) s.heap) (hD : va_D (va_A (wX8 K h0 a0 n0 la0 r0 ++ (([] : va_W))) s.heap.size) (wX8 K h0 a0 n0 la0 r0 ++ (([] : va_W)))) {k6 : Int32 → Int32 → Int32 → Prop} (hk6 : ∀ (x1 : Int32) (x2 : Int32) (x3 : Int32) (ls : Array Slot), lv_has ls 8 [(0, .ref h0), (1, .int x1), (2, .int x2), (3, .int x3)] → k6  x1 x2 x3  → W p l e ({ frames := 1, cells := 0, slots := 0, locals := 21 } : Room) s m args below meth c s.heap [] 0 0 (MQ below (roI post) args s 0 0 (fun _ => False)) (F0 m 6 ls [])) : ∀ (n : Nat) (x1 : Int32) (x2 : Int32) (x3 : Int32) (x4 : Int32) (x5 : Int32) (x6 : Int32) (ls : Array Slot), lv_has ls 8 [(0, .ref h0), (1, .int x1), (2, .int x2), (3, .int x3), (4, .int x4), (5, .int x5), (6, .int x6)] → wp_X8_suspect_23 r0 post k6 n x1 x2 x3 x4 x5 x6 → W p l e ({ frames := 1, cells := 0, slots := 0, locals := 21 } : Room) s m args below meth c s.heap [] 0 0 (MQ below (roI post) args s 0 0 (fun _ => False)) (F0 m 23 ls []) := by
  obtain ⟨hx, hb, hr, hml, hown, hts, hlocks, hK, hT⟩ := id C
  intro n
  induction n with
  | zero =>
    intro x1 x2 x3 x4 x5 x6 ls hl h
    exact False.elim h
  | succ n ihn =>
    intro x1 x2 x3 x4 x5 x6 ls hl h
    rw [wu_X8_suspect_23] at h
    unfold wb_X8_suspect_23 at h
    refine lv_iload hx hb dX8_suspect_23 (lv_at hl 6 rfl) ?_
    refine lv_aload_n hx hb dX8_suspect_25 rfl (lv_at hl 0 rfl) ?_
    refine gX8_21 C hP dX8_suspect_26 ?_
    refine lv_icmp_ge (tgt := 102) hx hb dX8_suspect_29 (by decide) (fun c2 => ?_) (fun c2 => ?_)
    · replace h := And.left h c2
      refine lv_iload hx hb dX8_suspect_102 (lv_at hl 5 rfl) ?_
      refine lv_if_ne (tgt := 118) hx hb dX8_suspect_104 (by decide) (fun c3 => ?_) (fun c3 => ?_)
      · replace h := And.right h c3
        exact t_X8_suspect_118 C hP hD hk6 _ _ _ _ (lv_sub hl [0, 1, 2, 3] rfl) h
      · replace h := And.left h c3
        refine lv_iload hx hb dX8_suspect_107 (lv_at hl 4 rfl) ?_
        refine lv_iload_n hx hb dX8_suspect_109 rfl (lv_at hl 2 rfl) ?_
        refine lv_icmp_le (tgt := 118) hx hb dX8_suspect_110 (by decide) (fun c5 => ?_) (fun c5 => ?_)
        · replace h := And.left h c5
          exact t_X8_suspect_118 C hP hD hk6 _ _ _ _ (lv_sub hl [0, 1, 2, 3] rfl) h
        · replace h := And.right h c5
          refine lv_iload_n hx hb dX8_suspect_113 rfl (lv_at hl 3 rfl) ?_
          refine lv_istore_n (lv' := [(1, .int x3), (0, .ref h0), (2, .int x2), (3, .int x3), (4, .int x4), (5, .int x5), (6, .int x6)]) hx hb dX8_suspect_114 rfl hl (by decide) rfl (fun ls hl => ?_)
          refine lv_iload hx hb dX8_suspect_115 (lv_at hl 4 rfl) ?_
          refine lv_istore_n (lv' := [(2, .int x4), (1, .int x3), (0, .ref h0), (3, .int x3), (4, .int x4), (5, .int x5), (6, .int x6)]) hx hb dX8_suspect_117 rfl hl (by decide) rfl (fun ls hl => ?_)
          exact t_X8_suspect_118 C hP hD hk6 _ _ _ _ (lv_sub hl [2, 1, 0, 3] rfl) h
    · replace h := And.right h c2
      refine lv_aload_n hx hb dX8_suspect_32 rfl (lv_at hl 0 rfl) ?_
      refine gX8_23 C hP dX8_suspect_33 ?_
      refine lv_iload hx hb dX8_suspect_36 (lv_at hl 6 rfl) ?_
      have hin := And.left h
      replace h := And.right h
      refine lX8_23 C hP hin dX8_suspect_38 ?_
      refine lv_iload_n hx hb dX8_suspect_39 rfl (lv_at hl 3 rfl) ?_
      refine xend_ro_i (xRunS (wc := ([] : va_W)) (As := [.int (r0.2.1 23 x6.toNatClampNeg), .int x3]) (rest := []) C (c_X8_has h) k_X8_has mw_342 ⟨rfl, rfl⟩ ⟨Nat.le_of_ble_eq_true rfl, Nat.le_of_ble_eq_true rfl⟩ hP hD [] rfl rfl hl rfl rfl (Nat.le_of_ble_eq_true rfl) dX8_suspect_40 ⟨Nat.le_refl _, Nat.le_refl _⟩) (fun v6 h => ?_)
      refine lv_istore (lv' := [(7, .int v6), (0, .ref h0), (1, .int x1), (2, .int x2), (3, .int x3), (4, .int x4), (5, .int x5), (6, .int x6)]) hx hb dX8_suspect_43 hl (by decide) rfl (fun ls hl => ?_)
      refine lv_iload hx hb dX8_suspect_45 (lv_at hl 5 rfl) ?_
      refine lv_iload hx hb dX8_suspect_47 (lv_at hl 0 rfl) ?_
      refine lv_if_eq (tgt := 66) hx hb dX8_suspect_49 (by decide) (fun c7 => ?_) (fun c7 => ?_)
      · replace h := And.left h c7
        exact t_X8_suspect_66 C hP hD hk6 ihn _ _ _ _ _ _ _ _ (lv_sub hl [1, 2, 3, 4, 6, 7, 0] rfl) h
      · replace h := And.right h c7
        refine lv_aload_n hx hb dX8_suspect_52 rfl (lv_at hl 1 rfl) ?_
        refine gX8_24 C hP dX8_suspect_53 ?_
        refine lv_iload hx hb dX8_suspect_56 (lv_at hl 7 rfl) ?_
        have hin := And.left h
        replace h := And.right h
        refine lX8_24 C hP hin dX8_suspect_58 ?_
        refine lv_if_ne (tgt := 66) hx hb dX8_suspect_59 (by decide) (fun c13 => ?_) (fun c13 => ?_)
        · replace h := And.right h c13
          exact t_X8_suspect_66 C hP hD hk6 ihn _ _ _ _ _ _ _ _ (lv_sub hl [1, 2, 3, 4, 6, 7, 0] rfl) h
        · replace h := And.left h c13
          refine lv_iconst (v := 1) hx hb dX8_suspect_62 (by decide) ?_
          refine lv_goto (tgt := 67) hx hb dX8_suspect_63 (by decide) ?_
          exact t_X8_suspect_67 C hP hD hk6 ihn _ _ _ _ _ _ _ _ _ (lv_sub hl [1, 2, 3, 4, 6, 7, 0] rfl) h
set_option maxHeartbeats 4000000 in
set_option maxRecDepth 100000 in
theorem t_X8_suspect_6 {p : Program} {l : Launch} {e : Env} {s : State} {m : MethodId} {args : Array Value} {below : List Frame} {meth : Method} {c : Code} {D : va_G} {K : Nat → ClassId} {h0 : Nat} {a0 : Nat → Nat} {n0 : Nat → Option Nat} {la0 : Nat → Nat} {r0 : zS} {post : Int32 → Prop} (C : xC p s m args meth c cX8_suspect RX8 8 (some .int) D vwCl (xty K)) (hP : va_P D vwCl (wX8 K h0 a0 n0 la0 r0 ++ (([] : va_W))) s.heap) (hD : va_D (va_A (wX8 K h0 a0 n0 la0 r0 ++ (([] : va_W))) s.heap.size) (wX8 K h0 a0 n0 la0 r0 ++ (([] : va_W)))) : ∀ (n : Nat) (x1 : Int32) (x2 : Int32) (x3 : Int32) (ls : Array Slot), lv_has ls 8 [(0, .ref h0), (1, .int x1), (2, .int x2), (3, .int x3)] → wp_X8_suspect_6 r0 post n x1 x2 x3 → W p l e ({ frames := 1, cells := 0, slots := 0, locals := 21 } : Room) s m args below meth c s.heap [] 0 0 (MQ below (roI post) args s 0 0 (fun _ => False)) (F0 m 6 ls []) := by
  obtain ⟨hx, hb, hr, hml, hown, hts, hlocks, hK, hT⟩ := id C
  intro n
  induction n with
  | zero =>
    intro x1 x2 x3 ls hl h
    exact False.elim h
  | succ n ihn =>
    intro x1 x2 x3 ls hl h
    rw [wu_X8_suspect_6] at h
    unfold wb_X8_suspect_6 at h
    refine lv_iload_n hx hb dX8_suspect_6 rfl (lv_at hl 3 rfl) ?_
    refine lv_aload_n hx hb dX8_suspect_7 rfl (lv_at hl 0 rfl) ?_
    refine gX8_10 C hP dX8_suspect_8 ?_
    refine lv_icmp_ge (tgt := 124) hx hb dX8_suspect_11 (by decide) (fun c1 => ?_) (fun c1 => ?_)
    · replace h := And.left h c1
      refine lv_iload_n hx hb dX8_suspect_124 rfl (lv_at hl 1 rfl) ?_
      exact xro_i C h dX8_suspect_125
    · replace h := And.right h c1
      refine lv_iconst (v := 0) hx hb dX8_suspect_14 (by decide) ?_
      refine lv_istore (lv' := [(4, .int (0 : Int32)), (0, .ref h0), (1, .int x1), (2, .int x2), (3, .int x3)]) hx hb dX8_suspect_15 hl (by decide) rfl (fun ls hl => ?_)
      refine lv_iconst (v := 0) hx hb dX8_suspect_17 (by decide) ?_
      refine lv_istore (lv' := [(5, .int (0 : Int32)), (4, .int (0 : Int32)), (0, .ref h0), (1, .int x1), (2, .int x2), (3, .int x3)]) hx hb dX8_suspect_18 hl (by decide) rfl (fun ls hl => ?_)
      refine lv_iconst (v := 0) hx hb dX8_suspect_20 (by decide) ?_
      refine lv_istore (lv' := [(6, .int (0 : Int32)), (5, .int (0 : Int32)), (4, .int (0 : Int32)), (0, .ref h0), (1, .int x1), (2, .int x2), (3, .int x3)]) hx hb dX8_suspect_21 hl (by decide) rfl (fun ls hl => ?_)
      obtain ⟨n0, h⟩ := h
      exact t_X8_suspect_23 C hP hD ihn n0 _ _ _ _ _ _ _ (lv_sub hl [3, 4, 5, 6, 2, 1, 0] rfl) h
set_option maxHeartbeats 4000000 in
set_option maxRecDepth 100000 in
theorem c_X8_suspect {l : Launch} {D : va_G} {K : Nat → ClassId} {h0 : Nat} {a0 : Nat → Nat} {n0 : Nat → Option Nat} {la0 : Nat → Nat} {r0 : zS}  {sz : Nat} {post : Int32 → Prop}   (h : wp_X8_suspect r0 post) : Met l yX8_suspect (Cond.code yX8_suspect cX8_suspect 8 (some .int) :: wsL_law) ({ frames := 1, cells := 0, slots := 0, locals := 21 } : Room) (va_Pc [.ref h0] (xPre D vwCl (xty K) (wX8 K h0 a0 n0 la0 r0 ++ (([] : va_W))) sz)) (roI post) 0 0 (fun _ => False) := by
  refine xMet (by decide) rfl (Nat.le_of_ble_eq_true rfl) (fun p e s m args below meth c C hnm hP hD hsz ls hl => ?_)
  have hl : lv_has ls 8 [(0, .ref h0)] := hl
  obtain ⟨hx, hb, hr, hml, hown, hts, hlocks, hK, hT⟩ := id C
  unfold wp_X8_suspect at h
  refine lv_iconst (v := -1) hx hb dX8_suspect_0 (by decide) ?_
  refine lv_istore_n (lv' := [(1, .int (-1 : Int32)), (0, .ref h0)]) hx hb dX8_suspect_1 rfl hl (by decide) rfl (fun ls hl => ?_)
  refine lv_iconst (v := 0) hx hb dX8_suspect_2 (by decide) ?_
  refine lv_istore_n (lv' := [(2, .int (0 : Int32)), (1, .int (-1 : Int32)), (0, .ref h0)]) hx hb dX8_suspect_3 rfl hl (by decide) rfl (fun ls hl => ?_)
  refine lv_iconst (v := 0) hx hb dX8_suspect_4 (by decide) ?_
  refine lv_istore_n (lv' := [(3, .int (0 : Int32)), (2, .int (0 : Int32)), (1, .int (-1 : Int32)), (0, .ref h0)]) hx hb dX8_suspect_5 rfl hl (by decide) rfl (fun ls hl => ?_)
  obtain ⟨n0, h⟩ := h
  exact t_X8_suspect_6 C hP hD n0 _ _ _ _ (lv_sub hl [3, 2, 1, 0] rfl) h

def wp_X8_swap_18 (p1 : Int32) (p2 : Int32) (post : Int32 → (zS) → Prop) (r0 : zS) : Prop :=
  wp_X8_refuse r0 (-2 : Int32) (fun v3 s4 => post v3 s4)
def wp_X8_swap (r0 : zS) (p1 : Int32) (p2 : Int32) (post : Int32 → (zS) → Prop) : Prop :=
  wp_X8_isPupil r0 (p1.toInt64) (fun v1 => (v1 = 0 → wp_X8_swap_18 p1 p2 post r0) ∧ (¬ v1 = 0 → wp_X8_isPupil r0 (p2.toInt64) (fun v5 => (v5 = 0 → wp_X8_swap_18 p1 p2 post r0) ∧ (¬ v5 = 0 → wp_X8_changes r0 p1 p2 (fun s8 => (p1 = p2 → post (0 : Int32) s8) ∧ (¬ p1 = p2 → post (1 : Int32) s8))))))
set_option maxHeartbeats 4000000 in
set_option maxRecDepth 100000 in
theorem t_X8_swap_18 {p : Program} {l : Launch} {e : Env} {s : State} {m : MethodId} {args : Array Value} {below : List Frame} {meth : Method} {c : Code} {D : va_G} {K : Nat → ClassId} {h0 : Nat} {a0 : Nat → Nat} {n0 : Nat → Option Nat} {la0 : Nat → Nat} {p1 : Int32} {p2 : Int32} {post : Int32 → (zS) → Prop} {A : Nat → Prop} (C : xC p s m args meth c cX8_swap RX8 3 (some .int) D vwCl (xty K)) (hA : ∀ q, s.heap.size ≤ q → A q) : ∀ (r0 : zS) (H : Heap) (locs : List Loc) (ls : Array Slot), lv_has ls 3 [(0, .ref h0)] → va_P D vwCl (wX8 K h0 a0 n0 la0 r0 ++ (([] : va_W))) H → va_D A (wX8 K h0 a0 n0 la0 r0 ++ (([] : va_W))) → va_S A s.heap H locs → wp_X8_swap_18 p1 p2 post r0 → W p l e ({ frames := 2, cells := 0, slots := 0, locals := 47 } : Room) s m args below meth c H locs 0 0 (MQ below (va_Qi (fun r (u : (zS)) => post r u) (fun (u : (zS)) t => va_P D vwCl (wX8 K h0 a0 n0 la0 u ++ (([] : va_W))) t.heap) A) args s 0 0 A) (F0 m 18 ls []) := by
  obtain ⟨hx, hb, hr, hml, hown, hts, hlocks, hK, hT⟩ := id C
  intro r0 H locs ls hl hP hD hS h
  unfold wp_X8_swap_18 at h
  refine lv_aload_n hx hb dX8_swap_18 rfl (lv_at hl 0 rfl) ?_
  refine lv_bipush (v := -2) hx hb dX8_swap_19 (by decide) ?_
  refine xend_rw_i_id (wf := fun (u : (zS)) => (wX8 K h0 a0 n0 la0 u ++ (([] : va_W)))) (xRunV_id (As := [.int (-2 : Int32)]) (rest := []) C (c_X8_refuse h) k_X8_refuse mw_165 ⟨rfl, rfl⟩ ⟨Nat.le_of_ble_eq_true rfl, Nat.le_of_ble_eq_true rfl⟩ hP hD rfl rfl hl rfl rfl (Nat.le_of_ble_eq_true rfl) dX8_swap_21 ⟨Nat.le_refl _, Nat.le_refl _⟩) hD hS hA (fun _ => wX8_adr _ _) (fun v3 s4 H locs h hP hD hS => ?_)
  exact xrw_i C s4 h hP hS dX8_swap_24
set_option maxHeartbeats 4000000 in
set_option maxRecDepth 100000 in
theorem c_X8_swap {l : Launch} {D : va_G} {K : Nat → ClassId} {h0 : Nat} {a0 : Nat → Nat} {n0 : Nat → Option Nat} {la0 : Nat → Nat} {r0 : zS} {p1 : Int32} {p2 : Int32} {sz : Nat} {post : Int32 → (zS) → Prop}   (h : wp_X8_swap r0 p1 p2 post) : Met l yX8_swap (Cond.code yX8_swap cX8_swap 3 (some .int) :: wsL_law) ({ frames := 2, cells := 0, slots := 0, locals := 47 } : Room) (va_Pc [.ref h0, .int p1, .int p2] (xPre D vwCl (xty K) (wX8 K h0 a0 n0 la0 r0 ++ (([] : va_W))) sz)) (va_Qi (fun r (u : (zS)) => post r u) (fun (u : (zS)) t => va_P D vwCl (wX8 K h0 a0 n0 la0 u ++ (([] : va_W))) t.heap) (va_A (wX8 K h0 a0 n0 la0 r0 ++ (([] : va_W))) sz)) 0 0 (va_A (wX8 K h0 a0 n0 la0 r0 ++ (([] : va_W))) sz) := by
  refine xMet (by decide) rfl (Nat.le_of_ble_eq_true rfl) (fun p e s m args below meth c C hnm hP hD hsz ls hl => ?_)
  have hl : lv_has ls 3 [(0, .ref h0), (1, .int p1), (2, .int p2)] := hl
  obtain ⟨hx, hb, hr, hml, hown, hts, hlocks, hK, hT⟩ := id C
  subst hsz
  generalize hAe : va_A (wX8 K h0 a0 n0 la0 r0 ++ (([] : va_W))) s.heap.size = A at hD ⊢
  have hA : ∀ q : Nat, s.heap.size ≤ q → A q := fun q h => by rw [← hAe]; exact Or.inr h
  have hS : va_S A s.heap s.heap [] := va_S.rf
  have hP : va_P D vwCl (wX8 K h0 a0 n0 la0 r0 ++ (([] : va_W))) s.heap := hP
  unfold wp_X8_swap at h
  refine lv_aload_n hx hb dX8_swap_0 rfl (lv_at hl 0 rfl) ?_
  refine lv_iload_n hx hb dX8_swap_1 rfl (lv_at hl 1 rfl) ?_
  refine lv_i2l hx hb dX8_swap_2 rfl ?_
  refine xend_ro_i (xRunV_id (As := [.long (p1.toInt64)]) (rest := []) C (c_X8_isPupil h) k_X8_isPupil mw_262 ⟨rfl, rfl⟩ ⟨Nat.le_of_ble_eq_true rfl, Nat.le_of_ble_eq_true rfl⟩ hP hD rfl rfl hl rfl rfl (Nat.le_of_ble_eq_true rfl) dX8_swap_3 ⟨Nat.le_refl _, Nat.le_refl _⟩) (fun v1 h => ?_)
  refine lv_if_eq (tgt := 18) hx hb dX8_swap_6 (by decide) (fun c2 => ?_) (fun c2 => ?_)
  · replace h := And.left h c2
    exact t_X8_swap_18 C hA _ _ _ _ (lv_sub hl [0] rfl) hP hD hS h
  · replace h := And.right h c2
    refine lv_aload_n hx hb dX8_swap_9 rfl (lv_at hl 0 rfl) ?_
    refine lv_iload_n hx hb dX8_swap_10 rfl (lv_at hl 2 rfl) ?_
    refine lv_i2l hx hb dX8_swap_11 rfl ?_
    refine xend_ro_i (xRunV_id (As := [.long (p2.toInt64)]) (rest := []) C (c_X8_isPupil h) k_X8_isPupil mw_262 ⟨rfl, rfl⟩ ⟨Nat.le_of_ble_eq_true rfl, Nat.le_of_ble_eq_true rfl⟩ hP hD rfl rfl hl rfl rfl (Nat.le_of_ble_eq_true rfl) dX8_swap_12 ⟨Nat.le_refl _, Nat.le_refl _⟩) (fun v5 h => ?_)
    refine lv_if_ne (tgt := 25) hx hb dX8_swap_15 (by decide) (fun c6 => ?_) (fun c6 => ?_)
    · replace h := And.right h c6
      refine lv_aload_n hx hb dX8_swap_25 rfl (lv_at hl 0 rfl) ?_
      refine lv_iload_n hx hb dX8_swap_26 rfl (lv_at hl 1 rfl) ?_
      refine lv_iload_n hx hb dX8_swap_27 rfl (lv_at hl 2 rfl) ?_
      refine xend_rw_v_id (wf := fun (u : (zS)) => (wX8 K h0 a0 n0 la0 u ++ (([] : va_W)))) (xRunV_id (As := [.int p1, .int p2]) (rest := []) C (c_X8_changes h) k_X8_changes mw_1082 ⟨rfl, rfl⟩ ⟨Nat.le_of_ble_eq_true rfl, Nat.le_of_ble_eq_true rfl⟩ hP hD rfl rfl hl rfl rfl (Nat.le_of_ble_eq_true rfl) dX8_swap_28 ⟨Nat.le_refl _, Nat.le_refl _⟩) hD hS hA (fun _ => wX8_adr _ _) (fun s8 H locs h hP hD hS => ?_)
      refine lv_iload_n hx hb dX8_swap_31 rfl (lv_at hl 1 rfl) ?_
      refine lv_iload_n hx hb dX8_swap_32 rfl (lv_at hl 2 rfl) ?_
      refine lv_icmp_ne (tgt := 40) hx hb dX8_swap_33 (by decide) (fun c9 => ?_) (fun c9 => ?_)
      · replace h := And.right h c9
        refine lv_iconst (v := 1) hx hb dX8_swap_40 (by decide) ?_
        exact xrw_i C s8 h hP hS dX8_swap_41
      · replace h := And.left h c9
        refine lv_iconst (v := 0) hx hb dX8_swap_36 (by decide) ?_
        refine lv_goto (tgt := 41) hx hb dX8_swap_37 (by decide) ?_
        exact xrw_i C s8 h hP hS dX8_swap_41
    · replace h := And.left h c6
      exact t_X8_swap_18 C hA _ _ _ _ (lv_sub hl [0] rfl) hP hD hS h

def wp_X8_waits (r0 : zS) (p1 : Int32) (post : Int32 → (zS) → Prop) : Prop :=
  wp_X8_in (p1.toInt64) (1 : Int64) (999 : Int64) (fun v1 => (v1 = 0 → wp_X8_refuse r0 (-2 : Int32) (fun v4 s5 => post v4 s5)) ∧ (¬ v1 = 0 → ∀ v3 : Int32, v3 = ((r0.1 18) + p1) → post ((zI r0 18 v3).1 18) (zI r0 18 v3)))
set_option maxHeartbeats 4000000 in
set_option maxRecDepth 100000 in
theorem c_X8_waits {l : Launch} {D : va_G} {K : Nat → ClassId} {h0 : Nat} {a0 : Nat → Nat} {n0 : Nat → Option Nat} {la0 : Nat → Nat} {r0 : zS} {p1 : Int32} {sz : Nat} {post : Int32 → (zS) → Prop}   (h : wp_X8_waits r0 p1 post) : Met l yX8_waits (Cond.code yX8_waits cX8_waits 2 (some .int) :: wsL_law) ({ frames := 1, cells := 0, slots := 0, locals := 25 } : Room) (va_Pc [.ref h0, .int p1] (xPre D vwCl (xty K) (wX8 K h0 a0 n0 la0 r0 ++ (([] : va_W))) sz)) (va_Qi (fun r (u : (zS)) => post r u) (fun (u : (zS)) t => va_P D vwCl (wX8 K h0 a0 n0 la0 u ++ (([] : va_W))) t.heap) (va_A (wX8 K h0 a0 n0 la0 r0 ++ (([] : va_W))) sz)) 0 0 (va_A (wX8 K h0 a0 n0 la0 r0 ++ (([] : va_W))) sz) := by
  refine xMet (by decide) rfl (Nat.le_of_ble_eq_true rfl) (fun p e s m args below meth c C hnm hP hD hsz ls hl => ?_)
  have hl : lv_has ls 2 [(0, .ref h0), (1, .int p1)] := hl
  obtain ⟨hx, hb, hr, hml, hown, hts, hlocks, hK, hT⟩ := id C
  subst hsz
  generalize hAe : va_A (wX8 K h0 a0 n0 la0 r0 ++ (([] : va_W))) s.heap.size = A at hD ⊢
  have hA : ∀ q : Nat, s.heap.size ≤ q → A q := fun q h => by rw [← hAe]; exact Or.inr h
  have hS : va_S A s.heap s.heap [] := va_S.rf
  have hP : va_P D vwCl (wX8 K h0 a0 n0 la0 r0 ++ (([] : va_W))) s.heap := hP
  unfold wp_X8_waits at h
  refine lv_iload_n hx hb dX8_waits_0 rfl (lv_at hl 1 rfl) ?_
  refine lv_i2l hx hb dX8_waits_1 rfl ?_
  refine lv_lconst (v := 1) hx hb dX8_waits_2 (by decide) ?_
  refine lv_ldc2 hx hb hown (hts _ mw_1218) dX8_waits_3 ?_
  refine xend_ro_i (xRunS (wc := ([] : va_W)) (As := [.long (p1.toInt64), .long (1 : Int64), .long (999 : Int64)]) (rest := []) C (c_X8_in h) k_X8_in mw_162 ⟨rfl, rfl⟩ ⟨Nat.le_of_ble_eq_true rfl, Nat.le_of_ble_eq_true rfl⟩ hP hD [] rfl rfl hl rfl rfl (Nat.le_of_ble_eq_true rfl) dX8_waits_6 ⟨Nat.le_refl _, Nat.le_refl _⟩) (fun v1 h => ?_)
  refine lv_if_ne (tgt := 19) hx hb dX8_waits_9 (by decide) (fun c2 => ?_) (fun c2 => ?_)
  · replace h := And.right h c2
    refine lv_aload_n hx hb dX8_waits_19 rfl (lv_at hl 0 rfl) ?_
    refine lv_dup hx hb dX8_waits_20 rfl ?_
    refine gX8_18 C hP dX8_waits_21 ?_
    refine lv_iload_n hx hb dX8_waits_24 rfl (lv_at hl 1 rfl) ?_
    refine lv_iadd hx hb dX8_waits_25 ?_
    refine lv_topi (fun v3 ev3 => ?_)
    replace h := h v3 ev3
    refine pX8_18 C hP hD hS dX8_waits_26 (fun H locs hP hD hS => ?_)
    refine lv_aload_n hx hb dX8_waits_29 rfl (lv_at hl 0 rfl) ?_
    refine gX8_18 C hP dX8_waits_30 ?_
    exact xrw_i C (zI r0 18 v3) h hP hS dX8_waits_33
  · replace h := And.left h c2
    refine lv_aload_n hx hb dX8_waits_12 rfl (lv_at hl 0 rfl) ?_
    refine lv_bipush (v := -2) hx hb dX8_waits_13 (by decide) ?_
    refine xend_rw_i_id (wf := fun (u : (zS)) => (wX8 K h0 a0 n0 la0 u ++ (([] : va_W)))) (xRunV_id (As := [.int (-2 : Int32)]) (rest := []) C (c_X8_refuse h) k_X8_refuse mw_165 ⟨rfl, rfl⟩ ⟨Nat.le_of_ble_eq_true rfl, Nat.le_of_ble_eq_true rfl⟩ hP hD rfl rfl hl rfl rfl (Nat.le_of_ble_eq_true rfl) dX8_waits_15 ⟨Nat.le_refl _, Nat.le_refl _⟩) hD hS hA (fun _ => wX8_adr _ _) (fun v4 s5 H locs h hP hD hS => ?_)
    exact xrw_i C s5 h hP hS dX8_waits_18

def wp_X8_seed (r0 : zS) (p1 : Int32) (post : Int32 → (zS) → Prop) : Prop :=
  ∀ v1 : Int32, v1 = (r0.1 25) → post v1 (zI r0 25 p1)
set_option maxHeartbeats 4000000 in
set_option maxRecDepth 100000 in
theorem c_X8_seed {l : Launch} {D : va_G} {K : Nat → ClassId} {h0 : Nat} {a0 : Nat → Nat} {n0 : Nat → Option Nat} {la0 : Nat → Nat} {r0 : zS} {p1 : Int32} {sz : Nat} {post : Int32 → (zS) → Prop}   (h : wp_X8_seed r0 p1 post) : Met l yX8_seed (Cond.code yX8_seed cX8_seed 3 (some .int) :: wsL_law) ({ frames := 0, cells := 0, slots := 0, locals := 0 } : Room) (va_Pc [.ref h0, .int p1] (xPre D vwCl (xty K) (wX8 K h0 a0 n0 la0 r0 ++ (([] : va_W))) sz)) (va_Qi (fun r (u : (zS)) => post r u) (fun (u : (zS)) t => va_P D vwCl (wX8 K h0 a0 n0 la0 u ++ (([] : va_W))) t.heap) (va_A (wX8 K h0 a0 n0 la0 r0 ++ (([] : va_W))) sz)) 0 0 (va_A (wX8 K h0 a0 n0 la0 r0 ++ (([] : va_W))) sz) := by
  refine xMet (by decide) rfl (Nat.le_of_ble_eq_true rfl) (fun p e s m args below meth c C hnm hP hD hsz ls hl => ?_)
  have hl : lv_has ls 3 [(0, .ref h0), (1, .int p1)] := hl
  obtain ⟨hx, hb, hr, hml, hown, hts, hlocks, hK, hT⟩ := id C
  subst hsz
  generalize hAe : va_A (wX8 K h0 a0 n0 la0 r0 ++ (([] : va_W))) s.heap.size = A at hD ⊢
  have hA : ∀ q : Nat, s.heap.size ≤ q → A q := fun q h => by rw [← hAe]; exact Or.inr h
  have hS : va_S A s.heap s.heap [] := va_S.rf
  have hP : va_P D vwCl (wX8 K h0 a0 n0 la0 r0 ++ (([] : va_W))) s.heap := hP
  unfold wp_X8_seed at h
  refine lv_aload_n hx hb dX8_seed_0 rfl (lv_at hl 0 rfl) ?_
  refine gX8_25 C hP dX8_seed_1 ?_
  refine lv_topi (fun v1 ev1 => ?_)
  replace h := h v1 ev1
  refine lv_istore_n (lv' := [(2, .int v1), (0, .ref h0), (1, .int p1)]) hx hb dX8_seed_4 rfl hl (by decide) rfl (fun ls hl => ?_)
  refine lv_aload_n hx hb dX8_seed_5 rfl (lv_at hl 1 rfl) ?_
  refine lv_iload_n hx hb dX8_seed_6 rfl (lv_at hl 2 rfl) ?_
  refine pX8_25 C hP hD hS dX8_seed_7 (fun H locs hP hD hS => ?_)
  refine lv_iload_n hx hb dX8_seed_10 rfl (lv_at hl 0 rfl) ?_
  exact xrw_i C (zI r0 25 p1) h hP hS dX8_seed_11

def wb_X8_status_76 (r0 : zS) (p1 : Int32) (post : Int32 → Prop) (ih : Int32 → Int32 → Prop) (x2 : Int32) (x3 : Int32) : Prop :=
  ((r0.1 10) ≤ x3 → post (x2 / (2 : Int32)) ) ∧ (¬ (r0.1 10) ≤ x3 → vp_in x3 12 ∧ (wp_X8_bits (r0.2.1 14 x3.toNatClampNeg) (fun v3 => ∀ v4 : Int32, v4 = (x2 + v3) → ∀ v5 : Int32, v5 = x3 + (1 : Int32) → ih v4 v5)))
def wp_X8_status_76 (r0 : zS) (p1 : Int32) (post : Int32 → Prop) (n : Nat) : Int32 → Int32 → Prop := Nat.rec (motive := fun _ => Int32 → Int32 → Prop) (fun _ _ => False) (fun _ ih => wb_X8_status_76 r0 p1 post ih) n
theorem wu_X8_status_76 (r0 : zS) (p1 : Int32) (post : Int32 → Prop) (n : Nat) (x2 : Int32) (x3 : Int32) : wp_X8_status_76 r0 p1 post (n + 1) x2 x3 = wb_X8_status_76 r0 p1 post (wp_X8_status_76 r0 p1 post n) x2 x3 := rfl
def wp_X8_status_169 (r0 : zS) (p1 : Int32) (post : Int32 → Prop) (k148 : Int32 → Int32 → Prop) (x3 : Int32) (y0 : Int32) (y1 : Int32) : Prop :=
  ∀ v8 : Int32, v8 = (y1 + y0) → ∀ v9 : Int32, v9 = x3 + (1 : Int32) → k148 v8 v9
def wb_X8_status_148 (r0 : zS) (p1 : Int32) (post : Int32 → Prop) (ih : Int32 → Int32 → Prop) (x2 : Int32) (x3 : Int32) : Prop :=
  ((8 : Int32) ≤ x3 → post x2 ) ∧ (¬ (8 : Int32) ≤ x3 → vp_in x3 8 ∧ (((r0.2.1 0 x3.toNatClampNeg) = 0 → wp_X8_status_169 r0 p1 post ih x3 (0 : Int32) x2) ∧ (¬ (r0.2.1 0 x3.toNatClampNeg) = 0 → wp_X8_status_169 r0 p1 post ih x3 (1 : Int32) x2)))
def wp_X8_status_148 (r0 : zS) (p1 : Int32) (post : Int32 → Prop) (n : Nat) : Int32 → Int32 → Prop := Nat.rec (motive := fun _ => Int32 → Int32 → Prop) (fun _ _ => False) (fun _ ih => wb_X8_status_148 r0 p1 post ih) n
theorem wu_X8_status_148 (r0 : zS) (p1 : Int32) (post : Int32 → Prop) (n : Nat) (x2 : Int32) (x3 : Int32) : wp_X8_status_148 r0 p1 post (n + 1) x2 x3 = wb_X8_status_148 r0 p1 post (wp_X8_status_148 r0 p1 post n) x2 x3 := rfl
def wp_X8_status (r0 : zS) (p1 : Int32) (post : Int32 → Prop) : Prop :=
  (p1 = 0 → post (r0.1 9) ) ∧ (p1 = 1 → post (r0.1 10) ) ∧ (p1 = 2 → ∃ n : Nat, wp_X8_status_76 r0 p1 post n (0 : Int32) (0 : Int32)) ∧ (p1 = 3 → post (r0.1 15) ) ∧ (p1 = 4 → post (r0.1 16) ) ∧ (p1 = 5 → post (r0.1 17) ) ∧ (p1 = 6 → post (r0.1 18) ) ∧ (p1 = 7 → post (r0.1 19) ) ∧ (p1 = 8 → post (r0.1 20) ) ∧ (p1 = 9 → post (r0.1 7) ) ∧ (p1 = 10 → post (r0.1 25) ) ∧ (p1 = 11 → ∃ n : Nat, wp_X8_status_148 r0 p1 post n (0 : Int32) (0 : Int32)) ∧ (¬ p1 = 0 → ¬ p1 = 1 → ¬ p1 = 2 → ¬ p1 = 3 → ¬ p1 = 4 → ¬ p1 = 5 → ¬ p1 = 6 → ¬ p1 = 7 → ¬ p1 = 8 → ¬ p1 = 9 → ¬ p1 = 10 → ¬ p1 = 11 → wp_X8_in (p1.toInt64) (12 : Int64) (16 : Int64) (fun v10 => (v10 = 0 → post (-1 : Int32) ) ∧ (¬ v10 = 0 → vp_in (p1 - (10 : Int32)) 8 ∧ (post (r0.2.1 8 (p1 - (10 : Int32)).toNatClampNeg) ))))
set_option maxHeartbeats 4000000 in
set_option maxRecDepth 100000 in
theorem t_X8_status_76 {p : Program} {l : Launch} {e : Env} {s : State} {m : MethodId} {args : Array Value} {below : List Frame} {meth : Method} {c : Code} {D : va_G} {K : Nat → ClassId} {h0 : Nat} {a0 : Nat → Nat} {n0 : Nat → Option Nat} {la0 : Nat → Nat} {r0 : zS} {p1 : Int32} {post : Int32 → Prop} (C : xC p s m args meth c cX8_status RX8 4 (some .int) D vwCl (xty K)) (hP : va_P D vwCl (wX8 K h0 a0 n0 la0 r0 ++ (([] : va_W))) s.heap) (hD : va_D (va_A (wX8 K h0 a0 n0 la0 r0 ++ (([] : va_W))) s.heap.size) (wX8 K h0 a0 n0 la0 r0 ++ (([] : va_W)))) : ∀ (n : Nat) (x2 : Int32) (x3 : Int32) (ls : Array Slot), lv_has ls 4 [(0, .ref h0), (2, .int x2), (3, .int x3)] → wp_X8_status_76 r0 p1 post n x2 x3 → W p l e ({ frames := 1, cells := 0, slots := 0, locals := 25 } : Room) s m args below meth c s.heap [] 0 0 (MQ below (roI post) args s 0 0 (fun _ => False)) (F0 m 76 ls []) := by
  obtain ⟨hx, hb, hr, hml, hown, hts, hlocks, hK, hT⟩ := id C
  intro n
  induction n with
  | zero =>
    intro x2 x3 ls hl h
    exact False.elim h
  | succ n ihn =>
    intro x2 x3 ls hl h
    rw [wu_X8_status_76] at h
    unfold wb_X8_status_76 at h
    refine lv_iload_n hx hb dX8_status_76 rfl (lv_at hl 2 rfl) ?_
    refine lv_aload_n hx hb dX8_status_77 rfl (lv_at hl 0 rfl) ?_
    refine gX8_10 C hP dX8_status_78 ?_
    refine lv_icmp_ge (tgt := 102) hx hb dX8_status_81 (by decide) (fun c2 => ?_) (fun c2 => ?_)
    · replace h := And.left h c2
      refine lv_iload_n hx hb dX8_status_102 rfl (lv_at hl 1 rfl) ?_
      refine lv_iconst (v := 2) hx hb dX8_status_103 (by decide) ?_
      refine lv_idiv hx hb dX8_status_104 (by decide) ?_
      exact xro_i C h dX8_status_105
    · replace h := And.right h c2
      refine lv_iload_n hx hb dX8_status_84 rfl (lv_at hl 1 rfl) ?_
      refine lv_aload_n hx hb dX8_status_85 rfl (lv_at hl 0 rfl) ?_
      refine gX8_14 C hP dX8_status_86 ?_
      refine lv_iload_n hx hb dX8_status_89 rfl (lv_at hl 2 rfl) ?_
      have hin := And.left h
      replace h := And.right h
      refine lX8_14 C hP hin dX8_status_90 ?_
      refine xend_ro_i (xRunS (wc := ([] : va_W)) (As := [.int (r0.2.1 14 x3.toNatClampNeg)]) (rest := [.int x2]) C (c_X8_bits h) k_X8_bits mw_345 ⟨rfl, rfl⟩ ⟨Nat.le_of_ble_eq_true rfl, Nat.le_of_ble_eq_true rfl⟩ hP hD [] rfl rfl hl rfl rfl (Nat.le_of_ble_eq_true rfl) dX8_status_91 ⟨Nat.le_refl _, Nat.le_refl _⟩) (fun v3 h => ?_)
      refine lv_iadd hx hb dX8_status_94 ?_
      refine lv_topi (fun v4 ev4 => ?_)
      replace h := h v4 ev4
      refine lv_istore_n (lv' := [(2, .int v4), (0, .ref h0), (3, .int x3)]) hx hb dX8_status_95 rfl hl (by decide) rfl (fun ls hl => ?_)
      obtain ⟨v5, ev5⟩ : ∃ y : Int32, y = x3 + (1 : Int32) := ⟨_, rfl⟩
      replace h := h v5 ev5
      refine lv_iinc (v := v5) (lv' := [(3, .int v5), (2, .int v4), (0, .ref h0)]) hx hb dX8_status_96 hl (k := 2) rfl (by rw [ev5]; rfl) (by decide) rfl (fun ls hl => ?_)
      refine lv_goto (tgt := 76) hx hb dX8_status_99 (by decide) ?_
      exact ihn _ _ _ (lv_sub hl [2, 1, 0] rfl) h
set_option maxHeartbeats 4000000 in
set_option maxRecDepth 100000 in
theorem t_X8_status_169 {p : Program} {l : Launch} {e : Env} {s : State} {m : MethodId} {args : Array Value} {below : List Frame} {meth : Method} {c : Code} {D : va_G} {K : Nat → ClassId} {h0 : Nat} {a0 : Nat → Nat} {n0 : Nat → Option Nat} {la0 : Nat → Nat} {r0 : zS} {p1 : Int32} {post : Int32 → Prop} (C : xC p s m args meth c cX8_status RX8 4 (some .int) D vwCl (xty K)) (hP : va_P D vwCl (wX8 K h0 a0 n0 la0 r0 ++ (([] : va_W))) s.heap) (hD : va_D (va_A (wX8 K h0 a0 n0 la0 r0 ++ (([] : va_W))) s.heap.size) (wX8 K h0 a0 n0 la0 r0 ++ (([] : va_W)))) {k148 : Int32 → Int32 → Prop} (hk148 : ∀ (x2 : Int32) (x3 : Int32) (ls : Array Slot), lv_has ls 4 [(0, .ref h0), (2, .int x2), (3, .int x3)] → k148  x2 x3  → W p l e ({ frames := 1, cells := 0, slots := 0, locals := 25 } : Room) s m args below meth c s.heap [] 0 0 (MQ below (roI post) args s 0 0 (fun _ => False)) (F0 m 148 ls [])) : ∀ (x3 : Int32) (y0 : Int32) (y1 : Int32) (ls : Array Slot), lv_has ls 4 [(0, .ref h0), (3, .int x3)] → wp_X8_status_169 r0 p1 post k148 x3 y0 y1 → W p l e ({ frames := 1, cells := 0, slots := 0, locals := 25 } : Room) s m args below meth c s.heap [] 0 0 (MQ below (roI post) args s 0 0 (fun _ => False)) (F0 m 169 ls [.int y0, .int y1]) := by
  obtain ⟨hx, hb, hr, hml, hown, hts, hlocks, hK, hT⟩ := id C
  intro x3 y0 y1 ls hl h
  unfold wp_X8_status_169 at h
  refine lv_iadd hx hb dX8_status_169 ?_
  refine lv_topi (fun v8 ev8 => ?_)
  replace h := h v8 ev8
  refine lv_istore_n (lv' := [(2, .int v8), (0, .ref h0), (3, .int x3)]) hx hb dX8_status_170 rfl hl (by decide) rfl (fun ls hl => ?_)
  obtain ⟨v9, ev9⟩ : ∃ y : Int32, y = x3 + (1 : Int32) := ⟨_, rfl⟩
  replace h := h v9 ev9
  refine lv_iinc (v := v9) (lv' := [(3, .int v9), (2, .int v8), (0, .ref h0)]) hx hb dX8_status_171 hl (k := 2) rfl (by rw [ev9]; rfl) (by decide) rfl (fun ls hl => ?_)
  refine lv_goto (tgt := 148) hx hb dX8_status_174 (by decide) ?_
  exact hk148 _ _ _ (lv_sub hl [2, 1, 0] rfl) h
set_option maxHeartbeats 4000000 in
set_option maxRecDepth 100000 in
theorem t_X8_status_148 {p : Program} {l : Launch} {e : Env} {s : State} {m : MethodId} {args : Array Value} {below : List Frame} {meth : Method} {c : Code} {D : va_G} {K : Nat → ClassId} {h0 : Nat} {a0 : Nat → Nat} {n0 : Nat → Option Nat} {la0 : Nat → Nat} {r0 : zS} {p1 : Int32} {post : Int32 → Prop} (C : xC p s m args meth c cX8_status RX8 4 (some .int) D vwCl (xty K)) (hP : va_P D vwCl (wX8 K h0 a0 n0 la0 r0 ++ (([] : va_W))) s.heap) (hD : va_D (va_A (wX8 K h0 a0 n0 la0 r0 ++ (([] : va_W))) s.heap.size) (wX8 K h0 a0 n0 la0 r0 ++ (([] : va_W)))) : ∀ (n : Nat) (x2 : Int32) (x3 : Int32) (ls : Array Slot), lv_has ls 4 [(0, .ref h0), (2, .int x2), (3, .int x3)] → wp_X8_status_148 r0 p1 post n x2 x3 → W p l e ({ frames := 1, cells := 0, slots := 0, locals := 25 } : Room) s m args below meth c s.heap [] 0 0 (MQ below (roI post) args s 0 0 (fun _ => False)) (F0 m 148 ls []) := by
  obtain ⟨hx, hb, hr, hml, hown, hts, hlocks, hK, hT⟩ := id C
  intro n
  induction n with
  | zero =>
    intro x2 x3 ls hl h
    exact False.elim h
  | succ n ihn =>
    intro x2 x3 ls hl h
    rw [wu_X8_status_148] at h
    unfold wb_X8_status_148 at h
    refine lv_iload_n hx hb dX8_status_148 rfl (lv_at hl 2 rfl) ?_
    refine lv_bipush (v := 8) hx hb dX8_status_149 (by decide) ?_
    refine lv_icmp_ge (tgt := 177) hx hb dX8_status_151 (by decide) (fun c6 => ?_) (fun c6 => ?_)
    · replace h := And.left h c6
      refine lv_iload_n hx hb dX8_status_177 rfl (lv_at hl 1 rfl) ?_
      exact xro_i C h dX8_status_178
    · replace h := And.right h c6
      refine lv_iload_n hx hb dX8_status_154 rfl (lv_at hl 1 rfl) ?_
      refine lv_aload_n hx hb dX8_status_155 rfl (lv_at hl 0 rfl) ?_
      refine gX8_0 C hP dX8_status_156 ?_
      refine lv_iload_n hx hb dX8_status_159 rfl (lv_at hl 2 rfl) ?_
      have hin := And.left h
      replace h := And.right h
      refine lX8_0 C hP hin dX8_status_160 ?_
      refine lv_if_eq (tgt := 168) hx hb dX8_status_161 (by decide) (fun c7 => ?_) (fun c7 => ?_)
      · replace h := And.left h c7
        refine lv_iconst (v := 0) hx hb dX8_status_168 (by decide) ?_
        exact t_X8_status_169 C hP hD ihn _ _ _ _ (lv_sub hl [0, 2] rfl) h
      · replace h := And.right h c7
        refine lv_iconst (v := 1) hx hb dX8_status_164 (by decide) ?_
        refine lv_goto (tgt := 169) hx hb dX8_status_165 (by decide) ?_
        exact t_X8_status_169 C hP hD ihn _ _ _ _ (lv_sub hl [0, 2] rfl) h
set_option maxHeartbeats 4000000 in
set_option maxRecDepth 100000 in
theorem c_X8_status {l : Launch} {D : va_G} {K : Nat → ClassId} {h0 : Nat} {a0 : Nat → Nat} {n0 : Nat → Option Nat} {la0 : Nat → Nat} {r0 : zS} {p1 : Int32} {sz : Nat} {post : Int32 → Prop}   (h : wp_X8_status r0 p1 post) : Met l yX8_status (Cond.code yX8_status cX8_status 4 (some .int) :: wsL_law) ({ frames := 1, cells := 0, slots := 0, locals := 25 } : Room) (va_Pc [.ref h0, .int p1] (xPre D vwCl (xty K) (wX8 K h0 a0 n0 la0 r0 ++ (([] : va_W))) sz)) (roI post) 0 0 (fun _ => False) := by
  refine xMet (by decide) rfl (Nat.le_of_ble_eq_true rfl) (fun p e s m args below meth c C hnm hP hD hsz ls hl => ?_)
  have hl : lv_has ls 4 [(0, .ref h0), (1, .int p1)] := hl
  obtain ⟨hx, hb, hr, hml, hown, hts, hlocks, hK, hT⟩ := id C
  unfold wp_X8_status at h
  refine lv_iconst (v := 0) hx hb dX8_status_0 (by decide) ?_
  refine lv_istore_n (lv' := [(2, .int (0 : Int32)), (0, .ref h0), (1, .int p1)]) hx hb dX8_status_1 rfl hl (by decide) rfl (fun ls hl => ?_)
  refine lv_iload_n hx hb dX8_status_2 rfl (lv_at hl 2 rfl) ?_
  rcases (Decidable.em (p1 = 0)) with c1 | c1_0
  · have c1T := xsw c1
    replace h := And.left (h) c1
    refine lv_tableIn (tgt := 64) hx hb dX8_status_3 (by rw [c1T]; decide) (by rw [c1T]; decide) (by rw [c1T] <;> rfl) (by decide) ?_
    refine lv_aload_n hx hb dX8_status_64 rfl (lv_at hl 1 rfl) ?_
    refine gX8_9 C hP dX8_status_65 ?_
    exact xro_i C h dX8_status_68
  rcases (Decidable.em (p1 = 1)) with c1 | c1_1
  · have c1T := xsw c1
    replace h := And.left (And.right (h)) c1
    refine lv_tableIn (tgt := 69) hx hb dX8_status_3 (by rw [c1T]; decide) (by rw [c1T]; decide) (by rw [c1T] <;> rfl) (by decide) ?_
    refine lv_aload_n hx hb dX8_status_69 rfl (lv_at hl 1 rfl) ?_
    refine gX8_10 C hP dX8_status_70 ?_
    exact xro_i C h dX8_status_73
  rcases (Decidable.em (p1 = 2)) with c1 | c1_2
  · have c1T := xsw c1
    replace h := And.left (And.right (And.right (h))) c1
    refine lv_tableIn (tgt := 74) hx hb dX8_status_3 (by rw [c1T]; decide) (by rw [c1T]; decide) (by rw [c1T] <;> rfl) (by decide) ?_
    refine lv_iconst (v := 0) hx hb dX8_status_74 (by decide) ?_
    refine lv_istore_n (lv' := [(3, .int (0 : Int32)), (2, .int (0 : Int32)), (0, .ref h0), (1, .int p1)]) hx hb dX8_status_75 rfl hl (by decide) rfl (fun ls hl => ?_)
    obtain ⟨n0, h⟩ := h
    exact t_X8_status_76 C hP hD n0 _ _ _ (lv_sub hl [2, 1, 0] rfl) h
  rcases (Decidable.em (p1 = 3)) with c1 | c1_3
  · have c1T := xsw c1
    replace h := And.left (And.right (And.right (And.right (h)))) c1
    refine lv_tableIn (tgt := 106) hx hb dX8_status_3 (by rw [c1T]; decide) (by rw [c1T]; decide) (by rw [c1T] <;> rfl) (by decide) ?_
    refine lv_aload_n hx hb dX8_status_106 rfl (lv_at hl 1 rfl) ?_
    refine gX8_15 C hP dX8_status_107 ?_
    exact xro_i C h dX8_status_110
  rcases (Decidable.em (p1 = 4)) with c1 | c1_4
  · have c1T := xsw c1
    replace h := And.left (And.right (And.right (And.right (And.right (h))))) c1
    refine lv_tableIn (tgt := 111) hx hb dX8_status_3 (by rw [c1T]; decide) (by rw [c1T]; decide) (by rw [c1T] <;> rfl) (by decide) ?_
    refine lv_aload_n hx hb dX8_status_111 rfl (lv_at hl 1 rfl) ?_
    refine gX8_16 C hP dX8_status_112 ?_
    exact xro_i C h dX8_status_115
  rcases (Decidable.em (p1 = 5)) with c1 | c1_5
  · have c1T := xsw c1
    replace h := And.left (And.right (And.right (And.right (And.right (And.right (h)))))) c1
    refine lv_tableIn (tgt := 116) hx hb dX8_status_3 (by rw [c1T]; decide) (by rw [c1T]; decide) (by rw [c1T] <;> rfl) (by decide) ?_
    refine lv_aload_n hx hb dX8_status_116 rfl (lv_at hl 1 rfl) ?_
    refine gX8_17 C hP dX8_status_117 ?_
    exact xro_i C h dX8_status_120
  rcases (Decidable.em (p1 = 6)) with c1 | c1_6
  · have c1T := xsw c1
    replace h := And.left (And.right (And.right (And.right (And.right (And.right (And.right (h))))))) c1
    refine lv_tableIn (tgt := 121) hx hb dX8_status_3 (by rw [c1T]; decide) (by rw [c1T]; decide) (by rw [c1T] <;> rfl) (by decide) ?_
    refine lv_aload_n hx hb dX8_status_121 rfl (lv_at hl 1 rfl) ?_
    refine gX8_18 C hP dX8_status_122 ?_
    exact xro_i C h dX8_status_125
  rcases (Decidable.em (p1 = 7)) with c1 | c1_7
  · have c1T := xsw c1
    replace h := And.left (And.right (And.right (And.right (And.right (And.right (And.right (And.right (h)))))))) c1
    refine lv_tableIn (tgt := 126) hx hb dX8_status_3 (by rw [c1T]; decide) (by rw [c1T]; decide) (by rw [c1T] <;> rfl) (by decide) ?_
    refine lv_aload_n hx hb dX8_status_126 rfl (lv_at hl 1 rfl) ?_
    refine gX8_19 C hP dX8_status_127 ?_
    exact xro_i C h dX8_status_130
  rcases (Decidable.em (p1 = 8)) with c1 | c1_8
  · have c1T := xsw c1
    replace h := And.left (And.right (And.right (And.right (And.right (And.right (And.right (And.right (And.right (h))))))))) c1
    refine lv_tableIn (tgt := 131) hx hb dX8_status_3 (by rw [c1T]; decide) (by rw [c1T]; decide) (by rw [c1T] <;> rfl) (by decide) ?_
    refine lv_aload_n hx hb dX8_status_131 rfl (lv_at hl 1 rfl) ?_
    refine gX8_20 C hP dX8_status_132 ?_
    exact xro_i C h dX8_status_135
  rcases (Decidable.em (p1 = 9)) with c1 | c1_9
  · have c1T := xsw c1
    replace h := And.left (And.right (And.right (And.right (And.right (And.right (And.right (And.right (And.right (And.right (h)))))))))) c1
    refine lv_tableIn (tgt := 136) hx hb dX8_status_3 (by rw [c1T]; decide) (by rw [c1T]; decide) (by rw [c1T] <;> rfl) (by decide) ?_
    refine lv_aload_n hx hb dX8_status_136 rfl (lv_at hl 1 rfl) ?_
    refine gX8_7 C hP dX8_status_137 ?_
    exact xro_i C h dX8_status_140
  rcases (Decidable.em (p1 = 10)) with c1 | c1_10
  · have c1T := xsw c1
    replace h := And.left (And.right (And.right (And.right (And.right (And.right (And.right (And.right (And.right (And.right (And.right (h))))))))))) c1
    refine lv_tableIn (tgt := 141) hx hb dX8_status_3 (by rw [c1T]; decide) (by rw [c1T]; decide) (by rw [c1T] <;> rfl) (by decide) ?_
    refine lv_aload_n hx hb dX8_status_141 rfl (lv_at hl 1 rfl) ?_
    refine gX8_25 C hP dX8_status_142 ?_
    exact xro_i C h dX8_status_145
  rcases (Decidable.em (p1 = 11)) with c1 | c1_11
  · have c1T := xsw c1
    replace h := And.left (And.right (And.right (And.right (And.right (And.right (And.right (And.right (And.right (And.right (And.right (And.right (h)))))))))))) c1
    refine lv_tableIn (tgt := 146) hx hb dX8_status_3 (by rw [c1T]; decide) (by rw [c1T]; decide) (by rw [c1T] <;> rfl) (by decide) ?_
    refine lv_iconst (v := 0) hx hb dX8_status_146 (by decide) ?_
    refine lv_istore_n (lv' := [(3, .int (0 : Int32)), (2, .int (0 : Int32)), (0, .ref h0), (1, .int p1)]) hx hb dX8_status_147 rfl hl (by decide) rfl (fun ls hl => ?_)
    obtain ⟨n0, h⟩ := h
    exact t_X8_status_148 C hP hD n0 _ _ _ (lv_sub hl [2, 1, 0] rfl) h
  replace h := And.right (And.right (And.right (And.right (And.right (And.right (And.right (And.right (And.right (And.right (And.right (And.right (h)))))))))))) c1_0 c1_1 c1_2 c1_3 c1_4 c1_5 c1_6 c1_7 c1_8 c1_9 c1_10 c1_11
  have c1N_0 := lv_neT (a := 0) c1_0 rfl
  have c1N_1 := lv_neT (a := 1) c1_1 rfl
  have c1N_2 := lv_neT (a := 2) c1_2 rfl
  have c1N_3 := lv_neT (a := 3) c1_3 rfl
  have c1N_4 := lv_neT (a := 4) c1_4 rfl
  have c1N_5 := lv_neT (a := 5) c1_5 rfl
  have c1N_6 := lv_neT (a := 6) c1_6 rfl
  have c1N_7 := lv_neT (a := 7) c1_7 rfl
  have c1N_8 := lv_neT (a := 8) c1_8 rfl
  have c1N_9 := lv_neT (a := 9) c1_9 rfl
  have c1N_10 := lv_neT (a := 10) c1_10 rfl
  have c1N_11 := lv_neT (a := 11) c1_11 rfl
  refine lv_tableOut (tgt := 179) hx hb dX8_status_3 (by omega) (by decide) ?_
  refine lv_iload_n hx hb dX8_status_179 rfl (lv_at hl 2 rfl) ?_
  refine lv_i2l hx hb dX8_status_180 rfl ?_
  refine lv_ldc2 hx hb hown (hts _ mw_1271) dX8_status_181 ?_
  refine lv_ldc2 hx hb hown (hts _ mw_1272) dX8_status_184 ?_
  refine xend_ro_i (xRunS (wc := ([] : va_W)) (As := [.long (p1.toInt64), .long (12 : Int64), .long (16 : Int64)]) (rest := []) C (c_X8_in h) k_X8_in mw_162 ⟨rfl, rfl⟩ ⟨Nat.le_of_ble_eq_true rfl, Nat.le_of_ble_eq_true rfl⟩ hP hD [] rfl rfl hl rfl rfl (Nat.le_of_ble_eq_true rfl) dX8_status_187 ⟨Nat.le_refl _, Nat.le_refl _⟩) (fun v10 h => ?_)
  refine lv_if_eq (tgt := 205) hx hb dX8_status_190 (by decide) (fun c11 => ?_) (fun c11 => ?_)
  · replace h := And.left h c11
    refine lv_iconst (v := -1) hx hb dX8_status_205 (by decide) ?_
    exact xro_i C h dX8_status_206
  · replace h := And.right h c11
    refine lv_aload_n hx hb dX8_status_193 rfl (lv_at hl 1 rfl) ?_
    refine gX8_8 C hP dX8_status_194 ?_
    refine lv_iload_n hx hb dX8_status_197 rfl (lv_at hl 2 rfl) ?_
    refine lv_bipush (v := 10) hx hb dX8_status_198 (by decide) ?_
    refine lv_isub hx hb dX8_status_200 ?_
    have hin := And.left h
    replace h := And.right h
    refine lX8_8 C hP hin dX8_status_201 ?_
    refine lv_goto (tgt := 206) hx hb dX8_status_202 (by decide) ?_
    exact xro_i C h dX8_status_206
