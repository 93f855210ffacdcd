def wp_X8_back_S_60 (r1 : zS) (post : Int32 → (zS) → Prop) (k24 : (zS) → Int32 → Prop) (r0 : zS) (x1 : Int32) : Prop :=
  ∀ v5 : Int32, v5 = x1 + (1 : Int32) → k24 r0 v5
def wb_X8_back_S_24 (r1 : zS) (post : Int32 → (zS) → Prop) (ih : (zS) → Int32 → Prop) (r0 : zS) (x1 : Int32) : Prop :=
  ((8 : Int32) ≤ x1 → post (1 : Int32) r0) ∧ (¬ (8 : Int32) ≤ x1 → vp_in x1 8 ∧ (((r0.2.1 0 x1.toNatClampNeg) = (2 : Int32) → vp_in x1 8 ∧ (((r0.2.1 5 x1.toNatClampNeg) < (r0.1 10) → wp_X8_back_S_60 r1 post ih r0 x1) ∧ (¬ (r0.2.1 5 x1.toNatClampNeg) < (r0.1 10) → vp_in x1 8 ∧ (∀ j7 : Nat, j7 = x1.toNatClampNeg → wp_X8_back_S_60 r1 post ih (zA r0 0 j7 (0 : Int32)) x1)))) ∧ (¬ (r0.2.1 0 x1.toNatClampNeg) = (2 : Int32) → wp_X8_back_S_60 r1 post ih r0 x1)))
def wp_X8_back_S_24 (r1 : zS) (post : Int32 → (zS) → Prop) (n : Nat) : (zS) → Int32 → Prop := Nat.rec (motive := fun _ => (zS) → Int32 → Prop) (fun _ _ => False) (fun _ ih => wb_X8_back_S_24 r1 post ih) n
theorem wu_X8_back_S_24 (r1 : zS) (post : Int32 → (zS) → Prop) (n : Nat) (r0 : zS) (x1 : Int32) : wp_X8_back_S_24 r1 post (n + 1) r0 x1 = wb_X8_back_S_24 r1 post (wp_X8_back_S_24 r1 post n) r0 x1 := rfl
def wp_X8_back_S (r0 : zS) (r1 : zS) (post : Int32 → (zS) → Prop) : Prop :=
  wp_X8_takeFrom r0 r1 (fun s2 => ∃ n : Nat, wp_X8_back_S_24 r1 post n s2 (0 : Int32))
set_option maxHeartbeats 4000000 in
set_option maxRecDepth 100000 in
theorem t_X8_back_S_60 {p : Program} {l : Launch} {e : Env} {s : State} {m : MethodId} {args : Array Value} {below : List Frame} {meth : Method} {c : Code} {D : va_G} {K : Nat → ClassId} {h0 : Nat} {a0 : Nat → Nat} {n0 : Nat → Option Nat} {la0 : Nat → Nat} {h1 : Nat} {a1 : Nat → Nat} {n1 : Nat → Option Nat} {la1 : Nat → Nat} {r1 : zS} {post : Int32 → (zS) → Prop} {A : Nat → Prop} (C : xC p s m args meth c cX8_back RX8 2 (some .int) D vwCl (xty K)) (hn26 : n0 26 = some h1) (hA : ∀ q, s.heap.size ≤ q → A q) {k24 : (zS) → Int32 → Prop} (hk24 : ∀ (r0 : zS) (x1 : Int32) (H : Heap) (locs : List Loc) (ls : Array Slot), lv_has ls 2 [(0, .ref h0), (1, .int x1)] → va_P D vwCl (wX8 K h0 a0 n0 la0 r0 ++ (wX8 K h1 a1 n1 la1 r1 ++ (([] : va_W)))) H → va_D A (wX8 K h0 a0 n0 la0 r0 ++ (wX8 K h1 a1 n1 la1 r1 ++ (([] : va_W)))) → va_S A s.heap H locs → k24 r0 x1  → W p l e ({ frames := 2, cells := 0, slots := 0, locals := 43 } : Room) s m args below meth c H locs 0 0 (MQ below (va_Qi (fun r (u : (zS)) => post r u) (fun (u : (zS)) t => va_P D vwCl (wX8 K h0 a0 n0 la0 u ++ (wX8 K h1 a1 n1 la1 r1 ++ (([] : va_W)))) t.heap) A) args s 0 0 A) (F0 m 24 ls [])) : ∀ (r0 : zS) (x1 : Int32) (H : Heap) (locs : List Loc) (ls : Array Slot), lv_has ls 2 [(0, .ref h0), (1, .int x1)] → va_P D vwCl (wX8 K h0 a0 n0 la0 r0 ++ (wX8 K h1 a1 n1 la1 r1 ++ (([] : va_W)))) H → va_D A (wX8 K h0 a0 n0 la0 r0 ++ (wX8 K h1 a1 n1 la1 r1 ++ (([] : va_W)))) → va_S A s.heap H locs → wp_X8_back_S_60 r1 post k24 r0 x1 → W p l e ({ frames := 2, cells := 0, slots := 0, locals := 43 } : Room) s m args below meth c H locs 0 0 (MQ below (va_Qi (fun r (u : (zS)) => post r u) (fun (u : (zS)) t => va_P D vwCl (wX8 K h0 a0 n0 la0 u ++ (wX8 K h1 a1 n1 la1 r1 ++ (([] : va_W)))) t.heap) A) args s 0 0 A) (F0 m 60 ls []) := by
  obtain ⟨hx, hb, hr, hml, hown, hts, hlocks, hK, hT⟩ := id C
  intro r0 x1 H locs ls hl hP hD hS h
  unfold wp_X8_back_S_60 at h
  obtain ⟨v5, ev5⟩ : ∃ y : Int32, y = x1 + (1 : Int32) := ⟨_, rfl⟩
  replace h := h v5 ev5
  refine lv_iinc (v := v5) (lv' := [(1, .int v5), (0, .ref h0)]) hx hb dX8_back_60 hl (k := 1) rfl (by rw [ev5]; rfl) (by decide) rfl (fun ls hl => ?_)
  refine lv_goto (tgt := 24) hx hb dX8_back_63 (by decide) ?_
  exact hk24 _ _ _ _ _ (lv_sub hl [1, 0] rfl) hP hD hS h
set_option maxHeartbeats 4000000 in
set_option maxRecDepth 100000 in
theorem t_X8_back_S_24 {p : Program} {l : Launch} {e : Env} {s : State} {m : MethodId} {args : Array Value} {below : List Frame} {meth : Method} {c : Code} {D : va_G} {K : Nat → ClassId} {h0 : Nat} {a0 : Nat → Nat} {n0 : Nat → Option Nat} {la0 : Nat → Nat} {h1 : Nat} {a1 : Nat → Nat} {n1 : Nat → Option Nat} {la1 : Nat → Nat} {r1 : zS} {post : Int32 → (zS) → Prop} {A : Nat → Prop} (C : xC p s m args meth c cX8_back RX8 2 (some .int) D vwCl (xty K)) (hn26 : n0 26 = some h1) (hA : ∀ q, s.heap.size ≤ q → A q) : ∀ (n : Nat) (r0 : zS) (x1 : Int32) (H : Heap) (locs : List Loc) (ls : Array Slot), lv_has ls 2 [(0, .ref h0), (1, .int x1)] → va_P D vwCl (wX8 K h0 a0 n0 la0 r0 ++ (wX8 K h1 a1 n1 la1 r1 ++ (([] : va_W)))) H → va_D A (wX8 K h0 a0 n0 la0 r0 ++ (wX8 K h1 a1 n1 la1 r1 ++ (([] : va_W)))) → va_S A s.heap H locs → wp_X8_back_S_24 r1 post n r0 x1 → W p l e ({ frames := 2, cells := 0, slots := 0, locals := 43 } : Room) s m args below meth c H locs 0 0 (MQ below (va_Qi (fun r (u : (zS)) => post r u) (fun (u : (zS)) t => va_P D vwCl (wX8 K h0 a0 n0 la0 u ++ (wX8 K h1 a1 n1 la1 r1 ++ (([] : va_W)))) t.heap) A) args s 0 0 A) (F0 m 24 ls []) := by
  obtain ⟨hx, hb, hr, hml, hown, hts, hlocks, hK, hT⟩ := id C
  intro n
  induction n with
  | zero =>
    intro r0 x1 H locs ls hl hP hD hS h
    exact False.elim h
  | succ n ihn =>
    intro r0 x1 H locs ls hl hP hD hS h
    rw [wu_X8_back_S_24] at h
    unfold wb_X8_back_S_24 at h
    refine lv_iload_n hx hb dX8_back_24 rfl (lv_at hl 1 rfl) ?_
    refine lv_bipush (v := 8) hx hb dX8_back_25 (by decide) ?_
    refine lv_icmp_ge (tgt := 66) hx hb dX8_back_27 (by decide) (fun c3 => ?_) (fun c3 => ?_)
    · replace h := And.left h c3
      refine lv_iconst (v := 1) hx hb dX8_back_66 (by decide) ?_
      exact xrw_i C r0 h hP hS dX8_back_67
    · replace h := And.right h c3
      refine lv_aload_n hx hb dX8_back_30 rfl (lv_at hl 0 rfl) ?_
      refine gX8_0 C hP dX8_back_31 ?_
      refine lv_iload_n hx hb dX8_back_34 rfl (lv_at hl 1 rfl) ?_
      have hin := And.left h
      replace h := And.right h
      refine lX8_0 C hP hin dX8_back_35 ?_
      refine lv_iconst (v := 2) hx hb dX8_back_36 (by decide) ?_
      refine lv_icmp_ne (tgt := 60) hx hb dX8_back_37 (by decide) (fun c4 => ?_) (fun c4 => ?_)
      · replace h := And.right h c4
        exact t_X8_back_S_60 C hn26 hA ihn _ _ _ _ _ (lv_sub hl [0, 1] rfl) hP hD hS h
      · replace h := And.left h c4
        refine lv_aload_n hx hb dX8_back_40 rfl (lv_at hl 0 rfl) ?_
        refine gX8_5 C hP dX8_back_41 ?_
        refine lv_iload_n hx hb dX8_back_44 rfl (lv_at hl 1 rfl) ?_
        have hin := And.left h
        replace h := And.right h
        refine lX8_5 C hP hin dX8_back_45 ?_
        refine lv_aload_n hx hb dX8_back_46 rfl (lv_at hl 0 rfl) ?_
        refine gX8_10 C hP dX8_back_47 ?_
        refine lv_icmp_lt (tgt := 60) hx hb dX8_back_50 (by decide) (fun c6 => ?_) (fun c6 => ?_)
        · replace h := And.left h c6
          exact t_X8_back_S_60 C hn26 hA ihn _ _ _ _ _ (lv_sub hl [0, 1] rfl) hP hD hS h
        · replace h := And.right h c6
          refine lv_aload_n hx hb dX8_back_53 rfl (lv_at hl 0 rfl) ?_
          refine gX8_0 C hP dX8_back_54 ?_
          refine lv_iload_n hx hb dX8_back_57 rfl (lv_at hl 1 rfl) ?_
          refine lv_iconst (v := 0) hx hb dX8_back_58 (by decide) ?_
          have hin := And.left h
          obtain ⟨j7, ej7⟩ : ∃ j : Nat, j = x1.toNatClampNeg := ⟨_, rfl⟩
          replace h := And.right h j7 ej7
          refine sX8_0 C hP hD hS hin ej7 dX8_back_59 (fun H locs hP hD hS => ?_)
          exact t_X8_back_S_60 C hn26 hA ihn _ _ _ _ _ (lv_sub hl [0, 1] rfl) hP hD hS h
set_option maxHeartbeats 4000000 in
set_option maxRecDepth 100000 in
theorem c_X8_back_S {l : Launch} {D : va_G} {K : Nat → ClassId} {h0 : Nat} {a0 : Nat → Nat} {n0 : Nat → Option Nat} {la0 : Nat → Nat} {r0 : zS} {h1 : Nat} {a1 : Nat → Nat} {n1 : Nat → Option Nat} {la1 : Nat → Nat} {r1 : zS}  {sz : Nat} {post : Int32 → (zS) → Prop} (hn26 : n0 26 = some h1)  (h : wp_X8_back_S r0 r1 post) : Met l yX8_back (Cond.code yX8_back cX8_back 2 (some .int) :: wsL_law) ({ frames := 2, cells := 0, slots := 0, locals := 43 } : Room) (va_Pc [.ref h0] (xPre D vwCl (xty K) (wX8 K h0 a0 n0 la0 r0 ++ (wX8 K h1 a1 n1 la1 r1 ++ (([] : va_W)))) sz)) (va_Qi (fun r (u : (zS)) => post r u) (fun (u : (zS)) t => va_P D vwCl (wX8 K h0 a0 n0 la0 u ++ (wX8 K h1 a1 n1 la1 r1 ++ (([] : va_W)))) t.heap) (va_A (wX8 K h0 a0 n0 la0 r0 ++ (wX8 K h1 a1 n1 la1 r1 ++ (([] : va_W)))) sz)) 0 0 (va_A (wX8 K h0 a0 n0 la0 r0 ++ (wX8 K h1 a1 n1 la1 r1 ++ (([] : va_W)))) sz) := by
  refine xMet (by decide) rfl (Nat.le_of_ble_eq_true rfl) (fun p e s m args below meth c C hnm hP hD hsz ls hl => ?_)
  have hl : lv_has ls 2 [(0, .ref h0)] := hl
  obtain ⟨hx, hb, hr, hml, hown, hts, hlocks, hK, hT⟩ := id C
  subst hsz
  generalize hAe : va_A (wX8 K h0 a0 n0 la0 r0 ++ (wX8 K h1 a1 n1 la1 r1 ++ (([] : va_W)))) s.heap.size = A at hD ⊢
  have hA : ∀ q : Nat, s.heap.size ≤ q → A q := fun q h => by rw [← hAe]; exact Or.inr h
  have hS : va_S A s.heap s.heap [] := va_S.rf
  have hP : va_P D vwCl (wX8 K h0 a0 n0 la0 r0 ++ (wX8 K h1 a1 n1 la1 r1 ++ (([] : va_W)))) s.heap := hP
  unfold wp_X8_back_S at h
  refine lv_aload_n hx hb dX8_back_0 rfl (lv_at hl 0 rfl) ?_
  refine gX8_26S hn26 C hP dX8_back_1 ?_
  refine lv_ifnonnull (tgt := 14) hx hb dX8_back_4 (by decide) ?_
  refine lv_aload_n hx hb dX8_back_14 rfl (lv_at hl 0 rfl) ?_
  refine lv_aload_n hx hb dX8_back_15 rfl (lv_at hl 0 rfl) ?_
  refine gX8_26S hn26 C hP dX8_back_16 ?_
  refine xend_rw_v_id (wf := fun (u : (zS)) => (wX8 K h0 a0 n0 la0 u ++ (wX8 K h1 a1 n1 la1 r1 ++ (([] : va_W))))) (xRunV_id (As := [.ref h1]) (rest := []) C (c_X8_takeFrom h) k_X8_takeFrom mw_647 ⟨rfl, rfl⟩ ⟨Nat.le_of_ble_eq_true rfl, Nat.le_of_ble_eq_true rfl⟩ hP hD rfl rfl hl rfl rfl (Nat.le_of_ble_eq_true rfl) dX8_back_19 ⟨Nat.le_refl _, Nat.le_refl _⟩) hD hS hA (fun _ => rfl) (fun s2 H locs h hP hD hS => ?_)
  refine lv_iconst (v := 0) hx hb dX8_back_22 (by decide) ?_
  refine lv_istore_n (lv' := [(1, .int (0 : Int32)), (0, .ref h0)]) hx hb dX8_back_23 rfl hl (by decide) rfl (fun ls hl => ?_)
  obtain ⟨n0, h⟩ := h
  exact t_X8_back_S_24 C hn26 hA n0 _ _ _ _ _ (lv_sub hl [1, 0] rfl) hP hD hS h

def wp_X8_back_N (r0 : zS) (post : Int32 → (zS) → Prop) : Prop :=
  wp_X8_refuse r0 (-5 : Int32) (fun v1 s2 => post v1 s2)
set_option maxHeartbeats 4000000 in
set_option maxRecDepth 100000 in
theorem c_X8_back_N {l : Launch} {D : va_G} {K : Nat → ClassId} {h0 : Nat} {a0 : Nat → Nat} {n0 : Nat → Option Nat} {la0 : Nat → Nat} {r0 : zS}  {sz : Nat} {post : Int32 → (zS) → Prop} (hn26 : n0 26 = none)  (h : wp_X8_back_N r0 post) : Met l yX8_back (Cond.code yX8_back cX8_back 2 (some .int) :: wsL_law) ({ frames := 1, cells := 0, slots := 0, locals := 21 } : Room) (va_Pc [.ref h0] (xPre D vwCl (xty K) (wX8 K h0 a0 n0 la0 r0 ++ (([] : va_W))) sz)) (va_Qi (fun r (u : (zS)) => post r u) (fun (u : (zS)) t => va_P D vwCl (wX8 K h0 a0 n0 la0 u ++ (([] : va_W))) t.heap) (va_A (wX8 K h0 a0 n0 la0 r0 ++ (([] : va_W))) sz)) 0 0 (va_A (wX8 K h0 a0 n0 la0 r0 ++ (([] : va_W))) sz) := by
  refine xMet (by decide) rfl (Nat.le_of_ble_eq_true rfl) (fun p e s m args below meth c C hnm hP hD hsz ls hl => ?_)
  have hl : lv_has ls 2 [(0, .ref h0)] := hl
  obtain ⟨hx, hb, hr, hml, hown, hts, hlocks, hK, hT⟩ := id C
  subst hsz
  generalize hAe : va_A (wX8 K h0 a0 n0 la0 r0 ++ (([] : va_W))) s.heap.size = A at hD ⊢
  have hA : ∀ q : Nat, s.heap.size ≤ q → A q := fun q h => by rw [← hAe]; exact Or.inr h
  have hS : va_S A s.heap s.heap [] := va_S.rf
  have hP : va_P D vwCl (wX8 K h0 a0 n0 la0 r0 ++ (([] : va_W))) s.heap := hP
  unfold wp_X8_back_N at h
  refine lv_aload_n hx hb dX8_back_0 rfl (lv_at hl 0 rfl) ?_
  refine gX8_26N hn26 C hP dX8_back_1 ?_
  refine lv_ifnonnullN hx hb dX8_back_4 ?_
  refine lv_aload_n hx hb dX8_back_7 rfl (lv_at hl 0 rfl) ?_
  refine lv_bipush (v := -5) hx hb dX8_back_8 (by decide) ?_
  refine xend_rw_i_id (wf := fun (u : (zS)) => (wX8 K h0 a0 n0 la0 u ++ (([] : va_W)))) (xRunV_id (As := [.int (-5 : Int32)]) (rest := []) C (c_X8_refuse h) k_X8_refuse mw_165 ⟨rfl, rfl⟩ ⟨Nat.le_of_ble_eq_true rfl, Nat.le_of_ble_eq_true rfl⟩ hP hD rfl rfl hl rfl rfl (Nat.le_of_ble_eq_true rfl) dX8_back_10 ⟨Nat.le_refl _, Nat.le_refl _⟩) hD hS hA (fun _ => wX8_adr _ _) (fun v1 s2 H locs h hP hD hS => ?_)
  exact xrw_i C s2 h hP hS dX8_back_13

def wp_X8_image_S (r0 : zS) (r1 : zS) (post : Int32 → (zS) → Prop) : Prop :=
  wp_X8_takeFrom r1 r0 (fun s2 => post (1 : Int32) s2)
set_option maxHeartbeats 4000000 in
set_option maxRecDepth 100000 in
theorem c_X8_image_S {l : Launch} {D : va_G} {K : Nat → ClassId} {h0 : Nat} {a0 : Nat → Nat} {n0 : Nat → Option Nat} {la0 : Nat → Nat} {r0 : zS} {h1 : Nat} {a1 : Nat → Nat} {n1 : Nat → Option Nat} {la1 : Nat → Nat} {r1 : zS}  {sz : Nat} {post : Int32 → (zS) → Prop} (hn26 : n0 26 = some h1)  (h : wp_X8_image_S r0 r1 post) : Met l yX8_image (Cond.code yX8_image cX8_image 1 (some .int) :: wsL_law) ({ frames := 2, cells := 0, slots := 0, locals := 43 } : Room) (va_Pc [.ref h0] (xPre D vwCl (xty K) (wX8 K h0 a0 n0 la0 r0 ++ (wX8 K h1 a1 n1 la1 r1 ++ (([] : va_W)))) sz)) (va_Qi (fun r (u : (zS)) => post r u) (fun (u : (zS)) t => va_P D vwCl (wX8 K h0 a0 n0 la0 r0 ++ (wX8 K h1 a1 n1 la1 u ++ (([] : va_W)))) t.heap) (va_A (wX8 K h0 a0 n0 la0 r0 ++ (wX8 K h1 a1 n1 la1 r1 ++ (([] : va_W)))) sz)) 0 0 (va_A (wX8 K h0 a0 n0 la0 r0 ++ (wX8 K h1 a1 n1 la1 r1 ++ (([] : va_W)))) sz) := by
  refine xMet (by decide) rfl (Nat.le_of_ble_eq_true rfl) (fun p e s m args below meth c C hnm hP hD hsz ls hl => ?_)
  have hl : lv_has ls 1 [(0, .ref h0)] := hl
  obtain ⟨hx, hb, hr, hml, hown, hts, hlocks, hK, hT⟩ := id C
  subst hsz
  generalize hAe : va_A (wX8 K h0 a0 n0 la0 r0 ++ (wX8 K h1 a1 n1 la1 r1 ++ (([] : va_W)))) s.heap.size = A at hD ⊢
  have hA : ∀ q : Nat, s.heap.size ≤ q → A q := fun q h => by rw [← hAe]; exact Or.inr h
  have hS : va_S A s.heap s.heap [] := va_S.rf
  have hP : va_P D vwCl (wX8 K h0 a0 n0 la0 r0 ++ (wX8 K h1 a1 n1 la1 r1 ++ (([] : va_W)))) s.heap := hP
  unfold wp_X8_image_S at h
  refine lv_aload_n hx hb dX8_image_0 rfl (lv_at hl 0 rfl) ?_
  refine gX8_26S hn26 C hP dX8_image_1 ?_
  refine lv_ifnonnull (tgt := 18) hx hb dX8_image_4 (by decide) ?_
  refine lv_aload_n hx hb dX8_image_18 rfl (lv_at hl 0 rfl) ?_
  refine gX8_26S hn26 C hP dX8_image_19 ?_
  refine lv_aload_n hx hb dX8_image_22 rfl (lv_at hl 0 rfl) ?_
  refine xend_rw_v (wf := fun (u : (zS)) => (wX8 K h1 a1 n1 la1 u ++ (wX8 K h0 a0 n0 la0 r0 ++ (([] : va_W))))) (xRunV (wc := (wX8 K h1 a1 n1 la1 r1 ++ (wX8 K h0 a0 n0 la0 r0 ++ (([] : va_W))))) (As := [.ref h0]) (rest := []) C (c_X8_takeFrom h) k_X8_takeFrom mw_647 ⟨rfl, rfl⟩ ⟨Nat.le_of_ble_eq_true rfl, Nat.le_of_ble_eq_true rfl⟩ hP hD xr21 wX8_C21 xr21_nd rfl rfl hl rfl rfl (Nat.le_of_ble_eq_true rfl) dX8_image_23 ⟨Nat.le_refl _, Nat.le_refl _⟩) hP hD hS hA xr21 wX8_C21 xr21_nd (fun _ => rfl) (fun s2 H locs h hP hD hS => ?_)
  rw [wX8_set21] at hP hD
  replace hP : va_P D vwCl (wX8 K h0 a0 n0 la0 r0 ++ (wX8 K h1 a1 n1 la1 s2 ++ (([] : va_W)))) H := hP
  replace hD : va_D A (wX8 K h0 a0 n0 la0 r0 ++ (wX8 K h1 a1 n1 la1 s2 ++ (([] : va_W)))) := hD
  refine lv_iconst (v := 1) hx hb dX8_image_26 (by decide) ?_
  exact xrw_i C s2 h hP hS dX8_image_27

def wp_X8_fresh_S (r0 : zS) (r1 : zS) (post : (zS) → Prop) : Prop :=
  wp_X8_takeFrom r1 r0 (fun s2 => post s2)
set_option maxHeartbeats 4000000 in
set_option maxRecDepth 100000 in
theorem c_X8_fresh_S {l : Launch} {D : va_G} {K : Nat → ClassId} {h0 : Nat} {a0 : Nat → Nat} {n0 : Nat → Option Nat} {la0 : Nat → Nat} {r0 : zS} {h1 : Nat} {a1 : Nat → Nat} {n1 : Nat → Option Nat} {la1 : Nat → Nat} {r1 : zS}  {sz : Nat} {post : (zS) → Prop} (hn27 : n0 27 = some h1)  (h : wp_X8_fresh_S r0 r1 post) : Met l yX8_fresh (Cond.code yX8_fresh cX8_fresh 1 (some (.object "UnderTheDesksModel")) :: wsL_law) ({ frames := 2, cells := 0, slots := 0, locals := 43 } : Room) (va_Pc [.ref h0] (xPre D vwCl (xty K) (wX8 K h0 a0 n0 la0 r0 ++ (wX8 K h1 a1 n1 la1 r1 ++ (([] : va_W)))) sz)) (xQr h1 (fun (u : (zS)) => post u) (fun (u : (zS)) t => va_P D vwCl (wX8 K h0 a0 n0 la0 r0 ++ (wX8 K h1 a1 n1 la1 u ++ (([] : va_W)))) t.heap) (va_A (wX8 K h0 a0 n0 la0 r0 ++ (wX8 K h1 a1 n1 la1 r1 ++ (([] : va_W)))) sz)) 0 0 (va_A (wX8 K h0 a0 n0 la0 r0 ++ (wX8 K h1 a1 n1 la1 r1 ++ (([] : va_W)))) sz) := by
  refine xMet (by decide) rfl (Nat.le_of_ble_eq_true rfl) (fun p e s m args below meth c C hnm hP hD hsz ls hl => ?_)
  have hl : lv_has ls 1 [(0, .ref h0)] := hl
  obtain ⟨hx, hb, hr, hml, hown, hts, hlocks, hK, hT⟩ := id C
  subst hsz
  generalize hAe : va_A (wX8 K h0 a0 n0 la0 r0 ++ (wX8 K h1 a1 n1 la1 r1 ++ (([] : va_W)))) s.heap.size = A at hD ⊢
  have hA : ∀ q : Nat, s.heap.size ≤ q → A q := fun q h => by rw [← hAe]; exact Or.inr h
  have hS : va_S A s.heap s.heap [] := va_S.rf
  have hP : va_P D vwCl (wX8 K h0 a0 n0 la0 r0 ++ (wX8 K h1 a1 n1 la1 r1 ++ (([] : va_W)))) s.heap := hP
  unfold wp_X8_fresh_S at h
  refine lv_aload_n hx hb dX8_fresh_0 rfl (lv_at hl 0 rfl) ?_
  refine gX8_27S hn27 C hP dX8_fresh_1 ?_
  refine lv_ifnonnull (tgt := 18) hx hb dX8_fresh_4 (by decide) ?_
  refine lv_aload_n hx hb dX8_fresh_18 rfl (lv_at hl 0 rfl) ?_
  refine gX8_27S hn27 C hP dX8_fresh_19 ?_
  refine lv_aload_n hx hb dX8_fresh_22 rfl (lv_at hl 0 rfl) ?_
  refine xend_rw_v (wf := fun (u : (zS)) => (wX8 K h1 a1 n1 la1 u ++ (wX8 K h0 a0 n0 la0 r0 ++ (([] : va_W))))) (xRunV (wc := (wX8 K h1 a1 n1 la1 r1 ++ (wX8 K h0 a0 n0 la0 r0 ++ (([] : va_W))))) (As := [.ref h0]) (rest := []) C (c_X8_takeFrom h) k_X8_takeFrom mw_647 ⟨rfl, rfl⟩ ⟨Nat.le_of_ble_eq_true rfl, Nat.le_of_ble_eq_true rfl⟩ hP hD xr21 wX8_C21 xr21_nd rfl rfl hl rfl rfl (Nat.le_of_ble_eq_true rfl) dX8_fresh_23 ⟨Nat.le_refl _, Nat.le_refl _⟩) hP hD hS hA xr21 wX8_C21 xr21_nd (fun _ => rfl) (fun s2 H locs h hP hD hS => ?_)
  rw [wX8_set21] at hP hD
  replace hP : va_P D vwCl (wX8 K h0 a0 n0 la0 r0 ++ (wX8 K h1 a1 n1 la1 s2 ++ (([] : va_W)))) H := hP
  replace hD : va_D A (wX8 K h0 a0 n0 la0 r0 ++ (wX8 K h1 a1 n1 la1 s2 ++ (([] : va_W)))) := hD
  refine lv_aload_n hx hb dX8_fresh_26 rfl (lv_at hl 0 rfl) ?_
  refine gX8_27S hn27 C hP dX8_fresh_27 ?_
  exact xrw_r C s2 h hP hS dX8_fresh_30

def wp_X8_school_S (r0 : zS) (r1 : zS) (post : Int32 → (zS) → (zS) → Prop) : Prop :=
  wp_X8_fresh_S r0 r1 (fun s2 => wp_X8_readAll r0 (fun v3 s4 => (v3 = 0 → wp_X8_takeFrom (zI s4 7 (0 : Int32)) s2 (fun s7 => wp_X8_refuse s7 (-2 : Int32) (fun v8 s9 => post ((-20 : Int32) - (s9.1 32)) s9 s2))) ∧ (¬ v3 = 0 → post ((zI s4 7 (0 : Int32)).1 34) (zI s4 7 (0 : Int32)) s2)))
set_option maxHeartbeats 4000000 in
set_option maxRecDepth 100000 in
theorem c_X8_school_S {l : Launch} {D : va_G} {K : Nat → ClassId} {h0 : Nat} {a0 : Nat → Nat} {n0 : Nat → Option Nat} {la0 : Nat → Nat} {r0 : zS} {h1 : Nat} {a1 : Nat → Nat} {n1 : Nat → Option Nat} {la1 : Nat → Nat} {r1 : zS}  {adK adV : Nat → Nat} {sz : Nat} {post : Int32 → (zS) → (zS) → Prop} (hn27 : n0 27 = some h1)  (h : wp_X8_school_S r0 r1 post) : Met l yX8_school (Cond.code yX8_school cX8_school 3 (some .int) :: wsL_law) ({ frames := 7, cells := 0, slots := 0, locals := 174 } : Room) (va_Pc [.ref h0] (xPreE D vwCl (xty K) (wX8 K h0 a0 n0 la0 r0 ++ (wX8 K h1 a1 n1 la1 r1 ++ (([] : va_W)))) sz adK adV)) (va_Qi (fun r (u : (zS) × (zS)) => post r u.1 u.2) (fun (u : (zS) × (zS)) t => va_P D vwCl (wX8 K h0 a0 n0 la0 u.1 ++ (wX8 K h1 a1 n1 la1 u.2 ++ (([] : va_W)))) t.heap) (va_A (wX8 K h0 a0 n0 la0 r0 ++ (wX8 K h1 a1 n1 la1 r1 ++ (([] : va_W)))) sz)) 0 0 (va_A (wX8 K h0 a0 n0 la0 r0 ++ (wX8 K h1 a1 n1 la1 r1 ++ (([] : va_W)))) sz) := by
  refine xMetE (by decide) rfl (Nat.le_of_ble_eq_true rfl) (fun p e s m args below meth c C hnm hP hD hsz ls hl hE => ?_)
  have hl : lv_has ls 3 [(0, .ref h0)] := hl
  obtain ⟨hx, hb, hr, hml, hown, hts, hlocks, hK, hT⟩ := id C
  subst hsz
  generalize hAe : va_A (wX8 K h0 a0 n0 la0 r0 ++ (wX8 K h1 a1 n1 la1 r1 ++ (([] : va_W)))) s.heap.size = A at hD hE ⊢
  have hA : ∀ q : Nat, s.heap.size ≤ q → A q := fun q h => by rw [← hAe]; exact Or.inr h
  have hS : va_S A s.heap s.heap [] := va_S.rf
  have hP : va_P D vwCl (wX8 K h0 a0 n0 la0 r0 ++ (wX8 K h1 a1 n1 la1 r1 ++ (([] : va_W)))) s.heap := hP
  unfold wp_X8_school_S at h
  refine lv_aload_n hx hb dX8_school_0 rfl (lv_at hl 0 rfl) ?_
  refine xend_rw_r_id (wf := fun (u : (zS)) => (wX8 K h0 a0 n0 la0 r0 ++ (wX8 K h1 a1 n1 la1 u ++ (([] : va_W))))) (xRunV_id (As := []) (rest := []) C (c_X8_fresh_S hn27 h) k_X8_fresh mw_640 ⟨rfl, rfl⟩ ⟨Nat.le_of_ble_eq_true rfl, Nat.le_of_ble_eq_true rfl⟩ hP hD rfl rfl hl rfl rfl (Nat.le_of_ble_eq_true rfl) dX8_school_1 ⟨Nat.le_refl _, Nat.le_refl _⟩) hD hS hA (fun _ => rfl) (fun s2 H locs h hP hD hS => ?_)
  refine lv_astore_n (lv' := [(1, .ref h1), (0, .ref h0)]) hx hb dX8_school_4 rfl hl (by decide) rfl (fun ls hl => ?_)
  refine lv_aload_n hx hb dX8_school_5 rfl (lv_at hl 1 rfl) ?_
  refine xend_rw_i (wf := fun (u : (zS)) => (wX8 K h0 a0 n0 la0 u ++ (([] : va_W)))) (xRunVE (wc := (wX8 K h0 a0 n0 la0 r0 ++ (([] : va_W)))) (As := []) (rest := []) C hE hS hA (c_X8_readAll h) k_X8_readAll mw_658 ⟨rfl, rfl⟩ ⟨Nat.le_of_ble_eq_true rfl, Nat.le_of_ble_eq_true rfl⟩ hP hD xr1 wX8_C1 xr1_nd (fun hw => va_recv hK hw (ci := 8) (q0 := 0) rfl rfl) hl rfl rfl (Nat.le_of_ble_eq_true rfl) dX8_school_6 ⟨Nat.le_refl _, Nat.le_refl _⟩) hP hD hS hA xr1 wX8_C1 xr1_nd (fun _ => wX8_adr _ _) (fun v3 s4 H locs h hP hD hS => ?_)
  rw [wX8_set1] at hP hD
  replace hP : va_P D vwCl (wX8 K h0 a0 n0 la0 s4 ++ (wX8 K h1 a1 n1 la1 s2 ++ (([] : va_W)))) H := hP
  replace hD : va_D A (wX8 K h0 a0 n0 la0 s4 ++ (wX8 K h1 a1 n1 la1 s2 ++ (([] : va_W)))) := hD
  refine lv_istore_n (lv' := [(2, .int v3), (1, .ref h1), (0, .ref h0)]) hx hb dX8_school_9 rfl hl (by decide) rfl (fun ls hl => ?_)
  refine lv_aload_n hx hb dX8_school_10 rfl (lv_at hl 2 rfl) ?_
  refine lv_iconst (v := 0) hx hb dX8_school_11 (by decide) ?_
  refine pX8_7 C hP hD hS dX8_school_12 (fun H locs hP hD hS => ?_)
  refine lv_iload_n hx hb dX8_school_15 rfl (lv_at hl 0 rfl) ?_
  refine lv_if_ne (tgt := 39) hx hb dX8_school_16 (by decide) (fun c5 => ?_) (fun c5 => ?_)
  · replace h := And.right h c5
    refine lv_aload_n hx hb dX8_school_39 rfl (lv_at hl 2 rfl) ?_
    refine gX8_34 C hP dX8_school_40 ?_
    exact xrw_i C ((zI s4 7 (0 : Int32)), s2) h hP hS dX8_school_43
  · replace h := And.left h c5
    refine lv_aload_n hx hb dX8_school_19 rfl (lv_at hl 2 rfl) ?_
    refine lv_aload_n hx hb dX8_school_20 rfl (lv_at hl 1 rfl) ?_
    refine xend_rw_v_id (wf := fun (u : (zS)) => (wX8 K h0 a0 n0 la0 u ++ (wX8 K h1 a1 n1 la1 s2 ++ (([] : va_W))))) (xRunV_id (As := [.ref h1]) (rest := []) C (c_X8_takeFrom h) k_X8_takeFrom mw_647 ⟨rfl, rfl⟩ ⟨Nat.le_of_ble_eq_true rfl, Nat.le_of_ble_eq_true rfl⟩ hP hD rfl rfl hl rfl rfl (Nat.le_of_ble_eq_true rfl) dX8_school_21 ⟨Nat.le_refl _, Nat.le_refl _⟩) hD hS hA (fun _ => rfl) (fun s7 H locs h hP hD hS => ?_)
    refine lv_aload_n hx hb dX8_school_24 rfl (lv_at hl 2 rfl) ?_
    refine lv_bipush (v := -2) hx hb dX8_school_25 (by decide) ?_
    refine xend_rw_i (wf := fun (u : (zS)) => (wX8 K h0 a0 n0 la0 u ++ (([] : va_W)))) (xRunV (wc := (wX8 K h0 a0 n0 la0 s7 ++ (([] : va_W)))) (As := [.int (-2 : Int32)]) (rest := []) C (c_X8_refuse h) k_X8_refuse mw_165 ⟨rfl, rfl⟩ ⟨Nat.le_of_ble_eq_true rfl, Nat.le_of_ble_eq_true rfl⟩ hP hD xr1 wX8_C1 xr1_nd rfl rfl hl rfl rfl (Nat.le_of_ble_eq_true rfl) dX8_school_27 ⟨Nat.le_refl _, Nat.le_refl _⟩) hP hD hS hA xr1 wX8_C1 xr1_nd (fun _ => wX8_adr _ _) (fun v8 s9 H locs h hP hD hS => ?_)
    rw [wX8_set1] at hP hD
    replace hP : va_P D vwCl (wX8 K h0 a0 n0 la0 s9 ++ (wX8 K h1 a1 n1 la1 s2 ++ (([] : va_W)))) H := hP
    replace hD : va_D A (wX8 K h0 a0 n0 la0 s9 ++ (wX8 K h1 a1 n1 la1 s2 ++ (([] : va_W)))) := hD
    refine lv_pop hx hb dX8_school_30 rfl ?_
    refine lv_bipush (v := -20) hx hb dX8_school_31 (by decide) ?_
    refine lv_aload_n hx hb dX8_school_33 rfl (lv_at hl 2 rfl) ?_
    refine gX8_32 C hP dX8_school_34 ?_
    refine lv_isub hx hb dX8_school_37 ?_
    exact xrw_i C (s9, s2) h hP hS dX8_school_38

def wp_X8_spot_S_34 (p1 : Int32) (p2 : Int32) (p3 : Int32) (p4 : Int32) (post : Int32 → (zS) → (zS) → Prop) (r0 : zS) (r1 : zS) : Prop :=
  wp_X8_refuse r0 (-2 : Int32) (fun v3 s4 => post v3 s4 r1)
def wp_X8_spot_S_154 (p1 : Int32) (p2 : Int32) (p3 : Int32) (p4 : Int32) (post : Int32 → (zS) → (zS) → Prop) (k86 : (zS) → (zS) → Int32 → Int32 → Int32 → Prop) (r0 : zS) (r1 : zS) (x5 : Int32) (x6 : Int32) (x7 : Int32) : Prop :=
  ∀ v14 : Int32, v14 = x7 + (1 : Int32) → k86 r0 r1 x5 x6 v14
def wp_X8_spot_S_146 (p1 : Int32) (p2 : Int32) (p3 : Int32) (p4 : Int32) (post : Int32 → (zS) → (zS) → Prop) (k86 : (zS) → (zS) → Int32 → Int32 → Int32 → Prop) (r0 : zS) (r1 : zS) (x7 : Int32) (x9 : Int32) : Prop :=
  wp_X8_spot_S_154 p1 p2 p3 p4 post k86 r0 r1 x7 x9 x7
def wb_X8_spot_S_86 (p1 : Int32) (p2 : Int32) (p3 : Int32) (p4 : Int32) (post : Int32 → (zS) → (zS) → Prop) (ih : (zS) → (zS) → Int32 → Int32 → Int32 → Prop) (r0 : zS) (r1 : zS) (x5 : Int32) (x6 : Int32) (x7 : Int32) : Prop :=
  (((4 : Int32) * (r0.1 9)) ≤ x7 → post x5 r0 r1) ∧ (¬ ((4 : Int32) * (r0.1 9)) ≤ x7 → wp_X8_sitting r0 x7 (fun v12 => (v12 = (-1 : Int32) → wp_X8_fresh_S r0 r1 (fun s16 => wp_X8_addPupil s16 p1 x7 p2 (fun s18 => wp_X8_chanceNow s18 p3 p4 (0 : Int32) (fun v19 s20 => (x5 = (-1 : Int32) → wp_X8_spot_S_146 p1 p2 p3 p4 post ih r0 s20 x7 v19) ∧ (¬ x5 = (-1 : Int32) → (v19 ≤ x6 → wp_X8_spot_S_154 p1 p2 p3 p4 post ih r0 s20 x5 x6 x7) ∧ (¬ v19 ≤ x6 → wp_X8_spot_S_146 p1 p2 p3 p4 post ih r0 s20 x7 v19)))))) ∧ (¬ v12 = (-1 : Int32) → wp_X8_spot_S_154 p1 p2 p3 p4 post ih r0 r1 x5 x6 x7)))
def wp_X8_spot_S_86 (p1 : Int32) (p2 : Int32) (p3 : Int32) (p4 : Int32) (post : Int32 → (zS) → (zS) → Prop) (n : Nat) : (zS) → (zS) → Int32 → Int32 → Int32 → Prop := Nat.rec (motive := fun _ => (zS) → (zS) → Int32 → Int32 → Int32 → Prop) (fun _ _ _ _ _ => False) (fun _ ih => wb_X8_spot_S_86 p1 p2 p3 p4 post ih) n
theorem wu_X8_spot_S_86 (p1 : Int32) (p2 : Int32) (p3 : Int32) (p4 : Int32) (post : Int32 → (zS) → (zS) → Prop) (n : Nat) (r0 : zS) (r1 : zS) (x5 : Int32) (x6 : Int32) (x7 : Int32) : wp_X8_spot_S_86 p1 p2 p3 p4 post (n + 1) r0 r1 x5 x6 x7 = wb_X8_spot_S_86 p1 p2 p3 p4 post (wp_X8_spot_S_86 p1 p2 p3 p4 post n) r0 r1 x5 x6 x7 := rfl
def wp_X8_spot_S (r0 : zS) (r1 : zS) (p1 : Int32) (p2 : Int32) (p3 : Int32) (p4 : Int32) (post : Int32 → (zS) → (zS) → Prop) : Prop :=
  wp_X8_in (p1.toInt64) (0 : Int64) (5 : Int64) (fun v1 => (v1 = 0 → wp_X8_spot_S_34 p1 p2 p3 p4 post r0 r1) ∧ (¬ v1 = 0 → wp_X8_in (p2.toInt64) (0 : Int64) (9 : Int64) (fun v5 => (v5 = 0 → wp_X8_spot_S_34 p1 p2 p3 p4 post r0 r1) ∧ (¬ v5 = 0 → wp_X8_areTwo r0 p3 p4 (fun v7 => (v7 = 0 → wp_X8_spot_S_34 p1 p2 p3 p4 post r0 r1) ∧ (¬ v7 = 0 → ((r0.1 10) = (12 : Int32) → wp_X8_refuse r0 (-6 : Int32) (fun v25 s26 => post v25 s26 r1)) ∧ (¬ (r0.1 10) = (12 : Int32) → ((r0.1 10) = ((4 : Int32) * (r0.1 9)) → wp_X8_refuse r0 (-5 : Int32) (fun v23 s24 => post v23 s24 r1)) ∧ (¬ (r0.1 10) = ((4 : Int32) * (r0.1 9)) → ∃ n : Nat, wp_X8_spot_S_86 p1 p2 p3 p4 post n r0 r1 (-1 : Int32) (0 : Int32) (0 : Int32)))))))))
set_option maxHeartbeats 4000000 in
set_option maxRecDepth 100000 in
theorem t_X8_spot_S_34 {p : Program} {l : Launch} {e : Env} {s : State} {m : MethodId} {args : Array Value} {below : List Frame} {meth : Method} {c : Code} {D : va_G} {K : Nat → ClassId} {h0 : Nat} {a0 : Nat → Nat} {n0 : Nat → Option Nat} {la0 : Nat → Nat} {h1 : Nat} {a1 : Nat → Nat} {n1 : Nat → Option Nat} {la1 : Nat → Nat} {p1 : Int32} {p2 : Int32} {p3 : Int32} {p4 : Int32} {post : Int32 → (zS) → (zS) → Prop} {A : Nat → Prop} (C : xC p s m args meth c cX8_spot RX8 10 (some .int) D vwCl (xty K)) (hn27 : n0 27 = some h1) (hA : ∀ q, s.heap.size ≤ q → A q) : ∀ (r0 : zS) (r1 : zS) (H : Heap) (locs : List Loc) (ls : Array Slot), lv_has ls 10 [(0, .ref h0)] → va_P D vwCl (wX8 K h0 a0 n0 la0 r0 ++ (wX8 K h1 a1 n1 la1 r1 ++ (([] : va_W)))) H → va_D A (wX8 K h0 a0 n0 la0 r0 ++ (wX8 K h1 a1 n1 la1 r1 ++ (([] : va_W)))) → va_S A s.heap H locs → wp_X8_spot_S_34 p1 p2 p3 p4 post r0 r1 → W p l e ({ frames := 16, cells := 0, slots := 0, locals := 563 } : Room) s m args below meth c H locs 0 0 (MQ below (va_Qi (fun r (u : (zS) × (zS)) => post r u.1 u.2) (fun (u : (zS) × (zS)) t => va_P D vwCl (wX8 K h0 a0 n0 la0 u.1 ++ (wX8 K h1 a1 n1 la1 u.2 ++ (([] : va_W)))) t.heap) A) args s 0 0 A) (F0 m 34 ls []) := by
  obtain ⟨hx, hb, hr, hml, hown, hts, hlocks, hK, hT⟩ := id C
  intro r0 r1 H locs ls hl hP hD hS h
  unfold wp_X8_spot_S_34 at h
  refine lv_aload_n hx hb dX8_spot_34 rfl (lv_at hl 0 rfl) ?_
  refine lv_bipush (v := -2) hx hb dX8_spot_35 (by decide) ?_
  refine xend_rw_i (wf := fun (u : (zS)) => (wX8 K h0 a0 n0 la0 u ++ (([] : va_W)))) (xRunV (wc := (wX8 K h0 a0 n0 la0 r0 ++ (([] : va_W)))) (As := [.int (-2 : Int32)]) (rest := []) C (c_X8_refuse h) k_X8_refuse mw_165 ⟨rfl, rfl⟩ ⟨Nat.le_of_ble_eq_true rfl, Nat.le_of_ble_eq_true rfl⟩ hP hD xr1 wX8_C1 xr1_nd rfl rfl hl rfl rfl (Nat.le_of_ble_eq_true rfl) dX8_spot_37 ⟨Nat.le_refl _, Nat.le_refl _⟩) hP hD hS hA xr1 wX8_C1 xr1_nd (fun _ => wX8_adr _ _) (fun v3 s4 H locs h hP hD hS => ?_)
  rw [wX8_set1] at hP hD
  replace hP : va_P D vwCl (wX8 K h0 a0 n0 la0 s4 ++ (wX8 K h1 a1 n1 la1 r1 ++ (([] : va_W)))) H := hP
  replace hD : va_D A (wX8 K h0 a0 n0 la0 s4 ++ (wX8 K h1 a1 n1 la1 r1 ++ (([] : va_W)))) := hD
  exact xrw_i C (s4, r1) h hP hS dX8_spot_40
set_option maxHeartbeats 4000000 in
set_option maxRecDepth 100000 in
theorem t_X8_spot_S_154 {p : Program} {l : Launch} {e : Env} {s : State} {m : MethodId} {args : Array Value} {below : List Frame} {meth : Method} {c : Code} {D : va_G} {K : Nat → ClassId} {h0 : Nat} {a0 : Nat → Nat} {n0 : Nat → Option Nat} {la0 : Nat → Nat} {h1 : Nat} {a1 : Nat → Nat} {n1 : Nat → Option Nat} {la1 : Nat → Nat} {p1 : Int32} {p2 : Int32} {p3 : Int32} {p4 : Int32} {post : Int32 → (zS) → (zS) → Prop} {A : Nat → Prop} (C : xC p s m args meth c cX8_spot RX8 10 (some .int) D vwCl (xty K)) (hn27 : n0 27 = some h1) (hA : ∀ q, s.heap.size ≤ q → A q) {k86 : (zS) → (zS) → Int32 → Int32 → Int32 → Prop} (hk86 : ∀ (r0 : zS) (r1 : zS) (x5 : Int32) (x6 : Int32) (x7 : Int32) (H : Heap) (locs : List Loc) (ls : Array Slot), lv_has ls 10 [(0, .ref h0), (1, .int p1), (2, .int p2), (3, .int p3), (4, .int p4), (5, .int x5), (6, .int x6), (7, .int x7)] → va_P D vwCl (wX8 K h0 a0 n0 la0 r0 ++ (wX8 K h1 a1 n1 la1 r1 ++ (([] : va_W)))) H → va_D A (wX8 K h0 a0 n0 la0 r0 ++ (wX8 K h1 a1 n1 la1 r1 ++ (([] : va_W)))) → va_S A s.heap H locs → k86 r0 r1 x5 x6 x7  → W p l e ({ frames := 16, cells := 0, slots := 0, locals := 563 } : Room) s m args below meth c H locs 0 0 (MQ below (va_Qi (fun r (u : (zS) × (zS)) => post r u.1 u.2) (fun (u : (zS) × (zS)) t => va_P D vwCl (wX8 K h0 a0 n0 la0 u.1 ++ (wX8 K h1 a1 n1 la1 u.2 ++ (([] : va_W)))) t.heap) A) args s 0 0 A) (F0 m 86 ls [])) : ∀ (r0 : zS) (r1 : zS) (x5 : Int32) (x6 : Int32) (x7 : Int32) (H : Heap) (locs : List Loc) (ls : Array Slot), lv_has ls 10 [(0, .ref h0), (1, .int p1), (2, .int p2), (3, .int p3), (4, .int p4), (5, .int x5), (6, .int x6), (7, .int x7)] → va_P D vwCl (wX8 K h0 a0 n0 la0 r0 ++ (wX8 K h1 a1 n1 la1 r1 ++ (([] : va_W)))) H → va_D A (wX8 K h0 a0 n0 la0 r0 ++ (wX8 K h1 a1 n1 la1 r1 ++ (([] : va_W)))) → va_S A s.heap H locs → wp_X8_spot_S_154 p1 p2 p3 p4 post k86 r0 r1 x5 x6 x7 → W p l e ({ frames := 16, cells := 0, slots := 0, locals := 563 } : Room) s m args below meth c H locs 0 0 (MQ below (va_Qi (fun r (u : (zS) × (zS)) => post r u.1 u.2) (fun (u : (zS) × (zS)) t => va_P D vwCl (wX8 K h0 a0 n0 la0 u.1 ++ (wX8 K h1 a1 n1 la1 u.2 ++ (([] : va_W)))) t.heap) A) args s 0 0 A) (F0 m 154 ls []) := by
  obtain ⟨hx, hb, hr, hml, hown, hts, hlocks, hK, hT⟩ := id C
  intro r0 r1 x5 x6 x7 H locs ls hl hP hD hS h
  unfold wp_X8_spot_S_154 at h
  obtain ⟨v14, ev14⟩ : ∃ y : Int32, y = x7 + (1 : Int32) := ⟨_, rfl⟩
  replace h := h v14 ev14
  refine lv_iinc (v := v14) (lv' := [(7, .int v14), (0, .ref h0), (1, .int p1), (2, .int p2), (3, .int p3), (4, .int p4), (5, .int x5), (6, .int x6)]) hx hb dX8_spot_154 hl (k := 7) rfl (by rw [ev14]; rfl) (by decide) rfl (fun ls hl => ?_)
  refine lv_goto (tgt := 86) hx hb dX8_spot_157 (by decide) ?_
  exact hk86 _ _ _ _ _ _ _ _ (lv_sub hl [1, 2, 3, 4, 5, 6, 7, 0] rfl) hP hD hS h
set_option maxHeartbeats 4000000 in
set_option maxRecDepth 100000 in
theorem t_X8_spot_S_146 {p : Program} {l : Launch} {e : Env} {s : State} {m : MethodId} {args : Array Value} {below : List Frame} {meth : Method} {c : Code} {D : va_G} {K : Nat → ClassId} {h0 : Nat} {a0 : Nat → Nat} {n0 : Nat → Option Nat} {la0 : Nat → Nat} {h1 : Nat} {a1 : Nat → Nat} {n1 : Nat → Option Nat} {la1 : Nat → Nat} {p1 : Int32} {p2 : Int32} {p3 : Int32} {p4 : Int32} {post : Int32 → (zS) → (zS) → Prop} {A : Nat → Prop} (C : xC p s m args meth c cX8_spot RX8 10 (some .int) D vwCl (xty K)) (hn27 : n0 27 = some h1) (hA : ∀ q, s.heap.size ≤ q → A q) {k86 : (zS) → (zS) → Int32 → Int32 → Int32 → Prop} (hk86 : ∀ (r0 : zS) (r1 : zS) (x5 : Int32) (x6 : Int32) (x7 : Int32) (H : Heap) (locs : List Loc) (ls : Array Slot), lv_has ls 10 [(0, .ref h0), (1, .int p1), (2, .int p2), (3, .int p3), (4, .int p4), (5, .int x5), (6, .int x6), (7, .int x7)] → va_P D vwCl (wX8 K h0 a0 n0 la0 r0 ++ (wX8 K h1 a1 n1 la1 r1 ++ (([] : va_W)))) H → va_D A (wX8 K h0 a0 n0 la0 r0 ++ (wX8 K h1 a1 n1 la1 r1 ++ (([] : va_W)))) → va_S A s.heap H locs → k86 r0 r1 x5 x6 x7  → W p l e ({ frames := 16, cells := 0, slots := 0, locals := 563 } : Room) s m args below meth c H locs 0 0 (MQ below (va_Qi (fun r (u : (zS) × (zS)) => post r u.1 u.2) (fun (u : (zS) × (zS)) t => va_P D vwCl (wX8 K h0 a0 n0 la0 u.1 ++ (wX8 K h1 a1 n1 la1 u.2 ++ (([] : va_W)))) t.heap) A) args s 0 0 A) (F0 m 86 ls [])) : ∀ (r0 : zS) (r1 : zS) (x7 : Int32) (x9 : Int32) (H : Heap) (locs : List Loc) (ls : Array Slot), lv_has ls 10 [(0, .ref h0), (1, .int p1), (2, .int p2), (3, .int p3), (4, .int p4), (7, .int x7), (9, .int x9)] → va_P D vwCl (wX8 K h0 a0 n0 la0 r0 ++ (wX8 K h1 a1 n1 la1 r1 ++ (([] : va_W)))) H → va_D A (wX8 K h0 a0 n0 la0 r0 ++ (wX8 K h1 a1 n1 la1 r1 ++ (([] : va_W)))) → va_S A s.heap H locs → wp_X8_spot_S_146 p1 p2 p3 p4 post k86 r0 r1 x7 x9 → W p l e ({ frames := 16, cells := 0, slots := 0, locals := 563 } : Room) s m args below meth c H locs 0 0 (MQ below (va_Qi (fun r (u : (zS) × (zS)) => post r u.1 u.2) (fun (u : (zS) × (zS)) t => va_P D vwCl (wX8 K h0 a0 n0 la0 u.1 ++ (wX8 K h1 a1 n1 la1 u.2 ++ (([] : va_W)))) t.heap) A) args s 0 0 A) (F0 m 146 ls []) := by
  obtain ⟨hx, hb, hr, hml, hown, hts, hlocks, hK, hT⟩ := id C
  intro r0 r1 x7 x9 H locs ls hl hP hD hS h
  unfold wp_X8_spot_S_146 at h
  refine lv_iload hx hb dX8_spot_146 (lv_at hl 5 rfl) ?_
  refine lv_istore (lv' := [(5, .int x7), (0, .ref h0), (1, .int p1), (2, .int p2), (3, .int p3), (4, .int p4), (7, .int x7), (9, .int x9)]) hx hb dX8_spot_148 hl (by decide) rfl (fun ls hl => ?_)
  refine lv_iload hx hb dX8_spot_150 (lv_at hl 7 rfl) ?_
  refine lv_istore (lv' := [(6, .int x9), (5, .int x7), (0, .ref h0), (1, .int p1), (2, .int p2), (3, .int p3), (4, .int p4), (7, .int x7), (9, .int x9)]) hx hb dX8_spot_152 hl (by decide) rfl (fun ls hl => ?_)
  exact t_X8_spot_S_154 C hn27 hA hk86 _ _ _ _ _ _ _ _ (lv_sub hl [2, 3, 4, 5, 6, 1, 0, 7] rfl) hP hD hS h
set_option maxHeartbeats 4000000 in
set_option maxRecDepth 100000 in
theorem t_X8_spot_S_86 {p : Program} {l : Launch} {e : Env} {s : State} {m : MethodId} {args : Array Value} {below : List Frame} {meth : Method} {c : Code} {D : va_G} {K : Nat → ClassId} {h0 : Nat} {a0 : Nat → Nat} {n0 : Nat → Option Nat} {la0 : Nat → Nat} {h1 : Nat} {a1 : Nat → Nat} {n1 : Nat → Option Nat} {la1 : Nat → Nat} {p1 : Int32} {p2 : Int32} {p3 : Int32} {p4 : Int32} {post : Int32 → (zS) → (zS) → Prop} {A : Nat → Prop} (C : xC p s m args meth c cX8_spot RX8 10 (some .int) D vwCl (xty K)) (hn27 : n0 27 = some h1) (hA : ∀ q, s.heap.size ≤ q → A q) : ∀ (n : Nat) (r0 : zS) (r1 : zS) (x5 : Int32) (x6 : Int32) (x7 : Int32) (H : Heap) (locs : List Loc) (ls : Array Slot), lv_has ls 10 [(0, .ref h0), (1, .int p1), (2, .int p2), (3, .int p3), (4, .int p4), (5, .int x5), (6, .int x6), (7, .int x7)] → va_P D vwCl (wX8 K h0 a0 n0 la0 r0 ++ (wX8 K h1 a1 n1 la1 r1 ++ (([] : va_W)))) H → va_D A (wX8 K h0 a0 n0 la0 r0 ++ (wX8 K h1 a1 n1 la1 r1 ++ (([] : va_W)))) → va_S A s.heap H locs → wp_X8_spot_S_86 p1 p2 p3 p4 post n r0 r1 x5 x6 x7 → W p l e ({ frames := 16, cells := 0, slots := 0, locals := 563 } : Room) s m args below meth c H locs 0 0 (MQ below (va_Qi (fun r (u : (zS) × (zS)) => post r u.1 u.2) (fun (u : (zS) × (zS)) t => va_P D vwCl (wX8 K h0 a0 n0 la0 u.1 ++ (wX8 K h1 a1 n1 la1 u.2 ++ (([] : va_W)))) t.heap) A) args s 0 0 A) (F0 m 86 ls []) := by
  obtain ⟨hx, hb, hr, hml, hown, hts, hlocks, hK, hT⟩ := id C
  intro n
  induction n with
  | zero =>
    intro r0 r1 x5 x6 x7 H locs ls hl hP hD hS h
    exact False.elim h
  | succ n ihn =>
    intro r0 r1 x5 x6 x7 H locs ls hl hP hD hS h
    rw [wu_X8_spot_S_86] at h
    unfold wb_X8_spot_S_86 at h
    refine lv_iload hx hb dX8_spot_86 (lv_at hl 7 rfl) ?_
    refine lv_iconst (v := 4) hx hb dX8_spot_88 (by decide) ?_
    refine lv_aload_n hx hb dX8_spot_89 rfl (lv_at hl 0 rfl) ?_
    refine gX8_9 C hP dX8_spot_90 ?_
    refine lv_imul hx hb dX8_spot_93 ?_
    refine lv_icmp_ge (tgt := 160) hx hb dX8_spot_94 (by decide) (fun c11 => ?_) (fun c11 => ?_)
    · replace h := And.left h c11
      refine lv_iload hx hb dX8_spot_160 (lv_at hl 5 rfl) ?_
      exact xrw_i C (r0, r1) h hP hS dX8_spot_162
    · replace h := And.right h c11
      refine lv_aload_n hx hb dX8_spot_97 rfl (lv_at hl 0 rfl) ?_
      refine lv_iload hx hb dX8_spot_98 (lv_at hl 7 rfl) ?_
      refine xend_ro_i (xRunV (wc := (wX8 K h0 a0 n0 la0 r0 ++ (([] : va_W)))) (As := [.int x7]) (rest := []) C (c_X8_sitting h) k_X8_sitting mw_417 ⟨rfl, rfl⟩ ⟨Nat.le_of_ble_eq_true rfl, Nat.le_of_ble_eq_true rfl⟩ hP hD xr1 wX8_C1 xr1_nd rfl rfl hl rfl rfl (Nat.le_of_ble_eq_true rfl) dX8_spot_100 ⟨Nat.le_refl _, Nat.le_refl _⟩) (fun v12 h => ?_)
      refine lv_iconst (v := -1) hx hb dX8_spot_103 (by decide) ?_
      refine lv_icmp_ne (tgt := 154) hx hb dX8_spot_104 (by decide) (fun c13 => ?_) (fun c13 => ?_)
      · replace h := And.right h c13
        exact t_X8_spot_S_154 C hn27 hA ihn _ _ _ _ _ _ _ _ (lv_sub hl [0, 1, 2, 3, 4, 5, 6, 7] rfl) hP hD hS h
      · replace h := And.left h c13
        refine lv_aload_n hx hb dX8_spot_107 rfl (lv_at hl 0 rfl) ?_
        refine xend_rw_r_id (wf := fun (u : (zS)) => (wX8 K h0 a0 n0 la0 r0 ++ (wX8 K h1 a1 n1 la1 u ++ (([] : va_W))))) (xRunV_id (As := []) (rest := []) C (c_X8_fresh_S hn27 h) k_X8_fresh mw_640 ⟨rfl, rfl⟩ ⟨Nat.le_of_ble_eq_true rfl, Nat.le_of_ble_eq_true rfl⟩ hP hD rfl rfl hl rfl rfl (Nat.le_of_ble_eq_true rfl) dX8_spot_108 ⟨Nat.le_refl _, Nat.le_refl _⟩) hD hS hA (fun _ => rfl) (fun s16 H locs h hP hD hS => ?_)
        refine lv_astore (lv' := [(8, .ref h1), (0, .ref h0), (1, .int p1), (2, .int p2), (3, .int p3), (4, .int p4), (5, .int x5), (6, .int x6), (7, .int x7)]) hx hb dX8_spot_111 hl (by decide) rfl (fun ls hl => ?_)
        refine lv_aload hx hb dX8_spot_113 (lv_at hl 0 rfl) ?_
        refine lv_iload_n hx hb dX8_spot_115 rfl (lv_at hl 2 rfl) ?_
        refine lv_iload hx hb dX8_spot_116 (lv_at hl 8 rfl) ?_
        refine lv_iload_n hx hb dX8_spot_118 rfl (lv_at hl 3 rfl) ?_
        refine xend_rw_v (wf := fun (u : (zS)) => (wX8 K h1 a1 n1 la1 u ++ (([] : va_W)))) (xRunV (wc := (wX8 K h1 a1 n1 la1 s16 ++ (([] : va_W)))) (As := [.int p1, .int x7, .int p2]) (rest := []) C (c_X8_addPupil h) k_X8_addPupil mw_421 ⟨rfl, rfl⟩ ⟨Nat.le_of_ble_eq_true rfl, Nat.le_of_ble_eq_true rfl⟩ hP hD xr2 wX8_C2 xr2_nd rfl rfl hl rfl rfl (Nat.le_of_ble_eq_true rfl) dX8_spot_119 ⟨Nat.le_refl _, Nat.le_refl _⟩) hP hD hS hA xr2 wX8_C2 xr2_nd (fun _ => wX8_adr _ _) (fun s18 H locs h hP hD hS => ?_)
        rw [wX8_set2] at hP hD
        replace hP : va_P D vwCl (wX8 K h0 a0 n0 la0 r0 ++ (wX8 K h1 a1 n1 la1 s18 ++ (([] : va_W)))) H := hP
        replace hD : va_D A (wX8 K h0 a0 n0 la0 r0 ++ (wX8 K h1 a1 n1 la1 s18 ++ (([] : va_W)))) := hD
        refine lv_aload hx hb dX8_spot_122 (lv_at hl 0 rfl) ?_
        refine lv_iload_n hx hb dX8_spot_124 rfl (lv_at hl 4 rfl) ?_
        refine lv_iload hx hb dX8_spot_125 (lv_at hl 5 rfl) ?_
        refine lv_iconst (v := 0) hx hb dX8_spot_127 (by decide) ?_
        refine xend_rw_i (wf := fun (u : (zS)) => (wX8 K h1 a1 n1 la1 u ++ (([] : va_W)))) (xRunV (wc := (wX8 K h1 a1 n1 la1 s18 ++ (([] : va_W)))) (As := [.int p3, .int p4, .int (0 : Int32)]) (rest := []) C (c_X8_chanceNow h) k_X8_chanceNow mw_939 ⟨rfl, rfl⟩ ⟨Nat.le_of_ble_eq_true rfl, Nat.le_of_ble_eq_true rfl⟩ hP hD xr2 wX8_C2 xr2_nd rfl rfl hl rfl rfl (Nat.le_of_ble_eq_true rfl) dX8_spot_128 ⟨Nat.le_refl _, Nat.le_refl _⟩) hP hD hS hA xr2 wX8_C2 xr2_nd (fun _ => wX8_adr _ _) (fun v19 s20 H locs h hP hD hS => ?_)
        rw [wX8_set2] at hP hD
        replace hP : va_P D vwCl (wX8 K h0 a0 n0 la0 r0 ++ (wX8 K h1 a1 n1 la1 s20 ++ (([] : va_W)))) H := hP
        replace hD : va_D A (wX8 K h0 a0 n0 la0 r0 ++ (wX8 K h1 a1 n1 la1 s20 ++ (([] : va_W)))) := hD
        refine lv_istore (lv' := [(9, .int v19), (8, .ref h1), (0, .ref h0), (1, .int p1), (2, .int p2), (3, .int p3), (4, .int p4), (5, .int x5), (6, .int x6), (7, .int x7)]) hx hb dX8_spot_131 hl (by decide) rfl (fun ls hl => ?_)
        refine lv_iload hx hb dX8_spot_133 (lv_at hl 7 rfl) ?_
        refine lv_iconst (v := -1) hx hb dX8_spot_135 (by decide) ?_
        refine lv_icmp_eq (tgt := 146) hx hb dX8_spot_136 (by decide) (fun c21 => ?_) (fun c21 => ?_)
        · replace h := And.left h c21
          exact t_X8_spot_S_146 C hn27 hA ihn _ _ _ _ _ _ _ (lv_sub hl [2, 3, 4, 5, 6, 9, 0] rfl) hP hD hS h
        · replace h := And.right h c21
          refine lv_iload hx hb dX8_spot_139 (lv_at hl 0 rfl) ?_
          refine lv_iload hx hb dX8_spot_141 (lv_at hl 8 rfl) ?_
          refine lv_icmp_le (tgt := 154) hx hb dX8_spot_143 (by decide) (fun c22 => ?_) (fun c22 => ?_)
          · replace h := And.left h c22
            exact t_X8_spot_S_154 C hn27 hA ihn _ _ _ _ _ _ _ _ (lv_sub hl [2, 3, 4, 5, 6, 7, 8, 9] rfl) hP hD hS h
          · replace h := And.right h c22
            exact t_X8_spot_S_146 C hn27 hA ihn _ _ _ _ _ _ _ (lv_sub hl [2, 3, 4, 5, 6, 9, 0] rfl) hP hD hS h
set_option maxHeartbeats 4000000 in
set_option maxRecDepth 100000 in
theorem c_X8_spot_S {l : Launch} {D : va_G} {K : Nat → ClassId} {h0 : Nat} {a0 : Nat → Nat} {n0 : Nat → Option Nat} {la0 : Nat → Nat} {r0 : zS} {h1 : Nat} {a1 : Nat → Nat} {n1 : Nat → Option Nat} {la1 : Nat → Nat} {r1 : zS} {p1 : Int32} {p2 : Int32} {p3 : Int32} {p4 : Int32} {sz : Nat} {post : Int32 → (zS) → (zS) → Prop} (hn27 : n0 27 = some h1)  (h : wp_X8_spot_S r0 r1 p1 p2 p3 p4 post) : Met l yX8_spot (Cond.code yX8_spot cX8_spot 10 (some .int) :: wsL_law) ({ frames := 16, cells := 0, slots := 0, locals := 563 } : Room) (va_Pc [.ref h0, .int p1, .int p2, .int p3, .int p4] (xPre D vwCl (xty K) (wX8 K h0 a0 n0 la0 r0 ++ (wX8 K h1 a1 n1 la1 r1 ++ (([] : va_W)))) sz)) (va_Qi (fun r (u : (zS) × (zS)) => post r u.1 u.2) (fun (u : (zS) × (zS)) t => va_P D vwCl (wX8 K h0 a0 n0 la0 u.1 ++ (wX8 K h1 a1 n1 la1 u.2 ++ (([] : va_W)))) t.heap) (va_A (wX8 K h0 a0 n0 la0 r0 ++ (wX8 K h1 a1 n1 la1 r1 ++ (([] : va_W)))) sz)) 0 0 (va_A (wX8 K h0 a0 n0 la0 r0 ++ (wX8 K h1 a1 n1 la1 r1 ++ (([] : va_W)))) sz) := by
  refine xMet (by decide) rfl (Nat.le_of_ble_eq_true rfl) (fun p e s m args below meth c C hnm hP hD hsz ls hl => ?_)
  have hl : lv_has ls 10 [(0, .ref h0), (1, .int p1), (2, .int p2), (3, .int p3), (4, .int p4)] := hl
  obtain ⟨hx, hb, hr, hml, hown, hts, hlocks, hK, hT⟩ := id C
  subst hsz
  generalize hAe : va_A (wX8 K h0 a0 n0 la0 r0 ++ (wX8 K h1 a1 n1 la1 r1 ++ (([] : va_W)))) s.heap.size = A at hD ⊢
  have hA : ∀ q : Nat, s.heap.size ≤ q → A q := fun q h => by rw [← hAe]; exact Or.inr h
  have hS : va_S A s.heap s.heap [] := va_S.rf
  have hP : va_P D vwCl (wX8 K h0 a0 n0 la0 r0 ++ (wX8 K h1 a1 n1 la1 r1 ++ (([] : va_W)))) s.heap := hP
  unfold wp_X8_spot_S at h
  refine lv_iload_n hx hb dX8_spot_0 rfl (lv_at hl 1 rfl) ?_
  refine lv_i2l hx hb dX8_spot_1 rfl ?_
  refine lv_lconst (v := 0) hx hb dX8_spot_2 (by decide) ?_
  refine lv_ldc2 hx hb hown (hts _ mw_330) dX8_spot_3 ?_
  refine xend_ro_i (xRunS (wc := ([] : va_W)) (As := [.long (p1.toInt64), .long (0 : Int64), .long (5 : Int64)]) (rest := []) C (c_X8_in h) k_X8_in mw_162 ⟨rfl, rfl⟩ ⟨Nat.le_of_ble_eq_true rfl, Nat.le_of_ble_eq_true rfl⟩ hP hD [] rfl rfl hl rfl rfl (Nat.le_of_ble_eq_true rfl) dX8_spot_6 ⟨Nat.le_refl _, Nat.le_refl _⟩) (fun v1 h => ?_)
  refine lv_if_eq (tgt := 34) hx hb dX8_spot_9 (by decide) (fun c2 => ?_) (fun c2 => ?_)
  · replace h := And.left h c2
    exact t_X8_spot_S_34 C hn27 hA _ _ _ _ _ (lv_sub hl [0] rfl) hP hD hS h
  · replace h := And.right h c2
    refine lv_iload_n hx hb dX8_spot_12 rfl (lv_at hl 2 rfl) ?_
    refine lv_i2l hx hb dX8_spot_13 rfl ?_
    refine lv_lconst (v := 0) hx hb dX8_spot_14 (by decide) ?_
    refine lv_ldc2 hx hb hown (hts _ mw_412) dX8_spot_15 ?_
    refine xend_ro_i (xRunS (wc := ([] : va_W)) (As := [.long (p2.toInt64), .long (0 : Int64), .long (9 : Int64)]) (rest := []) C (c_X8_in h) k_X8_in mw_162 ⟨rfl, rfl⟩ ⟨Nat.le_of_ble_eq_true rfl, Nat.le_of_ble_eq_true rfl⟩ hP hD [] rfl rfl hl rfl rfl (Nat.le_of_ble_eq_true rfl) dX8_spot_18 ⟨Nat.le_refl _, Nat.le_refl _⟩) (fun v5 h => ?_)
    refine lv_if_eq (tgt := 34) hx hb dX8_spot_21 (by decide) (fun c6 => ?_) (fun c6 => ?_)
    · replace h := And.left h c6
      exact t_X8_spot_S_34 C hn27 hA _ _ _ _ _ (lv_sub hl [0] rfl) hP hD hS h
    · replace h := And.right h c6
      refine lv_aload_n hx hb dX8_spot_24 rfl (lv_at hl 0 rfl) ?_
      refine lv_iload_n hx hb dX8_spot_25 rfl (lv_at hl 3 rfl) ?_
      refine lv_iload hx hb dX8_spot_26 (lv_at hl 4 rfl) ?_
      refine xend_ro_i (xRunV (wc := (wX8 K h0 a0 n0 la0 r0 ++ (([] : va_W)))) (As := [.int p3, .int p4]) (rest := []) C (c_X8_areTwo h) k_X8_areTwo mw_449 ⟨rfl, rfl⟩ ⟨Nat.le_of_ble_eq_true rfl, Nat.le_of_ble_eq_true rfl⟩ hP hD xr1 wX8_C1 xr1_nd rfl rfl hl rfl rfl (Nat.le_of_ble_eq_true rfl) dX8_spot_28 ⟨Nat.le_refl _, Nat.le_refl _⟩) (fun v7 h => ?_)
      refine lv_if_ne (tgt := 41) hx hb dX8_spot_31 (by decide) (fun c8 => ?_) (fun c8 => ?_)
      · replace h := And.right h c8
        refine lv_aload_n hx hb dX8_spot_41 rfl (lv_at hl 0 rfl) ?_
        refine gX8_10 C hP dX8_spot_42 ?_
        refine lv_bipush (v := 12) hx hb dX8_spot_45 (by decide) ?_
        refine lv_icmp_ne (tgt := 57) hx hb dX8_spot_47 (by decide) (fun c9 => ?_) (fun c9 => ?_)
        · replace h := And.right h c9
          refine lv_aload_n hx hb dX8_spot_57 rfl (lv_at hl 0 rfl) ?_
          refine gX8_10 C hP dX8_spot_58 ?_
          refine lv_iconst (v := 4) hx hb dX8_spot_61 (by decide) ?_
          refine lv_aload_n hx hb dX8_spot_62 rfl (lv_at hl 0 rfl) ?_
          refine gX8_9 C hP dX8_spot_63 ?_
          refine lv_imul hx hb dX8_spot_66 ?_
          refine lv_icmp_ne (tgt := 77) hx hb dX8_spot_67 (by decide) (fun c10 => ?_) (fun c10 => ?_)
          · replace h := And.right h c10
            refine lv_iconst (v := -1) hx hb dX8_spot_77 (by decide) ?_
            refine lv_istore (lv' := [(5, .int (-1 : Int32)), (0, .ref h0), (1, .int p1), (2, .int p2), (3, .int p3), (4, .int p4)]) hx hb dX8_spot_78 hl (by decide) rfl (fun ls hl => ?_)
            refine lv_iconst (v := 0) hx hb dX8_spot_80 (by decide) ?_
            refine lv_istore (lv' := [(6, .int (0 : Int32)), (5, .int (-1 : Int32)), (0, .ref h0), (1, .int p1), (2, .int p2), (3, .int p3), (4, .int p4)]) hx hb dX8_spot_81 hl (by decide) rfl (fun ls hl => ?_)
            refine lv_iconst (v := 0) hx hb dX8_spot_83 (by decide) ?_
            refine lv_istore (lv' := [(7, .int (0 : Int32)), (6, .int (0 : Int32)), (5, .int (-1 : Int32)), (0, .ref h0), (1, .int p1), (2, .int p2), (3, .int p3), (4, .int p4)]) hx hb dX8_spot_84 hl (by decide) rfl (fun ls hl => ?_)
            obtain ⟨n0, h⟩ := h
            exact t_X8_spot_S_86 C hn27 hA n0 _ _ _ _ _ _ _ _ (lv_sub hl [3, 4, 5, 6, 7, 2, 1, 0] rfl) hP hD hS h
          · replace h := And.left h c10
            refine lv_aload_n hx hb dX8_spot_70 rfl (lv_at hl 0 rfl) ?_
            refine lv_bipush (v := -5) hx hb dX8_spot_71 (by decide) ?_
            refine xend_rw_i (wf := fun (u : (zS)) => (wX8 K h0 a0 n0 la0 u ++ (([] : va_W)))) (xRunV (wc := (wX8 K h0 a0 n0 la0 r0 ++ (([] : va_W)))) (As := [.int (-5 : Int32)]) (rest := []) C (c_X8_refuse h) k_X8_refuse mw_165 ⟨rfl, rfl⟩ ⟨Nat.le_of_ble_eq_true rfl, Nat.le_of_ble_eq_true rfl⟩ hP hD xr1 wX8_C1 xr1_nd rfl rfl hl rfl rfl (Nat.le_of_ble_eq_true rfl) dX8_spot_73 ⟨Nat.le_refl _, Nat.le_refl _⟩) hP hD hS hA xr1 wX8_C1 xr1_nd (fun _ => wX8_adr _ _) (fun v23 s24 H locs h hP hD hS => ?_)
            rw [wX8_set1] at hP hD
            replace hP : va_P D vwCl (wX8 K h0 a0 n0 la0 s24 ++ (wX8 K h1 a1 n1 la1 r1 ++ (([] : va_W)))) H := hP
            replace hD : va_D A (wX8 K h0 a0 n0 la0 s24 ++ (wX8 K h1 a1 n1 la1 r1 ++ (([] : va_W)))) := hD
            exact xrw_i C (s24, r1) h hP hS dX8_spot_76
        · replace h := And.left h c9
          refine lv_aload_n hx hb dX8_spot_50 rfl (lv_at hl 0 rfl) ?_
          refine lv_bipush (v := -6) hx hb dX8_spot_51 (by decide) ?_
          refine xend_rw_i (wf := fun (u : (zS)) => (wX8 K h0 a0 n0 la0 u ++ (([] : va_W)))) (xRunV (wc := (wX8 K h0 a0 n0 la0 r0 ++ (([] : va_W)))) (As := [.int (-6 : Int32)]) (rest := []) C (c_X8_refuse h) k_X8_refuse mw_165 ⟨rfl, rfl⟩ ⟨Nat.le_of_ble_eq_true rfl, Nat.le_of_ble_eq_true rfl⟩ hP hD xr1 wX8_C1 xr1_nd rfl rfl hl rfl rfl (Nat.le_of_ble_eq_true rfl) dX8_spot_53 ⟨Nat.le_refl _, Nat.le_refl _⟩) hP hD hS hA xr1 wX8_C1 xr1_nd (fun _ => wX8_adr _ _) (fun v25 s26 H locs h hP hD hS => ?_)
          rw [wX8_set1] at hP hD
          replace hP : va_P D vwCl (wX8 K h0 a0 n0 la0 s26 ++ (wX8 K h1 a1 n1 la1 r1 ++ (([] : va_W)))) H := hP
          replace hD : va_D A (wX8 K h0 a0 n0 la0 s26 ++ (wX8 K h1 a1 n1 la1 r1 ++ (([] : va_W)))) := hD
          exact xrw_i C (s26, r1) h hP hS dX8_spot_56
      · replace h := And.left h c8
        exact t_X8_spot_S_34 C hn27 hA _ _ _ _ _ (lv_sub hl [0] rfl) hP hD hS h
