def wp_X1_has (r0 : zS) (p1 : Int32) (post : Int32 → Prop) : Prop :=
  (p1 < 0 → post (0 : Int32) ) ∧ (¬ p1 < 0 → ((r0.1 1) ≤ p1 → post (0 : Int32) ) ∧ (¬ (r0.1 1) ≤ p1 → ((12 : Int32) ≤ p1 → post (0 : Int32) ) ∧ (¬ (12 : Int32) ≤ p1 → post (1 : Int32) )))
set_option maxHeartbeats 4000000 in
set_option maxRecDepth 100000 in
theorem c_X1_has {l : Launch} {D : va_G} {K : Nat → ClassId} {h0 : Nat} {a0 : Nat → Nat} {r0 : zS} {p1 : Int32} {sz : Nat} {post : Int32 → Prop}  (h : wp_X1_has r0 p1 post) : Met l yX1_has (Cond.code yX1_has cX1_has 2 (some .boolean) :: wsL_law) ({ frames := 0, cells := 0, slots := 0, locals := 0 } : Room) (va_Pc [.ref h0, .int p1] (xPre D vwCl (xty K) (wX1 K h0 a0 r0) sz)) (roI post) 0 0 (fun _ => False) := by
  refine xMet (by decide) rfl (Nat.le_of_ble_eq_true rfl) (fun p e s m args below meth c C hnm hP hD hsz ls hl => ?_)
  have hl : lv_has ls 2 [(0, .ref h0), (1, .int p1)] := hl
  obtain ⟨hx, hb, hr, hml, hown, hts, hlocks, hK, hT⟩ := id C
  unfold wp_X1_has at h
  refine lv_iload_n hx hb dX1_has_0 rfl (lv_at hl 1 rfl) ?_
  refine lv_if_lt (tgt := 22) hx hb dX1_has_1 (by decide) (fun c1 => ?_) (fun c1 => ?_)
  · replace h := And.left h c1
    refine lv_iconst (v := 0) hx hb dX1_has_22 (by decide) ?_
    exact xro_z C rfl h dX1_has_23
  · replace h := And.right h c1
    refine lv_iload_n hx hb dX1_has_4 rfl (lv_at hl 1 rfl) ?_
    refine lv_aload_n hx hb dX1_has_5 rfl (lv_at hl 0 rfl) ?_
    refine va_get (D := D) (ci := 1) (v := .int (r0.1 1)) (C := RX1) (T := TX1) (N := 10) hx hb hts inlX1 hown hK hP 0 rfl rfl 1 (by decide) (hts (.fieldLink RX1 15 "UnderTheDesks$Room" "count" "I") mw_52) (fun _ h9 => h9) rfl dX1_has_6 ?_
    refine lv_icmp_ge (tgt := 22) hx hb dX1_has_9 (by decide) (fun c2 => ?_) (fun c2 => ?_)
    · replace h := And.left h c2
      refine lv_iconst (v := 0) hx hb dX1_has_22 (by decide) ?_
      exact xro_z C rfl h dX1_has_23
    · replace h := And.right h c2
      refine lv_iload_n hx hb dX1_has_12 rfl (lv_at hl 1 rfl) ?_
      refine lv_bipush (v := 12) hx hb dX1_has_13 (by decide) ?_
      refine lv_icmp_ge (tgt := 22) hx hb dX1_has_15 (by decide) (fun c3 => ?_) (fun c3 => ?_)
      · replace h := And.left h c3
        refine lv_iconst (v := 0) hx hb dX1_has_22 (by decide) ?_
        exact xro_z C rfl h dX1_has_23
      · replace h := And.right h c3
        refine lv_iconst (v := 1) hx hb dX1_has_18 (by decide) ?_
        refine lv_goto (tgt := 23) hx hb dX1_has_19 (by decide) ?_
        exact xro_z C rfl h dX1_has_23

def wp_X1_isFull (r0 : zS) (post : Int32 → Prop) : Prop :=
  ((r0.1 1) < (12 : Int32) → post (0 : Int32) ) ∧ (¬ (r0.1 1) < (12 : Int32) → post (1 : Int32) )
set_option maxHeartbeats 4000000 in
set_option maxRecDepth 100000 in
theorem c_X1_isFull {l : Launch} {D : va_G} {K : Nat → ClassId} {h0 : Nat} {a0 : Nat → Nat} {r0 : zS}  {sz : Nat} {post : Int32 → Prop}  (h : wp_X1_isFull r0 post) : Met l yX1_isFull (Cond.code yX1_isFull cX1_isFull 1 (some .boolean) :: wsL_law) ({ frames := 0, cells := 0, slots := 0, locals := 0 } : Room) (va_Pc [.ref h0] (xPre D vwCl (xty K) (wX1 K h0 a0 r0) sz)) (roI post) 0 0 (fun _ => False) := by
  refine xMet (by decide) rfl (Nat.le_of_ble_eq_true rfl) (fun p e s m args below meth c C hnm hP hD hsz ls hl => ?_)
  have hl : lv_has ls 1 [(0, .ref h0)] := hl
  obtain ⟨hx, hb, hr, hml, hown, hts, hlocks, hK, hT⟩ := id C
  unfold wp_X1_isFull at h
  refine lv_aload_n hx hb dX1_isFull_0 rfl (lv_at hl 0 rfl) ?_
  refine va_get (D := D) (ci := 1) (v := .int (r0.1 1)) (C := RX1) (T := TX1) (N := 10) hx hb hts inlX1 hown hK hP 0 rfl rfl 1 (by decide) (hts (.fieldLink RX1 15 "UnderTheDesks$Room" "count" "I") mw_52) (fun _ h9 => h9) rfl dX1_isFull_1 ?_
  refine lv_bipush (v := 12) hx hb dX1_isFull_4 (by decide) ?_
  refine lv_icmp_lt (tgt := 13) hx hb dX1_isFull_6 (by decide) (fun c1 => ?_) (fun c1 => ?_)
  · replace h := And.left h c1
    refine lv_iconst (v := 0) hx hb dX1_isFull_13 (by decide) ?_
    exact xro_z C rfl h dX1_isFull_14
  · replace h := And.right h c1
    refine lv_iconst (v := 1) hx hb dX1_isFull_9 (by decide) ?_
    refine lv_goto (tgt := 14) hx hb dX1_isFull_10 (by decide) ?_
    exact xro_z C rfl h dX1_isFull_14

def wp_X1_deskCount (r0 : zS) (post : Int32 → Prop) : Prop :=
  post ((r0.1 0) * (4 : Int32)) 
set_option maxHeartbeats 4000000 in
set_option maxRecDepth 100000 in
theorem c_X1_deskCount {l : Launch} {D : va_G} {K : Nat → ClassId} {h0 : Nat} {a0 : Nat → Nat} {r0 : zS}  {sz : Nat} {post : Int32 → Prop}  (h : wp_X1_deskCount r0 post) : Met l yX1_deskCount (Cond.code yX1_deskCount cX1_deskCount 1 (some .int) :: wsL_law) ({ frames := 0, cells := 0, slots := 0, locals := 0 } : Room) (va_Pc [.ref h0] (xPre D vwCl (xty K) (wX1 K h0 a0 r0) sz)) (roI post) 0 0 (fun _ => False) := by
  refine xMet (by decide) rfl (Nat.le_of_ble_eq_true rfl) (fun p e s m args below meth c C hnm hP hD hsz ls hl => ?_)
  have hl : lv_has ls 1 [(0, .ref h0)] := hl
  obtain ⟨hx, hb, hr, hml, hown, hts, hlocks, hK, hT⟩ := id C
  unfold wp_X1_deskCount at h
  refine lv_aload_n hx hb dX1_deskCount_0 rfl (lv_at hl 0 rfl) ?_
  refine va_get (D := D) (ci := 1) (v := .int (r0.1 0)) (C := RX1) (T := TX1) (N := 10) hx hb hts inlX1 hown hK hP 0 rfl rfl 0 (by decide) (hts (.fieldLink RX1 9 "UnderTheDesks$Room" "rowCount" "I") mw_51) (fun _ h9 => h9) rfl dX1_deskCount_1 ?_
  refine lv_iconst (v := 4) hx hb dX1_deskCount_4 (by decide) ?_
  refine lv_imul hx hb dX1_deskCount_5 ?_
  exact xro_i C h dX1_deskCount_6

def wp_X1_hasDesk (r0 : zS) (p1 : Int32) (post : Int32 → Prop) : Prop :=
  (p1 < 0 → post (0 : Int32) ) ∧ (¬ p1 < 0 → wp_X1_deskCount r0 (fun v2 => (v2 ≤ p1 → post (0 : Int32) ) ∧ (¬ v2 ≤ p1 → post (1 : Int32) )))
set_option maxHeartbeats 4000000 in
set_option maxRecDepth 100000 in
theorem c_X1_hasDesk {l : Launch} {D : va_G} {K : Nat → ClassId} {h0 : Nat} {a0 : Nat → Nat} {r0 : zS} {p1 : Int32} {sz : Nat} {post : Int32 → Prop}  (h : wp_X1_hasDesk r0 p1 post) : Met l yX1_hasDesk (Cond.code yX1_hasDesk cX1_hasDesk 2 (some .boolean) :: wsL_law) ({ frames := 1, cells := 0, slots := 0, locals := 20 } : Room) (va_Pc [.ref h0, .int p1] (xPre D vwCl (xty K) (wX1 K h0 a0 r0) sz)) (roI post) 0 0 (fun _ => False) := by
  refine xMet (by decide) rfl (Nat.le_of_ble_eq_true rfl) (fun p e s m args below meth c C hnm hP hD hsz ls hl => ?_)
  have hl : lv_has ls 2 [(0, .ref h0), (1, .int p1)] := hl
  obtain ⟨hx, hb, hr, hml, hown, hts, hlocks, hK, hT⟩ := id C
  unfold wp_X1_hasDesk at h
  refine lv_iload_n hx hb dX1_hasDesk_0 rfl (lv_at hl 1 rfl) ?_
  refine lv_if_lt (tgt := 16) hx hb dX1_hasDesk_1 (by decide) (fun c1 => ?_) (fun c1 => ?_)
  · replace h := And.left h c1
    refine lv_iconst (v := 0) hx hb dX1_hasDesk_16 (by decide) ?_
    exact xro_z C rfl h dX1_hasDesk_17
  · replace h := And.right h c1
    refine lv_iload_n hx hb dX1_hasDesk_4 rfl (lv_at hl 1 rfl) ?_
    refine lv_aload_n hx hb dX1_hasDesk_5 rfl (lv_at hl 0 rfl) ?_
    refine xend_ro_i (xRunV (wc := (wX1 K h0 a0 r0)) (As := []) (rest := [.int p1]) C (c_X1_deskCount h) k_X1_deskCount mw_378 ⟨rfl, rfl⟩ ⟨Nat.le_of_ble_eq_true rfl, Nat.le_of_ble_eq_true rfl⟩ hP hD [0, 1, 2, 3, 4, 5] rfl rfl rfl rfl hl rfl rfl (Nat.le_of_ble_eq_true rfl) dX1_hasDesk_6 ⟨Nat.le_refl _, Nat.le_refl _⟩) (fun v2 h => ?_)
    refine lv_icmp_ge (tgt := 16) hx hb dX1_hasDesk_9 (by decide) (fun c3 => ?_) (fun c3 => ?_)
    · replace h := And.left h c3
      refine lv_iconst (v := 0) hx hb dX1_hasDesk_16 (by decide) ?_
      exact xro_z C rfl h dX1_hasDesk_17
    · replace h := And.right h c3
      refine lv_iconst (v := 1) hx hb dX1_hasDesk_12 (by decide) ?_
      refine lv_goto (tgt := 17) hx hb dX1_hasDesk_13 (by decide) ?_
      exact xro_z C rfl h dX1_hasDesk_17

def wb_X1_holderOf_2 (r0 : zS) (p1 : Int32) (post : Int32 → Prop) (ih : Int32 → Prop) (x2 : Int32) : Prop :=
  ((r0.1 1) ≤ x2 → post (-1 : Int32) ) ∧ (¬ (r0.1 1) ≤ x2 → ((12 : Int32) ≤ x2 → post (-1 : Int32) ) ∧ (¬ (12 : Int32) ≤ x2 → vp_in x2 12 ∧ (((r0.2.1 6 x2.toNatClampNeg) = p1 → post x2 ) ∧ (¬ (r0.2.1 6 x2.toNatClampNeg) = p1 → ∀ v4 : Int32, v4 = x2 + (1 : Int32) → ih v4))))
def wp_X1_holderOf_2 (r0 : zS) (p1 : Int32) (post : Int32 → Prop) (n : Nat) : Int32 → Prop := Nat.rec (motive := fun _ => Int32 → Prop) (fun _ => False) (fun _ ih => wb_X1_holderOf_2 r0 p1 post ih) n
theorem wu_X1_holderOf_2 (r0 : zS) (p1 : Int32) (post : Int32 → Prop) (n : Nat) (x2 : Int32) : wp_X1_holderOf_2 r0 p1 post (n + 1) x2 = wb_X1_holderOf_2 r0 p1 post (wp_X1_holderOf_2 r0 p1 post n) x2 := rfl
def wp_X1_holderOf (r0 : zS) (p1 : Int32) (post : Int32 → Prop) : Prop :=
  ∃ n : Nat, wp_X1_holderOf_2 r0 p1 post n (0 : Int32)
set_option maxHeartbeats 4000000 in
set_option maxRecDepth 100000 in
theorem t_X1_holderOf_2 {p : Program} {l : Launch} {e : Env} {s : State} {m : MethodId} {args : Array Value} {below : List Frame} {meth : Method} {c : Code} {D : va_G} {K : Nat → ClassId} {h0 : Nat} {a0 : Nat → Nat} {r0 : zS} {p1 : Int32} {post : Int32 → Prop} (C : xC p s m args meth c cX1_holderOf RX1 3 (some .int) D vwCl (xty K)) (hP : va_P D vwCl (wX1 K h0 a0 r0) s.heap) (hD : va_D (va_A (wX1 K h0 a0 r0) s.heap.size) (wX1 K h0 a0 r0)) : ∀ (n : Nat) (x2 : Int32) (ls : Array Slot), lv_has ls 3 [(0, .ref h0), (1, .int p1), (2, .int x2)] → wp_X1_holderOf_2 r0 p1 post n x2 → W p l e ({ frames := 0, cells := 0, slots := 0, locals := 0 } : Room) s m args below meth c s.heap [] 0 0 (MQ below (roI post) args s 0 0 (fun _ => False)) (F0 m 2 ls []) := by
  obtain ⟨hx, hb, hr, hml, hown, hts, hlocks, hK, hT⟩ := id C
  intro n
  induction n with
  | zero =>
    intro x2 ls hl h
    exact False.elim h
  | succ n ihn =>
    intro x2 ls hl h
    rw [wu_X1_holderOf_2] at h
    unfold wb_X1_holderOf_2 at h
    refine lv_iload_n hx hb dX1_holderOf_2 rfl (lv_at hl 2 rfl) ?_
    refine lv_aload_n hx hb dX1_holderOf_3 rfl (lv_at hl 0 rfl) ?_
    refine va_get (D := D) (ci := 1) (v := .int (r0.1 1)) (C := RX1) (T := TX1) (N := 10) hx hb hts inlX1 hown hK hP 0 rfl rfl 1 (by decide) (hts (.fieldLink RX1 15 "UnderTheDesks$Room" "count" "I") mw_52) (fun _ h9 => h9) rfl dX1_holderOf_4 ?_
    refine lv_icmp_ge (tgt := 34) hx hb dX1_holderOf_7 (by decide) (fun c1 => ?_) (fun c1 => ?_)
    · replace h := And.left h c1
      refine lv_iconst (v := -1) hx hb dX1_holderOf_34 (by decide) ?_
      exact xro_i C h dX1_holderOf_35
    · replace h := And.right h c1
      refine lv_iload_n hx hb dX1_holderOf_10 rfl (lv_at hl 2 rfl) ?_
      refine lv_bipush (v := 12) hx hb dX1_holderOf_11 (by decide) ?_
      refine lv_icmp_ge (tgt := 34) hx hb dX1_holderOf_13 (by decide) (fun c2 => ?_) (fun c2 => ?_)
      · replace h := And.left h c2
        refine lv_iconst (v := -1) hx hb dX1_holderOf_34 (by decide) ?_
        exact xro_i C h dX1_holderOf_35
      · replace h := And.right h c2
        refine lv_aload_n hx hb dX1_holderOf_16 rfl (lv_at hl 0 rfl) ?_
        refine va_get (D := D) (ci := 1) (v := .ref (a0 6)) (C := RX1) (T := TX1) (N := 10) hx hb hts inlX1 hown hK hP 0 rfl rfl 6 (by decide) (hts (.fieldLink RX1 31 "UnderTheDesks$Room" "desks" "[I") mw_57) (fun _ h9 => h9) rfl dX1_holderOf_17 ?_
        refine lv_iload_n hx hb dX1_holderOf_20 rfl (lv_at hl 2 rfl) ?_
        have hin := And.left h
        replace h := And.right h
        refine va_iald hx hb hK hP 2 0 rfl rfl hin dX1_holderOf_21 ?_
        refine lv_iload_n hx hb dX1_holderOf_22 rfl (lv_at hl 1 rfl) ?_
        refine lv_icmp_ne (tgt := 28) hx hb dX1_holderOf_23 (by decide) (fun c3 => ?_) (fun c3 => ?_)
        · replace h := And.right h c3
          obtain ⟨v4, ev4⟩ : ∃ y : Int32, y = x2 + (1 : Int32) := ⟨_, rfl⟩
          replace h := h v4 ev4
          refine lv_iinc (v := v4) (lv' := [(2, .int v4), (0, .ref h0), (1, .int p1)]) hx hb dX1_holderOf_28 hl (k := 2) rfl (by rw [ev4]; rfl) (by decide) rfl (fun ls hl => ?_)
          refine lv_goto (tgt := 2) hx hb dX1_holderOf_31 (by decide) ?_
          exact ihn _ _ (lv_sub hl [1, 2, 0] rfl) h
        · replace h := And.left h c3
          refine lv_iload_n hx hb dX1_holderOf_26 rfl (lv_at hl 2 rfl) ?_
          exact xro_i C h dX1_holderOf_27
set_option maxHeartbeats 4000000 in
set_option maxRecDepth 100000 in
theorem c_X1_holderOf {l : Launch} {D : va_G} {K : Nat → ClassId} {h0 : Nat} {a0 : Nat → Nat} {r0 : zS} {p1 : Int32} {sz : Nat} {post : Int32 → Prop}  (h : wp_X1_holderOf r0 p1 post) : Met l yX1_holderOf (Cond.code yX1_holderOf cX1_holderOf 3 (some .int) :: wsL_law) ({ frames := 0, cells := 0, slots := 0, locals := 0 } : Room) (va_Pc [.ref h0, .int p1] (xPre D vwCl (xty K) (wX1 K h0 a0 r0) sz)) (roI post) 0 0 (fun _ => False) := by
  refine xMet (by decide) rfl (Nat.le_of_ble_eq_true rfl) (fun p e s m args below meth c C hnm hP hD hsz ls hl => ?_)
  have hl : lv_has ls 3 [(0, .ref h0), (1, .int p1)] := hl
  obtain ⟨hx, hb, hr, hml, hown, hts, hlocks, hK, hT⟩ := id C
  unfold wp_X1_holderOf at h
  refine lv_iconst (v := 0) hx hb dX1_holderOf_0 (by decide) ?_
  refine lv_istore_n (lv' := [(2, .int (0 : Int32)), (0, .ref h0), (1, .int p1)]) hx hb dX1_holderOf_1 rfl hl (by decide) rfl (fun ls hl => ?_)
  obtain ⟨n0, h⟩ := h
  exact t_X1_holderOf_2 C hP hD n0 _ _ (lv_sub hl [1, 2, 0] rfl) h

def wp_X1_kindOf (r0 : zS) (p1 : Int32) (post : Int32 → Prop) : Prop :=
  wp_X1_has r0 p1 (fun v1 => (v1 = 0 → post (-1 : Int32) ) ∧ (¬ v1 = 0 → vp_in p1 12 ∧ (post (r0.2.1 5 p1.toNatClampNeg) )))
set_option maxHeartbeats 4000000 in
set_option maxRecDepth 100000 in
theorem c_X1_kindOf {l : Launch} {D : va_G} {K : Nat → ClassId} {h0 : Nat} {a0 : Nat → Nat} {r0 : zS} {p1 : Int32} {sz : Nat} {post : Int32 → Prop}  (h : wp_X1_kindOf r0 p1 post) : Met l yX1_kindOf (Cond.code yX1_kindOf cX1_kindOf 2 (some .int) :: wsL_law) ({ frames := 1, cells := 0, slots := 0, locals := 21 } : Room) (va_Pc [.ref h0, .int p1] (xPre D vwCl (xty K) (wX1 K h0 a0 r0) sz)) (roI post) 0 0 (fun _ => False) := by
  refine xMet (by decide) rfl (Nat.le_of_ble_eq_true rfl) (fun p e s m args below meth c C hnm hP hD hsz ls hl => ?_)
  have hl : lv_has ls 2 [(0, .ref h0), (1, .int p1)] := hl
  obtain ⟨hx, hb, hr, hml, hown, hts, hlocks, hK, hT⟩ := id C
  unfold wp_X1_kindOf at h
  refine lv_aload_n hx hb dX1_kindOf_0 rfl (lv_at hl 0 rfl) ?_
  refine lv_iload_n hx hb dX1_kindOf_1 rfl (lv_at hl 1 rfl) ?_
  refine xend_ro_i (xRunV (wc := (wX1 K h0 a0 r0)) (As := [.int p1]) (rest := []) C (c_X1_has h) k_X1_has mw_283 ⟨rfl, rfl⟩ ⟨Nat.le_of_ble_eq_true rfl, Nat.le_of_ble_eq_true rfl⟩ hP hD [0, 1, 2, 3, 4, 5] rfl rfl rfl rfl hl rfl rfl (Nat.le_of_ble_eq_true rfl) dX1_kindOf_2 ⟨Nat.le_refl _, Nat.le_refl _⟩) (fun v1 h => ?_)
  refine lv_if_eq (tgt := 17) hx hb dX1_kindOf_5 (by decide) (fun c2 => ?_) (fun c2 => ?_)
  · replace h := And.left h c2
    refine lv_iconst (v := -1) hx hb dX1_kindOf_17 (by decide) ?_
    exact xro_i C h dX1_kindOf_18
  · replace h := And.right h c2
    refine lv_aload_n hx hb dX1_kindOf_8 rfl (lv_at hl 0 rfl) ?_
    refine va_get (D := D) (ci := 1) (v := .ref (a0 5)) (C := RX1) (T := TX1) (N := 10) hx hb hts inlX1 hown hK hP 0 rfl rfl 5 (by decide) (hts (.fieldLink RX1 27 "UnderTheDesks$Room" "kinds" "[I") mw_56) (fun _ h9 => h9) rfl dX1_kindOf_9 ?_
    refine lv_iload_n hx hb dX1_kindOf_12 rfl (lv_at hl 1 rfl) ?_
    have hin := And.left h
    replace h := And.right h
    refine va_iald hx hb hK hP 1 0 rfl rfl hin dX1_kindOf_13 ?_
    refine lv_goto (tgt := 18) hx hb dX1_kindOf_14 (by decide) ?_
    exact xro_i C h dX1_kindOf_18

def wp_X1_looks (r0 : zS) (p1 : Int32) (post : Int32 → Prop) : Prop :=
  ((r0.1 2) < (1 : Int32) → post (1 : Int32) ) ∧ (¬ (r0.1 2) < (1 : Int32) → ¬ (r0.1 2) = 0 ∧ (((p1 - p1 / (r0.1 2) * (r0.1 2)) < (r0.1 3) → post (0 : Int32) ) ∧ (¬ (p1 - p1 / (r0.1 2) * (r0.1 2)) < (r0.1 3) → post (1 : Int32) )))
set_option maxHeartbeats 4000000 in
set_option maxRecDepth 100000 in
theorem c_X1_looks {l : Launch} {D : va_G} {K : Nat → ClassId} {h0 : Nat} {a0 : Nat → Nat} {r0 : zS} {p1 : Int32} {sz : Nat} {post : Int32 → Prop}  (h : wp_X1_looks r0 p1 post) : Met l yX1_looks (Cond.code yX1_looks cX1_looks 2 (some .boolean) :: wsL_law) ({ frames := 0, cells := 0, slots := 0, locals := 0 } : Room) (va_Pc [.ref h0, .int p1] (xPre D vwCl (xty K) (wX1 K h0 a0 r0) sz)) (roI post) 0 0 (fun _ => False) := by
  refine xMet (by decide) rfl (Nat.le_of_ble_eq_true rfl) (fun p e s m args below meth c C hnm hP hD hsz ls hl => ?_)
  have hl : lv_has ls 2 [(0, .ref h0), (1, .int p1)] := hl
  obtain ⟨hx, hb, hr, hml, hown, hts, hlocks, hK, hT⟩ := id C
  unfold wp_X1_looks at h
  refine lv_aload_n hx hb dX1_looks_0 rfl (lv_at hl 0 rfl) ?_
  refine va_get (D := D) (ci := 1) (v := .int (r0.1 2)) (C := RX1) (T := TX1) (N := 10) hx hb hts inlX1 hown hK hP 0 rfl rfl 2 (by decide) (hts (.fieldLink RX1 18 "UnderTheDesks$Room" "term" "I") mw_53) (fun _ h9 => h9) rfl dX1_looks_1 ?_
  refine lv_iconst (v := 1) hx hb dX1_looks_4 (by decide) ?_
  refine lv_icmp_lt (tgt := 21) hx hb dX1_looks_5 (by decide) (fun c1 => ?_) (fun c1 => ?_)
  · replace h := And.left h c1
    refine lv_iconst (v := 1) hx hb dX1_looks_21 (by decide) ?_
    refine lv_goto (tgt := 26) hx hb dX1_looks_22 (by decide) ?_
    exact xro_z C rfl h dX1_looks_26
  · replace h := And.right h c1
    refine lv_iload_n hx hb dX1_looks_8 rfl (lv_at hl 1 rfl) ?_
    refine lv_aload_n hx hb dX1_looks_9 rfl (lv_at hl 0 rfl) ?_
    refine va_get (D := D) (ci := 1) (v := .int (r0.1 2)) (C := RX1) (T := TX1) (N := 10) hx hb hts inlX1 hown hK hP 0 rfl rfl 2 (by decide) (hts (.fieldLink RX1 18 "UnderTheDesks$Room" "term" "I") mw_53) (fun _ h9 => h9) rfl dX1_looks_10 ?_
    have hne := And.left h
    replace h := And.right h
    refine lv_irem hx hb dX1_looks_13 hne ?_
    refine lv_aload_n hx hb dX1_looks_14 rfl (lv_at hl 0 rfl) ?_
    refine va_get (D := D) (ci := 1) (v := .int (r0.1 3)) (C := RX1) (T := TX1) (N := 10) hx hb hts inlX1 hown hK hP 0 rfl rfl 3 (by decide) (hts (.fieldLink RX1 21 "UnderTheDesks$Room" "turned" "I") mw_54) (fun _ h9 => h9) rfl dX1_looks_15 ?_
    refine lv_icmp_lt (tgt := 25) hx hb dX1_looks_18 (by decide) (fun c2 => ?_) (fun c2 => ?_)
    · replace h := And.left h c2
      refine lv_iconst (v := 0) hx hb dX1_looks_25 (by decide) ?_
      exact xro_z C rfl h dX1_looks_26
    · replace h := And.right h c2
      refine lv_iconst (v := 1) hx hb dX1_looks_21 (by decide) ?_
      refine lv_goto (tgt := 26) hx hb dX1_looks_22 (by decide) ?_
      exact xro_z C rfl h dX1_looks_26

def wp_X1_areBeside (p0 : Int32) (p1 : Int32) (post : Int32 → Prop) : Prop :=
  (((if 0 ≤ ((p0 / (4 : Int32)) - (p1 / (4 : Int32))) then ((p0 / (4 : Int32)) - (p1 / (4 : Int32))) else 0 - ((p0 / (4 : Int32)) - (p1 / (4 : Int32)))) + (if 0 ≤ ((p0 - p0 / (4 : Int32) * (4 : Int32)) - (p1 - p1 / (4 : Int32) * (4 : Int32))) then ((p0 - p0 / (4 : Int32) * (4 : Int32)) - (p1 - p1 / (4 : Int32) * (4 : Int32))) else 0 - ((p0 - p0 / (4 : Int32) * (4 : Int32)) - (p1 - p1 / (4 : Int32) * (4 : Int32))))) = (1 : Int32) → post (1 : Int32) ) ∧ (¬ ((if 0 ≤ ((p0 / (4 : Int32)) - (p1 / (4 : Int32))) then ((p0 / (4 : Int32)) - (p1 / (4 : Int32))) else 0 - ((p0 / (4 : Int32)) - (p1 / (4 : Int32)))) + (if 0 ≤ ((p0 - p0 / (4 : Int32) * (4 : Int32)) - (p1 - p1 / (4 : Int32) * (4 : Int32))) then ((p0 - p0 / (4 : Int32) * (4 : Int32)) - (p1 - p1 / (4 : Int32) * (4 : Int32))) else 0 - ((p0 - p0 / (4 : Int32) * (4 : Int32)) - (p1 - p1 / (4 : Int32) * (4 : Int32))))) = (1 : Int32) → post (0 : Int32) )
set_option maxHeartbeats 4000000 in
set_option maxRecDepth 100000 in
theorem c_X1_areBeside {l : Launch} {D : va_G} {K : Nat → ClassId}  {p0 : Int32} {p1 : Int32} {sz : Nat} {post : Int32 → Prop}  (h : wp_X1_areBeside p0 p1 post) : Met l yX1_areBeside (Cond.code yX1_areBeside cX1_areBeside 2 (some .boolean) :: wsL_law) ({ frames := 1, cells := 0, slots := 0, locals := 80 } : Room) (va_Pc [.int p0, .int p1] (xPre D vwCl (xty K) ([] : va_W) sz)) (roI post) 0 0 (fun _ => False) := by
  refine xMet (by decide) rfl (Nat.le_of_ble_eq_true rfl) (fun p e s m args below meth c C hnm hP hD hsz ls hl => ?_)
  have hl : lv_has ls 2 [(0, .int p0), (1, .int p1)] := hl
  obtain ⟨hx, hb, hr, hml, hown, hts, hlocks, hK, hT⟩ := id C
  unfold wp_X1_areBeside at h
  refine lv_iload_n hx hb dX1_areBeside_0 rfl (lv_at hl 0 rfl) ?_
  refine lv_iconst (v := 4) hx hb dX1_areBeside_1 (by decide) ?_
  refine lv_idiv hx hb dX1_areBeside_2 (by decide) ?_
  refine lv_iload_n hx hb dX1_areBeside_3 rfl (lv_at hl 1 rfl) ?_
  refine lv_iconst (v := 4) hx hb dX1_areBeside_4 (by decide) ?_
  refine lv_idiv hx hb dX1_areBeside_5 (by decide) ?_
  refine lv_isub hx hb dX1_areBeside_6 ?_
  refine va_mabs hx hb (by rw [hml]; exact hl.1.symm) hown (hts _ mw_404) (hts _ mw_405) (hts _ mw_406) (hts _ mw_407) (Nat.le_of_ble_eq_true rfl) (Nat.le_of_ble_eq_true rfl) (Nat.le_of_ble_eq_true rfl) (Nat.le_of_ble_eq_true rfl) dX1_areBeside_7 ?_
  refine lv_iload_n hx hb dX1_areBeside_10 rfl (lv_at hl 0 rfl) ?_
  refine lv_iconst (v := 4) hx hb dX1_areBeside_11 (by decide) ?_
  refine lv_irem hx hb dX1_areBeside_12 (by decide) ?_
  refine lv_iload_n hx hb dX1_areBeside_13 rfl (lv_at hl 1 rfl) ?_
  refine lv_iconst (v := 4) hx hb dX1_areBeside_14 (by decide) ?_
  refine lv_irem hx hb dX1_areBeside_15 (by decide) ?_
  refine lv_isub hx hb dX1_areBeside_16 ?_
  refine va_mabs hx hb (by rw [hml]; exact hl.1.symm) hown (hts _ mw_404) (hts _ mw_405) (hts _ mw_406) (hts _ mw_407) (Nat.le_of_ble_eq_true rfl) (Nat.le_of_ble_eq_true rfl) (Nat.le_of_ble_eq_true rfl) (Nat.le_of_ble_eq_true rfl) dX1_areBeside_17 ?_
  refine lv_iadd hx hb dX1_areBeside_20 ?_
  refine lv_iconst (v := 1) hx hb dX1_areBeside_21 (by decide) ?_
  refine lv_icmp_ne (tgt := 29) hx hb dX1_areBeside_22 (by decide) (fun c1 => ?_) (fun c1 => ?_)
  · replace h := And.right h c1
    refine lv_iconst (v := 0) hx hb dX1_areBeside_29 (by decide) ?_
    exact xro_z C rfl h dX1_areBeside_30
  · replace h := And.left h c1
    refine lv_iconst (v := 1) hx hb dX1_areBeside_25 (by decide) ?_
    refine lv_goto (tgt := 30) hx hb dX1_areBeside_26 (by decide) ?_
    exact xro_z C rfl h dX1_areBeside_30

def wp_X1_link_88  (post : (zS) → Prop) (k2 : (zS) → Int32 → Prop) (r0 : zS) (x1 : Int32) : Prop :=
  ∀ v4 : Int32, v4 = x1 + (1 : Int32) → k2 r0 v4
def wp_X1_link_82  (post : (zS) → Prop) (k2 : (zS) → Int32 → Prop) (k25 : (zS) → Int32 → Int32 → Prop) (r0 : zS) (x1 : Int32) (x2 : Int32) : Prop :=
  ∀ v8 : Int32, v8 = x2 + (1 : Int32) → k25 r0 x1 v8
def wb_X1_link_25  (post : (zS) → Prop) (k2 : (zS) → Int32 → Prop) (ih : (zS) → Int32 → Int32 → Prop) (r0 : zS) (x1 : Int32) (x2 : Int32) : Prop :=
  ((r0.1 1) ≤ x2 → wp_X1_link_88  post k2 r0 x1) ∧ (¬ (r0.1 1) ≤ x2 → ((12 : Int32) ≤ x2 → wp_X1_link_88  post k2 r0 x1) ∧ (¬ (12 : Int32) ≤ x2 → vp_in x1 12 ∧ (vp_in x2 12 ∧ (wp_X1_areBeside (r0.2.1 6 x1.toNatClampNeg) (r0.2.1 6 x2.toNatClampNeg) (fun v6 => (v6 = 0 → wp_X1_link_82  post k2 ih r0 x1 x2) ∧ (¬ v6 = 0 → vp_in x1 12 ∧ (((((r0.2.1 8 x1.toNatClampNeg) >>> (x2 &&& 31)) &&& (1 : Int32)) = 0 → vp_in x1 12 ∧ (∀ v10 : Int32, v10 = ((r0.2.1 9 x1.toNatClampNeg) ||| ((1 : Int32) <<< (x2 &&& 31))) → vp_in x1 12 ∧ (wp_X1_link_82  post k2 ih (zA r0 9 x1.toNatClampNeg v10) x1 x2))) ∧ (¬ (((r0.2.1 8 x1.toNatClampNeg) >>> (x2 &&& 31)) &&& (1 : Int32)) = 0 → wp_X1_link_82  post k2 ih r0 x1 x2))))))))
def wp_X1_link_25  (post : (zS) → Prop) (k2 : (zS) → Int32 → Prop) (n : Nat) : (zS) → Int32 → Int32 → Prop := Nat.rec (motive := fun _ => (zS) → Int32 → Int32 → Prop) (fun _ _ _ => False) (fun _ ih => wb_X1_link_25  post k2 ih) n
theorem wu_X1_link_25  (post : (zS) → Prop) (k2 : (zS) → Int32 → Prop) (n : Nat) (r0 : zS) (x1 : Int32) (x2 : Int32) : wp_X1_link_25  post k2 (n + 1) r0 x1 x2 = wb_X1_link_25  post k2 (wp_X1_link_25  post k2 n) r0 x1 x2 := rfl
def wb_X1_link_2  (post : (zS) → Prop) (ih : (zS) → Int32 → Prop) (r0 : zS) (x1 : Int32) : Prop :=
  ((r0.1 1) ≤ x1 → post r0) ∧ (¬ (r0.1 1) ≤ x1 → ((12 : Int32) ≤ x1 → post r0) ∧ (¬ (12 : Int32) ≤ x1 → vp_in x1 12 ∧ (∃ n : Nat, wp_X1_link_25  post ih n (zA r0 9 x1.toNatClampNeg (0 : Int32)) x1 (0 : Int32))))
def wp_X1_link_2  (post : (zS) → Prop) (n : Nat) : (zS) → Int32 → Prop := Nat.rec (motive := fun _ => (zS) → Int32 → Prop) (fun _ _ => False) (fun _ ih => wb_X1_link_2  post ih) n
theorem wu_X1_link_2  (post : (zS) → Prop) (n : Nat) (r0 : zS) (x1 : Int32) : wp_X1_link_2  post (n + 1) r0 x1 = wb_X1_link_2  post (wp_X1_link_2  post n) r0 x1 := rfl
def wp_X1_link (r0 : zS) (post : (zS) → Prop) : Prop :=
  ∃ n : Nat, wp_X1_link_2  post n r0 (0 : Int32)
set_option maxHeartbeats 4000000 in
set_option maxRecDepth 100000 in
theorem t_X1_link_88 {p : Program} {l : Launch} {e : Env} {s : State} {m : MethodId} {args : Array Value} {below : List Frame} {meth : Method} {c : Code} {D : va_G} {K : Nat → ClassId} {h0 : Nat} {a0 : Nat → Nat} {post : (zS) → Prop} {A : Nat → Prop} (C : xC p s m args meth c cX1_link RX1 3 none D vwCl (xty K)) (hA : ∀ q, s.heap.size ≤ q → A q) {k2 : (zS) → Int32 → Prop} (hk2 : ∀ (r0 : zS) (x1 : Int32) (H : Heap) (locs : List Loc) (ls : Array Slot), lv_has ls 3 [(0, .ref h0), (1, .int x1)] → va_P D vwCl (wX1 K h0 a0 r0) H → va_D A (wX1 K h0 a0 r0) → va_S A s.heap H locs → k2 r0 x1  → W p l e ({ frames := 2, cells := 0, slots := 0, locals := 101 } : Room) s m args below meth c H locs 0 0 (MQ below (va_Qv (fun (u : (zS)) => post u) (fun (u : (zS)) t => va_P D vwCl (wX1 K h0 a0 u) t.heap) A) args s 0 0 A) (F0 m 2 ls [])) : ∀ (r0 : zS) (x1 : Int32) (H : Heap) (locs : List Loc) (ls : Array Slot), lv_has ls 3 [(0, .ref h0), (1, .int x1)] → va_P D vwCl (wX1 K h0 a0 r0) H → va_D A (wX1 K h0 a0 r0) → va_S A s.heap H locs → wp_X1_link_88  post k2 r0 x1 → W p l e ({ frames := 2, cells := 0, slots := 0, locals := 101 } : Room) s m args below meth c H locs 0 0 (MQ below (va_Qv (fun (u : (zS)) => post u) (fun (u : (zS)) t => va_P D vwCl (wX1 K h0 a0 u) t.heap) A) args s 0 0 A) (F0 m 88 ls []) := by
  obtain ⟨hx, hb, hr, hml, hown, hts, hlocks, hK, hT⟩ := id C
  intro r0 x1 H locs ls hl hP hD hS h
  unfold wp_X1_link_88 at h
  obtain ⟨v4, ev4⟩ : ∃ y : Int32, y = x1 + (1 : Int32) := ⟨_, rfl⟩
  replace h := h v4 ev4
  refine lv_iinc (v := v4) (lv' := [(1, .int v4), (0, .ref h0)]) hx hb dX1_link_88 hl (k := 1) rfl (by rw [ev4]; rfl) (by decide) rfl (fun ls hl => ?_)
  refine lv_goto (tgt := 2) hx hb dX1_link_91 (by decide) ?_
  exact hk2 _ _ _ _ _ (lv_sub hl [1, 0] rfl) hP hD hS h
set_option maxHeartbeats 4000000 in
set_option maxRecDepth 100000 in
theorem t_X1_link_82 {p : Program} {l : Launch} {e : Env} {s : State} {m : MethodId} {args : Array Value} {below : List Frame} {meth : Method} {c : Code} {D : va_G} {K : Nat → ClassId} {h0 : Nat} {a0 : Nat → Nat} {post : (zS) → Prop} {A : Nat → Prop} (C : xC p s m args meth c cX1_link RX1 3 none D vwCl (xty K)) (hA : ∀ q, s.heap.size ≤ q → A q) {k2 : (zS) → Int32 → Prop} (hk2 : ∀ (r0 : zS) (x1 : Int32) (H : Heap) (locs : List Loc) (ls : Array Slot), lv_has ls 3 [(0, .ref h0), (1, .int x1)] → va_P D vwCl (wX1 K h0 a0 r0) H → va_D A (wX1 K h0 a0 r0) → va_S A s.heap H locs → k2 r0 x1  → W p l e ({ frames := 2, cells := 0, slots := 0, locals := 101 } : Room) s m args below meth c H locs 0 0 (MQ below (va_Qv (fun (u : (zS)) => post u) (fun (u : (zS)) t => va_P D vwCl (wX1 K h0 a0 u) t.heap) A) args s 0 0 A) (F0 m 2 ls [])) {k25 : (zS) → Int32 → Int32 → Prop} (hk25 : ∀ (r0 : zS) (x1 : Int32) (x2 : Int32) (H : Heap) (locs : List Loc) (ls : Array Slot), lv_has ls 3 [(0, .ref h0), (1, .int x1), (2, .int x2)] → va_P D vwCl (wX1 K h0 a0 r0) H → va_D A (wX1 K h0 a0 r0) → va_S A s.heap H locs → k25 r0 x1 x2  → W p l e ({ frames := 2, cells := 0, slots := 0, locals := 101 } : Room) s m args below meth c H locs 0 0 (MQ below (va_Qv (fun (u : (zS)) => post u) (fun (u : (zS)) t => va_P D vwCl (wX1 K h0 a0 u) t.heap) A) args s 0 0 A) (F0 m 25 ls [])) : ∀ (r0 : zS) (x1 : Int32) (x2 : Int32) (H : Heap) (locs : List Loc) (ls : Array Slot), lv_has ls 3 [(0, .ref h0), (1, .int x1), (2, .int x2)] → va_P D vwCl (wX1 K h0 a0 r0) H → va_D A (wX1 K h0 a0 r0) → va_S A s.heap H locs → wp_X1_link_82  post k2 k25 r0 x1 x2 → W p l e ({ frames := 2, cells := 0, slots := 0, locals := 101 } : Room) s m args below meth c H locs 0 0 (MQ below (va_Qv (fun (u : (zS)) => post u) (fun (u : (zS)) t => va_P D vwCl (wX1 K h0 a0 u) t.heap) A) args s 0 0 A) (F0 m 82 ls []) := by
  obtain ⟨hx, hb, hr, hml, hown, hts, hlocks, hK, hT⟩ := id C
  intro r0 x1 x2 H locs ls hl hP hD hS h
  unfold wp_X1_link_82 at h
  obtain ⟨v8, ev8⟩ : ∃ y : Int32, y = x2 + (1 : Int32) := ⟨_, rfl⟩
  replace h := h v8 ev8
  refine lv_iinc (v := v8) (lv' := [(2, .int v8), (0, .ref h0), (1, .int x1)]) hx hb dX1_link_82 hl (k := 2) rfl (by rw [ev8]; rfl) (by decide) rfl (fun ls hl => ?_)
  refine lv_goto (tgt := 25) hx hb dX1_link_85 (by decide) ?_
  exact hk25 _ _ _ _ _ _ (lv_sub hl [1, 2, 0] rfl) hP hD hS h
set_option maxHeartbeats 4000000 in
set_option maxRecDepth 100000 in
theorem t_X1_link_25 {p : Program} {l : Launch} {e : Env} {s : State} {m : MethodId} {args : Array Value} {below : List Frame} {meth : Method} {c : Code} {D : va_G} {K : Nat → ClassId} {h0 : Nat} {a0 : Nat → Nat} {post : (zS) → Prop} {A : Nat → Prop} (C : xC p s m args meth c cX1_link RX1 3 none D vwCl (xty K)) (hA : ∀ q, s.heap.size ≤ q → A q) {k2 : (zS) → Int32 → Prop} (hk2 : ∀ (r0 : zS) (x1 : Int32) (H : Heap) (locs : List Loc) (ls : Array Slot), lv_has ls 3 [(0, .ref h0), (1, .int x1)] → va_P D vwCl (wX1 K h0 a0 r0) H → va_D A (wX1 K h0 a0 r0) → va_S A s.heap H locs → k2 r0 x1  → W p l e ({ frames := 2, cells := 0, slots := 0, locals := 101 } : Room) s m args below meth c H locs 0 0 (MQ below (va_Qv (fun (u : (zS)) => post u) (fun (u : (zS)) t => va_P D vwCl (wX1 K h0 a0 u) t.heap) A) args s 0 0 A) (F0 m 2 ls [])) : ∀ (n : Nat) (r0 : zS) (x1 : Int32) (x2 : Int32) (H : Heap) (locs : List Loc) (ls : Array Slot), lv_has ls 3 [(0, .ref h0), (1, .int x1), (2, .int x2)] → va_P D vwCl (wX1 K h0 a0 r0) H → va_D A (wX1 K h0 a0 r0) → va_S A s.heap H locs → wp_X1_link_25  post k2 n r0 x1 x2 → W p l e ({ frames := 2, cells := 0, slots := 0, locals := 101 } : Room) s m args below meth c H locs 0 0 (MQ below (va_Qv (fun (u : (zS)) => post u) (fun (u : (zS)) t => va_P D vwCl (wX1 K h0 a0 u) t.heap) A) args s 0 0 A) (F0 m 25 ls []) := by
  obtain ⟨hx, hb, hr, hml, hown, hts, hlocks, hK, hT⟩ := id C
  intro n
  induction n with
  | zero =>
    intro r0 x1 x2 H locs ls hl hP hD hS h
    exact False.elim h
  | succ n ihn =>
    intro r0 x1 x2 H locs ls hl hP hD hS h
    rw [wu_X1_link_25] at h
    unfold wb_X1_link_25 at h
    refine lv_iload_n hx hb dX1_link_25 rfl (lv_at hl 2 rfl) ?_
    refine lv_aload_n hx hb dX1_link_26 rfl (lv_at hl 0 rfl) ?_
    refine va_get (D := D) (ci := 1) (v := .int (r0.1 1)) (C := RX1) (T := TX1) (N := 10) hx hb hts inlX1 hown hK hP 0 rfl rfl 1 (by decide) (hts (.fieldLink RX1 15 "UnderTheDesks$Room" "count" "I") mw_52) (fun _ h9 => h9) rfl dX1_link_27 ?_
    refine lv_icmp_ge (tgt := 88) hx hb dX1_link_30 (by decide) (fun c3 => ?_) (fun c3 => ?_)
    · replace h := And.left h c3
      exact t_X1_link_88 C hA hk2 _ _ _ _ _ (lv_sub hl [0, 1] rfl) hP hD hS h
    · replace h := And.right h c3
      refine lv_iload_n hx hb dX1_link_33 rfl (lv_at hl 2 rfl) ?_
      refine lv_bipush (v := 12) hx hb dX1_link_34 (by decide) ?_
      refine lv_icmp_ge (tgt := 88) hx hb dX1_link_36 (by decide) (fun c5 => ?_) (fun c5 => ?_)
      · replace h := And.left h c5
        exact t_X1_link_88 C hA hk2 _ _ _ _ _ (lv_sub hl [0, 1] rfl) hP hD hS h
      · replace h := And.right h c5
        refine lv_aload_n hx hb dX1_link_39 rfl (lv_at hl 0 rfl) ?_
        refine va_get (D := D) (ci := 1) (v := .ref (a0 6)) (C := RX1) (T := TX1) (N := 10) hx hb hts inlX1 hown hK hP 0 rfl rfl 6 (by decide) (hts (.fieldLink RX1 31 "UnderTheDesks$Room" "desks" "[I") mw_57) (fun _ h9 => h9) rfl dX1_link_40 ?_
        refine lv_iload_n hx hb dX1_link_43 rfl (lv_at hl 1 rfl) ?_
        have hin := And.left h
        replace h := And.right h
        refine va_iald hx hb hK hP 2 0 rfl rfl hin dX1_link_44 ?_
        refine lv_aload_n hx hb dX1_link_45 rfl (lv_at hl 0 rfl) ?_
        refine va_get (D := D) (ci := 1) (v := .ref (a0 6)) (C := RX1) (T := TX1) (N := 10) hx hb hts inlX1 hown hK hP 0 rfl rfl 6 (by decide) (hts (.fieldLink RX1 31 "UnderTheDesks$Room" "desks" "[I") mw_57) (fun _ h9 => h9) rfl dX1_link_46 ?_
        refine lv_iload_n hx hb dX1_link_49 rfl (lv_at hl 2 rfl) ?_
        have hin := And.left h
        replace h := And.right h
        refine va_iald hx hb hK hP 2 0 rfl rfl hin dX1_link_50 ?_
        refine xend_ro_i (xRunS (wc := ([] : va_W)) (As := [.int (r0.2.1 6 x1.toNatClampNeg), .int (r0.2.1 6 x2.toNatClampNeg)]) (rest := []) C (c_X1_areBeside h) k_X1_areBeside mw_401 ⟨rfl, rfl⟩ ⟨Nat.le_of_ble_eq_true rfl, Nat.le_of_ble_eq_true rfl⟩ hP hD [] rfl rfl hl rfl rfl (Nat.le_of_ble_eq_true rfl) dX1_link_51 ⟨Nat.le_refl _, Nat.le_refl _⟩) (fun v6 h => ?_)
        refine lv_if_eq (tgt := 82) hx hb dX1_link_54 (by decide) (fun c7 => ?_) (fun c7 => ?_)
        · replace h := And.left h c7
          exact t_X1_link_82 C hA hk2 ihn _ _ _ _ _ _ (lv_sub hl [0, 1, 2] rfl) hP hD hS h
        · replace h := And.right h c7
          refine lv_aload_n hx hb dX1_link_57 rfl (lv_at hl 0 rfl) ?_
          refine va_get (D := D) (ci := 1) (v := .ref (a0 8)) (C := RX1) (T := TX1) (N := 10) hx hb hts inlX1 hown hK hP 0 rfl rfl 8 (by decide) (hts (.fieldLink RX1 37 "UnderTheDesks$Room" "barred" "[I") mw_59) (fun _ h9 => h9) rfl dX1_link_58 ?_
          refine lv_iload_n hx hb dX1_link_61 rfl (lv_at hl 1 rfl) ?_
          have hin := And.left h
          replace h := And.right h
          refine va_iald hx hb hK hP 4 0 rfl rfl hin dX1_link_62 ?_
          refine lv_iload_n hx hb dX1_link_63 rfl (lv_at hl 2 rfl) ?_
          refine lv_ishr hx hb dX1_link_64 ?_
          refine lv_iconst (v := 1) hx hb dX1_link_65 (by decide) ?_
          refine lv_iand hx hb dX1_link_66 ?_
          refine lv_if_ne (tgt := 82) hx hb dX1_link_67 (by decide) (fun c9 => ?_) (fun c9 => ?_)
          · replace h := And.right h c9
            exact t_X1_link_82 C hA hk2 ihn _ _ _ _ _ _ (lv_sub hl [0, 1, 2] rfl) hP hD hS h
          · replace h := And.left h c9
            refine lv_aload_n hx hb dX1_link_70 rfl (lv_at hl 0 rfl) ?_
            refine va_get (D := D) (ci := 1) (v := .ref (a0 9)) (C := RX1) (T := TX1) (N := 10) hx hb hts inlX1 hown hK hP 0 rfl rfl 9 (by decide) (hts (.fieldLink RX1 40 "UnderTheDesks$Room" "near" "[I") mw_60) (fun _ h9 => h9) rfl dX1_link_71 ?_
            refine lv_iload_n hx hb dX1_link_74 rfl (lv_at hl 1 rfl) ?_
            refine lv_dup2_11 hx hb dX1_link_75 rfl rfl ?_
            have hin := And.left h
            replace h := And.right h
            refine va_iald hx hb hK hP 5 0 rfl rfl hin dX1_link_76 ?_
            refine lv_iconst (v := 1) hx hb dX1_link_77 (by decide) ?_
            refine lv_iload_n hx hb dX1_link_78 rfl (lv_at hl 2 rfl) ?_
            refine lv_ishl hx hb dX1_link_79 ?_
            refine lv_ior hx hb dX1_link_80 ?_
            refine lv_topi (fun v10 ev10 => ?_)
            replace h := h v10 ev10
            have hin := And.left h
            replace h := And.right h
            refine va_iast hx hb hK hP hD hS 5 0 rfl rfl hin dX1_link_81 (fun H locs hP hD hS => ?_)
            replace hP : va_P D vwCl (wX1 K h0 a0 (zA r0 9 x1.toNatClampNeg v10)) H := hP
            replace hD : va_D A (wX1 K h0 a0 (zA r0 9 x1.toNatClampNeg v10)) := hD
            exact t_X1_link_82 C hA hk2 ihn _ _ _ _ _ _ (lv_sub hl [0, 1, 2] rfl) hP hD hS h
set_option maxHeartbeats 4000000 in
set_option maxRecDepth 100000 in
theorem t_X1_link_2 {p : Program} {l : Launch} {e : Env} {s : State} {m : MethodId} {args : Array Value} {below : List Frame} {meth : Method} {c : Code} {D : va_G} {K : Nat → ClassId} {h0 : Nat} {a0 : Nat → Nat} {post : (zS) → Prop} {A : Nat → Prop} (C : xC p s m args meth c cX1_link RX1 3 none D vwCl (xty K)) (hA : ∀ q, s.heap.size ≤ q → A q) : ∀ (n : Nat) (r0 : zS) (x1 : Int32) (H : Heap) (locs : List Loc) (ls : Array Slot), lv_has ls 3 [(0, .ref h0), (1, .int x1)] → va_P D vwCl (wX1 K h0 a0 r0) H → va_D A (wX1 K h0 a0 r0) → va_S A s.heap H locs → wp_X1_link_2  post n r0 x1 → W p l e ({ frames := 2, cells := 0, slots := 0, locals := 101 } : Room) s m args below meth c H locs 0 0 (MQ below (va_Qv (fun (u : (zS)) => post u) (fun (u : (zS)) t => va_P D vwCl (wX1 K h0 a0 u) t.heap) A) args s 0 0 A) (F0 m 2 ls []) := by
  obtain ⟨hx, hb, hr, hml, hown, hts, hlocks, hK, hT⟩ := id C
  intro n
  induction n with
  | zero =>
    intro r0 x1 H locs ls hl hP hD hS h
    exact False.elim h
  | succ n ihn =>
    intro r0 x1 H locs ls hl hP hD hS h
    rw [wu_X1_link_2] at h
    unfold wb_X1_link_2 at h
    refine lv_iload_n hx hb dX1_link_2 rfl (lv_at hl 1 rfl) ?_
    refine lv_aload_n hx hb dX1_link_3 rfl (lv_at hl 0 rfl) ?_
    refine va_get (D := D) (ci := 1) (v := .int (r0.1 1)) (C := RX1) (T := TX1) (N := 10) hx hb hts inlX1 hown hK hP 0 rfl rfl 1 (by decide) (hts (.fieldLink RX1 15 "UnderTheDesks$Room" "count" "I") mw_52) (fun _ h9 => h9) rfl dX1_link_4 ?_
    refine lv_icmp_ge (tgt := 94) hx hb dX1_link_7 (by decide) (fun c1 => ?_) (fun c1 => ?_)
    · replace h := And.left h c1
      exact xrw_v C r0 h hP hS dX1_link_94
    · replace h := And.right h c1
      refine lv_iload_n hx hb dX1_link_10 rfl (lv_at hl 1 rfl) ?_
      refine lv_bipush (v := 12) hx hb dX1_link_11 (by decide) ?_
      refine lv_icmp_ge (tgt := 94) hx hb dX1_link_13 (by decide) (fun c2 => ?_) (fun c2 => ?_)
      · replace h := And.left h c2
        exact xrw_v C r0 h hP hS dX1_link_94
      · replace h := And.right h c2
        refine lv_aload_n hx hb dX1_link_16 rfl (lv_at hl 0 rfl) ?_
        refine va_get (D := D) (ci := 1) (v := .ref (a0 9)) (C := RX1) (T := TX1) (N := 10) hx hb hts inlX1 hown hK hP 0 rfl rfl 9 (by decide) (hts (.fieldLink RX1 40 "UnderTheDesks$Room" "near" "[I") mw_60) (fun _ h9 => h9) rfl dX1_link_17 ?_
        refine lv_iload_n hx hb dX1_link_20 rfl (lv_at hl 1 rfl) ?_
        refine lv_iconst (v := 0) hx hb dX1_link_21 (by decide) ?_
        have hin := And.left h
        replace h := And.right h
        refine va_iast hx hb hK hP hD hS 5 0 rfl rfl hin dX1_link_22 (fun H locs hP hD hS => ?_)
        replace hP : va_P D vwCl (wX1 K h0 a0 (zA r0 9 x1.toNatClampNeg (0 : Int32))) H := hP
        replace hD : va_D A (wX1 K h0 a0 (zA r0 9 x1.toNatClampNeg (0 : Int32))) := hD
        refine lv_iconst (v := 0) hx hb dX1_link_23 (by decide) ?_
        refine lv_istore_n (lv' := [(2, .int (0 : Int32)), (0, .ref h0), (1, .int x1)]) hx hb dX1_link_24 rfl hl (by decide) rfl (fun ls hl => ?_)
        obtain ⟨n0, h⟩ := h
        exact t_X1_link_25 C hA ihn n0 _ _ _ _ _ _ (lv_sub hl [1, 2, 0] rfl) hP hD hS h
set_option maxHeartbeats 4000000 in
set_option maxRecDepth 100000 in
theorem c_X1_link {l : Launch} {D : va_G} {K : Nat → ClassId} {h0 : Nat} {a0 : Nat → Nat} {r0 : zS}  {sz : Nat} {post : (zS) → Prop}  (h : wp_X1_link r0 post) : Met l yX1_link (Cond.code yX1_link cX1_link 3 none :: wsL_law) ({ frames := 2, cells := 0, slots := 0, locals := 101 } : Room) (va_Pc [.ref h0] (xPre D vwCl (xty K) (wX1 K h0 a0 r0) sz)) (va_Qv (fun (u : (zS)) => post u) (fun (u : (zS)) t => va_P D vwCl (wX1 K h0 a0 u) t.heap) (va_A (wX1 K h0 a0 r0) sz)) 0 0 (va_A (wX1 K h0 a0 r0) sz) := by
  refine xMet (by decide) rfl (Nat.le_of_ble_eq_true rfl) (fun p e s m args below meth c C hnm hP hD hsz ls hl => ?_)
  have hl : lv_has ls 3 [(0, .ref h0)] := hl
  obtain ⟨hx, hb, hr, hml, hown, hts, hlocks, hK, hT⟩ := id C
  subst hsz
  generalize hAe : va_A (wX1 K h0 a0 r0) s.heap.size = A at hD ⊢
  have hA : ∀ q : Nat, s.heap.size ≤ q → A q := fun q h => by rw [← hAe]; exact Or.inr h
  have hS : va_S A s.heap s.heap [] := va_S.rf
  have hP : va_P D vwCl (wX1 K h0 a0 r0) s.heap := hP
  unfold wp_X1_link at h
  refine lv_iconst (v := 0) hx hb dX1_link_0 (by decide) ?_
  refine lv_istore_n (lv' := [(1, .int (0 : Int32)), (0, .ref h0)]) hx hb dX1_link_1 rfl hl (by decide) rfl (fun ls hl => ?_)
  obtain ⟨n0, h⟩ := h
  exact t_X1_link_2 C hA n0 _ _ _ _ _ (lv_sub hl [1, 0] rfl) hP hD hS h

def wp_X1_seat (r0 : zS) (p1 : Int32) (p2 : Int32) (p3 : Int32) (post : Int32 → (zS) → Prop) : Prop :=
  ((r0.1 1) < 0 → post (-1 : Int32) r0) ∧ (¬ (r0.1 1) < 0 → ((r0.1 1) < (12 : Int32) → ∀ v3 : Int32, v3 = (r0.1 1) → ∀ v4 : Int32, v4 = ((r0.1 1) + (1 : Int32)) → vp_in v3 12 ∧ (vp_in v3 12 ∧ (vp_in v3 12 ∧ (vp_in v3 12 ∧ (wp_X1_link (zA (zA (zA (zA (zI r0 1 v4) 5 v3.toNatClampNeg p1) 6 v3.toNatClampNeg p2) 7 v3.toNatClampNeg p3) 8 v3.toNatClampNeg (0 : Int32)) (fun s6 => post v3 s6)))))) ∧ (¬ (r0.1 1) < (12 : Int32) → post (-1 : Int32) r0))
set_option maxHeartbeats 4000000 in
set_option maxRecDepth 100000 in
theorem c_X1_seat {l : Launch} {D : va_G} {K : Nat → ClassId} {h0 : Nat} {a0 : Nat → Nat} {r0 : zS} {p1 : Int32} {p2 : Int32} {p3 : Int32} {sz : Nat} {post : Int32 → (zS) → Prop}  (h : wp_X1_seat r0 p1 p2 p3 post) : Met l yX1_seat (Cond.code yX1_seat cX1_seat 5 (some .int) :: wsL_law) ({ frames := 3, cells := 0, slots := 0, locals := 123 } : Room) (va_Pc [.ref h0, .int p1, .int p2, .int p3] (xPre D vwCl (xty K) (wX1 K h0 a0 r0) sz)) (va_Qi (fun r (u : (zS)) => post r u) (fun (u : (zS)) t => va_P D vwCl (wX1 K h0 a0 u) t.heap) (va_A (wX1 K h0 a0 r0) sz)) 0 0 (va_A (wX1 K h0 a0 r0) sz) := by
  refine xMet (by decide) rfl (Nat.le_of_ble_eq_true rfl) (fun p e s m args below meth c C hnm hP hD hsz ls hl => ?_)
  have hl : lv_has ls 5 [(0, .ref h0), (1, .int p1), (2, .int p2), (3, .int p3)] := hl
  obtain ⟨hx, hb, hr, hml, hown, hts, hlocks, hK, hT⟩ := id C
  subst hsz
  generalize hAe : va_A (wX1 K h0 a0 r0) s.heap.size = A at hD ⊢
  have hA : ∀ q : Nat, s.heap.size ≤ q → A q := fun q h => by rw [← hAe]; exact Or.inr h
  have hS : va_S A s.heap s.heap [] := va_S.rf
  have hP : va_P D vwCl (wX1 K h0 a0 r0) s.heap := hP
  unfold wp_X1_seat at h
  refine lv_aload_n hx hb dX1_seat_0 rfl (lv_at hl 0 rfl) ?_
  refine va_get (D := D) (ci := 1) (v := .int (r0.1 1)) (C := RX1) (T := TX1) (N := 10) hx hb hts inlX1 hown hK hP 0 rfl rfl 1 (by decide) (hts (.fieldLink RX1 15 "UnderTheDesks$Room" "count" "I") mw_52) (fun _ h9 => h9) rfl dX1_seat_1 ?_
  refine lv_if_lt (tgt := 16) hx hb dX1_seat_4 (by decide) (fun c1 => ?_) (fun c1 => ?_)
  · replace h := And.left h c1
    refine lv_iconst (v := -1) hx hb dX1_seat_16 (by decide) ?_
    exact xrw_i C r0 h hP hS dX1_seat_17
  · replace h := And.right h c1
    refine lv_aload_n hx hb dX1_seat_7 rfl (lv_at hl 0 rfl) ?_
    refine va_get (D := D) (ci := 1) (v := .int (r0.1 1)) (C := RX1) (T := TX1) (N := 10) hx hb hts inlX1 hown hK hP 0 rfl rfl 1 (by decide) (hts (.fieldLink RX1 15 "UnderTheDesks$Room" "count" "I") mw_52) (fun _ h9 => h9) rfl dX1_seat_8 ?_
    refine lv_bipush (v := 12) hx hb dX1_seat_11 (by decide) ?_
    refine lv_icmp_lt (tgt := 18) hx hb dX1_seat_13 (by decide) (fun c2 => ?_) (fun c2 => ?_)
    · replace h := And.left h c2
      refine lv_aload_n hx hb dX1_seat_18 rfl (lv_at hl 0 rfl) ?_
      refine va_get (D := D) (ci := 1) (v := .int (r0.1 1)) (C := RX1) (T := TX1) (N := 10) hx hb hts inlX1 hown hK hP 0 rfl rfl 1 (by decide) (hts (.fieldLink RX1 15 "UnderTheDesks$Room" "count" "I") mw_52) (fun _ h9 => h9) rfl dX1_seat_19 ?_
      refine lv_topi (fun v3 ev3 => ?_)
      replace h := h v3 ev3
      refine lv_istore (lv' := [(4, .int v3), (0, .ref h0), (1, .int p1), (2, .int p2), (3, .int p3)]) hx hb dX1_seat_22 hl (by decide) rfl (fun ls hl => ?_)
      refine lv_aload_n hx hb dX1_seat_24 rfl (lv_at hl 1 rfl) ?_
      refine lv_dup hx hb dX1_seat_25 rfl ?_
      refine va_get (D := D) (ci := 1) (v := .int (r0.1 1)) (C := RX1) (T := TX1) (N := 10) hx hb hts inlX1 hown hK hP 0 rfl rfl 1 (by decide) (hts (.fieldLink RX1 15 "UnderTheDesks$Room" "count" "I") mw_52) (fun _ h9 => h9) rfl dX1_seat_26 ?_
      refine lv_iconst (v := 1) hx hb dX1_seat_29 (by decide) ?_
      refine lv_iadd hx hb dX1_seat_30 ?_
      refine lv_topi (fun v4 ev4 => ?_)
      replace h := h v4 ev4
      refine va_put (D := D) (ci := 1) (v := .int v4) (ty := .int) (C := RX1) (T := TX1) (N := 10) hx hb hts inlX1 tyX1 tyX1_ok nmX1 hown hK hP hD hS 0 rfl rfl 1 (by decide) (hts (.fieldLink RX1 15 "UnderTheDesks$Room" "count" "I") mw_52) (fun _ h9 => h9) rfl (by decide +kernel) rfl rfl (Nat.le_of_ble_eq_true rfl) dX1_seat_31 (fun H locs hP hD hS => ?_)
      replace hP : va_P D vwCl (wX1 K h0 a0 (zI r0 1 v4)) H := hP
      replace hD : va_D A (wX1 K h0 a0 (zI r0 1 v4)) := hD
      refine lv_aload_n hx hb dX1_seat_34 rfl (lv_at hl 1 rfl) ?_
      refine va_get (D := D) (ci := 1) (v := .ref (a0 5)) (C := RX1) (T := TX1) (N := 10) hx hb hts inlX1 hown hK hP 0 rfl rfl 5 (by decide) (hts (.fieldLink RX1 27 "UnderTheDesks$Room" "kinds" "[I") mw_56) (fun _ h9 => h9) rfl dX1_seat_35 ?_
      refine lv_iload hx hb dX1_seat_38 (lv_at hl 0 rfl) ?_
      refine lv_iload_n hx hb dX1_seat_40 rfl (lv_at hl 2 rfl) ?_
      have hin := And.left h
      replace h := And.right h
      refine va_iast hx hb hK hP hD hS 1 0 rfl rfl hin dX1_seat_41 (fun H locs hP hD hS => ?_)
      replace hP : va_P D vwCl (wX1 K h0 a0 (zA (zI r0 1 v4) 5 v3.toNatClampNeg p1)) H := hP
      replace hD : va_D A (wX1 K h0 a0 (zA (zI r0 1 v4) 5 v3.toNatClampNeg p1)) := hD
      refine lv_aload_n hx hb dX1_seat_42 rfl (lv_at hl 1 rfl) ?_
      refine va_get (D := D) (ci := 1) (v := .ref (a0 6)) (C := RX1) (T := TX1) (N := 10) hx hb hts inlX1 hown hK hP 0 rfl rfl 6 (by decide) (hts (.fieldLink RX1 31 "UnderTheDesks$Room" "desks" "[I") mw_57) (fun _ h9 => h9) rfl dX1_seat_43 ?_
      refine lv_iload hx hb dX1_seat_46 (lv_at hl 0 rfl) ?_
      refine lv_iload_n hx hb dX1_seat_48 rfl (lv_at hl 3 rfl) ?_
      have hin := And.left h
      replace h := And.right h
      refine va_iast hx hb hK hP hD hS 2 0 rfl rfl hin dX1_seat_49 (fun H locs hP hD hS => ?_)
      replace hP : va_P D vwCl (wX1 K h0 a0 (zA (zA (zI r0 1 v4) 5 v3.toNatClampNeg p1) 6 v3.toNatClampNeg p2)) H := hP
      replace hD : va_D A (wX1 K h0 a0 (zA (zA (zI r0 1 v4) 5 v3.toNatClampNeg p1) 6 v3.toNatClampNeg p2)) := hD
      refine lv_aload_n hx hb dX1_seat_50 rfl (lv_at hl 1 rfl) ?_
      refine va_get (D := D) (ci := 1) (v := .ref (a0 7)) (C := RX1) (T := TX1) (N := 10) hx hb hts inlX1 hown hK hP 0 rfl rfl 7 (by decide) (hts (.fieldLink RX1 34 "UnderTheDesks$Room" "marks" "[I") mw_58) (fun _ h9 => h9) rfl dX1_seat_51 ?_
      refine lv_iload hx hb dX1_seat_54 (lv_at hl 0 rfl) ?_
      refine lv_iload_n hx hb dX1_seat_56 rfl (lv_at hl 4 rfl) ?_
      have hin := And.left h
      replace h := And.right h
      refine va_iast hx hb hK hP hD hS 3 0 rfl rfl hin dX1_seat_57 (fun H locs hP hD hS => ?_)
      replace hP : va_P D vwCl (wX1 K h0 a0 (zA (zA (zA (zI r0 1 v4) 5 v3.toNatClampNeg p1) 6 v3.toNatClampNeg p2) 7 v3.toNatClampNeg p3)) H := hP
      replace hD : va_D A (wX1 K h0 a0 (zA (zA (zA (zI r0 1 v4) 5 v3.toNatClampNeg p1) 6 v3.toNatClampNeg p2) 7 v3.toNatClampNeg p3)) := hD
      refine lv_aload_n hx hb dX1_seat_58 rfl (lv_at hl 1 rfl) ?_
      refine va_get (D := D) (ci := 1) (v := .ref (a0 8)) (C := RX1) (T := TX1) (N := 10) hx hb hts inlX1 hown hK hP 0 rfl rfl 8 (by decide) (hts (.fieldLink RX1 37 "UnderTheDesks$Room" "barred" "[I") mw_59) (fun _ h9 => h9) rfl dX1_seat_59 ?_
      refine lv_iload hx hb dX1_seat_62 (lv_at hl 0 rfl) ?_
      refine lv_iconst (v := 0) hx hb dX1_seat_64 (by decide) ?_
      have hin := And.left h
      replace h := And.right h
      refine va_iast hx hb hK hP hD hS 4 0 rfl rfl hin dX1_seat_65 (fun H locs hP hD hS => ?_)
      replace hP : va_P D vwCl (wX1 K h0 a0 (zA (zA (zA (zA (zI r0 1 v4) 5 v3.toNatClampNeg p1) 6 v3.toNatClampNeg p2) 7 v3.toNatClampNeg p3) 8 v3.toNatClampNeg (0 : Int32))) H := hP
      replace hD : va_D A (wX1 K h0 a0 (zA (zA (zA (zA (zI r0 1 v4) 5 v3.toNatClampNeg p1) 6 v3.toNatClampNeg p2) 7 v3.toNatClampNeg p3) 8 v3.toNatClampNeg (0 : Int32))) := hD
      refine lv_aload_n hx hb dX1_seat_66 rfl (lv_at hl 1 rfl) ?_
      refine xend_rw_v (wf := fun (u : (zS)) => (wX1 K h0 a0 u)) (xRunV (wc := (wX1 K h0 a0 (zA (zA (zA (zA (zI r0 1 v4) 5 v3.toNatClampNeg p1) 6 v3.toNatClampNeg p2) 7 v3.toNatClampNeg p3) 8 v3.toNatClampNeg (0 : Int32)))) (As := []) (rest := []) C (c_X1_link h) k_X1_link mw_397 ⟨rfl, rfl⟩ ⟨Nat.le_of_ble_eq_true rfl, Nat.le_of_ble_eq_true rfl⟩ hP hD [0, 1, 2, 3, 4, 5] rfl rfl rfl rfl hl rfl rfl (Nat.le_of_ble_eq_true rfl) dX1_seat_67 ⟨Nat.le_refl _, Nat.le_refl _⟩) hP hD hS hA [0, 1, 2, 3, 4, 5] rfl rfl (fun _ => rfl) (fun s6 H locs h hP hD hS => ?_)
      replace hP : va_P D vwCl (wX1 K h0 a0 s6) H := hP
      replace hD : va_D A (wX1 K h0 a0 s6) := hD
      refine lv_iload hx hb dX1_seat_70 (lv_at hl 0 rfl) ?_
      exact xrw_i C s6 h hP hS dX1_seat_72
    · replace h := And.right h c2
      refine lv_iconst (v := -1) hx hb dX1_seat_16 (by decide) ?_
      exact xrw_i C r0 h hP hS dX1_seat_17
