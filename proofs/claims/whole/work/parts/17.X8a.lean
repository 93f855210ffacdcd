def wp_X8_refuse (r0 : zS) (p1 : Int32) (post : Int32 → (zS) → Prop) : Prop :=
  vp_in (-p1) 8 ∧ (∀ v1 : Int32, v1 = ((r0.2.1 8 (-p1).toNatClampNeg) + (1 : Int32)) → vp_in (-p1) 8 ∧ (∀ j2 : Nat, j2 = (-p1).toNatClampNeg → post p1 (zA r0 8 j2 v1)))
set_option maxHeartbeats 4000000 in
set_option maxRecDepth 100000 in
theorem c_X8_refuse {l : Launch} {D : va_G} {K : Nat → ClassId} {h0 : Nat} {a0 : Nat → Nat} {n0 : Nat → Option Nat} {la0 : Nat → Nat} {r0 : zS} {p1 : Int32} {sz : Nat} {post : Int32 → (zS) → Prop}   (h : wp_X8_refuse r0 p1 post) : Met l yX8_refuse (Cond.code yX8_refuse cX8_refuse 2 (some .int) :: wsL_law) ({ frames := 0, cells := 0, slots := 0, locals := 0 } : Room) (va_Pc [.ref h0, .int p1] (xPre D vwCl (xty K) (wX8 K h0 a0 n0 la0 r0 ++ (([] : va_W))) sz)) (va_Qi (fun r (u : (zS)) => post r u) (fun (u : (zS)) t => va_P D vwCl (wX8 K h0 a0 n0 la0 u ++ (([] : va_W))) t.heap) (va_A (wX8 K h0 a0 n0 la0 r0 ++ (([] : va_W))) sz)) 0 0 (va_A (wX8 K h0 a0 n0 la0 r0 ++ (([] : va_W))) sz) := by
  refine xMet (by decide) rfl (Nat.le_of_ble_eq_true rfl) (fun p e s m args below meth c C hnm hP hD hsz ls hl => ?_)
  have hl : lv_has ls 2 [(0, .ref h0), (1, .int p1)] := hl
  obtain ⟨hx, hb, hr, hml, hown, hts, hlocks, hK, hT⟩ := id C
  subst hsz
  generalize hAe : va_A (wX8 K h0 a0 n0 la0 r0 ++ (([] : va_W))) s.heap.size = A at hD ⊢
  have hA : ∀ q : Nat, s.heap.size ≤ q → A q := fun q h => by rw [← hAe]; exact Or.inr h
  have hS : va_S A s.heap s.heap [] := va_S.rf
  have hP : va_P D vwCl (wX8 K h0 a0 n0 la0 r0 ++ (([] : va_W))) s.heap := hP
  unfold wp_X8_refuse at h
  refine lv_aload_n hx hb dX8_refuse_0 rfl (lv_at hl 0 rfl) ?_
  refine gX8_8 C hP dX8_refuse_1 ?_
  refine lv_iload_n hx hb dX8_refuse_4 rfl (lv_at hl 1 rfl) ?_
  refine lv_ineg hx hb dX8_refuse_5 ?_
  refine lv_dup2_11 hx hb dX8_refuse_6 rfl rfl ?_
  have hin := And.left h
  replace h := And.right h
  refine lX8_8 C hP hin dX8_refuse_7 ?_
  refine lv_iconst (v := 1) hx hb dX8_refuse_8 (by decide) ?_
  refine lv_iadd hx hb dX8_refuse_9 ?_
  refine lv_topi (fun v1 ev1 => ?_)
  replace h := h v1 ev1
  have hin := And.left h
  obtain ⟨j2, ej2⟩ : ∃ j : Nat, j = (-p1).toNatClampNeg := ⟨_, rfl⟩
  replace h := And.right h j2 ej2
  refine sX8_8 C hP hD hS hin ej2 dX8_refuse_10 (fun H locs hP hD hS => ?_)
  refine lv_iload_n hx hb dX8_refuse_11 rfl (lv_at hl 1 rfl) ?_
  exact xrw_i C (zA r0 8 j2 v1) h hP hS dX8_refuse_12

def wp_X8_in (p0 : Int64) (p2 : Int64) (p4 : Int64) (post : Int32 → Prop) : Prop :=
  ((lg_cmp p0 p2) < 0 → post (0 : Int32) ) ∧ (¬ (lg_cmp p0 p2) < 0 → (0 < (lg_cmp p0 p4) → post (0 : Int32) ) ∧ (¬ 0 < (lg_cmp p0 p4) → post (1 : Int32) ))
set_option maxHeartbeats 4000000 in
set_option maxRecDepth 100000 in
theorem c_X8_in {l : Launch} {D : va_G} {K : Nat → ClassId}  {p0 : Int64} {p2 : Int64} {p4 : Int64} {sz : Nat} {post : Int32 → Prop}   (h : wp_X8_in p0 p2 p4 post) : Met l yX8_in (Cond.code yX8_in cX8_in 6 (some .boolean) :: wsL_law) ({ frames := 0, cells := 0, slots := 0, locals := 0 } : Room) (va_Pc [.long p0, .long p2, .long p4] (xPre D vwCl (xty K) ([] : va_W) sz)) (roI post) 0 0 (fun _ => False) := by
  refine xMet (by decide) rfl (Nat.le_of_ble_eq_true rfl) (fun p e s m args below meth c C hnm hP hD hsz ls hl => ?_)
  have hl : lv_has ls 6 [(0, .long p0), (2, .long p2), (4, .long p4)] := hl
  obtain ⟨hx, hb, hr, hml, hown, hts, hlocks, hK, hT⟩ := id C
  unfold wp_X8_in at h
  refine lv_lload_n hx hb dX8_in_0 rfl (lv_at hl 0 rfl) ?_
  refine lv_lload_n hx hb dX8_in_1 rfl (lv_at hl 1 rfl) ?_
  refine W.lcmp hx hb dX8_in_2 ?_
  refine lv_if_lt (tgt := 17) hx hb dX8_in_3 (by decide) (fun c1 => ?_) (fun c1 => ?_)
  · replace h := And.left h c1
    refine lv_iconst (v := 0) hx hb dX8_in_17 (by decide) ?_
    exact xro_z C rfl h dX8_in_18
  · replace h := And.right h c1
    refine lv_lload_n hx hb dX8_in_6 rfl (lv_at hl 0 rfl) ?_
    refine lv_lload hx hb dX8_in_7 (lv_at hl 2 rfl) ?_
    refine W.lcmp hx hb dX8_in_9 ?_
    refine lv_if_gt (tgt := 17) hx hb dX8_in_10 (by decide) (fun c2 => ?_) (fun c2 => ?_)
    · replace h := And.left h c2
      refine lv_iconst (v := 0) hx hb dX8_in_17 (by decide) ?_
      exact xro_z C rfl h dX8_in_18
    · replace h := And.right h c2
      refine lv_iconst (v := 1) hx hb dX8_in_13 (by decide) ?_
      refine lv_goto (tgt := 18) hx hb dX8_in_14 (by decide) ?_
      exact xro_z C rfl h dX8_in_18

def wp_X8_isPupil (r0 : zS) (p1 : Int64) (post : Int32 → Prop) : Prop :=
  wp_X8_in p1 (0 : Int64) (((r0.1 10) - (1 : Int32)).toInt64) (fun v1 => xbool v1 ∧ post v1 )
set_option maxHeartbeats 4000000 in
set_option maxRecDepth 100000 in
theorem c_X8_isPupil {l : Launch} {D : va_G} {K : Nat → ClassId} {h0 : Nat} {a0 : Nat → Nat} {n0 : Nat → Option Nat} {la0 : Nat → Nat} {r0 : zS} {p1 : Int64} {sz : Nat} {post : Int32 → Prop}   (h : wp_X8_isPupil r0 p1 post) : Met l yX8_isPupil (Cond.code yX8_isPupil cX8_isPupil 3 (some .boolean) :: wsL_law) ({ frames := 1, cells := 0, slots := 0, locals := 25 } : Room) (va_Pc [.ref h0, .long p1] (xPre D vwCl (xty K) (wX8 K h0 a0 n0 la0 r0 ++ (([] : va_W))) sz)) (roI post) 0 0 (fun _ => False) := by
  refine xMet (by decide) rfl (Nat.le_of_ble_eq_true rfl) (fun p e s m args below meth c C hnm hP hD hsz ls hl => ?_)
  have hl : lv_has ls 3 [(0, .ref h0), (1, .long p1)] := hl
  obtain ⟨hx, hb, hr, hml, hown, hts, hlocks, hK, hT⟩ := id C
  unfold wp_X8_isPupil at h
  refine lv_lload_n hx hb dX8_isPupil_0 rfl (lv_at hl 1 rfl) ?_
  refine lv_lconst (v := 0) hx hb dX8_isPupil_1 (by decide) ?_
  refine lv_aload_n hx hb dX8_isPupil_2 rfl (lv_at hl 0 rfl) ?_
  refine gX8_10 C hP dX8_isPupil_3 ?_
  refine lv_iconst (v := 1) hx hb dX8_isPupil_6 (by decide) ?_
  refine lv_isub hx hb dX8_isPupil_7 ?_
  refine lv_i2l hx hb dX8_isPupil_8 rfl ?_
  refine xend_ro_i (xRunS (wc := ([] : va_W)) (As := [.long p1, .long (0 : Int64), .long (((r0.1 10) - (1 : Int32)).toInt64)]) (rest := []) C (c_X8_in h) k_X8_in mw_162 ⟨rfl, rfl⟩ ⟨Nat.le_of_ble_eq_true rfl, Nat.le_of_ble_eq_true rfl⟩ hP hD [] rfl rfl hl rfl rfl (Nat.le_of_ble_eq_true rfl) dX8_isPupil_9 ⟨Nat.le_refl _, Nat.le_refl _⟩) (fun v1 h => ?_)
  exact xro_z C (And.left h) (And.right h) dX8_isPupil_12

def wp_X8_isDesk (r0 : zS) (p1 : Int32) (post : Int32 → Prop) : Prop :=
  wp_X8_in (p1.toInt64) (0 : Int64) ((((4 : Int32) * (r0.1 9)) - (1 : Int32)).toInt64) (fun v1 => xbool v1 ∧ post v1 )
set_option maxHeartbeats 4000000 in
set_option maxRecDepth 100000 in
theorem c_X8_isDesk {l : Launch} {D : va_G} {K : Nat → ClassId} {h0 : Nat} {a0 : Nat → Nat} {n0 : Nat → Option Nat} {la0 : Nat → Nat} {r0 : zS} {p1 : Int32} {sz : Nat} {post : Int32 → Prop}   (h : wp_X8_isDesk r0 p1 post) : Met l yX8_isDesk (Cond.code yX8_isDesk cX8_isDesk 2 (some .boolean) :: wsL_law) ({ frames := 1, cells := 0, slots := 0, locals := 25 } : Room) (va_Pc [.ref h0, .int p1] (xPre D vwCl (xty K) (wX8 K h0 a0 n0 la0 r0 ++ (([] : va_W))) sz)) (roI post) 0 0 (fun _ => False) := by
  refine xMet (by decide) rfl (Nat.le_of_ble_eq_true rfl) (fun p e s m args below meth c C hnm hP hD hsz ls hl => ?_)
  have hl : lv_has ls 2 [(0, .ref h0), (1, .int p1)] := hl
  obtain ⟨hx, hb, hr, hml, hown, hts, hlocks, hK, hT⟩ := id C
  unfold wp_X8_isDesk at h
  refine lv_iload_n hx hb dX8_isDesk_0 rfl (lv_at hl 1 rfl) ?_
  refine lv_i2l hx hb dX8_isDesk_1 rfl ?_
  refine lv_lconst (v := 0) hx hb dX8_isDesk_2 (by decide) ?_
  refine lv_iconst (v := 4) hx hb dX8_isDesk_3 (by decide) ?_
  refine lv_aload_n hx hb dX8_isDesk_4 rfl (lv_at hl 0 rfl) ?_
  refine gX8_9 C hP dX8_isDesk_5 ?_
  refine lv_imul hx hb dX8_isDesk_8 ?_
  refine lv_iconst (v := 1) hx hb dX8_isDesk_9 (by decide) ?_
  refine lv_isub hx hb dX8_isDesk_10 ?_
  refine lv_i2l hx hb dX8_isDesk_11 rfl ?_
  refine xend_ro_i (xRunS (wc := ([] : va_W)) (As := [.long (p1.toInt64), .long (0 : Int64), .long ((((4 : Int32) * (r0.1 9)) - (1 : Int32)).toInt64)]) (rest := []) C (c_X8_in h) k_X8_in mw_162 ⟨rfl, rfl⟩ ⟨Nat.le_of_ble_eq_true rfl, Nat.le_of_ble_eq_true rfl⟩ hP hD [] rfl rfl hl rfl rfl (Nat.le_of_ble_eq_true rfl) dX8_isDesk_12 ⟨Nat.le_refl _, Nat.le_refl _⟩) (fun v1 h => ?_)
  exact xro_z C (And.left h) (And.right h) dX8_isDesk_15

def wp_X8_areTwo (r0 : zS) (p1 : Int32) (p2 : Int32) (post : Int32 → Prop) : Prop :=
  wp_X8_isPupil r0 (p1.toInt64) (fun v1 => (v1 = 0 → post (0 : Int32) ) ∧ (¬ v1 = 0 → wp_X8_isPupil r0 (p2.toInt64) (fun v3 => (v3 = 0 → post (0 : Int32) ) ∧ (¬ v3 = 0 → (p1 = p2 → post (0 : Int32) ) ∧ (¬ p1 = p2 → post (1 : Int32) )))))
set_option maxHeartbeats 4000000 in
set_option maxRecDepth 100000 in
theorem c_X8_areTwo {l : Launch} {D : va_G} {K : Nat → ClassId} {h0 : Nat} {a0 : Nat → Nat} {n0 : Nat → Option Nat} {la0 : Nat → Nat} {r0 : zS} {p1 : Int32} {p2 : Int32} {sz : Nat} {post : Int32 → Prop}   (h : wp_X8_areTwo r0 p1 p2 post) : Met l yX8_areTwo (Cond.code yX8_areTwo cX8_areTwo 3 (some .boolean) :: wsL_law) ({ frames := 2, cells := 0, slots := 0, locals := 47 } : Room) (va_Pc [.ref h0, .int p1, .int p2] (xPre D vwCl (xty K) (wX8 K h0 a0 n0 la0 r0 ++ (([] : va_W))) sz)) (roI post) 0 0 (fun _ => False) := by
  refine xMet (by decide) rfl (Nat.le_of_ble_eq_true rfl) (fun p e s m args below meth c C hnm hP hD hsz ls hl => ?_)
  have hl : lv_has ls 3 [(0, .ref h0), (1, .int p1), (2, .int p2)] := hl
  obtain ⟨hx, hb, hr, hml, hown, hts, hlocks, hK, hT⟩ := id C
  unfold wp_X8_areTwo at h
  refine lv_aload_n hx hb dX8_areTwo_0 rfl (lv_at hl 0 rfl) ?_
  refine lv_iload_n hx hb dX8_areTwo_1 rfl (lv_at hl 1 rfl) ?_
  refine lv_i2l hx hb dX8_areTwo_2 rfl ?_
  refine xend_ro_i (xRunV_id (As := [.long (p1.toInt64)]) (rest := []) C (c_X8_isPupil h) k_X8_isPupil mw_262 ⟨rfl, rfl⟩ ⟨Nat.le_of_ble_eq_true rfl, Nat.le_of_ble_eq_true rfl⟩ hP hD rfl rfl hl rfl rfl (Nat.le_of_ble_eq_true rfl) dX8_areTwo_3 ⟨Nat.le_refl _, Nat.le_refl _⟩) (fun v1 h => ?_)
  refine lv_if_eq (tgt := 27) hx hb dX8_areTwo_6 (by decide) (fun c2 => ?_) (fun c2 => ?_)
  · replace h := And.left h c2
    refine lv_iconst (v := 0) hx hb dX8_areTwo_27 (by decide) ?_
    exact xro_z C rfl h dX8_areTwo_28
  · replace h := And.right h c2
    refine lv_aload_n hx hb dX8_areTwo_9 rfl (lv_at hl 0 rfl) ?_
    refine lv_iload_n hx hb dX8_areTwo_10 rfl (lv_at hl 2 rfl) ?_
    refine lv_i2l hx hb dX8_areTwo_11 rfl ?_
    refine xend_ro_i (xRunV_id (As := [.long (p2.toInt64)]) (rest := []) C (c_X8_isPupil h) k_X8_isPupil mw_262 ⟨rfl, rfl⟩ ⟨Nat.le_of_ble_eq_true rfl, Nat.le_of_ble_eq_true rfl⟩ hP hD rfl rfl hl rfl rfl (Nat.le_of_ble_eq_true rfl) dX8_areTwo_12 ⟨Nat.le_refl _, Nat.le_refl _⟩) (fun v3 h => ?_)
    refine lv_if_eq (tgt := 27) hx hb dX8_areTwo_15 (by decide) (fun c4 => ?_) (fun c4 => ?_)
    · replace h := And.left h c4
      refine lv_iconst (v := 0) hx hb dX8_areTwo_27 (by decide) ?_
      exact xro_z C rfl h dX8_areTwo_28
    · replace h := And.right h c4
      refine lv_iload_n hx hb dX8_areTwo_18 rfl (lv_at hl 1 rfl) ?_
      refine lv_iload_n hx hb dX8_areTwo_19 rfl (lv_at hl 2 rfl) ?_
      refine lv_icmp_eq (tgt := 27) hx hb dX8_areTwo_20 (by decide) (fun c5 => ?_) (fun c5 => ?_)
      · replace h := And.left h c5
        refine lv_iconst (v := 0) hx hb dX8_areTwo_27 (by decide) ?_
        exact xro_z C rfl h dX8_areTwo_28
      · replace h := And.right h c5
        refine lv_iconst (v := 1) hx hb dX8_areTwo_23 (by decide) ?_
        refine lv_goto (tgt := 28) hx hb dX8_areTwo_24 (by decide) ?_
        exact xro_z C rfl h dX8_areTwo_28

def wp_X8_has (p0 : Int32) (p1 : Int32) (post : Int32 → Prop) : Prop :=
  (((p0 >>> (p1 &&& 31)) &&& (1 : Int32)) = 0 → post (0 : Int32) ) ∧ (¬ ((p0 >>> (p1 &&& 31)) &&& (1 : Int32)) = 0 → post (1 : Int32) )
set_option maxHeartbeats 4000000 in
set_option maxRecDepth 100000 in
theorem c_X8_has {l : Launch} {D : va_G} {K : Nat → ClassId}  {p0 : Int32} {p1 : Int32} {sz : Nat} {post : Int32 → Prop}   (h : wp_X8_has p0 p1 post) : Met l yX8_has (Cond.code yX8_has cX8_has 2 (some .boolean) :: wsL_law) ({ frames := 0, cells := 0, slots := 0, locals := 0 } : Room) (va_Pc [.int p0, .int p1] (xPre D vwCl (xty K) ([] : va_W) sz)) (roI post) 0 0 (fun _ => False) := by
  refine xMet (by decide) rfl (Nat.le_of_ble_eq_true rfl) (fun p e s m args below meth c C hnm hP hD hsz ls hl => ?_)
  have hl : lv_has ls 2 [(0, .int p0), (1, .int p1)] := hl
  obtain ⟨hx, hb, hr, hml, hown, hts, hlocks, hK, hT⟩ := id C
  unfold wp_X8_has at h
  refine lv_iload_n hx hb dX8_has_0 rfl (lv_at hl 0 rfl) ?_
  refine lv_iload_n hx hb dX8_has_1 rfl (lv_at hl 1 rfl) ?_
  refine lv_ishr hx hb dX8_has_2 ?_
  refine lv_iconst (v := 1) hx hb dX8_has_3 (by decide) ?_
  refine lv_iand hx hb dX8_has_4 ?_
  refine lv_if_eq (tgt := 12) hx hb dX8_has_5 (by decide) (fun c1 => ?_) (fun c1 => ?_)
  · replace h := And.left h c1
    refine lv_iconst (v := 0) hx hb dX8_has_12 (by decide) ?_
    exact xro_z C rfl h dX8_has_13
  · replace h := And.right h c1
    refine lv_iconst (v := 1) hx hb dX8_has_8 (by decide) ?_
    refine lv_goto (tgt := 13) hx hb dX8_has_9 (by decide) ?_
    exact xro_z C rfl h dX8_has_13

def wb_X8_bits_4 (p0 : Int32) (post : Int32 → Prop) (ih : Int32 → Int32 → Prop) (x1 : Int32) (x2 : Int32) : Prop :=
  (x2 = 0 → post x1 ) ∧ (¬ x2 = 0 → ∀ v2 : Int32, v2 = x1 + (1 : Int32) → ∀ v3 : Int32, v3 = (x2 &&& (x2 - (1 : Int32))) → ih v2 v3)
def wp_X8_bits_4 (p0 : Int32) (post : Int32 → Prop) (n : Nat) : Int32 → Int32 → Prop := Nat.rec (motive := fun _ => Int32 → Int32 → Prop) (fun _ _ => False) (fun _ ih => wb_X8_bits_4 p0 post ih) n
theorem wu_X8_bits_4 (p0 : Int32) (post : Int32 → Prop) (n : Nat) (x1 : Int32) (x2 : Int32) : wp_X8_bits_4 p0 post (n + 1) x1 x2 = wb_X8_bits_4 p0 post (wp_X8_bits_4 p0 post n) x1 x2 := rfl
def wp_X8_bits (p0 : Int32) (post : Int32 → Prop) : Prop :=
  ∃ n : Nat, wp_X8_bits_4 p0 post n (0 : Int32) p0
set_option maxHeartbeats 4000000 in
set_option maxRecDepth 100000 in
theorem t_X8_bits_4 {p : Program} {l : Launch} {e : Env} {s : State} {m : MethodId} {args : Array Value} {below : List Frame} {meth : Method} {c : Code} {D : va_G} {K : Nat → ClassId} {p0 : Int32} {post : Int32 → Prop} (C : xC p s m args meth c cX8_bits RX8 3 (some .int) D vwCl (xty K)) (hP : va_P D vwCl ([] : va_W) s.heap) (hD : va_D (va_A ([] : va_W) s.heap.size) ([] : va_W)) : ∀ (n : Nat) (x1 : Int32) (x2 : Int32) (ls : Array Slot), lv_has ls 3 [(1, .int x1), (2, .int x2)] → wp_X8_bits_4 p0 post n x1 x2 → W p l e ({ frames := 0, cells := 0, slots := 0, locals := 0 } : Room) s m args below meth c s.heap [] 0 0 (MQ below (roI post) args s 0 0 (fun _ => False)) (F0 m 4 ls []) := by
  obtain ⟨hx, hb, hr, hml, hown, hts, hlocks, hK, hT⟩ := id C
  intro n
  induction n with
  | zero =>
    intro x1 x2 ls hl h
    exact False.elim h
  | succ n ihn =>
    intro x1 x2 ls hl h
    rw [wu_X8_bits_4] at h
    unfold wb_X8_bits_4 at h
    refine lv_iload_n hx hb dX8_bits_4 rfl (lv_at hl 1 rfl) ?_
    refine lv_if_eq (tgt := 20) hx hb dX8_bits_5 (by decide) (fun c1 => ?_) (fun c1 => ?_)
    · replace h := And.left h c1
      refine lv_iload_n hx hb dX8_bits_20 rfl (lv_at hl 0 rfl) ?_
      exact xro_i C h dX8_bits_21
    · replace h := And.right h c1
      obtain ⟨v2, ev2⟩ : ∃ y : Int32, y = x1 + (1 : Int32) := ⟨_, rfl⟩
      replace h := h v2 ev2
      refine lv_iinc (v := v2) (lv' := [(1, .int v2), (2, .int x2)]) hx hb dX8_bits_8 hl (k := 0) rfl (by rw [ev2]; rfl) (by decide) rfl (fun ls hl => ?_)
      refine lv_iload_n hx hb dX8_bits_11 rfl (lv_at hl 1 rfl) ?_
      refine lv_iload_n hx hb dX8_bits_12 rfl (lv_at hl 1 rfl) ?_
      refine lv_iconst (v := 1) hx hb dX8_bits_13 (by decide) ?_
      refine lv_isub hx hb dX8_bits_14 ?_
      refine lv_iand hx hb dX8_bits_15 ?_
      refine lv_topi (fun v3 ev3 => ?_)
      replace h := h v3 ev3
      refine lv_istore_n (lv' := [(2, .int v3), (1, .int v2)]) hx hb dX8_bits_16 rfl hl (by decide) rfl (fun ls hl => ?_)
      refine lv_goto (tgt := 4) hx hb dX8_bits_17 (by decide) ?_
      exact ihn _ _ _ (lv_sub hl [1, 0] rfl) h
set_option maxHeartbeats 4000000 in
set_option maxRecDepth 100000 in
theorem c_X8_bits {l : Launch} {D : va_G} {K : Nat → ClassId}  {p0 : Int32} {sz : Nat} {post : Int32 → Prop}   (h : wp_X8_bits p0 post) : Met l yX8_bits (Cond.code yX8_bits cX8_bits 3 (some .int) :: wsL_law) ({ frames := 0, cells := 0, slots := 0, locals := 0 } : Room) (va_Pc [.int p0] (xPre D vwCl (xty K) ([] : va_W) sz)) (roI post) 0 0 (fun _ => False) := by
  refine xMet (by decide) rfl (Nat.le_of_ble_eq_true rfl) (fun p e s m args below meth c C hnm hP hD hsz ls hl => ?_)
  have hl : lv_has ls 3 [(0, .int p0)] := hl
  obtain ⟨hx, hb, hr, hml, hown, hts, hlocks, hK, hT⟩ := id C
  unfold wp_X8_bits at h
  refine lv_iconst (v := 0) hx hb dX8_bits_0 (by decide) ?_
  refine lv_istore_n (lv' := [(1, .int (0 : Int32)), (0, .int p0)]) hx hb dX8_bits_1 rfl hl (by decide) rfl (fun ls hl => ?_)
  refine lv_iload_n hx hb dX8_bits_2 rfl (lv_at hl 1 rfl) ?_
  refine lv_istore_n (lv' := [(2, .int p0), (1, .int (0 : Int32)), (0, .int p0)]) hx hb dX8_bits_3 rfl hl (by decide) rfl (fun ls hl => ?_)
  obtain ⟨n0, h⟩ := h
  exact t_X8_bits_4 C hP hD n0 _ _ _ (lv_sub hl [1, 0] rfl) h

def wb_X8_sitting_2 (r0 : zS) (p1 : Int32) (post : Int32 → Prop) (ih : Int32 → Prop) (x2 : Int32) : Prop :=
  ((r0.1 10) ≤ x2 → post (-1 : Int32) ) ∧ (¬ (r0.1 10) ≤ x2 → vp_in x2 12 ∧ (((r0.2.1 12 x2.toNatClampNeg) = p1 → post x2 ) ∧ (¬ (r0.2.1 12 x2.toNatClampNeg) = p1 → ∀ v3 : Int32, v3 = x2 + (1 : Int32) → ih v3)))
def wp_X8_sitting_2 (r0 : zS) (p1 : Int32) (post : Int32 → Prop) (n : Nat) : Int32 → Prop := Nat.rec (motive := fun _ => Int32 → Prop) (fun _ => False) (fun _ ih => wb_X8_sitting_2 r0 p1 post ih) n
theorem wu_X8_sitting_2 (r0 : zS) (p1 : Int32) (post : Int32 → Prop) (n : Nat) (x2 : Int32) : wp_X8_sitting_2 r0 p1 post (n + 1) x2 = wb_X8_sitting_2 r0 p1 post (wp_X8_sitting_2 r0 p1 post n) x2 := rfl
def wp_X8_sitting (r0 : zS) (p1 : Int32) (post : Int32 → Prop) : Prop :=
  ∃ n : Nat, wp_X8_sitting_2 r0 p1 post n (0 : Int32)
set_option maxHeartbeats 4000000 in
set_option maxRecDepth 100000 in
theorem t_X8_sitting_2 {p : Program} {l : Launch} {e : Env} {s : State} {m : MethodId} {args : Array Value} {below : List Frame} {meth : Method} {c : Code} {D : va_G} {K : Nat → ClassId} {h0 : Nat} {a0 : Nat → Nat} {n0 : Nat → Option Nat} {la0 : Nat → Nat} {r0 : zS} {p1 : Int32} {post : Int32 → Prop} (C : xC p s m args meth c cX8_sitting RX8 3 (some .int) D vwCl (xty K)) (hP : va_P D vwCl (wX8 K h0 a0 n0 la0 r0 ++ (([] : va_W))) s.heap) (hD : va_D (va_A (wX8 K h0 a0 n0 la0 r0 ++ (([] : va_W))) s.heap.size) (wX8 K h0 a0 n0 la0 r0 ++ (([] : va_W)))) : ∀ (n : Nat) (x2 : Int32) (ls : Array Slot), lv_has ls 3 [(0, .ref h0), (1, .int p1), (2, .int x2)] → wp_X8_sitting_2 r0 p1 post n x2 → W p l e ({ frames := 0, cells := 0, slots := 0, locals := 0 } : Room) s m args below meth c s.heap [] 0 0 (MQ below (roI post) args s 0 0 (fun _ => False)) (F0 m 2 ls []) := by
  obtain ⟨hx, hb, hr, hml, hown, hts, hlocks, hK, hT⟩ := id C
  intro n
  induction n with
  | zero =>
    intro x2 ls hl h
    exact False.elim h
  | succ n ihn =>
    intro x2 ls hl h
    rw [wu_X8_sitting_2] at h
    unfold wb_X8_sitting_2 at h
    refine lv_iload_n hx hb dX8_sitting_2 rfl (lv_at hl 2 rfl) ?_
    refine lv_aload_n hx hb dX8_sitting_3 rfl (lv_at hl 0 rfl) ?_
    refine gX8_10 C hP dX8_sitting_4 ?_
    refine lv_icmp_ge (tgt := 28) hx hb dX8_sitting_7 (by decide) (fun c1 => ?_) (fun c1 => ?_)
    · replace h := And.left h c1
      refine lv_iconst (v := -1) hx hb dX8_sitting_28 (by decide) ?_
      exact xro_i C h dX8_sitting_29
    · replace h := And.right h c1
      refine lv_aload_n hx hb dX8_sitting_10 rfl (lv_at hl 0 rfl) ?_
      refine gX8_12 C hP dX8_sitting_11 ?_
      refine lv_iload_n hx hb dX8_sitting_14 rfl (lv_at hl 2 rfl) ?_
      have hin := And.left h
      replace h := And.right h
      refine lX8_12 C hP hin dX8_sitting_15 ?_
      refine lv_iload_n hx hb dX8_sitting_16 rfl (lv_at hl 1 rfl) ?_
      refine lv_icmp_ne (tgt := 22) hx hb dX8_sitting_17 (by decide) (fun c2 => ?_) (fun c2 => ?_)
      · replace h := And.right h c2
        obtain ⟨v3, ev3⟩ : ∃ y : Int32, y = x2 + (1 : Int32) := ⟨_, rfl⟩
        replace h := h v3 ev3
        refine lv_iinc (v := v3) (lv' := [(2, .int v3), (0, .ref h0), (1, .int p1)]) hx hb dX8_sitting_22 hl (k := 2) rfl (by rw [ev3]; rfl) (by decide) rfl (fun ls hl => ?_)
        refine lv_goto (tgt := 2) hx hb dX8_sitting_25 (by decide) ?_
        exact ihn _ _ (lv_sub hl [1, 2, 0] rfl) h
      · replace h := And.left h c2
        refine lv_iload_n hx hb dX8_sitting_20 rfl (lv_at hl 2 rfl) ?_
        exact xro_i C h dX8_sitting_21
set_option maxHeartbeats 4000000 in
set_option maxRecDepth 100000 in
theorem c_X8_sitting {l : Launch} {D : va_G} {K : Nat → ClassId} {h0 : Nat} {a0 : Nat → Nat} {n0 : Nat → Option Nat} {la0 : Nat → Nat} {r0 : zS} {p1 : Int32} {sz : Nat} {post : Int32 → Prop}   (h : wp_X8_sitting r0 p1 post) : Met l yX8_sitting (Cond.code yX8_sitting cX8_sitting 3 (some .int) :: wsL_law) ({ frames := 0, cells := 0, slots := 0, locals := 0 } : Room) (va_Pc [.ref h0, .int p1] (xPre D vwCl (xty K) (wX8 K h0 a0 n0 la0 r0 ++ (([] : va_W))) sz)) (roI post) 0 0 (fun _ => False) := by
  refine xMet (by decide) rfl (Nat.le_of_ble_eq_true rfl) (fun p e s m args below meth c C hnm hP hD hsz ls hl => ?_)
  have hl : lv_has ls 3 [(0, .ref h0), (1, .int p1)] := hl
  obtain ⟨hx, hb, hr, hml, hown, hts, hlocks, hK, hT⟩ := id C
  unfold wp_X8_sitting at h
  refine lv_iconst (v := 0) hx hb dX8_sitting_0 (by decide) ?_
  refine lv_istore_n (lv' := [(2, .int (0 : Int32)), (0, .ref h0), (1, .int p1)]) hx hb dX8_sitting_1 rfl hl (by decide) rfl (fun ls hl => ?_)
  obtain ⟨n0, h⟩ := h
  exact t_X8_sitting_2 C hP hD n0 _ _ (lv_sub hl [1, 2, 0] rfl) h

def wp_X8_row_36 (p1 : Int32) (p2 : Int32) (p3 : Int32) (post : Int32 → (zS) → Prop) (r0 : zS) : Prop :=
  wp_X8_refuse r0 (-2 : Int32) (fun v3 s4 => post v3 s4)
def wb_X8_row_67 (p1 : Int32) (p2 : Int32) (p3 : Int32) (post : Int32 → (zS) → Prop) (ih : (zS) → Int32 → Prop) (r0 : zS) (x4 : Int32) : Prop :=
  ((40 : Int32) ≤ x4 → post (1 : Int32) r0) ∧ (¬ (40 : Int32) ≤ x4 → vp_in p1 8 ∧ (∀ k13 : Nat, k13 = p1.toNatClampNeg → vp_in x4 40 ∧ (∀ j14 : Nat, j14 = x4.toNatClampNeg → ∀ v15 : Int32, v15 = x4 + (1 : Int32) → ih (zL r0 (100 + k13) j14 (0 : Int64)) v15)))
def wp_X8_row_67 (p1 : Int32) (p2 : Int32) (p3 : Int32) (post : Int32 → (zS) → Prop) (n : Nat) : (zS) → Int32 → Prop := Nat.rec (motive := fun _ => (zS) → Int32 → Prop) (fun _ _ => False) (fun _ ih => wb_X8_row_67 p1 p2 p3 post ih) n
theorem wu_X8_row_67 (p1 : Int32) (p2 : Int32) (p3 : Int32) (post : Int32 → (zS) → Prop) (n : Nat) (r0 : zS) (x4 : Int32) : wp_X8_row_67 p1 p2 p3 post (n + 1) r0 x4 = wb_X8_row_67 p1 p2 p3 post (wp_X8_row_67 p1 p2 p3 post n) r0 x4 := rfl
def wp_X8_row (r0 : zS) (p1 : Int32) (p2 : Int32) (p3 : Int32) (post : Int32 → (zS) → Prop) : Prop :=
  wp_X8_in (p1.toInt64) (0 : Int64) (7 : Int64) (fun v1 => (v1 = 0 → wp_X8_row_36 p1 p2 p3 post r0) ∧ (¬ v1 = 0 → wp_X8_in (p2.toInt64) (0 : Int64) (4 : Int64) (fun v5 => (v5 = 0 → wp_X8_row_36 p1 p2 p3 post r0) ∧ (¬ v5 = 0 → wp_X8_in (p3.toInt64) (0 : Int64) (40 : Int64) (fun v7 => (v7 = 0 → wp_X8_row_36 p1 p2 p3 post r0) ∧ (¬ v7 = 0 → vp_in p1 8 ∧ (∀ j9 : Nat, j9 = p1.toNatClampNeg → vp_in p1 8 ∧ (∀ j10 : Nat, j10 = p1.toNatClampNeg → vp_in p1 8 ∧ (∀ j11 : Nat, j11 = p1.toNatClampNeg → ∃ n : Nat, wp_X8_row_67 p1 p2 p3 post n (zA (zA (zA r0 0 j9 (1 : Int32)) 1 j10 p2) 2 j11 p3) (0 : Int32))))))))))
set_option maxHeartbeats 4000000 in
set_option maxRecDepth 100000 in
theorem t_X8_row_36 {p : Program} {l : Launch} {e : Env} {s : State} {m : MethodId} {args : Array Value} {below : List Frame} {meth : Method} {c : Code} {D : va_G} {K : Nat → ClassId} {h0 : Nat} {a0 : Nat → Nat} {n0 : Nat → Option Nat} {la0 : Nat → Nat} {p1 : Int32} {p2 : Int32} {p3 : Int32} {post : Int32 → (zS) → Prop} {A : Nat → Prop} (C : xC p s m args meth c cX8_row RX8 5 (some .int) D vwCl (xty K)) (hA : ∀ q, s.heap.size ≤ q → A q) : ∀ (r0 : zS) (H : Heap) (locs : List Loc) (ls : Array Slot), lv_has ls 5 [(0, .ref h0)] → va_P D vwCl (wX8 K h0 a0 n0 la0 r0 ++ (([] : va_W))) H → va_D A (wX8 K h0 a0 n0 la0 r0 ++ (([] : va_W))) → va_S A s.heap H locs → wp_X8_row_36 p1 p2 p3 post r0 → W p l e ({ frames := 1, cells := 0, slots := 0, locals := 25 } : Room) s m args below meth c H locs 0 0 (MQ below (va_Qi (fun r (u : (zS)) => post r u) (fun (u : (zS)) t => va_P D vwCl (wX8 K h0 a0 n0 la0 u ++ (([] : va_W))) t.heap) A) args s 0 0 A) (F0 m 36 ls []) := by
  obtain ⟨hx, hb, hr, hml, hown, hts, hlocks, hK, hT⟩ := id C
  intro r0 H locs ls hl hP hD hS h
  unfold wp_X8_row_36 at h
  refine lv_aload_n hx hb dX8_row_36 rfl (lv_at hl 0 rfl) ?_
  refine lv_bipush (v := -2) hx hb dX8_row_37 (by decide) ?_
  refine xend_rw_i_id (wf := fun (u : (zS)) => (wX8 K h0 a0 n0 la0 u ++ (([] : va_W)))) (xRunV_id (As := [.int (-2 : Int32)]) (rest := []) C (c_X8_refuse h) k_X8_refuse mw_165 ⟨rfl, rfl⟩ ⟨Nat.le_of_ble_eq_true rfl, Nat.le_of_ble_eq_true rfl⟩ hP hD rfl rfl hl rfl rfl (Nat.le_of_ble_eq_true rfl) dX8_row_39 ⟨Nat.le_refl _, Nat.le_refl _⟩) hD hS hA (fun _ => wX8_adr _ _) (fun v3 s4 H locs h hP hD hS => ?_)
  exact xrw_i C s4 h hP hS dX8_row_42
set_option maxHeartbeats 4000000 in
set_option maxRecDepth 100000 in
theorem t_X8_row_67 {p : Program} {l : Launch} {e : Env} {s : State} {m : MethodId} {args : Array Value} {below : List Frame} {meth : Method} {c : Code} {D : va_G} {K : Nat → ClassId} {h0 : Nat} {a0 : Nat → Nat} {n0 : Nat → Option Nat} {la0 : Nat → Nat} {p1 : Int32} {p2 : Int32} {p3 : Int32} {post : Int32 → (zS) → Prop} {A : Nat → Prop} (C : xC p s m args meth c cX8_row RX8 5 (some .int) D vwCl (xty K)) (hA : ∀ q, s.heap.size ≤ q → A q) : ∀ (n : Nat) (r0 : zS) (x4 : Int32) (H : Heap) (locs : List Loc) (ls : Array Slot), lv_has ls 5 [(0, .ref h0), (1, .int p1), (4, .int x4)] → va_P D vwCl (wX8 K h0 a0 n0 la0 r0 ++ (([] : va_W))) H → va_D A (wX8 K h0 a0 n0 la0 r0 ++ (([] : va_W))) → va_S A s.heap H locs → wp_X8_row_67 p1 p2 p3 post n r0 x4 → W p l e ({ frames := 1, cells := 0, slots := 0, locals := 25 } : Room) s m args below meth c H locs 0 0 (MQ below (va_Qi (fun r (u : (zS)) => post r u) (fun (u : (zS)) t => va_P D vwCl (wX8 K h0 a0 n0 la0 u ++ (([] : va_W))) t.heap) A) args s 0 0 A) (F0 m 67 ls []) := by
  obtain ⟨hx, hb, hr, hml, hown, hts, hlocks, hK, hT⟩ := id C
  intro n
  induction n with
  | zero =>
    intro r0 x4 H locs ls hl hP hD hS h
    exact False.elim h
  | succ n ihn =>
    intro r0 x4 H locs ls hl hP hD hS h
    rw [wu_X8_row_67] at h
    unfold wb_X8_row_67 at h
    refine lv_iload hx hb dX8_row_67 (lv_at hl 2 rfl) ?_
    refine lv_bipush (v := 40) hx hb dX8_row_69 (by decide) ?_
    refine lv_icmp_ge (tgt := 90) hx hb dX8_row_71 (by decide) (fun c12 => ?_) (fun c12 => ?_)
    · replace h := And.left h c12
      refine lv_iconst (v := 1) hx hb dX8_row_90 (by decide) ?_
      exact xrw_i C r0 h hP hS dX8_row_91
    · replace h := And.right h c12
      refine lv_aload_n hx hb dX8_row_74 rfl (lv_at hl 0 rfl) ?_
      refine gX8_3 C hP dX8_row_75 ?_
      refine lv_iload_n hx hb dX8_row_78 rfl (lv_at hl 1 rfl) ?_
      have hin := And.left h
      obtain ⟨k13, ek13⟩ : ∃ j : Nat, j = p1.toNatClampNeg := ⟨_, rfl⟩
      replace h := And.right h k13 ek13
      have hk13 : k13 < 8 := by rw [ek13]; exact Nat.not_le.mp (fun q => hin (Or.inr q))
      refine aX8_3 C hP hin ek13 dX8_row_79 ?_
      refine lv_iload hx hb dX8_row_80 (lv_at hl 2 rfl) ?_
      refine lv_lconst (v := 0) hx hb dX8_row_82 (by decide) ?_
      have hin := And.left h
      obtain ⟨j14, ej14⟩ : ∃ j : Nat, j = x4.toNatClampNeg := ⟨_, rfl⟩
      replace h := And.right h j14 ej14
      refine xlast hx hb hK hP hD hS (23 + k13) 1 (wX8_row hk13) rfl hin ej14 dX8_row_83 (fun H locs hP hD hS => ?_)
      rw [wX8_rowset hk13] at hP hD
      obtain ⟨v15, ev15⟩ : ∃ y : Int32, y = x4 + (1 : Int32) := ⟨_, rfl⟩
      replace h := h v15 ev15
      refine lv_iinc (v := v15) (lv' := [(4, .int v15), (0, .ref h0), (1, .int p1)]) hx hb dX8_row_84 hl (k := 2) rfl (by rw [ev15]; rfl) (by decide) rfl (fun ls hl => ?_)
      refine lv_goto (tgt := 67) hx hb dX8_row_87 (by decide) ?_
      exact ihn _ _ _ _ _ (lv_sub hl [1, 2, 0] rfl) hP hD hS h
set_option maxHeartbeats 4000000 in
set_option maxRecDepth 100000 in
theorem c_X8_row {l : Launch} {D : va_G} {K : Nat → ClassId} {h0 : Nat} {a0 : Nat → Nat} {n0 : Nat → Option Nat} {la0 : Nat → Nat} {r0 : zS} {p1 : Int32} {p2 : Int32} {p3 : Int32} {sz : Nat} {post : Int32 → (zS) → Prop}   (h : wp_X8_row r0 p1 p2 p3 post) : Met l yX8_row (Cond.code yX8_row cX8_row 5 (some .int) :: wsL_law) ({ frames := 1, cells := 0, slots := 0, locals := 25 } : Room) (va_Pc [.ref h0, .int p1, .int p2, .int p3] (xPre D vwCl (xty K) (wX8 K h0 a0 n0 la0 r0 ++ (([] : va_W))) sz)) (va_Qi (fun r (u : (zS)) => post r u) (fun (u : (zS)) t => va_P D vwCl (wX8 K h0 a0 n0 la0 u ++ (([] : va_W))) t.heap) (va_A (wX8 K h0 a0 n0 la0 r0 ++ (([] : va_W))) sz)) 0 0 (va_A (wX8 K h0 a0 n0 la0 r0 ++ (([] : va_W))) sz) := by
  refine xMet (by decide) rfl (Nat.le_of_ble_eq_true rfl) (fun p e s m args below meth c C hnm hP hD hsz ls hl => ?_)
  have hl : lv_has ls 5 [(0, .ref h0), (1, .int p1), (2, .int p2), (3, .int p3)] := hl
  obtain ⟨hx, hb, hr, hml, hown, hts, hlocks, hK, hT⟩ := id C
  subst hsz
  generalize hAe : va_A (wX8 K h0 a0 n0 la0 r0 ++ (([] : va_W))) s.heap.size = A at hD ⊢
  have hA : ∀ q : Nat, s.heap.size ≤ q → A q := fun q h => by rw [← hAe]; exact Or.inr h
  have hS : va_S A s.heap s.heap [] := va_S.rf
  have hP : va_P D vwCl (wX8 K h0 a0 n0 la0 r0 ++ (([] : va_W))) s.heap := hP
  unfold wp_X8_row at h
  refine lv_iload_n hx hb dX8_row_0 rfl (lv_at hl 1 rfl) ?_
  refine lv_i2l hx hb dX8_row_1 rfl ?_
  refine lv_lconst (v := 0) hx hb dX8_row_2 (by decide) ?_
  refine lv_ldc2 hx hb hown (hts _ mw_159) dX8_row_3 ?_
  refine xend_ro_i (xRunS (wc := ([] : va_W)) (As := [.long (p1.toInt64), .long (0 : Int64), .long (7 : Int64)]) (rest := []) C (c_X8_in h) k_X8_in mw_162 ⟨rfl, rfl⟩ ⟨Nat.le_of_ble_eq_true rfl, Nat.le_of_ble_eq_true rfl⟩ hP hD [] rfl rfl hl rfl rfl (Nat.le_of_ble_eq_true rfl) dX8_row_6 ⟨Nat.le_refl _, Nat.le_refl _⟩) (fun v1 h => ?_)
  refine lv_if_eq (tgt := 36) hx hb dX8_row_9 (by decide) (fun c2 => ?_) (fun c2 => ?_)
  · replace h := And.left h c2
    exact t_X8_row_36 C hA _ _ _ _ (lv_sub hl [0] rfl) hP hD hS h
  · replace h := And.right h c2
    refine lv_iload_n hx hb dX8_row_12 rfl (lv_at hl 2 rfl) ?_
    refine lv_i2l hx hb dX8_row_13 rfl ?_
    refine lv_lconst (v := 0) hx hb dX8_row_14 (by decide) ?_
    refine lv_ldc2 hx hb hown (hts _ mw_160) dX8_row_15 ?_
    refine xend_ro_i (xRunS (wc := ([] : va_W)) (As := [.long (p2.toInt64), .long (0 : Int64), .long (4 : Int64)]) (rest := []) C (c_X8_in h) k_X8_in mw_162 ⟨rfl, rfl⟩ ⟨Nat.le_of_ble_eq_true rfl, Nat.le_of_ble_eq_true rfl⟩ hP hD [] rfl rfl hl rfl rfl (Nat.le_of_ble_eq_true rfl) dX8_row_18 ⟨Nat.le_refl _, Nat.le_refl _⟩) (fun v5 h => ?_)
    refine lv_if_eq (tgt := 36) hx hb dX8_row_21 (by decide) (fun c6 => ?_) (fun c6 => ?_)
    · replace h := And.left h c6
      exact t_X8_row_36 C hA _ _ _ _ (lv_sub hl [0] rfl) hP hD hS h
    · replace h := And.right h c6
      refine lv_iload_n hx hb dX8_row_24 rfl (lv_at hl 3 rfl) ?_
      refine lv_i2l hx hb dX8_row_25 rfl ?_
      refine lv_lconst (v := 0) hx hb dX8_row_26 (by decide) ?_
      refine lv_ldc2 hx hb hown (hts _ mw_161) dX8_row_27 ?_
      refine xend_ro_i (xRunS (wc := ([] : va_W)) (As := [.long (p3.toInt64), .long (0 : Int64), .long (40 : Int64)]) (rest := []) C (c_X8_in h) k_X8_in mw_162 ⟨rfl, rfl⟩ ⟨Nat.le_of_ble_eq_true rfl, Nat.le_of_ble_eq_true rfl⟩ hP hD [] rfl rfl hl rfl rfl (Nat.le_of_ble_eq_true rfl) dX8_row_30 ⟨Nat.le_refl _, Nat.le_refl _⟩) (fun v7 h => ?_)
      refine lv_if_ne (tgt := 43) hx hb dX8_row_33 (by decide) (fun c8 => ?_) (fun c8 => ?_)
      · replace h := And.right h c8
        refine lv_aload_n hx hb dX8_row_43 rfl (lv_at hl 0 rfl) ?_
        refine gX8_0 C hP dX8_row_44 ?_
        refine lv_iload_n hx hb dX8_row_47 rfl (lv_at hl 1 rfl) ?_
        refine lv_iconst (v := 1) hx hb dX8_row_48 (by decide) ?_
        have hin := And.left h
        obtain ⟨j9, ej9⟩ : ∃ j : Nat, j = p1.toNatClampNeg := ⟨_, rfl⟩
        replace h := And.right h j9 ej9
        refine sX8_0 C hP hD hS hin ej9 dX8_row_49 (fun H locs hP hD hS => ?_)
        refine lv_aload_n hx hb dX8_row_50 rfl (lv_at hl 0 rfl) ?_
        refine gX8_1 C hP dX8_row_51 ?_
        refine lv_iload_n hx hb dX8_row_54 rfl (lv_at hl 1 rfl) ?_
        refine lv_iload_n hx hb dX8_row_55 rfl (lv_at hl 2 rfl) ?_
        have hin := And.left h
        obtain ⟨j10, ej10⟩ : ∃ j : Nat, j = p1.toNatClampNeg := ⟨_, rfl⟩
        replace h := And.right h j10 ej10
        refine sX8_1 C hP hD hS hin ej10 dX8_row_56 (fun H locs hP hD hS => ?_)
        refine lv_aload_n hx hb dX8_row_57 rfl (lv_at hl 0 rfl) ?_
        refine gX8_2 C hP dX8_row_58 ?_
        refine lv_iload_n hx hb dX8_row_61 rfl (lv_at hl 1 rfl) ?_
        refine lv_iload_n hx hb dX8_row_62 rfl (lv_at hl 3 rfl) ?_
        have hin := And.left h
        obtain ⟨j11, ej11⟩ : ∃ j : Nat, j = p1.toNatClampNeg := ⟨_, rfl⟩
        replace h := And.right h j11 ej11
        refine sX8_2 C hP hD hS hin ej11 dX8_row_63 (fun H locs hP hD hS => ?_)
        refine lv_iconst (v := 0) hx hb dX8_row_64 (by decide) ?_
        refine lv_istore (lv' := [(4, .int (0 : Int32)), (0, .ref h0), (1, .int p1), (2, .int p2), (3, .int p3)]) hx hb dX8_row_65 hl (by decide) rfl (fun ls hl => ?_)
        obtain ⟨n0, h⟩ := h
        exact t_X8_row_67 C hA n0 _ _ _ _ _ (lv_sub hl [1, 2, 0] rfl) hP hD hS h
      · replace h := And.left h c8
        exact t_X8_row_36 C hA _ _ _ _ (lv_sub hl [0] rfl) hP hD hS h

def wp_X8_fit (p0 : Int32) (p1 : Int64) (post : Int64 → Prop) : Prop :=
  (p0 = 0 → post (((p1.toInt32).toInt8.toInt32).toInt64) ) ∧ (p0 = 1 → post (((p1.toInt32).toInt16.toInt32).toInt64) ) ∧ (p0 = 2 → post ((p1.toInt32).toInt64) ) ∧ (p0 = 3 → post p1 ) ∧ (¬ p0 = 0 → ¬ p0 = 1 → ¬ p0 = 2 → ¬ p0 = 3 → ((lg_cmp p1 (0 : Int64)) = 0 → post (0 : Int64) ) ∧ (¬ (lg_cmp p1 (0 : Int64)) = 0 → post (1 : Int64) ))
set_option maxHeartbeats 4000000 in
set_option maxRecDepth 100000 in
theorem c_X8_fit {l : Launch} {D : va_G} {K : Nat → ClassId}  {p0 : Int32} {p1 : Int64} {sz : Nat} {post : Int64 → Prop}   (h : wp_X8_fit p0 p1 post) : Met l yX8_fit (Cond.code yX8_fit cX8_fit 3 (some .long) :: wsL_law) ({ frames := 0, cells := 0, slots := 0, locals := 0 } : Room) (va_Pc [.int p0, .long p1] (xPre D vwCl (xty K) ([] : va_W) sz)) (roL post) 0 0 (fun _ => False) := by
  refine xMet (by decide) rfl (Nat.le_of_ble_eq_true rfl) (fun p e s m args below meth c C hnm hP hD hsz ls hl => ?_)
  have hl : lv_has ls 3 [(0, .int p0), (1, .long p1)] := hl
  obtain ⟨hx, hb, hr, hml, hown, hts, hlocks, hK, hT⟩ := id C
  unfold wp_X8_fit at h
  refine lv_iload_n hx hb dX8_fit_0 rfl (lv_at hl 0 rfl) ?_
  rcases (Decidable.em (p0 = 0)) with c1 | c1_0
  · have c1T := xsw c1
    replace h := And.left (h) c1
    refine lv_tableIn (tgt := 32) hx hb dX8_fit_1 (by rw [c1T]; decide) (by rw [c1T]; decide) (by rw [c1T] <;> rfl) (by decide) ?_
    refine lv_lload_n hx hb dX8_fit_32 rfl (lv_at hl 1 rfl) ?_
    refine lv_l2i hx hb dX8_fit_33 rfl ?_
    refine lv_i2b hx hb dX8_fit_34 rfl ?_
    refine lv_i2l hx hb dX8_fit_35 rfl ?_
    exact xro_l C h dX8_fit_36
  rcases (Decidable.em (p0 = 1)) with c1 | c1_1
  · have c1T := xsw c1
    replace h := And.left (And.right (h)) c1
    refine lv_tableIn (tgt := 37) hx hb dX8_fit_1 (by rw [c1T]; decide) (by rw [c1T]; decide) (by rw [c1T] <;> rfl) (by decide) ?_
    refine lv_lload_n hx hb dX8_fit_37 rfl (lv_at hl 1 rfl) ?_
    refine lv_l2i hx hb dX8_fit_38 rfl ?_
    refine lv_i2s hx hb dX8_fit_39 rfl ?_
    refine lv_i2l hx hb dX8_fit_40 rfl ?_
    exact xro_l C h dX8_fit_41
  rcases (Decidable.em (p0 = 2)) with c1 | c1_2
  · have c1T := xsw c1
    replace h := And.left (And.right (And.right (h))) c1
    refine lv_tableIn (tgt := 42) hx hb dX8_fit_1 (by rw [c1T]; decide) (by rw [c1T]; decide) (by rw [c1T] <;> rfl) (by decide) ?_
    refine lv_lload_n hx hb dX8_fit_42 rfl (lv_at hl 1 rfl) ?_
    refine lv_l2i hx hb dX8_fit_43 rfl ?_
    refine lv_i2l hx hb dX8_fit_44 rfl ?_
    exact xro_l C h dX8_fit_45
  rcases (Decidable.em (p0 = 3)) with c1 | c1_3
  · have c1T := xsw c1
    replace h := And.left (And.right (And.right (And.right (h)))) c1
    refine lv_tableIn (tgt := 46) hx hb dX8_fit_1 (by rw [c1T]; decide) (by rw [c1T]; decide) (by rw [c1T] <;> rfl) (by decide) ?_
    refine lv_lload_n hx hb dX8_fit_46 rfl (lv_at hl 1 rfl) ?_
    exact xro_l C h dX8_fit_47
  replace h := And.right (And.right (And.right (And.right (h)))) c1_0 c1_1 c1_2 c1_3
  have c1N_0 := lv_neT (a := 0) c1_0 rfl
  have c1N_1 := lv_neT (a := 1) c1_1 rfl
  have c1N_2 := lv_neT (a := 2) c1_2 rfl
  have c1N_3 := lv_neT (a := 3) c1_3 rfl
  refine lv_tableOut (tgt := 48) hx hb dX8_fit_1 (by omega) (by decide) ?_
  refine lv_lload_n hx hb dX8_fit_48 rfl (lv_at hl 1 rfl) ?_
  refine lv_lconst (v := 0) hx hb dX8_fit_49 (by decide) ?_
  refine W.lcmp hx hb dX8_fit_50 ?_
  refine lv_if_eq (tgt := 58) hx hb dX8_fit_51 (by decide) (fun c2 => ?_) (fun c2 => ?_)
  · replace h := And.left h c2
    refine lv_lconst (v := 0) hx hb dX8_fit_58 (by decide) ?_
    exact xro_l C h dX8_fit_59
  · replace h := And.right h c2
    refine lv_lconst (v := 1) hx hb dX8_fit_54 (by decide) ?_
    refine lv_goto (tgt := 59) hx hb dX8_fit_55 (by decide) ?_
    exact xro_l C h dX8_fit_59

def wp_X8_noRow (r0 : zS) (p1 : Int32) (post : Int32 → (zS) → Prop) : Prop :=
  wp_X8_in (p1.toInt64) (0 : Int64) (7 : Int64) (fun v1 => (v1 = 0 → wp_X8_refuse r0 (-2 : Int32) (fun v9 s10 => post v9 s10)) ∧ (¬ v1 = 0 → vp_in p1 8 ∧ (((r0.2.1 0 p1.toNatClampNeg) = (2 : Int32) → wp_X8_refuse r0 (-3 : Int32) (fun v7 s8 => post v7 s8)) ∧ (¬ (r0.2.1 0 p1.toNatClampNeg) = (2 : Int32) → vp_in p1 8 ∧ (((r0.2.1 0 p1.toNatClampNeg) = 0 → wp_X8_refuse r0 (-4 : Int32) (fun v5 s6 => post v5 s6)) ∧ (¬ (r0.2.1 0 p1.toNatClampNeg) = 0 → post (0 : Int32) r0))))))
set_option maxHeartbeats 4000000 in
set_option maxRecDepth 100000 in
theorem c_X8_noRow {l : Launch} {D : va_G} {K : Nat → ClassId} {h0 : Nat} {a0 : Nat → Nat} {n0 : Nat → Option Nat} {la0 : Nat → Nat} {r0 : zS} {p1 : Int32} {sz : Nat} {post : Int32 → (zS) → Prop}   (h : wp_X8_noRow r0 p1 post) : Met l yX8_noRow (Cond.code yX8_noRow cX8_noRow 2 (some .int) :: wsL_law) ({ frames := 1, cells := 0, slots := 0, locals := 25 } : Room) (va_Pc [.ref h0, .int p1] (xPre D vwCl (xty K) (wX8 K h0 a0 n0 la0 r0 ++ (([] : va_W))) sz)) (va_Qi (fun r (u : (zS)) => post r u) (fun (u : (zS)) t => va_P D vwCl (wX8 K h0 a0 n0 la0 u ++ (([] : va_W))) t.heap) (va_A (wX8 K h0 a0 n0 la0 r0 ++ (([] : va_W))) sz)) 0 0 (va_A (wX8 K h0 a0 n0 la0 r0 ++ (([] : va_W))) sz) := by
  refine xMet (by decide) rfl (Nat.le_of_ble_eq_true rfl) (fun p e s m args below meth c C hnm hP hD hsz ls hl => ?_)
  have hl : lv_has ls 2 [(0, .ref h0), (1, .int p1)] := hl
  obtain ⟨hx, hb, hr, hml, hown, hts, hlocks, hK, hT⟩ := id C
  subst hsz
  generalize hAe : va_A (wX8 K h0 a0 n0 la0 r0 ++ (([] : va_W))) s.heap.size = A at hD ⊢
  have hA : ∀ q : Nat, s.heap.size ≤ q → A q := fun q h => by rw [← hAe]; exact Or.inr h
  have hS : va_S A s.heap s.heap [] := va_S.rf
  have hP : va_P D vwCl (wX8 K h0 a0 n0 la0 r0 ++ (([] : va_W))) s.heap := hP
  unfold wp_X8_noRow at h
  refine lv_iload_n hx hb dX8_noRow_0 rfl (lv_at hl 1 rfl) ?_
  refine lv_i2l hx hb dX8_noRow_1 rfl ?_
  refine lv_lconst (v := 0) hx hb dX8_noRow_2 (by decide) ?_
  refine lv_ldc2 hx hb hown (hts _ mw_159) dX8_noRow_3 ?_
  refine xend_ro_i (xRunS (wc := ([] : va_W)) (As := [.long (p1.toInt64), .long (0 : Int64), .long (7 : Int64)]) (rest := []) C (c_X8_in h) k_X8_in mw_162 ⟨rfl, rfl⟩ ⟨Nat.le_of_ble_eq_true rfl, Nat.le_of_ble_eq_true rfl⟩ hP hD [] rfl rfl hl rfl rfl (Nat.le_of_ble_eq_true rfl) dX8_noRow_6 ⟨Nat.le_refl _, Nat.le_refl _⟩) (fun v1 h => ?_)
  refine lv_if_ne (tgt := 19) hx hb dX8_noRow_9 (by decide) (fun c2 => ?_) (fun c2 => ?_)
  · replace h := And.right h c2
    refine lv_aload_n hx hb dX8_noRow_19 rfl (lv_at hl 0 rfl) ?_
    refine gX8_0 C hP dX8_noRow_20 ?_
    refine lv_iload_n hx hb dX8_noRow_23 rfl (lv_at hl 1 rfl) ?_
    have hin := And.left h
    replace h := And.right h
    refine lX8_0 C hP hin dX8_noRow_24 ?_
    refine lv_iconst (v := 2) hx hb dX8_noRow_25 (by decide) ?_
    refine lv_icmp_ne (tgt := 36) hx hb dX8_noRow_26 (by decide) (fun c3 => ?_) (fun c3 => ?_)
    · replace h := And.right h c3
      refine lv_aload_n hx hb dX8_noRow_36 rfl (lv_at hl 0 rfl) ?_
      refine gX8_0 C hP dX8_noRow_37 ?_
      refine lv_iload_n hx hb dX8_noRow_40 rfl (lv_at hl 1 rfl) ?_
      have hin := And.left h
      replace h := And.right h
      refine lX8_0 C hP hin dX8_noRow_41 ?_
      refine lv_if_ne (tgt := 54) hx hb dX8_noRow_42 (by decide) (fun c4 => ?_) (fun c4 => ?_)
      · replace h := And.right h c4
        refine lv_iconst (v := 0) hx hb dX8_noRow_54 (by decide) ?_
        exact xrw_i C r0 h hP hS dX8_noRow_55
      · replace h := And.left h c4
        refine lv_aload_n hx hb dX8_noRow_45 rfl (lv_at hl 0 rfl) ?_
        refine lv_bipush (v := -4) hx hb dX8_noRow_46 (by decide) ?_
        refine xend_rw_i_id (wf := fun (u : (zS)) => (wX8 K h0 a0 n0 la0 u ++ (([] : va_W)))) (xRunV_id (As := [.int (-4 : Int32)]) (rest := []) C (c_X8_refuse h) k_X8_refuse mw_165 ⟨rfl, rfl⟩ ⟨Nat.le_of_ble_eq_true rfl, Nat.le_of_ble_eq_true rfl⟩ hP hD rfl rfl hl rfl rfl (Nat.le_of_ble_eq_true rfl) dX8_noRow_48 ⟨Nat.le_refl _, Nat.le_refl _⟩) hD hS hA (fun _ => wX8_adr _ _) (fun v5 s6 H locs h hP hD hS => ?_)
        refine lv_goto (tgt := 55) hx hb dX8_noRow_51 (by decide) ?_
        exact xrw_i C s6 h hP hS dX8_noRow_55
    · replace h := And.left h c3
      refine lv_aload_n hx hb dX8_noRow_29 rfl (lv_at hl 0 rfl) ?_
      refine lv_bipush (v := -3) hx hb dX8_noRow_30 (by decide) ?_
      refine xend_rw_i_id (wf := fun (u : (zS)) => (wX8 K h0 a0 n0 la0 u ++ (([] : va_W)))) (xRunV_id (As := [.int (-3 : Int32)]) (rest := []) C (c_X8_refuse h) k_X8_refuse mw_165 ⟨rfl, rfl⟩ ⟨Nat.le_of_ble_eq_true rfl, Nat.le_of_ble_eq_true rfl⟩ hP hD rfl rfl hl rfl rfl (Nat.le_of_ble_eq_true rfl) dX8_noRow_32 ⟨Nat.le_refl _, Nat.le_refl _⟩) hD hS hA (fun _ => wX8_adr _ _) (fun v7 s8 H locs h hP hD hS => ?_)
      exact xrw_i C s8 h hP hS dX8_noRow_35
  · replace h := And.left h c2
    refine lv_aload_n hx hb dX8_noRow_12 rfl (lv_at hl 0 rfl) ?_
    refine lv_bipush (v := -2) hx hb dX8_noRow_13 (by decide) ?_
    refine xend_rw_i_id (wf := fun (u : (zS)) => (wX8 K h0 a0 n0 la0 u ++ (([] : va_W)))) (xRunV_id (As := [.int (-2 : Int32)]) (rest := []) C (c_X8_refuse h) k_X8_refuse mw_165 ⟨rfl, rfl⟩ ⟨Nat.le_of_ble_eq_true rfl, Nat.le_of_ble_eq_true rfl⟩ hP hD rfl rfl hl rfl rfl (Nat.le_of_ble_eq_true rfl) dX8_noRow_15 ⟨Nat.le_refl _, Nat.le_refl _⟩) hD hS hA (fun _ => wX8_adr _ _) (fun v9 s10 H locs h hP hD hS => ?_)
    exact xrw_i C s10 h hP hS dX8_noRow_18

def wp_X8_set (r0 : zS) (p1 : Int32) (p2 : Int32) (p3 : Int64) (post : Int32 → (zS) → Prop) : Prop :=
  wp_X8_noRow r0 p1 (fun v1 s2 => (v1 = 0 → vp_in p1 8 ∧ (wp_X8_in (p2.toInt64) (0 : Int64) (((s2.2.1 2 p1.toNatClampNeg) - (1 : Int32)).toInt64) (fun v4 => (v4 = 0 → wp_X8_refuse s2 (-2 : Int32) (fun v9 s10 => post v9 s10)) ∧ (¬ v4 = 0 → vp_in p1 8 ∧ (∀ k6 : Nat, k6 = p1.toNatClampNeg → vp_in p1 8 ∧ (wp_X8_fit (s2.2.1 1 p1.toNatClampNeg) p3 (fun v7 => vp_in p2 40 ∧ (∀ j8 : Nat, j8 = p2.toNatClampNeg → post (1 : Int32) (zL s2 (100 + k6) j8 v7))))))))) ∧ (¬ v1 = 0 → post v1 s2))
set_option maxHeartbeats 4000000 in
set_option maxRecDepth 100000 in
theorem c_X8_set {l : Launch} {D : va_G} {K : Nat → ClassId} {h0 : Nat} {a0 : Nat → Nat} {n0 : Nat → Option Nat} {la0 : Nat → Nat} {r0 : zS} {p1 : Int32} {p2 : Int32} {p3 : Int64} {sz : Nat} {post : Int32 → (zS) → Prop}   (h : wp_X8_set r0 p1 p2 p3 post) : Met l yX8_set (Cond.code yX8_set cX8_set 6 (some .int) :: wsL_law) ({ frames := 2, cells := 0, slots := 0, locals := 46 } : Room) (va_Pc [.ref h0, .int p1, .int p2, .long p3] (xPre D vwCl (xty K) (wX8 K h0 a0 n0 la0 r0 ++ (([] : va_W))) sz)) (va_Qi (fun r (u : (zS)) => post r u) (fun (u : (zS)) t => va_P D vwCl (wX8 K h0 a0 n0 la0 u ++ (([] : va_W))) t.heap) (va_A (wX8 K h0 a0 n0 la0 r0 ++ (([] : va_W))) sz)) 0 0 (va_A (wX8 K h0 a0 n0 la0 r0 ++ (([] : va_W))) sz) := by
  refine xMet (by decide) rfl (Nat.le_of_ble_eq_true rfl) (fun p e s m args below meth c C hnm hP hD hsz ls hl => ?_)
  have hl : lv_has ls 6 [(0, .ref h0), (1, .int p1), (2, .int p2), (3, .long p3)] := hl
  obtain ⟨hx, hb, hr, hml, hown, hts, hlocks, hK, hT⟩ := id C
  subst hsz
  generalize hAe : va_A (wX8 K h0 a0 n0 la0 r0 ++ (([] : va_W))) s.heap.size = A at hD ⊢
  have hA : ∀ q : Nat, s.heap.size ≤ q → A q := fun q h => by rw [← hAe]; exact Or.inr h
  have hS : va_S A s.heap s.heap [] := va_S.rf
  have hP : va_P D vwCl (wX8 K h0 a0 n0 la0 r0 ++ (([] : va_W))) s.heap := hP
  unfold wp_X8_set at h
  refine lv_aload_n hx hb dX8_set_0 rfl (lv_at hl 0 rfl) ?_
  refine lv_iload_n hx hb dX8_set_1 rfl (lv_at hl 1 rfl) ?_
  refine xend_rw_i_id (wf := fun (u : (zS)) => (wX8 K h0 a0 n0 la0 u ++ (([] : va_W)))) (xRunV_id (As := [.int p1]) (rest := []) C (c_X8_noRow h) k_X8_noRow mw_202 ⟨rfl, rfl⟩ ⟨Nat.le_of_ble_eq_true rfl, Nat.le_of_ble_eq_true rfl⟩ hP hD rfl rfl hl rfl rfl (Nat.le_of_ble_eq_true rfl) dX8_set_2 ⟨Nat.le_refl _, Nat.le_refl _⟩) hD hS hA (fun _ => wX8_adr _ _) (fun v1 s2 H locs h hP hD hS => ?_)
  refine lv_istore (lv' := [(5, .int v1), (0, .ref h0), (1, .int p1), (2, .int p2), (3, .long p3)]) hx hb dX8_set_5 hl (by decide) rfl (fun ls hl => ?_)
  refine lv_iload hx hb dX8_set_7 (lv_at hl 0 rfl) ?_
  refine lv_if_eq (tgt := 15) hx hb dX8_set_9 (by decide) (fun c3 => ?_) (fun c3 => ?_)
  · replace h := And.left h c3
    refine lv_iload_n hx hb dX8_set_15 rfl (lv_at hl 3 rfl) ?_
    refine lv_i2l hx hb dX8_set_16 rfl ?_
    refine lv_lconst (v := 0) hx hb dX8_set_17 (by decide) ?_
    refine lv_aload_n hx hb dX8_set_18 rfl (lv_at hl 1 rfl) ?_
    refine gX8_2 C hP dX8_set_19 ?_
    refine lv_iload_n hx hb dX8_set_22 rfl (lv_at hl 2 rfl) ?_
    have hin := And.left h
    replace h := And.right h
    refine lX8_2 C hP hin dX8_set_23 ?_
    refine lv_iconst (v := 1) hx hb dX8_set_24 (by decide) ?_
    refine lv_isub hx hb dX8_set_25 ?_
    refine lv_i2l hx hb dX8_set_26 rfl ?_
    refine xend_ro_i (xRunS (wc := ([] : va_W)) (As := [.long (p2.toInt64), .long (0 : Int64), .long (((s2.2.1 2 p1.toNatClampNeg) - (1 : Int32)).toInt64)]) (rest := []) C (c_X8_in h) k_X8_in mw_162 ⟨rfl, rfl⟩ ⟨Nat.le_of_ble_eq_true rfl, Nat.le_of_ble_eq_true rfl⟩ hP hD [] rfl rfl hl rfl rfl (Nat.le_of_ble_eq_true rfl) dX8_set_27 ⟨Nat.le_refl _, Nat.le_refl _⟩) (fun v4 h => ?_)
    refine lv_if_ne (tgt := 40) hx hb dX8_set_30 (by decide) (fun c5 => ?_) (fun c5 => ?_)
    · replace h := And.right h c5
      refine lv_aload_n hx hb dX8_set_40 rfl (lv_at hl 1 rfl) ?_
      refine gX8_3 C hP dX8_set_41 ?_
      refine lv_iload_n hx hb dX8_set_44 rfl (lv_at hl 2 rfl) ?_
      have hin := And.left h
      obtain ⟨k6, ek6⟩ : ∃ j : Nat, j = p1.toNatClampNeg := ⟨_, rfl⟩
      replace h := And.right h k6 ek6
      have hk6 : k6 < 8 := by rw [ek6]; exact Nat.not_le.mp (fun q => hin (Or.inr q))
      refine aX8_3 C hP hin ek6 dX8_set_45 ?_
      refine lv_iload_n hx hb dX8_set_46 rfl (lv_at hl 3 rfl) ?_
      refine lv_aload_n hx hb dX8_set_47 rfl (lv_at hl 1 rfl) ?_
      refine gX8_1 C hP dX8_set_48 ?_
      refine lv_iload_n hx hb dX8_set_51 rfl (lv_at hl 2 rfl) ?_
      have hin := And.left h
      replace h := And.right h
      refine lX8_1 C hP hin dX8_set_52 ?_
      refine lv_lload_n hx hb dX8_set_53 rfl (lv_at hl 4 rfl) ?_
      refine xend_ro_l (xRunS (wc := ([] : va_W)) (As := [.int (s2.2.1 1 p1.toNatClampNeg), .long p3]) (rest := [.int p2, .ref (la0 k6)]) C (c_X8_fit h) k_X8_fit mw_206 ⟨rfl, rfl⟩ ⟨Nat.le_of_ble_eq_true rfl, Nat.le_of_ble_eq_true rfl⟩ hP hD [] rfl rfl hl rfl rfl (Nat.le_of_ble_eq_true rfl) dX8_set_54 ⟨Nat.le_refl _, Nat.le_refl _⟩) (fun v7 h => ?_)
      have hin := And.left h
      obtain ⟨j8, ej8⟩ : ∃ j : Nat, j = p2.toNatClampNeg := ⟨_, rfl⟩
      replace h := And.right h j8 ej8
      refine xlast hx hb hK hP hD hS (23 + k6) 1 (wX8_row hk6) rfl hin ej8 dX8_set_57 (fun H locs hP hD hS => ?_)
      rw [wX8_rowset hk6] at hP hD
      refine lv_iconst (v := 1) hx hb dX8_set_58 (by decide) ?_
      exact xrw_i C (zL s2 (100 + k6) j8 v7) h hP hS dX8_set_59
    · replace h := And.left h c5
      refine lv_aload_n hx hb dX8_set_33 rfl (lv_at hl 1 rfl) ?_
      refine lv_bipush (v := -2) hx hb dX8_set_34 (by decide) ?_
      refine xend_rw_i_id (wf := fun (u : (zS)) => (wX8 K h0 a0 n0 la0 u ++ (([] : va_W)))) (xRunV_id (As := [.int (-2 : Int32)]) (rest := []) C (c_X8_refuse h) k_X8_refuse mw_165 ⟨rfl, rfl⟩ ⟨Nat.le_of_ble_eq_true rfl, Nat.le_of_ble_eq_true rfl⟩ hP hD rfl rfl hl rfl rfl (Nat.le_of_ble_eq_true rfl) dX8_set_36 ⟨Nat.le_refl _, Nat.le_refl _⟩) hD hS hA (fun _ => wX8_adr _ _) (fun v9 s10 H locs h hP hD hS => ?_)
      exact xrw_i C s10 h hP hS dX8_set_39
  · replace h := And.right h c3
    refine lv_iload hx hb dX8_set_12 (lv_at hl 0 rfl) ?_
    exact xrw_i C s2 h hP hS dX8_set_14

def wp_X8_copy_24 (p1 : Int32) (p2 : Int32) (p3 : Int32) (p4 : Int32) (p5 : Int32) (post : Int32 → (zS) → Prop) (r0 : zS) : Prop :=
  wp_X8_refuse r0 (-2 : Int32) (fun v3 s4 => post v3 s4)
def wp_X8_copy_86 (p1 : Int32) (p2 : Int32) (p3 : Int32) (p4 : Int32) (p5 : Int32) (post : Int32 → (zS) → Prop) (r0 : zS) : Prop :=
  wp_X8_refuse r0 (-3 : Int32) (fun v8 s9 => post v8 s9)
def wp_X8_copy_111 (p1 : Int32) (p2 : Int32) (p3 : Int32) (p4 : Int32) (p5 : Int32) (post : Int32 → (zS) → Prop) (r0 : zS) : Prop :=
  wp_X8_refuse r0 (-4 : Int32) (fun v13 s14 => post v13 s14)
def wp_X8_copy_181 (p1 : Int32) (p2 : Int32) (p3 : Int32) (p4 : Int32) (p5 : Int32) (post : Int32 → (zS) → Prop) (r0 : zS) : Prop :=
  wp_X8_refuse r0 (-2 : Int32) (fun v17 s18 => post v17 s18)
def wb_X8_copy_225 (p1 : Int32) (p2 : Int32) (p3 : Int32) (p4 : Int32) (p5 : Int32) (post : Int32 → (zS) → Prop) (ih : (zS) → Int32 → Prop) (r0 : zS) (x6 : Int32) : Prop :=
  (p5 ≤ x6 → post p5 r0) ∧ (¬ p5 ≤ x6 → vp_in p2 8 ∧ (∀ k27 : Nat, k27 = p2.toNatClampNeg → vp_in x6 40 ∧ (∀ v28 : Int64, v28 = (r0.2.2 4 x6.toNatClampNeg) → vp_in (p4 + x6) 40 ∧ (∀ j29 : Nat, j29 = (p4 + x6).toNatClampNeg → ∀ v30 : Int32, v30 = x6 + (1 : Int32) → ih (zL r0 (100 + k27) j29 v28) v30))))
def wp_X8_copy_225 (p1 : Int32) (p2 : Int32) (p3 : Int32) (p4 : Int32) (p5 : Int32) (post : Int32 → (zS) → Prop) (n : Nat) : (zS) → Int32 → Prop := Nat.rec (motive := fun _ => (zS) → Int32 → Prop) (fun _ _ => False) (fun _ ih => wb_X8_copy_225 p1 p2 p3 p4 p5 post ih) n
theorem wu_X8_copy_225 (p1 : Int32) (p2 : Int32) (p3 : Int32) (p4 : Int32) (p5 : Int32) (post : Int32 → (zS) → Prop) (n : Nat) (r0 : zS) (x6 : Int32) : wp_X8_copy_225 p1 p2 p3 p4 p5 post (n + 1) r0 x6 = wb_X8_copy_225 p1 p2 p3 p4 p5 post (wp_X8_copy_225 p1 p2 p3 p4 p5 post n) r0 x6 := rfl
def wb_X8_copy_191 (p1 : Int32) (p2 : Int32) (p3 : Int32) (p4 : Int32) (p5 : Int32) (post : Int32 → (zS) → Prop) (ih : (zS) → Int32 → Prop) (r0 : zS) (x6 : Int32) : Prop :=
  (p5 ≤ x6 → ∃ n : Nat, wp_X8_copy_225 p1 p2 p3 p4 p5 post n r0 (0 : Int32)) ∧ (¬ p5 ≤ x6 → vp_in p1 8 ∧ (∀ k31 : Nat, k31 = p1.toNatClampNeg → vp_in (p3 + x6) 40 ∧ (∀ v32 : Int64, v32 = (r0.2.2 (100 + k31) (p3 + x6).toNatClampNeg) → vp_in x6 40 ∧ (∀ j33 : Nat, j33 = x6.toNatClampNeg → ∀ v34 : Int32, v34 = x6 + (1 : Int32) → ih (zL r0 4 j33 v32) v34))))
def wp_X8_copy_191 (p1 : Int32) (p2 : Int32) (p3 : Int32) (p4 : Int32) (p5 : Int32) (post : Int32 → (zS) → Prop) (n : Nat) : (zS) → Int32 → Prop := Nat.rec (motive := fun _ => (zS) → Int32 → Prop) (fun _ _ => False) (fun _ ih => wb_X8_copy_191 p1 p2 p3 p4 p5 post ih) n
theorem wu_X8_copy_191 (p1 : Int32) (p2 : Int32) (p3 : Int32) (p4 : Int32) (p5 : Int32) (post : Int32 → (zS) → Prop) (n : Nat) (r0 : zS) (x6 : Int32) : wp_X8_copy_191 p1 p2 p3 p4 p5 post (n + 1) r0 x6 = wb_X8_copy_191 p1 p2 p3 p4 p5 post (wp_X8_copy_191 p1 p2 p3 p4 p5 post n) r0 x6 := rfl
def wp_X8_copy_93 (p1 : Int32) (p2 : Int32) (p3 : Int32) (p4 : Int32) (p5 : Int32) (post : Int32 → (zS) → Prop) (r0 : zS) : Prop :=
  vp_in p1 8 ∧ (((r0.2.1 0 p1.toNatClampNeg) = 0 → wp_X8_copy_111 p1 p2 p3 p4 p5 post r0) ∧ (¬ (r0.2.1 0 p1.toNatClampNeg) = 0 → vp_in p2 8 ∧ (((r0.2.1 0 p2.toNatClampNeg) = 0 → wp_X8_copy_111 p1 p2 p3 p4 p5 post r0) ∧ (¬ (r0.2.1 0 p2.toNatClampNeg) = 0 → (p5 < 0 → wp_X8_copy_181 p1 p2 p3 p4 p5 post r0) ∧ (¬ p5 < 0 → (p3 < 0 → wp_X8_copy_181 p1 p2 p3 p4 p5 post r0) ∧ (¬ p3 < 0 → (p4 < 0 → wp_X8_copy_181 p1 p2 p3 p4 p5 post r0) ∧ (¬ p4 < 0 → vp_in p1 8 ∧ (((r0.2.1 2 p1.toNatClampNeg) < p5 → wp_X8_copy_181 p1 p2 p3 p4 p5 post r0) ∧ (¬ (r0.2.1 2 p1.toNatClampNeg) < p5 → vp_in p2 8 ∧ (((r0.2.1 2 p2.toNatClampNeg) < p5 → wp_X8_copy_181 p1 p2 p3 p4 p5 post r0) ∧ (¬ (r0.2.1 2 p2.toNatClampNeg) < p5 → vp_in p1 8 ∧ ((((r0.2.1 2 p1.toNatClampNeg) - p5) < p3 → wp_X8_copy_181 p1 p2 p3 p4 p5 post r0) ∧ (¬ ((r0.2.1 2 p1.toNatClampNeg) - p5) < p3 → vp_in p2 8 ∧ ((p4 ≤ ((r0.2.1 2 p2.toNatClampNeg) - p5) → ∃ n : Nat, wp_X8_copy_191 p1 p2 p3 p4 p5 post n r0 (0 : Int32)) ∧ (¬ p4 ≤ ((r0.2.1 2 p2.toNatClampNeg) - p5) → wp_X8_copy_181 p1 p2 p3 p4 p5 post r0)))))))))))))))
def wp_X8_copy (r0 : zS) (p1 : Int32) (p2 : Int32) (p3 : Int32) (p4 : Int32) (p5 : Int32) (post : Int32 → (zS) → Prop) : Prop :=
  wp_X8_in (p1.toInt64) (0 : Int64) (7 : Int64) (fun v1 => (v1 = 0 → wp_X8_copy_24 p1 p2 p3 p4 p5 post r0) ∧ (¬ v1 = 0 → wp_X8_in (p2.toInt64) (0 : Int64) (7 : Int64) (fun v5 => (v5 = 0 → wp_X8_copy_24 p1 p2 p3 p4 p5 post r0) ∧ (¬ v5 = 0 → vp_in p1 8 ∧ (((r0.2.1 0 p1.toNatClampNeg) = (2 : Int32) → wp_X8_copy_86 p1 p2 p3 p4 p5 post r0) ∧ (¬ (r0.2.1 0 p1.toNatClampNeg) = (2 : Int32) → vp_in p2 8 ∧ (((r0.2.1 0 p2.toNatClampNeg) = (2 : Int32) → wp_X8_copy_86 p1 p2 p3 p4 p5 post r0) ∧ (¬ (r0.2.1 0 p2.toNatClampNeg) = (2 : Int32) → vp_in p1 8 ∧ (((r0.2.1 0 p1.toNatClampNeg) = (1 : Int32) → vp_in p2 8 ∧ (((r0.2.1 0 p2.toNatClampNeg) = (1 : Int32) → vp_in p1 8 ∧ (vp_in p2 8 ∧ (((r0.2.1 1 p1.toNatClampNeg) = (r0.2.1 1 p2.toNatClampNeg) → wp_X8_copy_93 p1 p2 p3 p4 p5 post r0) ∧ (¬ (r0.2.1 1 p1.toNatClampNeg) = (r0.2.1 1 p2.toNatClampNeg) → wp_X8_copy_86 p1 p2 p3 p4 p5 post r0)))) ∧ (¬ (r0.2.1 0 p2.toNatClampNeg) = (1 : Int32) → wp_X8_copy_93 p1 p2 p3 p4 p5 post r0))) ∧ (¬ (r0.2.1 0 p1.toNatClampNeg) = (1 : Int32) → wp_X8_copy_93 p1 p2 p3 p4 p5 post r0))))))))))
set_option maxHeartbeats 4000000 in
set_option maxRecDepth 100000 in
theorem t_X8_copy_24 {p : Program} {l : Launch} {e : Env} {s : State} {m : MethodId} {args : Array Value} {below : List Frame} {meth : Method} {c : Code} {D : va_G} {K : Nat → ClassId} {h0 : Nat} {a0 : Nat → Nat} {n0 : Nat → Option Nat} {la0 : Nat → Nat} {p1 : Int32} {p2 : Int32} {p3 : Int32} {p4 : Int32} {p5 : Int32} {post : Int32 → (zS) → Prop} {A : Nat → Prop} (C : xC p s m args meth c cX8_copy RX8 7 (some .int) D vwCl (xty K)) (hA : ∀ q, s.heap.size ≤ q → A q) : ∀ (r0 : zS) (H : Heap) (locs : List Loc) (ls : Array Slot), lv_has ls 7 [(0, .ref h0)] → va_P D vwCl (wX8 K h0 a0 n0 la0 r0 ++ (([] : va_W))) H → va_D A (wX8 K h0 a0 n0 la0 r0 ++ (([] : va_W))) → va_S A s.heap H locs → wp_X8_copy_24 p1 p2 p3 p4 p5 post r0 → W p l e ({ frames := 1, cells := 0, slots := 0, locals := 25 } : Room) s m args below meth c H locs 0 0 (MQ below (va_Qi (fun r (u : (zS)) => post r u) (fun (u : (zS)) t => va_P D vwCl (wX8 K h0 a0 n0 la0 u ++ (([] : va_W))) t.heap) A) args s 0 0 A) (F0 m 24 ls []) := by
  obtain ⟨hx, hb, hr, hml, hown, hts, hlocks, hK, hT⟩ := id C
  intro r0 H locs ls hl hP hD hS h
  unfold wp_X8_copy_24 at h
  refine lv_aload_n hx hb dX8_copy_24 rfl (lv_at hl 0 rfl) ?_
  refine lv_bipush (v := -2) hx hb dX8_copy_25 (by decide) ?_
  refine xend_rw_i_id (wf := fun (u : (zS)) => (wX8 K h0 a0 n0 la0 u ++ (([] : va_W)))) (xRunV_id (As := [.int (-2 : Int32)]) (rest := []) C (c_X8_refuse h) k_X8_refuse mw_165 ⟨rfl, rfl⟩ ⟨Nat.le_of_ble_eq_true rfl, Nat.le_of_ble_eq_true rfl⟩ hP hD rfl rfl hl rfl rfl (Nat.le_of_ble_eq_true rfl) dX8_copy_27 ⟨Nat.le_refl _, Nat.le_refl _⟩) hD hS hA (fun _ => wX8_adr _ _) (fun v3 s4 H locs h hP hD hS => ?_)
  exact xrw_i C s4 h hP hS dX8_copy_30
set_option maxHeartbeats 4000000 in
set_option maxRecDepth 100000 in
theorem t_X8_copy_86 {p : Program} {l : Launch} {e : Env} {s : State} {m : MethodId} {args : Array Value} {below : List Frame} {meth : Method} {c : Code} {D : va_G} {K : Nat → ClassId} {h0 : Nat} {a0 : Nat → Nat} {n0 : Nat → Option Nat} {la0 : Nat → Nat} {p1 : Int32} {p2 : Int32} {p3 : Int32} {p4 : Int32} {p5 : Int32} {post : Int32 → (zS) → Prop} {A : Nat → Prop} (C : xC p s m args meth c cX8_copy RX8 7 (some .int) D vwCl (xty K)) (hA : ∀ q, s.heap.size ≤ q → A q) : ∀ (r0 : zS) (H : Heap) (locs : List Loc) (ls : Array Slot), lv_has ls 7 [(0, .ref h0)] → va_P D vwCl (wX8 K h0 a0 n0 la0 r0 ++ (([] : va_W))) H → va_D A (wX8 K h0 a0 n0 la0 r0 ++ (([] : va_W))) → va_S A s.heap H locs → wp_X8_copy_86 p1 p2 p3 p4 p5 post r0 → W p l e ({ frames := 1, cells := 0, slots := 0, locals := 25 } : Room) s m args below meth c H locs 0 0 (MQ below (va_Qi (fun r (u : (zS)) => post r u) (fun (u : (zS)) t => va_P D vwCl (wX8 K h0 a0 n0 la0 u ++ (([] : va_W))) t.heap) A) args s 0 0 A) (F0 m 86 ls []) := by
  obtain ⟨hx, hb, hr, hml, hown, hts, hlocks, hK, hT⟩ := id C
  intro r0 H locs ls hl hP hD hS h
  unfold wp_X8_copy_86 at h
  refine lv_aload_n hx hb dX8_copy_86 rfl (lv_at hl 0 rfl) ?_
  refine lv_bipush (v := -3) hx hb dX8_copy_87 (by decide) ?_
  refine xend_rw_i_id (wf := fun (u : (zS)) => (wX8 K h0 a0 n0 la0 u ++ (([] : va_W)))) (xRunV_id (As := [.int (-3 : Int32)]) (rest := []) C (c_X8_refuse h) k_X8_refuse mw_165 ⟨rfl, rfl⟩ ⟨Nat.le_of_ble_eq_true rfl, Nat.le_of_ble_eq_true rfl⟩ hP hD rfl rfl hl rfl rfl (Nat.le_of_ble_eq_true rfl) dX8_copy_89 ⟨Nat.le_refl _, Nat.le_refl _⟩) hD hS hA (fun _ => wX8_adr _ _) (fun v8 s9 H locs h hP hD hS => ?_)
  exact xrw_i C s9 h hP hS dX8_copy_92
set_option maxHeartbeats 4000000 in
set_option maxRecDepth 100000 in
theorem t_X8_copy_111 {p : Program} {l : Launch} {e : Env} {s : State} {m : MethodId} {args : Array Value} {below : List Frame} {meth : Method} {c : Code} {D : va_G} {K : Nat → ClassId} {h0 : Nat} {a0 : Nat → Nat} {n0 : Nat → Option Nat} {la0 : Nat → Nat} {p1 : Int32} {p2 : Int32} {p3 : Int32} {p4 : Int32} {p5 : Int32} {post : Int32 → (zS) → Prop} {A : Nat → Prop} (C : xC p s m args meth c cX8_copy RX8 7 (some .int) D vwCl (xty K)) (hA : ∀ q, s.heap.size ≤ q → A q) : ∀ (r0 : zS) (H : Heap) (locs : List Loc) (ls : Array Slot), lv_has ls 7 [(0, .ref h0)] → va_P D vwCl (wX8 K h0 a0 n0 la0 r0 ++ (([] : va_W))) H → va_D A (wX8 K h0 a0 n0 la0 r0 ++ (([] : va_W))) → va_S A s.heap H locs → wp_X8_copy_111 p1 p2 p3 p4 p5 post r0 → W p l e ({ frames := 1, cells := 0, slots := 0, locals := 25 } : Room) s m args below meth c H locs 0 0 (MQ below (va_Qi (fun r (u : (zS)) => post r u) (fun (u : (zS)) t => va_P D vwCl (wX8 K h0 a0 n0 la0 u ++ (([] : va_W))) t.heap) A) args s 0 0 A) (F0 m 111 ls []) := by
  obtain ⟨hx, hb, hr, hml, hown, hts, hlocks, hK, hT⟩ := id C
  intro r0 H locs ls hl hP hD hS h
  unfold wp_X8_copy_111 at h
  refine lv_aload_n hx hb dX8_copy_111 rfl (lv_at hl 0 rfl) ?_
  refine lv_bipush (v := -4) hx hb dX8_copy_112 (by decide) ?_
  refine xend_rw_i_id (wf := fun (u : (zS)) => (wX8 K h0 a0 n0 la0 u ++ (([] : va_W)))) (xRunV_id (As := [.int (-4 : Int32)]) (rest := []) C (c_X8_refuse h) k_X8_refuse mw_165 ⟨rfl, rfl⟩ ⟨Nat.le_of_ble_eq_true rfl, Nat.le_of_ble_eq_true rfl⟩ hP hD rfl rfl hl rfl rfl (Nat.le_of_ble_eq_true rfl) dX8_copy_114 ⟨Nat.le_refl _, Nat.le_refl _⟩) hD hS hA (fun _ => wX8_adr _ _) (fun v13 s14 H locs h hP hD hS => ?_)
  exact xrw_i C s14 h hP hS dX8_copy_117
set_option maxHeartbeats 4000000 in
set_option maxRecDepth 100000 in
theorem t_X8_copy_181 {p : Program} {l : Launch} {e : Env} {s : State} {m : MethodId} {args : Array Value} {below : List Frame} {meth : Method} {c : Code} {D : va_G} {K : Nat → ClassId} {h0 : Nat} {a0 : Nat → Nat} {n0 : Nat → Option Nat} {la0 : Nat → Nat} {p1 : Int32} {p2 : Int32} {p3 : Int32} {p4 : Int32} {p5 : Int32} {post : Int32 → (zS) → Prop} {A : Nat → Prop} (C : xC p s m args meth c cX8_copy RX8 7 (some .int) D vwCl (xty K)) (hA : ∀ q, s.heap.size ≤ q → A q) : ∀ (r0 : zS) (H : Heap) (locs : List Loc) (ls : Array Slot), lv_has ls 7 [(0, .ref h0)] → va_P D vwCl (wX8 K h0 a0 n0 la0 r0 ++ (([] : va_W))) H → va_D A (wX8 K h0 a0 n0 la0 r0 ++ (([] : va_W))) → va_S A s.heap H locs → wp_X8_copy_181 p1 p2 p3 p4 p5 post r0 → W p l e ({ frames := 1, cells := 0, slots := 0, locals := 25 } : Room) s m args below meth c H locs 0 0 (MQ below (va_Qi (fun r (u : (zS)) => post r u) (fun (u : (zS)) t => va_P D vwCl (wX8 K h0 a0 n0 la0 u ++ (([] : va_W))) t.heap) A) args s 0 0 A) (F0 m 181 ls []) := by
  obtain ⟨hx, hb, hr, hml, hown, hts, hlocks, hK, hT⟩ := id C
  intro r0 H locs ls hl hP hD hS h
  unfold wp_X8_copy_181 at h
  refine lv_aload_n hx hb dX8_copy_181 rfl (lv_at hl 0 rfl) ?_
  refine lv_bipush (v := -2) hx hb dX8_copy_182 (by decide) ?_
  refine xend_rw_i_id (wf := fun (u : (zS)) => (wX8 K h0 a0 n0 la0 u ++ (([] : va_W)))) (xRunV_id (As := [.int (-2 : Int32)]) (rest := []) C (c_X8_refuse h) k_X8_refuse mw_165 ⟨rfl, rfl⟩ ⟨Nat.le_of_ble_eq_true rfl, Nat.le_of_ble_eq_true rfl⟩ hP hD rfl rfl hl rfl rfl (Nat.le_of_ble_eq_true rfl) dX8_copy_184 ⟨Nat.le_refl _, Nat.le_refl _⟩) hD hS hA (fun _ => wX8_adr _ _) (fun v17 s18 H locs h hP hD hS => ?_)
  exact xrw_i C s18 h hP hS dX8_copy_187
set_option maxHeartbeats 4000000 in
set_option maxRecDepth 100000 in
theorem t_X8_copy_225 {p : Program} {l : Launch} {e : Env} {s : State} {m : MethodId} {args : Array Value} {below : List Frame} {meth : Method} {c : Code} {D : va_G} {K : Nat → ClassId} {h0 : Nat} {a0 : Nat → Nat} {n0 : Nat → Option Nat} {la0 : Nat → Nat} {p1 : Int32} {p2 : Int32} {p3 : Int32} {p4 : Int32} {p5 : Int32} {post : Int32 → (zS) → Prop} {A : Nat → Prop} (C : xC p s m args meth c cX8_copy RX8 7 (some .int) D vwCl (xty K)) (hA : ∀ q, s.heap.size ≤ q → A q) : ∀ (n : Nat) (r0 : zS) (x6 : Int32) (H : Heap) (locs : List Loc) (ls : Array Slot), lv_has ls 7 [(0, .ref h0), (2, .int p2), (4, .int p4), (5, .int p5), (6, .int x6)] → va_P D vwCl (wX8 K h0 a0 n0 la0 r0 ++ (([] : va_W))) H → va_D A (wX8 K h0 a0 n0 la0 r0 ++ (([] : va_W))) → va_S A s.heap H locs → wp_X8_copy_225 p1 p2 p3 p4 p5 post n r0 x6 → W p l e ({ frames := 1, cells := 0, slots := 0, locals := 25 } : Room) s m args below meth c H locs 0 0 (MQ below (va_Qi (fun r (u : (zS)) => post r u) (fun (u : (zS)) t => va_P D vwCl (wX8 K h0 a0 n0 la0 u ++ (([] : va_W))) t.heap) A) args s 0 0 A) (F0 m 225 ls []) := by
  obtain ⟨hx, hb, hr, hml, hown, hts, hlocks, hK, hT⟩ := id C
  intro n
  induction n with
  | zero =>
    intro r0 x6 H locs ls hl hP hD hS h
    exact False.elim h
  | succ n ihn =>
    intro r0 x6 H locs ls hl hP hD hS h
    rw [wu_X8_copy_225] at h
    unfold wb_X8_copy_225 at h
    refine lv_iload hx hb dX8_copy_225 (lv_at hl 4 rfl) ?_
    refine lv_iload hx hb dX8_copy_227 (lv_at hl 3 rfl) ?_
    refine lv_icmp_ge (tgt := 257) hx hb dX8_copy_229 (by decide) (fun c26 => ?_) (fun c26 => ?_)
    · replace h := And.left h c26
      refine lv_iload hx hb dX8_copy_257 (lv_at hl 3 rfl) ?_
      exact xrw_i C r0 h hP hS dX8_copy_259
    · replace h := And.right h c26
      refine lv_aload_n hx hb dX8_copy_232 rfl (lv_at hl 0 rfl) ?_
      refine gX8_3 C hP dX8_copy_233 ?_
      refine lv_iload_n hx hb dX8_copy_236 rfl (lv_at hl 1 rfl) ?_
      have hin := And.left h
      obtain ⟨k27, ek27⟩ : ∃ j : Nat, j = p2.toNatClampNeg := ⟨_, rfl⟩
      replace h := And.right h k27 ek27
      have hk27 : k27 < 8 := by rw [ek27]; exact Nat.not_le.mp (fun q => hin (Or.inr q))
      refine aX8_3 C hP hin ek27 dX8_copy_237 ?_
      refine lv_iload hx hb dX8_copy_238 (lv_at hl 2 rfl) ?_
      refine lv_iload hx hb dX8_copy_240 (lv_at hl 4 rfl) ?_
      refine lv_iadd hx hb dX8_copy_242 ?_
      refine lv_aload_n hx hb dX8_copy_243 rfl (lv_at hl 0 rfl) ?_
      refine gX8_4 C hP dX8_copy_244 ?_
      refine lv_iload hx hb dX8_copy_247 (lv_at hl 4 rfl) ?_
      have hin := And.left h
      replace h := And.right h
      refine lX8_4 C hP hin dX8_copy_249 ?_
      refine lv_topl (fun v28 ev28 => ?_)
      replace h := h v28 ev28
      have hin := And.left h
      obtain ⟨j29, ej29⟩ : ∃ j : Nat, j = (p4 + x6).toNatClampNeg := ⟨_, rfl⟩
      replace h := And.right h j29 ej29
      refine xlast hx hb hK hP hD hS (23 + k27) 1 (wX8_row hk27) rfl hin ej29 dX8_copy_250 (fun H locs hP hD hS => ?_)
      rw [wX8_rowset hk27] at hP hD
      obtain ⟨v30, ev30⟩ : ∃ y : Int32, y = x6 + (1 : Int32) := ⟨_, rfl⟩
      replace h := h v30 ev30
      refine lv_iinc (v := v30) (lv' := [(6, .int v30), (0, .ref h0), (2, .int p2), (4, .int p4), (5, .int p5)]) hx hb dX8_copy_251 hl (k := 4) rfl (by rw [ev30]; rfl) (by decide) rfl (fun ls hl => ?_)
      refine lv_goto (tgt := 225) hx hb dX8_copy_254 (by decide) ?_
      exact ihn _ _ _ _ _ (lv_sub hl [1, 2, 3, 4, 0] rfl) hP hD hS h
set_option maxHeartbeats 4000000 in
set_option maxRecDepth 100000 in
theorem t_X8_copy_191 {p : Program} {l : Launch} {e : Env} {s : State} {m : MethodId} {args : Array Value} {below : List Frame} {meth : Method} {c : Code} {D : va_G} {K : Nat → ClassId} {h0 : Nat} {a0 : Nat → Nat} {n0 : Nat → Option Nat} {la0 : Nat → Nat} {p1 : Int32} {p2 : Int32} {p3 : Int32} {p4 : Int32} {p5 : Int32} {post : Int32 → (zS) → Prop} {A : Nat → Prop} (C : xC p s m args meth c cX8_copy RX8 7 (some .int) D vwCl (xty K)) (hA : ∀ q, s.heap.size ≤ q → A q) : ∀ (n : Nat) (r0 : zS) (x6 : Int32) (H : Heap) (locs : List Loc) (ls : Array Slot), lv_has ls 7 [(0, .ref h0), (1, .int p1), (2, .int p2), (3, .int p3), (4, .int p4), (5, .int p5), (6, .int x6)] → va_P D vwCl (wX8 K h0 a0 n0 la0 r0 ++ (([] : va_W))) H → va_D A (wX8 K h0 a0 n0 la0 r0 ++ (([] : va_W))) → va_S A s.heap H locs → wp_X8_copy_191 p1 p2 p3 p4 p5 post n r0 x6 → W p l e ({ frames := 1, cells := 0, slots := 0, locals := 25 } : Room) s m args below meth c H locs 0 0 (MQ below (va_Qi (fun r (u : (zS)) => post r u) (fun (u : (zS)) t => va_P D vwCl (wX8 K h0 a0 n0 la0 u ++ (([] : va_W))) t.heap) A) args s 0 0 A) (F0 m 191 ls []) := by
  obtain ⟨hx, hb, hr, hml, hown, hts, hlocks, hK, hT⟩ := id C
  intro n
  induction n with
  | zero =>
    intro r0 x6 H locs ls hl hP hD hS h
    exact False.elim h
  | succ n ihn =>
    intro r0 x6 H locs ls hl hP hD hS h
    rw [wu_X8_copy_191] at h
    unfold wb_X8_copy_191 at h
    refine lv_iload hx hb dX8_copy_191 (lv_at hl 6 rfl) ?_
    refine lv_iload hx hb dX8_copy_193 (lv_at hl 5 rfl) ?_
    refine lv_icmp_ge (tgt := 222) hx hb dX8_copy_195 (by decide) (fun c25 => ?_) (fun c25 => ?_)
    · replace h := And.left h c25
      refine lv_iconst (v := 0) hx hb dX8_copy_222 (by decide) ?_
      refine lv_istore (lv' := [(6, .int (0 : Int32)), (0, .ref h0), (1, .int p1), (2, .int p2), (3, .int p3), (4, .int p4), (5, .int p5)]) hx hb dX8_copy_223 hl (by decide) rfl (fun ls hl => ?_)
      obtain ⟨n0, h⟩ := h
      exact t_X8_copy_225 C hA n0 _ _ _ _ _ (lv_sub hl [1, 3, 5, 6, 0] rfl) hP hD hS h
    · replace h := And.right h c25
      refine lv_aload_n hx hb dX8_copy_198 rfl (lv_at hl 0 rfl) ?_
      refine gX8_4 C hP dX8_copy_199 ?_
      refine lv_iload hx hb dX8_copy_202 (lv_at hl 6 rfl) ?_
      refine lv_aload_n hx hb dX8_copy_204 rfl (lv_at hl 0 rfl) ?_
      refine gX8_3 C hP dX8_copy_205 ?_
      refine lv_iload_n hx hb dX8_copy_208 rfl (lv_at hl 1 rfl) ?_
      have hin := And.left h
      obtain ⟨k31, ek31⟩ : ∃ j : Nat, j = p1.toNatClampNeg := ⟨_, rfl⟩
      replace h := And.right h k31 ek31
      have hk31 : k31 < 8 := by rw [ek31]; exact Nat.not_le.mp (fun q => hin (Or.inr q))
      refine aX8_3 C hP hin ek31 dX8_copy_209 ?_
      refine lv_iload_n hx hb dX8_copy_210 rfl (lv_at hl 3 rfl) ?_
      refine lv_iload hx hb dX8_copy_211 (lv_at hl 6 rfl) ?_
      refine lv_iadd hx hb dX8_copy_213 ?_
      have hin := And.left h
      replace h := And.right h
      refine va_lald hx hb hK hP (23 + k31) 1 (wX8_row hk31) rfl hin dX8_copy_214 ?_
      refine lv_topl (fun v32 ev32 => ?_)
      replace h := h v32 ev32
      have hin := And.left h
      obtain ⟨j33, ej33⟩ : ∃ j : Nat, j = x6.toNatClampNeg := ⟨_, rfl⟩
      replace h := And.right h j33 ej33
      refine sX8_4 C hP hD hS hin ej33 dX8_copy_215 (fun H locs hP hD hS => ?_)
      obtain ⟨v34, ev34⟩ : ∃ y : Int32, y = x6 + (1 : Int32) := ⟨_, rfl⟩
      replace h := h v34 ev34
      refine lv_iinc (v := v34) (lv' := [(6, .int v34), (0, .ref h0), (1, .int p1), (2, .int p2), (3, .int p3), (4, .int p4), (5, .int p5)]) hx hb dX8_copy_216 hl (k := 6) rfl (by rw [ev34]; rfl) (by decide) rfl (fun ls hl => ?_)
      refine lv_goto (tgt := 191) hx hb dX8_copy_219 (by decide) ?_
      exact ihn _ _ _ _ _ (lv_sub hl [1, 2, 3, 4, 5, 6, 0] rfl) hP hD hS h
set_option maxHeartbeats 4000000 in
set_option maxRecDepth 100000 in
theorem t_X8_copy_93 {p : Program} {l : Launch} {e : Env} {s : State} {m : MethodId} {args : Array Value} {below : List Frame} {meth : Method} {c : Code} {D : va_G} {K : Nat → ClassId} {h0 : Nat} {a0 : Nat → Nat} {n0 : Nat → Option Nat} {la0 : Nat → Nat} {p1 : Int32} {p2 : Int32} {p3 : Int32} {p4 : Int32} {p5 : Int32} {post : Int32 → (zS) → Prop} {A : Nat → Prop} (C : xC p s m args meth c cX8_copy RX8 7 (some .int) D vwCl (xty K)) (hA : ∀ q, s.heap.size ≤ q → A q) : ∀ (r0 : zS) (H : Heap) (locs : List Loc) (ls : Array Slot), lv_has ls 7 [(0, .ref h0), (1, .int p1), (2, .int p2), (3, .int p3), (4, .int p4), (5, .int p5)] → va_P D vwCl (wX8 K h0 a0 n0 la0 r0 ++ (([] : va_W))) H → va_D A (wX8 K h0 a0 n0 la0 r0 ++ (([] : va_W))) → va_S A s.heap H locs → wp_X8_copy_93 p1 p2 p3 p4 p5 post r0 → W p l e ({ frames := 1, cells := 0, slots := 0, locals := 25 } : Room) s m args below meth c H locs 0 0 (MQ below (va_Qi (fun r (u : (zS)) => post r u) (fun (u : (zS)) t => va_P D vwCl (wX8 K h0 a0 n0 la0 u ++ (([] : va_W))) t.heap) A) args s 0 0 A) (F0 m 93 ls []) := by
  obtain ⟨hx, hb, hr, hml, hown, hts, hlocks, hK, hT⟩ := id C
  intro r0 H locs ls hl hP hD hS h
  unfold wp_X8_copy_93 at h
  refine lv_aload_n hx hb dX8_copy_93 rfl (lv_at hl 0 rfl) ?_
  refine gX8_0 C hP dX8_copy_94 ?_
  refine lv_iload_n hx hb dX8_copy_97 rfl (lv_at hl 1 rfl) ?_
  have hin := And.left h
  replace h := And.right h
  refine lX8_0 C hP hin dX8_copy_98 ?_
  refine lv_if_eq (tgt := 111) hx hb dX8_copy_99 (by decide) (fun c12 => ?_) (fun c12 => ?_)
  · replace h := And.left h c12
    exact t_X8_copy_111 C hA _ _ _ _ (lv_sub hl [0] rfl) hP hD hS h
  · replace h := And.right h c12
    refine lv_aload_n hx hb dX8_copy_102 rfl (lv_at hl 0 rfl) ?_
    refine gX8_0 C hP dX8_copy_103 ?_
    refine lv_iload_n hx hb dX8_copy_106 rfl (lv_at hl 2 rfl) ?_
    have hin := And.left h
    replace h := And.right h
    refine lX8_0 C hP hin dX8_copy_107 ?_
    refine lv_if_ne (tgt := 118) hx hb dX8_copy_108 (by decide) (fun c15 => ?_) (fun c15 => ?_)
    · replace h := And.right h c15
      refine lv_iload hx hb dX8_copy_118 (lv_at hl 5 rfl) ?_
      refine lv_if_lt (tgt := 181) hx hb dX8_copy_120 (by decide) (fun c16 => ?_) (fun c16 => ?_)
      · replace h := And.left h c16
        exact t_X8_copy_181 C hA _ _ _ _ (lv_sub hl [0] rfl) hP hD hS h
      · replace h := And.right h c16
        refine lv_iload_n hx hb dX8_copy_123 rfl (lv_at hl 3 rfl) ?_
        refine lv_if_lt (tgt := 181) hx hb dX8_copy_124 (by decide) (fun c19 => ?_) (fun c19 => ?_)
        · replace h := And.left h c19
          exact t_X8_copy_181 C hA _ _ _ _ (lv_sub hl [0] rfl) hP hD hS h
        · replace h := And.right h c19
          refine lv_iload hx hb dX8_copy_127 (lv_at hl 4 rfl) ?_
          refine lv_if_lt (tgt := 181) hx hb dX8_copy_129 (by decide) (fun c20 => ?_) (fun c20 => ?_)
          · replace h := And.left h c20
            exact t_X8_copy_181 C hA _ _ _ _ (lv_sub hl [0] rfl) hP hD hS h
          · replace h := And.right h c20
            refine lv_iload hx hb dX8_copy_132 (lv_at hl 5 rfl) ?_
            refine lv_aload_n hx hb dX8_copy_134 rfl (lv_at hl 0 rfl) ?_
            refine gX8_2 C hP dX8_copy_135 ?_
            refine lv_iload_n hx hb dX8_copy_138 rfl (lv_at hl 1 rfl) ?_
            have hin := And.left h
            replace h := And.right h
            refine lX8_2 C hP hin dX8_copy_139 ?_
            refine lv_icmp_gt (tgt := 181) hx hb dX8_copy_140 (by decide) (fun c21 => ?_) (fun c21 => ?_)
            · replace h := And.left h c21
              exact t_X8_copy_181 C hA _ _ _ _ (lv_sub hl [0] rfl) hP hD hS h
            · replace h := And.right h c21
              refine lv_iload hx hb dX8_copy_143 (lv_at hl 5 rfl) ?_
              refine lv_aload_n hx hb dX8_copy_145 rfl (lv_at hl 0 rfl) ?_
              refine gX8_2 C hP dX8_copy_146 ?_
              refine lv_iload_n hx hb dX8_copy_149 rfl (lv_at hl 2 rfl) ?_
              have hin := And.left h
              replace h := And.right h
              refine lX8_2 C hP hin dX8_copy_150 ?_
              refine lv_icmp_gt (tgt := 181) hx hb dX8_copy_151 (by decide) (fun c22 => ?_) (fun c22 => ?_)
              · replace h := And.left h c22
                exact t_X8_copy_181 C hA _ _ _ _ (lv_sub hl [0] rfl) hP hD hS h
              · replace h := And.right h c22
                refine lv_iload_n hx hb dX8_copy_154 rfl (lv_at hl 3 rfl) ?_
                refine lv_aload_n hx hb dX8_copy_155 rfl (lv_at hl 0 rfl) ?_
                refine gX8_2 C hP dX8_copy_156 ?_
                refine lv_iload_n hx hb dX8_copy_159 rfl (lv_at hl 1 rfl) ?_
                have hin := And.left h
                replace h := And.right h
                refine lX8_2 C hP hin dX8_copy_160 ?_
                refine lv_iload hx hb dX8_copy_161 (lv_at hl 5 rfl) ?_
                refine lv_isub hx hb dX8_copy_163 ?_
                refine lv_icmp_gt (tgt := 181) hx hb dX8_copy_164 (by decide) (fun c23 => ?_) (fun c23 => ?_)
                · replace h := And.left h c23
                  exact t_X8_copy_181 C hA _ _ _ _ (lv_sub hl [0] rfl) hP hD hS h
                · replace h := And.right h c23
                  refine lv_iload hx hb dX8_copy_167 (lv_at hl 4 rfl) ?_
                  refine lv_aload_n hx hb dX8_copy_169 rfl (lv_at hl 0 rfl) ?_
                  refine gX8_2 C hP dX8_copy_170 ?_
                  refine lv_iload_n hx hb dX8_copy_173 rfl (lv_at hl 2 rfl) ?_
                  have hin := And.left h
                  replace h := And.right h
                  refine lX8_2 C hP hin dX8_copy_174 ?_
                  refine lv_iload hx hb dX8_copy_175 (lv_at hl 5 rfl) ?_
                  refine lv_isub hx hb dX8_copy_177 ?_
                  refine lv_icmp_le (tgt := 188) hx hb dX8_copy_178 (by decide) (fun c24 => ?_) (fun c24 => ?_)
                  · replace h := And.left h c24
                    refine lv_iconst (v := 0) hx hb dX8_copy_188 (by decide) ?_
                    refine lv_istore (lv' := [(6, .int (0 : Int32)), (0, .ref h0), (1, .int p1), (2, .int p2), (3, .int p3), (4, .int p4), (5, .int p5)]) hx hb dX8_copy_189 hl (by decide) rfl (fun ls hl => ?_)
                    obtain ⟨n0, h⟩ := h
                    exact t_X8_copy_191 C hA n0 _ _ _ _ _ (lv_sub hl [1, 2, 3, 4, 5, 6, 0] rfl) hP hD hS h
                  · replace h := And.right h c24
                    exact t_X8_copy_181 C hA _ _ _ _ (lv_sub hl [0] rfl) hP hD hS h
    · replace h := And.left h c15
      exact t_X8_copy_111 C hA _ _ _ _ (lv_sub hl [0] rfl) hP hD hS h
set_option maxHeartbeats 4000000 in
set_option maxRecDepth 100000 in
theorem c_X8_copy {l : Launch} {D : va_G} {K : Nat → ClassId} {h0 : Nat} {a0 : Nat → Nat} {n0 : Nat → Option Nat} {la0 : Nat → Nat} {r0 : zS} {p1 : Int32} {p2 : Int32} {p3 : Int32} {p4 : Int32} {p5 : Int32} {sz : Nat} {post : Int32 → (zS) → Prop}   (h : wp_X8_copy r0 p1 p2 p3 p4 p5 post) : Met l yX8_copy (Cond.code yX8_copy cX8_copy 7 (some .int) :: wsL_law) ({ frames := 1, cells := 0, slots := 0, locals := 25 } : Room) (va_Pc [.ref h0, .int p1, .int p2, .int p3, .int p4, .int p5] (xPre D vwCl (xty K) (wX8 K h0 a0 n0 la0 r0 ++ (([] : va_W))) sz)) (va_Qi (fun r (u : (zS)) => post r u) (fun (u : (zS)) t => va_P D vwCl (wX8 K h0 a0 n0 la0 u ++ (([] : va_W))) t.heap) (va_A (wX8 K h0 a0 n0 la0 r0 ++ (([] : va_W))) sz)) 0 0 (va_A (wX8 K h0 a0 n0 la0 r0 ++ (([] : va_W))) sz) := by
  refine xMet (by decide) rfl (Nat.le_of_ble_eq_true rfl) (fun p e s m args below meth c C hnm hP hD hsz ls hl => ?_)
  have hl : lv_has ls 7 [(0, .ref h0), (1, .int p1), (2, .int p2), (3, .int p3), (4, .int p4), (5, .int p5)] := hl
  obtain ⟨hx, hb, hr, hml, hown, hts, hlocks, hK, hT⟩ := id C
  subst hsz
  generalize hAe : va_A (wX8 K h0 a0 n0 la0 r0 ++ (([] : va_W))) s.heap.size = A at hD ⊢
  have hA : ∀ q : Nat, s.heap.size ≤ q → A q := fun q h => by rw [← hAe]; exact Or.inr h
  have hS : va_S A s.heap s.heap [] := va_S.rf
  have hP : va_P D vwCl (wX8 K h0 a0 n0 la0 r0 ++ (([] : va_W))) s.heap := hP
  unfold wp_X8_copy at h
  refine lv_iload_n hx hb dX8_copy_0 rfl (lv_at hl 1 rfl) ?_
  refine lv_i2l hx hb dX8_copy_1 rfl ?_
  refine lv_lconst (v := 0) hx hb dX8_copy_2 (by decide) ?_
  refine lv_ldc2 hx hb hown (hts _ mw_159) dX8_copy_3 ?_
  refine xend_ro_i (xRunS (wc := ([] : va_W)) (As := [.long (p1.toInt64), .long (0 : Int64), .long (7 : Int64)]) (rest := []) C (c_X8_in h) k_X8_in mw_162 ⟨rfl, rfl⟩ ⟨Nat.le_of_ble_eq_true rfl, Nat.le_of_ble_eq_true rfl⟩ hP hD [] rfl rfl hl rfl rfl (Nat.le_of_ble_eq_true rfl) dX8_copy_6 ⟨Nat.le_refl _, Nat.le_refl _⟩) (fun v1 h => ?_)
  refine lv_if_eq (tgt := 24) hx hb dX8_copy_9 (by decide) (fun c2 => ?_) (fun c2 => ?_)
  · replace h := And.left h c2
    exact t_X8_copy_24 C hA _ _ _ _ (lv_sub hl [0] rfl) hP hD hS h
  · replace h := And.right h c2
    refine lv_iload_n hx hb dX8_copy_12 rfl (lv_at hl 2 rfl) ?_
    refine lv_i2l hx hb dX8_copy_13 rfl ?_
    refine lv_lconst (v := 0) hx hb dX8_copy_14 (by decide) ?_
    refine lv_ldc2 hx hb hown (hts _ mw_159) dX8_copy_15 ?_
    refine xend_ro_i (xRunS (wc := ([] : va_W)) (As := [.long (p2.toInt64), .long (0 : Int64), .long (7 : Int64)]) (rest := []) C (c_X8_in h) k_X8_in mw_162 ⟨rfl, rfl⟩ ⟨Nat.le_of_ble_eq_true rfl, Nat.le_of_ble_eq_true rfl⟩ hP hD [] rfl rfl hl rfl rfl (Nat.le_of_ble_eq_true rfl) dX8_copy_18 ⟨Nat.le_refl _, Nat.le_refl _⟩) (fun v5 h => ?_)
    refine lv_if_ne (tgt := 31) hx hb dX8_copy_21 (by decide) (fun c6 => ?_) (fun c6 => ?_)
    · replace h := And.right h c6
      refine lv_aload_n hx hb dX8_copy_31 rfl (lv_at hl 0 rfl) ?_
      refine gX8_0 C hP dX8_copy_32 ?_
      refine lv_iload_n hx hb dX8_copy_35 rfl (lv_at hl 1 rfl) ?_
      have hin := And.left h
      replace h := And.right h
      refine lX8_0 C hP hin dX8_copy_36 ?_
      refine lv_iconst (v := 2) hx hb dX8_copy_37 (by decide) ?_
      refine lv_icmp_eq (tgt := 86) hx hb dX8_copy_38 (by decide) (fun c7 => ?_) (fun c7 => ?_)
      · replace h := And.left h c7
        exact t_X8_copy_86 C hA _ _ _ _ (lv_sub hl [0] rfl) hP hD hS h
      · replace h := And.right h c7
        refine lv_aload_n hx hb dX8_copy_41 rfl (lv_at hl 0 rfl) ?_
        refine gX8_0 C hP dX8_copy_42 ?_
        refine lv_iload_n hx hb dX8_copy_45 rfl (lv_at hl 2 rfl) ?_
        have hin := And.left h
        replace h := And.right h
        refine lX8_0 C hP hin dX8_copy_46 ?_
        refine lv_iconst (v := 2) hx hb dX8_copy_47 (by decide) ?_
        refine lv_icmp_eq (tgt := 86) hx hb dX8_copy_48 (by decide) (fun c10 => ?_) (fun c10 => ?_)
        · replace h := And.left h c10
          exact t_X8_copy_86 C hA _ _ _ _ (lv_sub hl [0] rfl) hP hD hS h
        · replace h := And.right h c10
          refine lv_aload_n hx hb dX8_copy_51 rfl (lv_at hl 0 rfl) ?_
          refine gX8_0 C hP dX8_copy_52 ?_
          refine lv_iload_n hx hb dX8_copy_55 rfl (lv_at hl 1 rfl) ?_
          have hin := And.left h
          replace h := And.right h
          refine lX8_0 C hP hin dX8_copy_56 ?_
          refine lv_iconst (v := 1) hx hb dX8_copy_57 (by decide) ?_
          refine lv_icmp_ne (tgt := 93) hx hb dX8_copy_58 (by decide) (fun c11 => ?_) (fun c11 => ?_)
          · replace h := And.right h c11
            exact t_X8_copy_93 C hA _ _ _ _ (lv_sub hl [0, 1, 2, 3, 4, 5] rfl) hP hD hS h
          · replace h := And.left h c11
            refine lv_aload_n hx hb dX8_copy_61 rfl (lv_at hl 0 rfl) ?_
            refine gX8_0 C hP dX8_copy_62 ?_
            refine lv_iload_n hx hb dX8_copy_65 rfl (lv_at hl 2 rfl) ?_
            have hin := And.left h
            replace h := And.right h
            refine lX8_0 C hP hin dX8_copy_66 ?_
            refine lv_iconst (v := 1) hx hb dX8_copy_67 (by decide) ?_
            refine lv_icmp_ne (tgt := 93) hx hb dX8_copy_68 (by decide) (fun c35 => ?_) (fun c35 => ?_)
            · replace h := And.right h c35
              exact t_X8_copy_93 C hA _ _ _ _ (lv_sub hl [0, 1, 2, 3, 4, 5] rfl) hP hD hS h
            · replace h := And.left h c35
              refine lv_aload_n hx hb dX8_copy_71 rfl (lv_at hl 0 rfl) ?_
              refine gX8_1 C hP dX8_copy_72 ?_
              refine lv_iload_n hx hb dX8_copy_75 rfl (lv_at hl 1 rfl) ?_
              have hin := And.left h
              replace h := And.right h
              refine lX8_1 C hP hin dX8_copy_76 ?_
              refine lv_aload_n hx hb dX8_copy_77 rfl (lv_at hl 0 rfl) ?_
              refine gX8_1 C hP dX8_copy_78 ?_
              refine lv_iload_n hx hb dX8_copy_81 rfl (lv_at hl 2 rfl) ?_
              have hin := And.left h
              replace h := And.right h
              refine lX8_1 C hP hin dX8_copy_82 ?_
              refine lv_icmp_eq (tgt := 93) hx hb dX8_copy_83 (by decide) (fun c36 => ?_) (fun c36 => ?_)
              · replace h := And.left h c36
                exact t_X8_copy_93 C hA _ _ _ _ (lv_sub hl [0, 1, 2, 3, 4, 5] rfl) hP hD hS h
              · replace h := And.right h c36
                exact t_X8_copy_86 C hA _ _ _ _ (lv_sub hl [0] rfl) hP hD hS h
    · replace h := And.left h c6
      exact t_X8_copy_24 C hA _ _ _ _ (lv_sub hl [0] rfl) hP hD hS h

def wp_X8_element (r0 : zS) (p1 : Int32) (p2 : Int32) (post : Int64 → Prop) : Prop :=
  wp_X8_in (p1.toInt64) (0 : Int64) (7 : Int64) (fun v1 => (v1 = 0 → post (0 : Int64) ) ∧ (¬ v1 = 0 → vp_in p1 8 ∧ (((r0.2.1 0 p1.toNatClampNeg) = (1 : Int32) → vp_in p1 8 ∧ (wp_X8_in (p2.toInt64) (0 : Int64) (((r0.2.1 2 p1.toNatClampNeg) - (1 : Int32)).toInt64) (fun v4 => (v4 = 0 → post (0 : Int64) ) ∧ (¬ v4 = 0 → vp_in p1 8 ∧ (∀ k6 : Nat, k6 = p1.toNatClampNeg → vp_in p2 40 ∧ (post (r0.2.2 (100 + k6) p2.toNatClampNeg) )))))) ∧ (¬ (r0.2.1 0 p1.toNatClampNeg) = (1 : Int32) → post (0 : Int64) ))))
set_option maxHeartbeats 4000000 in
set_option maxRecDepth 100000 in
theorem c_X8_element {l : Launch} {D : va_G} {K : Nat → ClassId} {h0 : Nat} {a0 : Nat → Nat} {n0 : Nat → Option Nat} {la0 : Nat → Nat} {r0 : zS} {p1 : Int32} {p2 : Int32} {sz : Nat} {post : Int64 → Prop}   (h : wp_X8_element r0 p1 p2 post) : Met l yX8_element (Cond.code yX8_element cX8_element 3 (some .long) :: wsL_law) ({ frames := 1, cells := 0, slots := 0, locals := 25 } : Room) (va_Pc [.ref h0, .int p1, .int p2] (xPre D vwCl (xty K) (wX8 K h0 a0 n0 la0 r0 ++ (([] : va_W))) sz)) (roL post) 0 0 (fun _ => False) := by
  refine xMet (by decide) rfl (Nat.le_of_ble_eq_true rfl) (fun p e s m args below meth c C hnm hP hD hsz ls hl => ?_)
  have hl : lv_has ls 3 [(0, .ref h0), (1, .int p1), (2, .int p2)] := hl
  obtain ⟨hx, hb, hr, hml, hown, hts, hlocks, hK, hT⟩ := id C
  unfold wp_X8_element at h
  refine lv_iload_n hx hb dX8_element_0 rfl (lv_at hl 1 rfl) ?_
  refine lv_i2l hx hb dX8_element_1 rfl ?_
  refine lv_lconst (v := 0) hx hb dX8_element_2 (by decide) ?_
  refine lv_ldc2 hx hb hown (hts _ mw_159) dX8_element_3 ?_
  refine xend_ro_i (xRunS (wc := ([] : va_W)) (As := [.long (p1.toInt64), .long (0 : Int64), .long (7 : Int64)]) (rest := []) C (c_X8_in h) k_X8_in mw_162 ⟨rfl, rfl⟩ ⟨Nat.le_of_ble_eq_true rfl, Nat.le_of_ble_eq_true rfl⟩ hP hD [] rfl rfl hl rfl rfl (Nat.le_of_ble_eq_true rfl) dX8_element_6 ⟨Nat.le_refl _, Nat.le_refl _⟩) (fun v1 h => ?_)
  refine lv_if_eq (tgt := 51) hx hb dX8_element_9 (by decide) (fun c2 => ?_) (fun c2 => ?_)
  · replace h := And.left h c2
    refine lv_lconst (v := 0) hx hb dX8_element_51 (by decide) ?_
    exact xro_l C h dX8_element_52
  · replace h := And.right h c2
    refine lv_aload_n hx hb dX8_element_12 rfl (lv_at hl 0 rfl) ?_
    refine gX8_0 C hP dX8_element_13 ?_
    refine lv_iload_n hx hb dX8_element_16 rfl (lv_at hl 1 rfl) ?_
    have hin := And.left h
    replace h := And.right h
    refine lX8_0 C hP hin dX8_element_17 ?_
    refine lv_iconst (v := 1) hx hb dX8_element_18 (by decide) ?_
    refine lv_icmp_ne (tgt := 51) hx hb dX8_element_19 (by decide) (fun c3 => ?_) (fun c3 => ?_)
    · replace h := And.right h c3
      refine lv_lconst (v := 0) hx hb dX8_element_51 (by decide) ?_
      exact xro_l C h dX8_element_52
    · replace h := And.left h c3
      refine lv_iload_n hx hb dX8_element_22 rfl (lv_at hl 2 rfl) ?_
      refine lv_i2l hx hb dX8_element_23 rfl ?_
      refine lv_lconst (v := 0) hx hb dX8_element_24 (by decide) ?_
      refine lv_aload_n hx hb dX8_element_25 rfl (lv_at hl 0 rfl) ?_
      refine gX8_2 C hP dX8_element_26 ?_
      refine lv_iload_n hx hb dX8_element_29 rfl (lv_at hl 1 rfl) ?_
      have hin := And.left h
      replace h := And.right h
      refine lX8_2 C hP hin dX8_element_30 ?_
      refine lv_iconst (v := 1) hx hb dX8_element_31 (by decide) ?_
      refine lv_isub hx hb dX8_element_32 ?_
      refine lv_i2l hx hb dX8_element_33 rfl ?_
      refine xend_ro_i (xRunS (wc := ([] : va_W)) (As := [.long (p2.toInt64), .long (0 : Int64), .long (((r0.2.1 2 p1.toNatClampNeg) - (1 : Int32)).toInt64)]) (rest := []) C (c_X8_in h) k_X8_in mw_162 ⟨rfl, rfl⟩ ⟨Nat.le_of_ble_eq_true rfl, Nat.le_of_ble_eq_true rfl⟩ hP hD [] rfl rfl hl rfl rfl (Nat.le_of_ble_eq_true rfl) dX8_element_34 ⟨Nat.le_refl _, Nat.le_refl _⟩) (fun v4 h => ?_)
      refine lv_if_eq (tgt := 51) hx hb dX8_element_37 (by decide) (fun c5 => ?_) (fun c5 => ?_)
      · replace h := And.left h c5
        refine lv_lconst (v := 0) hx hb dX8_element_51 (by decide) ?_
        exact xro_l C h dX8_element_52
      · replace h := And.right h c5
        refine lv_aload_n hx hb dX8_element_40 rfl (lv_at hl 0 rfl) ?_
        refine gX8_3 C hP dX8_element_41 ?_
        refine lv_iload_n hx hb dX8_element_44 rfl (lv_at hl 1 rfl) ?_
        have hin := And.left h
        obtain ⟨k6, ek6⟩ : ∃ j : Nat, j = p1.toNatClampNeg := ⟨_, rfl⟩
        replace h := And.right h k6 ek6
        have hk6 : k6 < 8 := by rw [ek6]; exact Nat.not_le.mp (fun q => hin (Or.inr q))
        refine aX8_3 C hP hin ek6 dX8_element_45 ?_
        refine lv_iload_n hx hb dX8_element_46 rfl (lv_at hl 2 rfl) ?_
        have hin := And.left h
        replace h := And.right h
        refine va_lald hx hb hK hP (23 + k6) 1 (wX8_row hk6) rfl hin dX8_element_47 ?_
        refine lv_goto (tgt := 52) hx hb dX8_element_48 (by decide) ?_
        exact xro_l C h dX8_element_52

def wp_X8_holds (r0 : zS) (p1 : Int32) (post : Int32 → Prop) : Prop :=
  wp_X8_in (p1.toInt64) (0 : Int64) (7 : Int64) (fun v1 => (v1 = 0 → post (-1 : Int32) ) ∧ (¬ v1 = 0 → vp_in p1 8 ∧ (((r0.2.1 0 p1.toNatClampNeg) = 0 → post (-1 : Int32) ) ∧ (¬ (r0.2.1 0 p1.toNatClampNeg) = 0 → vp_in p1 8 ∧ (((r0.2.1 0 p1.toNatClampNeg) = (1 : Int32) → vp_in p1 8 ∧ (post (r0.2.1 1 p1.toNatClampNeg) )) ∧ (¬ (r0.2.1 0 p1.toNatClampNeg) = (1 : Int32) → vp_in p1 8 ∧ (post ((10 : Int32) + (r0.2.1 5 p1.toNatClampNeg)) )))))))
set_option maxHeartbeats 4000000 in
set_option maxRecDepth 100000 in
theorem c_X8_holds {l : Launch} {D : va_G} {K : Nat → ClassId} {h0 : Nat} {a0 : Nat → Nat} {n0 : Nat → Option Nat} {la0 : Nat → Nat} {r0 : zS} {p1 : Int32} {sz : Nat} {post : Int32 → Prop}   (h : wp_X8_holds r0 p1 post) : Met l yX8_holds (Cond.code yX8_holds cX8_holds 2 (some .int) :: wsL_law) ({ frames := 1, cells := 0, slots := 0, locals := 25 } : Room) (va_Pc [.ref h0, .int p1] (xPre D vwCl (xty K) (wX8 K h0 a0 n0 la0 r0 ++ (([] : va_W))) sz)) (roI post) 0 0 (fun _ => False) := by
  refine xMet (by decide) rfl (Nat.le_of_ble_eq_true rfl) (fun p e s m args below meth c C hnm hP hD hsz ls hl => ?_)
  have hl : lv_has ls 2 [(0, .ref h0), (1, .int p1)] := hl
  obtain ⟨hx, hb, hr, hml, hown, hts, hlocks, hK, hT⟩ := id C
  unfold wp_X8_holds at h
  refine lv_iload_n hx hb dX8_holds_0 rfl (lv_at hl 1 rfl) ?_
  refine lv_i2l hx hb dX8_holds_1 rfl ?_
  refine lv_lconst (v := 0) hx hb dX8_holds_2 (by decide) ?_
  refine lv_ldc2 hx hb hown (hts _ mw_159) dX8_holds_3 ?_
  refine xend_ro_i (xRunS (wc := ([] : va_W)) (As := [.long (p1.toInt64), .long (0 : Int64), .long (7 : Int64)]) (rest := []) C (c_X8_in h) k_X8_in mw_162 ⟨rfl, rfl⟩ ⟨Nat.le_of_ble_eq_true rfl, Nat.le_of_ble_eq_true rfl⟩ hP hD [] rfl rfl hl rfl rfl (Nat.le_of_ble_eq_true rfl) dX8_holds_6 ⟨Nat.le_refl _, Nat.le_refl _⟩) (fun v1 h => ?_)
  refine lv_if_eq (tgt := 21) hx hb dX8_holds_9 (by decide) (fun c2 => ?_) (fun c2 => ?_)
  · replace h := And.left h c2
    refine lv_iconst (v := -1) hx hb dX8_holds_21 (by decide) ?_
    exact xro_i C h dX8_holds_22
  · replace h := And.right h c2
    refine lv_aload_n hx hb dX8_holds_12 rfl (lv_at hl 0 rfl) ?_
    refine gX8_0 C hP dX8_holds_13 ?_
    refine lv_iload_n hx hb dX8_holds_16 rfl (lv_at hl 1 rfl) ?_
    have hin := And.left h
    replace h := And.right h
    refine lX8_0 C hP hin dX8_holds_17 ?_
    refine lv_if_ne (tgt := 23) hx hb dX8_holds_18 (by decide) (fun c3 => ?_) (fun c3 => ?_)
    · replace h := And.right h c3
      refine lv_aload_n hx hb dX8_holds_23 rfl (lv_at hl 0 rfl) ?_
      refine gX8_0 C hP dX8_holds_24 ?_
      refine lv_iload_n hx hb dX8_holds_27 rfl (lv_at hl 1 rfl) ?_
      have hin := And.left h
      replace h := And.right h
      refine lX8_0 C hP hin dX8_holds_28 ?_
      refine lv_iconst (v := 1) hx hb dX8_holds_29 (by decide) ?_
      refine lv_icmp_ne (tgt := 42) hx hb dX8_holds_30 (by decide) (fun c4 => ?_) (fun c4 => ?_)
      · replace h := And.right h c4
        refine lv_bipush (v := 10) hx hb dX8_holds_42 (by decide) ?_
        refine lv_aload_n hx hb dX8_holds_44 rfl (lv_at hl 0 rfl) ?_
        refine gX8_5 C hP dX8_holds_45 ?_
        refine lv_iload_n hx hb dX8_holds_48 rfl (lv_at hl 1 rfl) ?_
        have hin := And.left h
        replace h := And.right h
        refine lX8_5 C hP hin dX8_holds_49 ?_
        refine lv_iadd hx hb dX8_holds_50 ?_
        exact xro_i C h dX8_holds_51
      · replace h := And.left h c4
        refine lv_aload_n hx hb dX8_holds_33 rfl (lv_at hl 0 rfl) ?_
        refine gX8_1 C hP dX8_holds_34 ?_
        refine lv_iload_n hx hb dX8_holds_37 rfl (lv_at hl 1 rfl) ?_
        have hin := And.left h
        replace h := And.right h
        refine lX8_1 C hP hin dX8_holds_38 ?_
        refine lv_goto (tgt := 51) hx hb dX8_holds_39 (by decide) ?_
        exact xro_i C h dX8_holds_51
    · replace h := And.left h c3
      refine lv_iconst (v := -1) hx hb dX8_holds_21 (by decide) ?_
      exact xro_i C h dX8_holds_22

def wp_X8_show_26 (p1 : Int32) (p2 : Int32) (post : Int32 → (zS) → Prop) (r0 : zS) : Prop :=
  wp_X8_refuse r0 (-2 : Int32) (fun v3 s4 => post v3 s4)
def wp_X8_show_48 (p1 : Int32) (p2 : Int32) (post : Int32 → (zS) → Prop) (r0 : zS) (y0 : Int32) (y1 : Int32) : Prop :=
  vp_in y1 8 ∧ (∀ j7 : Nat, j7 = y1.toNatClampNeg → vp_in p1 8 ∧ (∀ j8 : Nat, j8 = p1.toNatClampNeg → post (1 : Int32) (zA (zA r0 0 j7 y0) 5 j8 p2)))
def wp_X8_show_33 (p1 : Int32) (p2 : Int32) (post : Int32 → (zS) → Prop) (r0 : zS) : Prop :=
  (p2 = (-1 : Int32) → wp_X8_show_48 p1 p2 post r0 (0 : Int32) p1) ∧ (¬ p2 = (-1 : Int32) → wp_X8_show_48 p1 p2 post r0 (2 : Int32) p1)
def wp_X8_show (r0 : zS) (p1 : Int32) (p2 : Int32) (post : Int32 → (zS) → Prop) : Prop :=
  wp_X8_in (p1.toInt64) (0 : Int64) (7 : Int64) (fun v1 => (v1 = 0 → wp_X8_show_26 p1 p2 post r0) ∧ (¬ v1 = 0 → (p2 = (-1 : Int32) → wp_X8_show_33 p1 p2 post r0) ∧ (¬ p2 = (-1 : Int32) → wp_X8_isPupil r0 (p2.toInt64) (fun v9 => (v9 = 0 → wp_X8_show_26 p1 p2 post r0) ∧ (¬ v9 = 0 → wp_X8_show_33 p1 p2 post r0)))))
set_option maxHeartbeats 4000000 in
set_option maxRecDepth 100000 in
theorem t_X8_show_26 {p : Program} {l : Launch} {e : Env} {s : State} {m : MethodId} {args : Array Value} {below : List Frame} {meth : Method} {c : Code} {D : va_G} {K : Nat → ClassId} {h0 : Nat} {a0 : Nat → Nat} {n0 : Nat → Option Nat} {la0 : Nat → Nat} {p1 : Int32} {p2 : Int32} {post : Int32 → (zS) → Prop} {A : Nat → Prop} (C : xC p s m args meth c cX8_show RX8 3 (some .int) D vwCl (xty K)) (hA : ∀ q, s.heap.size ≤ q → A q) : ∀ (r0 : zS) (H : Heap) (locs : List Loc) (ls : Array Slot), lv_has ls 3 [(0, .ref h0)] → va_P D vwCl (wX8 K h0 a0 n0 la0 r0 ++ (([] : va_W))) H → va_D A (wX8 K h0 a0 n0 la0 r0 ++ (([] : va_W))) → va_S A s.heap H locs → wp_X8_show_26 p1 p2 post r0 → W p l e ({ frames := 2, cells := 0, slots := 0, locals := 47 } : Room) s m args below meth c H locs 0 0 (MQ below (va_Qi (fun r (u : (zS)) => post r u) (fun (u : (zS)) t => va_P D vwCl (wX8 K h0 a0 n0 la0 u ++ (([] : va_W))) t.heap) A) args s 0 0 A) (F0 m 26 ls []) := by
  obtain ⟨hx, hb, hr, hml, hown, hts, hlocks, hK, hT⟩ := id C
  intro r0 H locs ls hl hP hD hS h
  unfold wp_X8_show_26 at h
  refine lv_aload_n hx hb dX8_show_26 rfl (lv_at hl 0 rfl) ?_
  refine lv_bipush (v := -2) hx hb dX8_show_27 (by decide) ?_
  refine xend_rw_i_id (wf := fun (u : (zS)) => (wX8 K h0 a0 n0 la0 u ++ (([] : va_W)))) (xRunV_id (As := [.int (-2 : Int32)]) (rest := []) C (c_X8_refuse h) k_X8_refuse mw_165 ⟨rfl, rfl⟩ ⟨Nat.le_of_ble_eq_true rfl, Nat.le_of_ble_eq_true rfl⟩ hP hD rfl rfl hl rfl rfl (Nat.le_of_ble_eq_true rfl) dX8_show_29 ⟨Nat.le_refl _, Nat.le_refl _⟩) hD hS hA (fun _ => wX8_adr _ _) (fun v3 s4 H locs h hP hD hS => ?_)
  exact xrw_i C s4 h hP hS dX8_show_32
set_option maxHeartbeats 4000000 in
set_option maxRecDepth 100000 in
theorem t_X8_show_48 {p : Program} {l : Launch} {e : Env} {s : State} {m : MethodId} {args : Array Value} {below : List Frame} {meth : Method} {c : Code} {D : va_G} {K : Nat → ClassId} {h0 : Nat} {a0 : Nat → Nat} {n0 : Nat → Option Nat} {la0 : Nat → Nat} {p1 : Int32} {p2 : Int32} {post : Int32 → (zS) → Prop} {A : Nat → Prop} (C : xC p s m args meth c cX8_show RX8 3 (some .int) D vwCl (xty K)) (hA : ∀ q, s.heap.size ≤ q → A q) : ∀ (r0 : zS) (y0 : Int32) (y1 : Int32) (H : Heap) (locs : List Loc) (ls : Array Slot), lv_has ls 3 [(0, .ref h0), (1, .int p1), (2, .int p2)] → va_P D vwCl (wX8 K h0 a0 n0 la0 r0 ++ (([] : va_W))) H → va_D A (wX8 K h0 a0 n0 la0 r0 ++ (([] : va_W))) → va_S A s.heap H locs → wp_X8_show_48 p1 p2 post r0 y0 y1 → W p l e ({ frames := 2, cells := 0, slots := 0, locals := 47 } : Room) s m args below meth c H locs 0 0 (MQ below (va_Qi (fun r (u : (zS)) => post r u) (fun (u : (zS)) t => va_P D vwCl (wX8 K h0 a0 n0 la0 u ++ (([] : va_W))) t.heap) A) args s 0 0 A) (F0 m 48 ls [.int y0, .int y1, .ref (a0 0)]) := by
  obtain ⟨hx, hb, hr, hml, hown, hts, hlocks, hK, hT⟩ := id C
  intro r0 y0 y1 H locs ls hl hP hD hS h
  unfold wp_X8_show_48 at h
  have hin := And.left h
  obtain ⟨j7, ej7⟩ : ∃ j : Nat, j = y1.toNatClampNeg := ⟨_, rfl⟩
  replace h := And.right h j7 ej7
  refine sX8_0 C hP hD hS hin ej7 dX8_show_48 (fun H locs hP hD hS => ?_)
  refine lv_aload_n hx hb dX8_show_49 rfl (lv_at hl 0 rfl) ?_
  refine gX8_5 C hP dX8_show_50 ?_
  refine lv_iload_n hx hb dX8_show_53 rfl (lv_at hl 1 rfl) ?_
  refine lv_iload_n hx hb dX8_show_54 rfl (lv_at hl 2 rfl) ?_
  have hin := And.left h
  obtain ⟨j8, ej8⟩ : ∃ j : Nat, j = p1.toNatClampNeg := ⟨_, rfl⟩
  replace h := And.right h j8 ej8
  refine sX8_5 C hP hD hS hin ej8 dX8_show_55 (fun H locs hP hD hS => ?_)
  refine lv_iconst (v := 1) hx hb dX8_show_56 (by decide) ?_
  exact xrw_i C (zA (zA r0 0 j7 y0) 5 j8 p2) h hP hS dX8_show_57
set_option maxHeartbeats 4000000 in
set_option maxRecDepth 100000 in
theorem t_X8_show_33 {p : Program} {l : Launch} {e : Env} {s : State} {m : MethodId} {args : Array Value} {below : List Frame} {meth : Method} {c : Code} {D : va_G} {K : Nat → ClassId} {h0 : Nat} {a0 : Nat → Nat} {n0 : Nat → Option Nat} {la0 : Nat → Nat} {p1 : Int32} {p2 : Int32} {post : Int32 → (zS) → Prop} {A : Nat → Prop} (C : xC p s m args meth c cX8_show RX8 3 (some .int) D vwCl (xty K)) (hA : ∀ q, s.heap.size ≤ q → A q) : ∀ (r0 : zS) (H : Heap) (locs : List Loc) (ls : Array Slot), lv_has ls 3 [(0, .ref h0), (1, .int p1), (2, .int p2)] → va_P D vwCl (wX8 K h0 a0 n0 la0 r0 ++ (([] : va_W))) H → va_D A (wX8 K h0 a0 n0 la0 r0 ++ (([] : va_W))) → va_S A s.heap H locs → wp_X8_show_33 p1 p2 post r0 → W p l e ({ frames := 2, cells := 0, slots := 0, locals := 47 } : Room) s m args below meth c H locs 0 0 (MQ below (va_Qi (fun r (u : (zS)) => post r u) (fun (u : (zS)) t => va_P D vwCl (wX8 K h0 a0 n0 la0 u ++ (([] : va_W))) t.heap) A) args s 0 0 A) (F0 m 33 ls []) := by
  obtain ⟨hx, hb, hr, hml, hown, hts, hlocks, hK, hT⟩ := id C
  intro r0 H locs ls hl hP hD hS h
  unfold wp_X8_show_33 at h
  refine lv_aload_n hx hb dX8_show_33 rfl (lv_at hl 0 rfl) ?_
  refine gX8_0 C hP dX8_show_34 ?_
  refine lv_iload_n hx hb dX8_show_37 rfl (lv_at hl 1 rfl) ?_
  refine lv_iload_n hx hb dX8_show_38 rfl (lv_at hl 2 rfl) ?_
  refine lv_iconst (v := -1) hx hb dX8_show_39 (by decide) ?_
  refine lv_icmp_ne (tgt := 47) hx hb dX8_show_40 (by decide) (fun c6 => ?_) (fun c6 => ?_)
  · replace h := And.right h c6
    refine lv_iconst (v := 2) hx hb dX8_show_47 (by decide) ?_
    exact t_X8_show_48 C hA _ _ _ _ _ _ (lv_sub hl [0, 1, 2] rfl) hP hD hS h
  · replace h := And.left h c6
    refine lv_iconst (v := 0) hx hb dX8_show_43 (by decide) ?_
    refine lv_goto (tgt := 48) hx hb dX8_show_44 (by decide) ?_
    exact t_X8_show_48 C hA _ _ _ _ _ _ (lv_sub hl [0, 1, 2] rfl) hP hD hS h
set_option maxHeartbeats 4000000 in
set_option maxRecDepth 100000 in
theorem c_X8_show {l : Launch} {D : va_G} {K : Nat → ClassId} {h0 : Nat} {a0 : Nat → Nat} {n0 : Nat → Option Nat} {la0 : Nat → Nat} {r0 : zS} {p1 : Int32} {p2 : Int32} {sz : Nat} {post : Int32 → (zS) → Prop}   (h : wp_X8_show r0 p1 p2 post) : Met l yX8_show (Cond.code yX8_show cX8_show 3 (some .int) :: wsL_law) ({ frames := 2, cells := 0, slots := 0, locals := 47 } : Room) (va_Pc [.ref h0, .int p1, .int p2] (xPre D vwCl (xty K) (wX8 K h0 a0 n0 la0 r0 ++ (([] : va_W))) sz)) (va_Qi (fun r (u : (zS)) => post r u) (fun (u : (zS)) t => va_P D vwCl (wX8 K h0 a0 n0 la0 u ++ (([] : va_W))) t.heap) (va_A (wX8 K h0 a0 n0 la0 r0 ++ (([] : va_W))) sz)) 0 0 (va_A (wX8 K h0 a0 n0 la0 r0 ++ (([] : va_W))) sz) := by
  refine xMet (by decide) rfl (Nat.le_of_ble_eq_true rfl) (fun p e s m args below meth c C hnm hP hD hsz ls hl => ?_)
  have hl : lv_has ls 3 [(0, .ref h0), (1, .int p1), (2, .int p2)] := hl
  obtain ⟨hx, hb, hr, hml, hown, hts, hlocks, hK, hT⟩ := id C
  subst hsz
  generalize hAe : va_A (wX8 K h0 a0 n0 la0 r0 ++ (([] : va_W))) s.heap.size = A at hD ⊢
  have hA : ∀ q : Nat, s.heap.size ≤ q → A q := fun q h => by rw [← hAe]; exact Or.inr h
  have hS : va_S A s.heap s.heap [] := va_S.rf
  have hP : va_P D vwCl (wX8 K h0 a0 n0 la0 r0 ++ (([] : va_W))) s.heap := hP
  unfold wp_X8_show at h
  refine lv_iload_n hx hb dX8_show_0 rfl (lv_at hl 1 rfl) ?_
  refine lv_i2l hx hb dX8_show_1 rfl ?_
  refine lv_lconst (v := 0) hx hb dX8_show_2 (by decide) ?_
  refine lv_ldc2 hx hb hown (hts _ mw_159) dX8_show_3 ?_
  refine xend_ro_i (xRunS (wc := ([] : va_W)) (As := [.long (p1.toInt64), .long (0 : Int64), .long (7 : Int64)]) (rest := []) C (c_X8_in h) k_X8_in mw_162 ⟨rfl, rfl⟩ ⟨Nat.le_of_ble_eq_true rfl, Nat.le_of_ble_eq_true rfl⟩ hP hD [] rfl rfl hl rfl rfl (Nat.le_of_ble_eq_true rfl) dX8_show_6 ⟨Nat.le_refl _, Nat.le_refl _⟩) (fun v1 h => ?_)
  refine lv_if_eq (tgt := 26) hx hb dX8_show_9 (by decide) (fun c2 => ?_) (fun c2 => ?_)
  · replace h := And.left h c2
    exact t_X8_show_26 C hA _ _ _ _ (lv_sub hl [0] rfl) hP hD hS h
  · replace h := And.right h c2
    refine lv_iload_n hx hb dX8_show_12 rfl (lv_at hl 2 rfl) ?_
    refine lv_iconst (v := -1) hx hb dX8_show_13 (by decide) ?_
    refine lv_icmp_eq (tgt := 33) hx hb dX8_show_14 (by decide) (fun c5 => ?_) (fun c5 => ?_)
    · replace h := And.left h c5
      exact t_X8_show_33 C hA _ _ _ _ (lv_sub hl [0, 1, 2] rfl) hP hD hS h
    · replace h := And.right h c5
      refine lv_aload_n hx hb dX8_show_17 rfl (lv_at hl 0 rfl) ?_
      refine lv_iload_n hx hb dX8_show_18 rfl (lv_at hl 2 rfl) ?_
      refine lv_i2l hx hb dX8_show_19 rfl ?_
      refine xend_ro_i (xRunV_id (As := [.long (p2.toInt64)]) (rest := []) C (c_X8_isPupil h) k_X8_isPupil mw_262 ⟨rfl, rfl⟩ ⟨Nat.le_of_ble_eq_true rfl, Nat.le_of_ble_eq_true rfl⟩ hP hD rfl rfl hl rfl rfl (Nat.le_of_ble_eq_true rfl) dX8_show_20 ⟨Nat.le_refl _, Nat.le_refl _⟩) (fun v9 h => ?_)
      refine lv_if_ne (tgt := 33) hx hb dX8_show_23 (by decide) (fun c10 => ?_) (fun c10 => ?_)
      · replace h := And.right h c10
        exact t_X8_show_33 C hA _ _ _ _ (lv_sub hl [0, 1, 2] rfl) hP hD hS h
      · replace h := And.left h c10
        exact t_X8_show_26 C hA _ _ _ _ (lv_sub hl [0] rfl) hP hD hS h

def wp_X8_reads (p0 : Int32) (post : Int32 → Prop) : Prop :=
  (p0 = (2 : Int32) → post (1 : Int32) ) ∧ (¬ p0 = (2 : Int32) → (p0 = (3 : Int32) → post (1 : Int32) ) ∧ (¬ p0 = (3 : Int32) → (p0 = (4 : Int32) → post (1 : Int32) ) ∧ (¬ p0 = (4 : Int32) → post (0 : Int32) )))
set_option maxHeartbeats 4000000 in
set_option maxRecDepth 100000 in
theorem c_X8_reads {l : Launch} {D : va_G} {K : Nat → ClassId}  {p0 : Int32} {sz : Nat} {post : Int32 → Prop}   (h : wp_X8_reads p0 post) : Met l yX8_reads (Cond.code yX8_reads cX8_reads 1 (some .boolean) :: wsL_law) ({ frames := 0, cells := 0, slots := 0, locals := 0 } : Room) (va_Pc [.int p0] (xPre D vwCl (xty K) ([] : va_W) sz)) (roI post) 0 0 (fun _ => False) := by
  refine xMet (by decide) rfl (Nat.le_of_ble_eq_true rfl) (fun p e s m args below meth c C hnm hP hD hsz ls hl => ?_)
  have hl : lv_has ls 1 [(0, .int p0)] := hl
  obtain ⟨hx, hb, hr, hml, hown, hts, hlocks, hK, hT⟩ := id C
  unfold wp_X8_reads at h
  refine lv_iload_n hx hb dX8_reads_0 rfl (lv_at hl 0 rfl) ?_
  refine lv_iconst (v := 2) hx hb dX8_reads_1 (by decide) ?_
  refine lv_icmp_eq (tgt := 15) hx hb dX8_reads_2 (by decide) (fun c1 => ?_) (fun c1 => ?_)
  · replace h := And.left h c1
    refine lv_iconst (v := 1) hx hb dX8_reads_15 (by decide) ?_
    refine lv_goto (tgt := 20) hx hb dX8_reads_16 (by decide) ?_
    exact xro_z C rfl h dX8_reads_20
  · replace h := And.right h c1
    refine lv_iload_n hx hb dX8_reads_5 rfl (lv_at hl 0 rfl) ?_
    refine lv_iconst (v := 3) hx hb dX8_reads_6 (by decide) ?_
    refine lv_icmp_eq (tgt := 15) hx hb dX8_reads_7 (by decide) (fun c2 => ?_) (fun c2 => ?_)
    · replace h := And.left h c2
      refine lv_iconst (v := 1) hx hb dX8_reads_15 (by decide) ?_
      refine lv_goto (tgt := 20) hx hb dX8_reads_16 (by decide) ?_
      exact xro_z C rfl h dX8_reads_20
    · replace h := And.right h c2
      refine lv_iload_n hx hb dX8_reads_10 rfl (lv_at hl 0 rfl) ?_
      refine lv_iconst (v := 4) hx hb dX8_reads_11 (by decide) ?_
      refine lv_icmp_ne (tgt := 19) hx hb dX8_reads_12 (by decide) (fun c3 => ?_) (fun c3 => ?_)
      · replace h := And.right h c3
        refine lv_iconst (v := 0) hx hb dX8_reads_19 (by decide) ?_
        exact xro_z C rfl h dX8_reads_20
      · replace h := And.left h c3
        refine lv_iconst (v := 1) hx hb dX8_reads_15 (by decide) ?_
        refine lv_goto (tgt := 20) hx hb dX8_reads_16 (by decide) ?_
        exact xro_z C rfl h dX8_reads_20

def wp_X8_takes (r0 : zS) (p1 : Int32) (post : Int32 → Prop) : Prop :=
  vp_in p1 12 ∧ (((r0.2.1 11 p1.toNatClampNeg) = (5 : Int32) → post (2 : Int32) ) ∧ (¬ (r0.2.1 11 p1.toNatClampNeg) = (5 : Int32) → post (1 : Int32) ))
set_option maxHeartbeats 4000000 in
set_option maxRecDepth 100000 in
theorem c_X8_takes {l : Launch} {D : va_G} {K : Nat → ClassId} {h0 : Nat} {a0 : Nat → Nat} {n0 : Nat → Option Nat} {la0 : Nat → Nat} {r0 : zS} {p1 : Int32} {sz : Nat} {post : Int32 → Prop}   (h : wp_X8_takes r0 p1 post) : Met l yX8_takes (Cond.code yX8_takes cX8_takes 2 (some .int) :: wsL_law) ({ frames := 0, cells := 0, slots := 0, locals := 0 } : Room) (va_Pc [.ref h0, .int p1] (xPre D vwCl (xty K) (wX8 K h0 a0 n0 la0 r0 ++ (([] : va_W))) sz)) (roI post) 0 0 (fun _ => False) := by
  refine xMet (by decide) rfl (Nat.le_of_ble_eq_true rfl) (fun p e s m args below meth c C hnm hP hD hsz ls hl => ?_)
  have hl : lv_has ls 2 [(0, .ref h0), (1, .int p1)] := hl
  obtain ⟨hx, hb, hr, hml, hown, hts, hlocks, hK, hT⟩ := id C
  unfold wp_X8_takes at h
  refine lv_aload_n hx hb dX8_takes_0 rfl (lv_at hl 0 rfl) ?_
  refine gX8_11 C hP dX8_takes_1 ?_
  refine lv_iload_n hx hb dX8_takes_4 rfl (lv_at hl 1 rfl) ?_
  have hin := And.left h
  replace h := And.right h
  refine lX8_11 C hP hin dX8_takes_5 ?_
  refine lv_iconst (v := 5) hx hb dX8_takes_6 (by decide) ?_
  refine lv_icmp_ne (tgt := 14) hx hb dX8_takes_7 (by decide) (fun c1 => ?_) (fun c1 => ?_)
  · replace h := And.right h c1
    refine lv_iconst (v := 1) hx hb dX8_takes_14 (by decide) ?_
    exact xro_i C h dX8_takes_15
  · replace h := And.left h c1
    refine lv_iconst (v := 2) hx hb dX8_takes_10 (by decide) ?_
    refine lv_goto (tgt := 15) hx hb dX8_takes_11 (by decide) ?_
    exact xro_i C h dX8_takes_15

def wp_X8_areBeside (r0 : zS) (p1 : Int32) (p2 : Int32) (post : Int32 → Prop) : Prop :=
  vp_in p1 12 ∧ (vp_in p2 12 ∧ (∀ v1 : Int32, v1 = (((r0.2.1 12 p1.toNatClampNeg) / (4 : Int32)) - ((r0.2.1 12 p2.toNatClampNeg) / (4 : Int32))) → vp_in p1 12 ∧ (vp_in p2 12 ∧ (∀ v2 : Int32, v2 = (((r0.2.1 12 p1.toNatClampNeg) - (r0.2.1 12 p1.toNatClampNeg) / (4 : Int32) * (4 : Int32)) - ((r0.2.1 12 p2.toNatClampNeg) - (r0.2.1 12 p2.toNatClampNeg) / (4 : Int32) * (4 : Int32))) → (p1 = p2 → post (0 : Int32) ) ∧ (¬ p1 = p2 → vp_in p1 12 ∧ (wp_X8_has (r0.2.1 14 p1.toNatClampNeg) p2 (fun v4 => (v4 = 0 → (((v1 * v1) + (v2 * v2)) = (1 : Int32) → post (1 : Int32) ) ∧ (¬ ((v1 * v1) + (v2 * v2)) = (1 : Int32) → post (0 : Int32) )) ∧ (¬ v4 = 0 → post (0 : Int32) ))))))))
set_option maxHeartbeats 4000000 in
set_option maxRecDepth 100000 in
theorem c_X8_areBeside {l : Launch} {D : va_G} {K : Nat → ClassId} {h0 : Nat} {a0 : Nat → Nat} {n0 : Nat → Option Nat} {la0 : Nat → Nat} {r0 : zS} {p1 : Int32} {p2 : Int32} {sz : Nat} {post : Int32 → Prop}   (h : wp_X8_areBeside r0 p1 p2 post) : Met l yX8_areBeside (Cond.code yX8_areBeside cX8_areBeside 5 (some .boolean) :: wsL_law) ({ frames := 1, cells := 0, slots := 0, locals := 21 } : Room) (va_Pc [.ref h0, .int p1, .int p2] (xPre D vwCl (xty K) (wX8 K h0 a0 n0 la0 r0 ++ (([] : va_W))) sz)) (roI post) 0 0 (fun _ => False) := by
  refine xMet (by decide) rfl (Nat.le_of_ble_eq_true rfl) (fun p e s m args below meth c C hnm hP hD hsz ls hl => ?_)
  have hl : lv_has ls 5 [(0, .ref h0), (1, .int p1), (2, .int p2)] := hl
  obtain ⟨hx, hb, hr, hml, hown, hts, hlocks, hK, hT⟩ := id C
  unfold wp_X8_areBeside at h
  refine lv_aload_n hx hb dX8_areBeside_0 rfl (lv_at hl 0 rfl) ?_
  refine gX8_12 C hP dX8_areBeside_1 ?_
  refine lv_iload_n hx hb dX8_areBeside_4 rfl (lv_at hl 1 rfl) ?_
  have hin := And.left h
  replace h := And.right h
  refine lX8_12 C hP hin dX8_areBeside_5 ?_
  refine lv_iconst (v := 4) hx hb dX8_areBeside_6 (by decide) ?_
  refine lv_idiv hx hb dX8_areBeside_7 (by decide) ?_
  refine lv_aload_n hx hb dX8_areBeside_8 rfl (lv_at hl 0 rfl) ?_
  refine gX8_12 C hP dX8_areBeside_9 ?_
  refine lv_iload_n hx hb dX8_areBeside_12 rfl (lv_at hl 2 rfl) ?_
  have hin := And.left h
  replace h := And.right h
  refine lX8_12 C hP hin dX8_areBeside_13 ?_
  refine lv_iconst (v := 4) hx hb dX8_areBeside_14 (by decide) ?_
  refine lv_idiv hx hb dX8_areBeside_15 (by decide) ?_
  refine lv_isub hx hb dX8_areBeside_16 ?_
  refine lv_topi (fun v1 ev1 => ?_)
  replace h := h v1 ev1
  refine lv_istore_n (lv' := [(3, .int v1), (0, .ref h0), (1, .int p1), (2, .int p2)]) hx hb dX8_areBeside_17 rfl hl (by decide) rfl (fun ls hl => ?_)
  refine lv_aload_n hx hb dX8_areBeside_18 rfl (lv_at hl 1 rfl) ?_
  refine gX8_12 C hP dX8_areBeside_19 ?_
  refine lv_iload_n hx hb dX8_areBeside_22 rfl (lv_at hl 2 rfl) ?_
  have hin := And.left h
  replace h := And.right h
  refine lX8_12 C hP hin dX8_areBeside_23 ?_
  refine lv_iconst (v := 4) hx hb dX8_areBeside_24 (by decide) ?_
  refine lv_irem hx hb dX8_areBeside_25 (by decide) ?_
  refine lv_aload_n hx hb dX8_areBeside_26 rfl (lv_at hl 1 rfl) ?_
  refine gX8_12 C hP dX8_areBeside_27 ?_
  refine lv_iload_n hx hb dX8_areBeside_30 rfl (lv_at hl 3 rfl) ?_
  have hin := And.left h
  replace h := And.right h
  refine lX8_12 C hP hin dX8_areBeside_31 ?_
  refine lv_iconst (v := 4) hx hb dX8_areBeside_32 (by decide) ?_
  refine lv_irem hx hb dX8_areBeside_33 (by decide) ?_
  refine lv_isub hx hb dX8_areBeside_34 ?_
  refine lv_topi (fun v2 ev2 => ?_)
  replace h := h v2 ev2
  refine lv_istore (lv' := [(4, .int v2), (3, .int v1), (0, .ref h0), (1, .int p1), (2, .int p2)]) hx hb dX8_areBeside_35 hl (by decide) rfl (fun ls hl => ?_)
  refine lv_iload_n hx hb dX8_areBeside_37 rfl (lv_at hl 3 rfl) ?_
  refine lv_iload_n hx hb dX8_areBeside_38 rfl (lv_at hl 4 rfl) ?_
  refine lv_icmp_eq (tgt := 72) hx hb dX8_areBeside_39 (by decide) (fun c3 => ?_) (fun c3 => ?_)
  · replace h := And.left h c3
    refine lv_iconst (v := 0) hx hb dX8_areBeside_72 (by decide) ?_
    exact xro_z C rfl h dX8_areBeside_73
  · replace h := And.right h c3
    refine lv_aload_n hx hb dX8_areBeside_42 rfl (lv_at hl 2 rfl) ?_
    refine gX8_14 C hP dX8_areBeside_43 ?_
    refine lv_iload_n hx hb dX8_areBeside_46 rfl (lv_at hl 3 rfl) ?_
    have hin := And.left h
    replace h := And.right h
    refine lX8_14 C hP hin dX8_areBeside_47 ?_
    refine lv_iload_n hx hb dX8_areBeside_48 rfl (lv_at hl 4 rfl) ?_
    refine xend_ro_i (xRunS (wc := ([] : va_W)) (As := [.int (r0.2.1 14 p1.toNatClampNeg), .int p2]) (rest := []) C (c_X8_has h) k_X8_has mw_342 ⟨rfl, rfl⟩ ⟨Nat.le_of_ble_eq_true rfl, Nat.le_of_ble_eq_true rfl⟩ hP hD [] rfl rfl hl rfl rfl (Nat.le_of_ble_eq_true rfl) dX8_areBeside_49 ⟨Nat.le_refl _, Nat.le_refl _⟩) (fun v4 h => ?_)
    refine lv_if_ne (tgt := 72) hx hb dX8_areBeside_52 (by decide) (fun c5 => ?_) (fun c5 => ?_)
    · replace h := And.right h c5
      refine lv_iconst (v := 0) hx hb dX8_areBeside_72 (by decide) ?_
      exact xro_z C rfl h dX8_areBeside_73
    · replace h := And.left h c5
      refine lv_iload_n hx hb dX8_areBeside_55 rfl (lv_at hl 1 rfl) ?_
      refine lv_iload_n hx hb dX8_areBeside_56 rfl (lv_at hl 1 rfl) ?_
      refine lv_imul hx hb dX8_areBeside_57 ?_
      refine lv_iload hx hb dX8_areBeside_58 (lv_at hl 0 rfl) ?_
      refine lv_iload hx hb dX8_areBeside_60 (lv_at hl 0 rfl) ?_
      refine lv_imul hx hb dX8_areBeside_62 ?_
      refine lv_iadd hx hb dX8_areBeside_63 ?_
      refine lv_iconst (v := 1) hx hb dX8_areBeside_64 (by decide) ?_
      refine lv_icmp_ne (tgt := 72) hx hb dX8_areBeside_65 (by decide) (fun c6 => ?_) (fun c6 => ?_)
      · replace h := And.right h c6
        refine lv_iconst (v := 0) hx hb dX8_areBeside_72 (by decide) ?_
        exact xro_z C rfl h dX8_areBeside_73
      · replace h := And.left h c6
        refine lv_iconst (v := 1) hx hb dX8_areBeside_68 (by decide) ?_
        refine lv_goto (tgt := 73) hx hb dX8_areBeside_69 (by decide) ?_
        exact xro_z C rfl h dX8_areBeside_73

def wp_X8_beside_29 (r0 : zS) (p1 : Int32) (post : Int32 → Prop) (k4 : Int32 → Int32 → Prop) (x3 : Int32) (y0 : Int32) (y1 : Int32) : Prop :=
  ∀ v4 : Int32, v4 = (y1 ||| y0) → ∀ v5 : Int32, v5 = x3 + (1 : Int32) → k4 v4 v5
def wb_X8_beside_4 (r0 : zS) (p1 : Int32) (post : Int32 → Prop) (ih : Int32 → Int32 → Prop) (x2 : Int32) (x3 : Int32) : Prop :=
  ((r0.1 10) ≤ x3 → post x2 ) ∧ (¬ (r0.1 10) ≤ x3 → wp_X8_areBeside r0 p1 x3 (fun v2 => (v2 = 0 → wp_X8_beside_29 r0 p1 post ih x3 (0 : Int32) x2) ∧ (¬ v2 = 0 → wp_X8_beside_29 r0 p1 post ih x3 ((1 : Int32) <<< (x3 &&& 31)) x2)))
def wp_X8_beside_4 (r0 : zS) (p1 : Int32) (post : Int32 → Prop) (n : Nat) : Int32 → Int32 → Prop := Nat.rec (motive := fun _ => Int32 → Int32 → Prop) (fun _ _ => False) (fun _ ih => wb_X8_beside_4 r0 p1 post ih) n
theorem wu_X8_beside_4 (r0 : zS) (p1 : Int32) (post : Int32 → Prop) (n : Nat) (x2 : Int32) (x3 : Int32) : wp_X8_beside_4 r0 p1 post (n + 1) x2 x3 = wb_X8_beside_4 r0 p1 post (wp_X8_beside_4 r0 p1 post n) x2 x3 := rfl
def wp_X8_beside (r0 : zS) (p1 : Int32) (post : Int32 → Prop) : Prop :=
  ∃ n : Nat, wp_X8_beside_4 r0 p1 post n (0 : Int32) (0 : Int32)
set_option maxHeartbeats 4000000 in
set_option maxRecDepth 100000 in
theorem t_X8_beside_29 {p : Program} {l : Launch} {e : Env} {s : State} {m : MethodId} {args : Array Value} {below : List Frame} {meth : Method} {c : Code} {D : va_G} {K : Nat → ClassId} {h0 : Nat} {a0 : Nat → Nat} {n0 : Nat → Option Nat} {la0 : Nat → Nat} {r0 : zS} {p1 : Int32} {post : Int32 → Prop} (C : xC p s m args meth c cX8_beside RX8 4 (some .int) D vwCl (xty K)) (hP : va_P D vwCl (wX8 K h0 a0 n0 la0 r0 ++ (([] : va_W))) s.heap) (hD : va_D (va_A (wX8 K h0 a0 n0 la0 r0 ++ (([] : va_W))) s.heap.size) (wX8 K h0 a0 n0 la0 r0 ++ (([] : va_W)))) {k4 : Int32 → Int32 → Prop} (hk4 : ∀ (x2 : Int32) (x3 : Int32) (ls : Array Slot), lv_has ls 4 [(0, .ref h0), (1, .int p1), (2, .int x2), (3, .int x3)] → k4  x2 x3  → W p l e ({ frames := 2, cells := 0, slots := 0, locals := 45 } : Room) s m args below meth c s.heap [] 0 0 (MQ below (roI post) args s 0 0 (fun _ => False)) (F0 m 4 ls [])) : ∀ (x3 : Int32) (y0 : Int32) (y1 : Int32) (ls : Array Slot), lv_has ls 4 [(0, .ref h0), (1, .int p1), (3, .int x3)] → wp_X8_beside_29 r0 p1 post k4 x3 y0 y1 → W p l e ({ frames := 2, cells := 0, slots := 0, locals := 45 } : Room) s m args below meth c s.heap [] 0 0 (MQ below (roI post) args s 0 0 (fun _ => False)) (F0 m 29 ls [.int y0, .int y1]) := by
  obtain ⟨hx, hb, hr, hml, hown, hts, hlocks, hK, hT⟩ := id C
  intro x3 y0 y1 ls hl h
  unfold wp_X8_beside_29 at h
  refine lv_ior hx hb dX8_beside_29 ?_
  refine lv_topi (fun v4 ev4 => ?_)
  replace h := h v4 ev4
  refine lv_istore_n (lv' := [(2, .int v4), (0, .ref h0), (1, .int p1), (3, .int x3)]) hx hb dX8_beside_30 rfl hl (by decide) rfl (fun ls hl => ?_)
  obtain ⟨v5, ev5⟩ : ∃ y : Int32, y = x3 + (1 : Int32) := ⟨_, rfl⟩
  replace h := h v5 ev5
  refine lv_iinc (v := v5) (lv' := [(3, .int v5), (2, .int v4), (0, .ref h0), (1, .int p1)]) hx hb dX8_beside_31 hl (k := 3) rfl (by rw [ev5]; rfl) (by decide) rfl (fun ls hl => ?_)
  refine lv_goto (tgt := 4) hx hb dX8_beside_34 (by decide) ?_
  exact hk4 _ _ _ (lv_sub hl [2, 3, 1, 0] rfl) h
set_option maxHeartbeats 4000000 in
set_option maxRecDepth 100000 in
theorem t_X8_beside_4 {p : Program} {l : Launch} {e : Env} {s : State} {m : MethodId} {args : Array Value} {below : List Frame} {meth : Method} {c : Code} {D : va_G} {K : Nat → ClassId} {h0 : Nat} {a0 : Nat → Nat} {n0 : Nat → Option Nat} {la0 : Nat → Nat} {r0 : zS} {p1 : Int32} {post : Int32 → Prop} (C : xC p s m args meth c cX8_beside RX8 4 (some .int) D vwCl (xty K)) (hP : va_P D vwCl (wX8 K h0 a0 n0 la0 r0 ++ (([] : va_W))) s.heap) (hD : va_D (va_A (wX8 K h0 a0 n0 la0 r0 ++ (([] : va_W))) s.heap.size) (wX8 K h0 a0 n0 la0 r0 ++ (([] : va_W)))) : ∀ (n : Nat) (x2 : Int32) (x3 : Int32) (ls : Array Slot), lv_has ls 4 [(0, .ref h0), (1, .int p1), (2, .int x2), (3, .int x3)] → wp_X8_beside_4 r0 p1 post n x2 x3 → W p l e ({ frames := 2, cells := 0, slots := 0, locals := 45 } : Room) s m args below meth c s.heap [] 0 0 (MQ below (roI post) args s 0 0 (fun _ => False)) (F0 m 4 ls []) := by
  obtain ⟨hx, hb, hr, hml, hown, hts, hlocks, hK, hT⟩ := id C
  intro n
  induction n with
  | zero =>
    intro x2 x3 ls hl h
    exact False.elim h
  | succ n ihn =>
    intro x2 x3 ls hl h
    rw [wu_X8_beside_4] at h
    unfold wb_X8_beside_4 at h
    refine lv_iload_n hx hb dX8_beside_4 rfl (lv_at hl 3 rfl) ?_
    refine lv_aload_n hx hb dX8_beside_5 rfl (lv_at hl 0 rfl) ?_
    refine gX8_10 C hP dX8_beside_6 ?_
    refine lv_icmp_ge (tgt := 37) hx hb dX8_beside_9 (by decide) (fun c1 => ?_) (fun c1 => ?_)
    · replace h := And.left h c1
      refine lv_iload_n hx hb dX8_beside_37 rfl (lv_at hl 2 rfl) ?_
      exact xro_i C h dX8_beside_38
    · replace h := And.right h c1
      refine lv_iload_n hx hb dX8_beside_12 rfl (lv_at hl 2 rfl) ?_
      refine lv_aload_n hx hb dX8_beside_13 rfl (lv_at hl 0 rfl) ?_
      refine lv_iload_n hx hb dX8_beside_14 rfl (lv_at hl 1 rfl) ?_
      refine lv_iload_n hx hb dX8_beside_15 rfl (lv_at hl 3 rfl) ?_
      refine xend_ro_i (xRunV_id (As := [.int p1, .int x3]) (rest := [.int x2]) C (c_X8_areBeside h) k_X8_areBeside mw_338 ⟨rfl, rfl⟩ ⟨Nat.le_of_ble_eq_true rfl, Nat.le_of_ble_eq_true rfl⟩ hP hD rfl rfl hl rfl rfl (Nat.le_of_ble_eq_true rfl) dX8_beside_16 ⟨Nat.le_refl _, Nat.le_refl _⟩) (fun v2 h => ?_)
      refine lv_if_eq (tgt := 28) hx hb dX8_beside_19 (by decide) (fun c3 => ?_) (fun c3 => ?_)
      · replace h := And.left h c3
        refine lv_iconst (v := 0) hx hb dX8_beside_28 (by decide) ?_
        exact t_X8_beside_29 C hP hD ihn _ _ _ _ (lv_sub hl [0, 1, 3] rfl) h
      · replace h := And.right h c3
        refine lv_iconst (v := 1) hx hb dX8_beside_22 (by decide) ?_
        refine lv_iload_n hx hb dX8_beside_23 rfl (lv_at hl 3 rfl) ?_
        refine lv_ishl hx hb dX8_beside_24 ?_
        refine lv_goto (tgt := 29) hx hb dX8_beside_25 (by decide) ?_
        exact t_X8_beside_29 C hP hD ihn _ _ _ _ (lv_sub hl [0, 1, 3] rfl) h
set_option maxHeartbeats 4000000 in
set_option maxRecDepth 100000 in
theorem c_X8_beside {l : Launch} {D : va_G} {K : Nat → ClassId} {h0 : Nat} {a0 : Nat → Nat} {n0 : Nat → Option Nat} {la0 : Nat → Nat} {r0 : zS} {p1 : Int32} {sz : Nat} {post : Int32 → Prop}   (h : wp_X8_beside r0 p1 post) : Met l yX8_beside (Cond.code yX8_beside cX8_beside 4 (some .int) :: wsL_law) ({ frames := 2, cells := 0, slots := 0, locals := 45 } : Room) (va_Pc [.ref h0, .int p1] (xPre D vwCl (xty K) (wX8 K h0 a0 n0 la0 r0 ++ (([] : va_W))) sz)) (roI post) 0 0 (fun _ => False) := by
  refine xMet (by decide) rfl (Nat.le_of_ble_eq_true rfl) (fun p e s m args below meth c C hnm hP hD hsz ls hl => ?_)
  have hl : lv_has ls 4 [(0, .ref h0), (1, .int p1)] := hl
  obtain ⟨hx, hb, hr, hml, hown, hts, hlocks, hK, hT⟩ := id C
  unfold wp_X8_beside at h
  refine lv_iconst (v := 0) hx hb dX8_beside_0 (by decide) ?_
  refine lv_istore_n (lv' := [(2, .int (0 : Int32)), (0, .ref h0), (1, .int p1)]) hx hb dX8_beside_1 rfl hl (by decide) rfl (fun ls hl => ?_)
  refine lv_iconst (v := 0) hx hb dX8_beside_2 (by decide) ?_
  refine lv_istore_n (lv' := [(3, .int (0 : Int32)), (2, .int (0 : Int32)), (0, .ref h0), (1, .int p1)]) hx hb dX8_beside_3 rfl hl (by decide) rfl (fun ls hl => ?_)
  obtain ⟨n0, h⟩ := h
  exact t_X8_beside_4 C hP hD n0 _ _ _ (lv_sub hl [2, 3, 1, 0] rfl) h

def wp_X8_lossOf (r0 : zS) (p1 : Int32) (post : Int32 → Prop) : Prop :=
  vp_in p1 12 ∧ (((r0.2.1 11 p1.toNatClampNeg) = (1 : Int32) → vp_in p1 12 ∧ (post ((500 : Int32) + ((10 : Int32) * (r0.2.1 13 p1.toNatClampNeg))) )) ∧ (¬ (r0.2.1 11 p1.toNatClampNeg) = (1 : Int32) → vp_in p1 12 ∧ (((r0.2.1 11 p1.toNatClampNeg) = (4 : Int32) → vp_in p1 12 ∧ (post ((100 : Int32) * (r0.2.1 13 p1.toNatClampNeg)) )) ∧ (¬ (r0.2.1 11 p1.toNatClampNeg) = (4 : Int32) → vp_in p1 12 ∧ (post ((10 : Int32) * (r0.2.1 13 p1.toNatClampNeg)) )))))
set_option maxHeartbeats 4000000 in
set_option maxRecDepth 100000 in
theorem c_X8_lossOf {l : Launch} {D : va_G} {K : Nat → ClassId} {h0 : Nat} {a0 : Nat → Nat} {n0 : Nat → Option Nat} {la0 : Nat → Nat} {r0 : zS} {p1 : Int32} {sz : Nat} {post : Int32 → Prop}   (h : wp_X8_lossOf r0 p1 post) : Met l yX8_lossOf (Cond.code yX8_lossOf cX8_lossOf 2 (some .int) :: wsL_law) ({ frames := 0, cells := 0, slots := 0, locals := 0 } : Room) (va_Pc [.ref h0, .int p1] (xPre D vwCl (xty K) (wX8 K h0 a0 n0 la0 r0 ++ (([] : va_W))) sz)) (roI post) 0 0 (fun _ => False) := by
  refine xMet (by decide) rfl (Nat.le_of_ble_eq_true rfl) (fun p e s m args below meth c C hnm hP hD hsz ls hl => ?_)
  have hl : lv_has ls 2 [(0, .ref h0), (1, .int p1)] := hl
  obtain ⟨hx, hb, hr, hml, hown, hts, hlocks, hK, hT⟩ := id C
  unfold wp_X8_lossOf at h
  refine lv_aload_n hx hb dX8_lossOf_0 rfl (lv_at hl 0 rfl) ?_
  refine gX8_11 C hP dX8_lossOf_1 ?_
  refine lv_iload_n hx hb dX8_lossOf_4 rfl (lv_at hl 1 rfl) ?_
  have hin := And.left h
  replace h := And.right h
  refine lX8_11 C hP hin dX8_lossOf_5 ?_
  refine lv_iconst (v := 1) hx hb dX8_lossOf_6 (by decide) ?_
  refine lv_icmp_ne (tgt := 26) hx hb dX8_lossOf_7 (by decide) (fun c1 => ?_) (fun c1 => ?_)
  · replace h := And.right h c1
    refine lv_aload_n hx hb dX8_lossOf_26 rfl (lv_at hl 0 rfl) ?_
    refine gX8_11 C hP dX8_lossOf_27 ?_
    refine lv_iload_n hx hb dX8_lossOf_30 rfl (lv_at hl 1 rfl) ?_
    have hin := And.left h
    replace h := And.right h
    refine lX8_11 C hP hin dX8_lossOf_31 ?_
    refine lv_iconst (v := 4) hx hb dX8_lossOf_32 (by decide) ?_
    refine lv_icmp_ne (tgt := 48) hx hb dX8_lossOf_33 (by decide) (fun c2 => ?_) (fun c2 => ?_)
    · replace h := And.right h c2
      refine lv_bipush (v := 10) hx hb dX8_lossOf_48 (by decide) ?_
      refine lv_aload_n hx hb dX8_lossOf_50 rfl (lv_at hl 0 rfl) ?_
      refine gX8_13 C hP dX8_lossOf_51 ?_
      refine lv_iload_n hx hb dX8_lossOf_54 rfl (lv_at hl 1 rfl) ?_
      have hin := And.left h
      replace h := And.right h
      refine lX8_13 C hP hin dX8_lossOf_55 ?_
      refine lv_imul hx hb dX8_lossOf_56 ?_
      exact xro_i C h dX8_lossOf_57
    · replace h := And.left h c2
      refine lv_bipush (v := 100) hx hb dX8_lossOf_36 (by decide) ?_
      refine lv_aload_n hx hb dX8_lossOf_38 rfl (lv_at hl 0 rfl) ?_
      refine gX8_13 C hP dX8_lossOf_39 ?_
      refine lv_iload_n hx hb dX8_lossOf_42 rfl (lv_at hl 1 rfl) ?_
      have hin := And.left h
      replace h := And.right h
      refine lX8_13 C hP hin dX8_lossOf_43 ?_
      refine lv_imul hx hb dX8_lossOf_44 ?_
      refine lv_goto (tgt := 57) hx hb dX8_lossOf_45 (by decide) ?_
      exact xro_i C h dX8_lossOf_57
  · replace h := And.left h c1
    refine lv_sipush (v := 500) hx hb dX8_lossOf_10 (by decide) ?_
    refine lv_bipush (v := 10) hx hb dX8_lossOf_13 (by decide) ?_
    refine lv_aload_n hx hb dX8_lossOf_15 rfl (lv_at hl 0 rfl) ?_
    refine gX8_13 C hP dX8_lossOf_16 ?_
    refine lv_iload_n hx hb dX8_lossOf_19 rfl (lv_at hl 1 rfl) ?_
    have hin := And.left h
    replace h := And.right h
    refine lX8_13 C hP hin dX8_lossOf_20 ?_
    refine lv_imul hx hb dX8_lossOf_21 ?_
    refine lv_iadd hx hb dX8_lossOf_22 ?_
    refine lv_goto (tgt := 57) hx hb dX8_lossOf_23 (by decide) ?_
    exact xro_i C h dX8_lossOf_57

def wp_X8_says_24 (p1 : Int32) (p2 : Int32) (post : Int32 → (zS) → Prop) (r0 : zS) : Prop :=
  wp_X8_refuse r0 (-2 : Int32) (fun v3 s4 => post v3 s4)
def wp_X8_says_98 (p1 : Int32) (p2 : Int32) (post : Int32 → (zS) → Prop) (r0 : zS) : Prop :=
  vp_in p1 8 ∧ (((r0.2.1 0 p1.toNatClampNeg) = 0 → wp_X8_refuse r0 (-4 : Int32) (fun v18 s19 => post v18 s19)) ∧ (¬ (r0.2.1 0 p1.toNatClampNeg) = 0 → vp_in p1 8 ∧ (∀ v10 : Int32, v10 = (r0.2.1 5 p1.toNatClampNeg) → (p2 = 0 → vp_in v10 12 ∧ (post (r0.2.1 12 v10.toNatClampNeg) r0)) ∧ (p2 = 1 → wp_X8_lossOf r0 v10 (fun v12 => post v12 r0)) ∧ (p2 = 2 → wp_X8_beside r0 v10 (fun v13 => wp_X8_bits v13 (fun v14 => post v14 r0))) ∧ (p2 = 3 → vp_in v10 12 ∧ (post (r0.2.1 13 v10.toNatClampNeg) r0)) ∧ (p2 = 4 → wp_X8_lossOf r0 v10 (fun v15 => post v15 r0)) ∧ (p2 = 5 → wp_X8_takes r0 v10 (fun v16 => post v16 r0)) ∧ (¬ p2 = 0 → ¬ p2 = 1 → ¬ p2 = 2 → ¬ p2 = 3 → ¬ p2 = 4 → ¬ p2 = 5 → wp_X8_lossOf r0 v10 (fun v17 => post v17 r0)))))
def wp_X8_says_91 (p1 : Int32) (p2 : Int32) (post : Int32 → (zS) → Prop) (r0 : zS) : Prop :=
  wp_X8_refuse r0 (-3 : Int32) (fun v24 s25 => post v24 s25)
def wp_X8_says (r0 : zS) (p1 : Int32) (p2 : Int32) (post : Int32 → (zS) → Prop) : Prop :=
  wp_X8_in (p1.toInt64) (0 : Int64) (7 : Int64) (fun v1 => (v1 = 0 → wp_X8_says_24 p1 p2 post r0) ∧ (¬ v1 = 0 → wp_X8_in (p2.toInt64) (0 : Int64) (5 : Int64) (fun v5 => (v5 = 0 → wp_X8_says_24 p1 p2 post r0) ∧ (¬ v5 = 0 → vp_in p1 8 ∧ (((r0.2.1 0 p1.toNatClampNeg) = (1 : Int32) → wp_X8_refuse r0 (-3 : Int32) (fun v28 s29 => post v28 s29)) ∧ (¬ (r0.2.1 0 p1.toNatClampNeg) = (1 : Int32) → vp_in p1 8 ∧ (((r0.2.1 0 p1.toNatClampNeg) = (2 : Int32) → vp_in p1 8 ∧ (vp_in (r0.2.1 5 p1.toNatClampNeg) 12 ∧ (∀ v20 : Int32, v20 = (r0.2.1 11 (r0.2.1 5 p1.toNatClampNeg).toNatClampNeg) → (p2 = 0 → wp_X8_says_98 p1 p2 post r0) ∧ (¬ p2 = 0 → (v20 = p2 → wp_X8_says_98 p1 p2 post r0) ∧ (¬ v20 = p2 → (p2 = (2 : Int32) → wp_X8_reads v20 (fun v26 => (v26 = 0 → wp_X8_says_91 p1 p2 post r0) ∧ (¬ v26 = 0 → wp_X8_says_98 p1 p2 post r0))) ∧ (¬ p2 = (2 : Int32) → wp_X8_says_91 p1 p2 post r0)))))) ∧ (¬ (r0.2.1 0 p1.toNatClampNeg) = (2 : Int32) → wp_X8_says_98 p1 p2 post r0))))))))
set_option maxHeartbeats 4000000 in
set_option maxRecDepth 100000 in
theorem t_X8_says_24 {p : Program} {l : Launch} {e : Env} {s : State} {m : MethodId} {args : Array Value} {below : List Frame} {meth : Method} {c : Code} {D : va_G} {K : Nat → ClassId} {h0 : Nat} {a0 : Nat → Nat} {n0 : Nat → Option Nat} {la0 : Nat → Nat} {p1 : Int32} {p2 : Int32} {post : Int32 → (zS) → Prop} {A : Nat → Prop} (C : xC p s m args meth c cX8_says RX8 4 (some .int) D vwCl (xty K)) (hA : ∀ q, s.heap.size ≤ q → A q) : ∀ (r0 : zS) (H : Heap) (locs : List Loc) (ls : Array Slot), lv_has ls 4 [(0, .ref h0)] → va_P D vwCl (wX8 K h0 a0 n0 la0 r0 ++ (([] : va_W))) H → va_D A (wX8 K h0 a0 n0 la0 r0 ++ (([] : va_W))) → va_S A s.heap H locs → wp_X8_says_24 p1 p2 post r0 → W p l e ({ frames := 3, cells := 0, slots := 0, locals := 68 } : Room) s m args below meth c H locs 0 0 (MQ below (va_Qi (fun r (u : (zS)) => post r u) (fun (u : (zS)) t => va_P D vwCl (wX8 K h0 a0 n0 la0 u ++ (([] : va_W))) t.heap) A) args s 0 0 A) (F0 m 24 ls []) := by
  obtain ⟨hx, hb, hr, hml, hown, hts, hlocks, hK, hT⟩ := id C
  intro r0 H locs ls hl hP hD hS h
  unfold wp_X8_says_24 at h
  refine lv_aload_n hx hb dX8_says_24 rfl (lv_at hl 0 rfl) ?_
  refine lv_bipush (v := -2) hx hb dX8_says_25 (by decide) ?_
  refine xend_rw_i_id (wf := fun (u : (zS)) => (wX8 K h0 a0 n0 la0 u ++ (([] : va_W)))) (xRunV_id (As := [.int (-2 : Int32)]) (rest := []) C (c_X8_refuse h) k_X8_refuse mw_165 ⟨rfl, rfl⟩ ⟨Nat.le_of_ble_eq_true rfl, Nat.le_of_ble_eq_true rfl⟩ hP hD rfl rfl hl rfl rfl (Nat.le_of_ble_eq_true rfl) dX8_says_27 ⟨Nat.le_refl _, Nat.le_refl _⟩) hD hS hA (fun _ => wX8_adr _ _) (fun v3 s4 H locs h hP hD hS => ?_)
  exact xrw_i C s4 h hP hS dX8_says_30
set_option maxHeartbeats 4000000 in
set_option maxRecDepth 100000 in
theorem t_X8_says_98 {p : Program} {l : Launch} {e : Env} {s : State} {m : MethodId} {args : Array Value} {below : List Frame} {meth : Method} {c : Code} {D : va_G} {K : Nat → ClassId} {h0 : Nat} {a0 : Nat → Nat} {n0 : Nat → Option Nat} {la0 : Nat → Nat} {p1 : Int32} {p2 : Int32} {post : Int32 → (zS) → Prop} {A : Nat → Prop} (C : xC p s m args meth c cX8_says RX8 4 (some .int) D vwCl (xty K)) (hA : ∀ q, s.heap.size ≤ q → A q) : ∀ (r0 : zS) (H : Heap) (locs : List Loc) (ls : Array Slot), lv_has ls 4 [(0, .ref h0), (1, .int p1), (2, .int p2)] → va_P D vwCl (wX8 K h0 a0 n0 la0 r0 ++ (([] : va_W))) H → va_D A (wX8 K h0 a0 n0 la0 r0 ++ (([] : va_W))) → va_S A s.heap H locs → wp_X8_says_98 p1 p2 post r0 → W p l e ({ frames := 3, cells := 0, slots := 0, locals := 68 } : Room) s m args below meth c H locs 0 0 (MQ below (va_Qi (fun r (u : (zS)) => post r u) (fun (u : (zS)) t => va_P D vwCl (wX8 K h0 a0 n0 la0 u ++ (([] : va_W))) t.heap) A) args s 0 0 A) (F0 m 98 ls []) := by
  obtain ⟨hx, hb, hr, hml, hown, hts, hlocks, hK, hT⟩ := id C
  intro r0 H locs ls hl hP hD hS h
  unfold wp_X8_says_98 at h
  refine lv_aload_n hx hb dX8_says_98 rfl (lv_at hl 0 rfl) ?_
  refine gX8_0 C hP dX8_says_99 ?_
  refine lv_iload_n hx hb dX8_says_102 rfl (lv_at hl 1 rfl) ?_
  have hin := And.left h
  replace h := And.right h
  refine lX8_0 C hP hin dX8_says_103 ?_
  refine lv_if_ne (tgt := 114) hx hb dX8_says_104 (by decide) (fun c9 => ?_) (fun c9 => ?_)
  · replace h := And.right h c9
    refine lv_aload_n hx hb dX8_says_114 rfl (lv_at hl 0 rfl) ?_
    refine gX8_5 C hP dX8_says_115 ?_
    refine lv_iload_n hx hb dX8_says_118 rfl (lv_at hl 1 rfl) ?_
    have hin := And.left h
    replace h := And.right h
    refine lX8_5 C hP hin dX8_says_119 ?_
    refine lv_topi (fun v10 ev10 => ?_)
    replace h := h v10 ev10
    refine lv_istore_n (lv' := [(3, .int v10), (0, .ref h0), (1, .int p1), (2, .int p2)]) hx hb dX8_says_120 rfl hl (by decide) rfl (fun ls hl => ?_)
    refine lv_iload_n hx hb dX8_says_121 rfl (lv_at hl 3 rfl) ?_
    rcases (Decidable.em (p2 = 0)) with c11 | c11_0
    · have c11T := xsw c11
      replace h := And.left (h) c11
      refine lv_tableIn (tgt := 160) hx hb dX8_says_122 (by rw [c11T]; decide) (by rw [c11T]; decide) (by rw [c11T] <;> rfl) (by decide) ?_
      refine lv_aload_n hx hb dX8_says_160 rfl (lv_at hl 1 rfl) ?_
      refine gX8_12 C hP dX8_says_161 ?_
      refine lv_iload_n hx hb dX8_says_164 rfl (lv_at hl 0 rfl) ?_
      have hin := And.left h
      replace h := And.right h
      refine lX8_12 C hP hin dX8_says_165 ?_
      exact xrw_i C r0 h hP hS dX8_says_166
    rcases (Decidable.em (p2 = 1)) with c11 | c11_1
    · have c11T := xsw c11
      replace h := And.left (And.right (h)) c11
      refine lv_tableIn (tgt := 189) hx hb dX8_says_122 (by rw [c11T]; decide) (by rw [c11T]; decide) (by rw [c11T] <;> rfl) (by decide) ?_
      refine lv_aload_n hx hb dX8_says_189 rfl (lv_at hl 1 rfl) ?_
      refine lv_iload_n hx hb dX8_says_190 rfl (lv_at hl 0 rfl) ?_
      refine xend_ro_i (xRunV_id (As := [.int v10]) (rest := []) C (c_X8_lossOf h) k_X8_lossOf mw_352 ⟨rfl, rfl⟩ ⟨Nat.le_of_ble_eq_true rfl, Nat.le_of_ble_eq_true rfl⟩ hP hD rfl rfl hl rfl rfl (Nat.le_of_ble_eq_true rfl) dX8_says_191 ⟨Nat.le_refl _, Nat.le_refl _⟩) (fun v12 h => ?_)
      exact xrw_i C r0 h hP hS dX8_says_194
    rcases (Decidable.em (p2 = 2)) with c11 | c11_2
    · have c11T := xsw c11
      replace h := And.left (And.right (And.right (h))) c11
      refine lv_tableIn (tgt := 167) hx hb dX8_says_122 (by rw [c11T]; decide) (by rw [c11T]; decide) (by rw [c11T] <;> rfl) (by decide) ?_
      refine lv_aload_n hx hb dX8_says_167 rfl (lv_at hl 1 rfl) ?_
      refine lv_iload_n hx hb dX8_says_168 rfl (lv_at hl 0 rfl) ?_
      refine xend_ro_i (xRunV_id (As := [.int v10]) (rest := []) C (c_X8_beside h) k_X8_beside mw_334 ⟨rfl, rfl⟩ ⟨Nat.le_of_ble_eq_true rfl, Nat.le_of_ble_eq_true rfl⟩ hP hD rfl rfl hl rfl rfl (Nat.le_of_ble_eq_true rfl) dX8_says_169 ⟨Nat.le_refl _, Nat.le_refl _⟩) (fun v13 h => ?_)
      refine xend_ro_i (xRunS (wc := ([] : va_W)) (As := [.int v13]) (rest := []) C (c_X8_bits h) k_X8_bits mw_345 ⟨rfl, rfl⟩ ⟨Nat.le_of_ble_eq_true rfl, Nat.le_of_ble_eq_true rfl⟩ hP hD [] rfl rfl hl rfl rfl (Nat.le_of_ble_eq_true rfl) dX8_says_172 ⟨Nat.le_refl _, Nat.le_refl _⟩) (fun v14 h => ?_)
      exact xrw_i C r0 h hP hS dX8_says_175
    rcases (Decidable.em (p2 = 3)) with c11 | c11_3
    · have c11T := xsw c11
      replace h := And.left (And.right (And.right (And.right (h)))) c11
      refine lv_tableIn (tgt := 176) hx hb dX8_says_122 (by rw [c11T]; decide) (by rw [c11T]; decide) (by rw [c11T] <;> rfl) (by decide) ?_
      refine lv_aload_n hx hb dX8_says_176 rfl (lv_at hl 1 rfl) ?_
      refine gX8_13 C hP dX8_says_177 ?_
      refine lv_iload_n hx hb dX8_says_180 rfl (lv_at hl 0 rfl) ?_
      have hin := And.left h
      replace h := And.right h
      refine lX8_13 C hP hin dX8_says_181 ?_
      exact xrw_i C r0 h hP hS dX8_says_182
    rcases (Decidable.em (p2 = 4)) with c11 | c11_4
    · have c11T := xsw c11
      replace h := And.left (And.right (And.right (And.right (And.right (h))))) c11
      refine lv_tableIn (tgt := 189) hx hb dX8_says_122 (by rw [c11T]; decide) (by rw [c11T]; decide) (by rw [c11T] <;> rfl) (by decide) ?_
      refine lv_aload_n hx hb dX8_says_189 rfl (lv_at hl 1 rfl) ?_
      refine lv_iload_n hx hb dX8_says_190 rfl (lv_at hl 0 rfl) ?_
      refine xend_ro_i (xRunV_id (As := [.int v10]) (rest := []) C (c_X8_lossOf h) k_X8_lossOf mw_352 ⟨rfl, rfl⟩ ⟨Nat.le_of_ble_eq_true rfl, Nat.le_of_ble_eq_true rfl⟩ hP hD rfl rfl hl rfl rfl (Nat.le_of_ble_eq_true rfl) dX8_says_191 ⟨Nat.le_refl _, Nat.le_refl _⟩) (fun v15 h => ?_)
      exact xrw_i C r0 h hP hS dX8_says_194
    rcases (Decidable.em (p2 = 5)) with c11 | c11_5
    · have c11T := xsw c11
      replace h := And.left (And.right (And.right (And.right (And.right (And.right (h)))))) c11
      refine lv_tableIn (tgt := 183) hx hb dX8_says_122 (by rw [c11T]; decide) (by rw [c11T]; decide) (by rw [c11T] <;> rfl) (by decide) ?_
      refine lv_aload_n hx hb dX8_says_183 rfl (lv_at hl 1 rfl) ?_
      refine lv_iload_n hx hb dX8_says_184 rfl (lv_at hl 0 rfl) ?_
      refine xend_ro_i (xRunV_id (As := [.int v10]) (rest := []) C (c_X8_takes h) k_X8_takes mw_348 ⟨rfl, rfl⟩ ⟨Nat.le_of_ble_eq_true rfl, Nat.le_of_ble_eq_true rfl⟩ hP hD rfl rfl hl rfl rfl (Nat.le_of_ble_eq_true rfl) dX8_says_185 ⟨Nat.le_refl _, Nat.le_refl _⟩) (fun v16 h => ?_)
      exact xrw_i C r0 h hP hS dX8_says_188
    replace h := And.right (And.right (And.right (And.right (And.right (And.right (h)))))) c11_0 c11_1 c11_2 c11_3 c11_4 c11_5
    have c11N_0 := lv_neT (a := 0) c11_0 rfl
    have c11N_1 := lv_neT (a := 1) c11_1 rfl
    have c11N_2 := lv_neT (a := 2) c11_2 rfl
    have c11N_3 := lv_neT (a := 3) c11_3 rfl
    have c11N_4 := lv_neT (a := 4) c11_4 rfl
    have c11N_5 := lv_neT (a := 5) c11_5 rfl
    refine lv_tableOut (tgt := 189) hx hb dX8_says_122 (by omega) (by decide) ?_
    refine lv_aload_n hx hb dX8_says_189 rfl (lv_at hl 1 rfl) ?_
    refine lv_iload_n hx hb dX8_says_190 rfl (lv_at hl 0 rfl) ?_
    refine xend_ro_i (xRunV_id (As := [.int v10]) (rest := []) C (c_X8_lossOf h) k_X8_lossOf mw_352 ⟨rfl, rfl⟩ ⟨Nat.le_of_ble_eq_true rfl, Nat.le_of_ble_eq_true rfl⟩ hP hD rfl rfl hl rfl rfl (Nat.le_of_ble_eq_true rfl) dX8_says_191 ⟨Nat.le_refl _, Nat.le_refl _⟩) (fun v17 h => ?_)
    exact xrw_i C r0 h hP hS dX8_says_194
  · replace h := And.left h c9
    refine lv_aload_n hx hb dX8_says_107 rfl (lv_at hl 0 rfl) ?_
    refine lv_bipush (v := -4) hx hb dX8_says_108 (by decide) ?_
    refine xend_rw_i_id (wf := fun (u : (zS)) => (wX8 K h0 a0 n0 la0 u ++ (([] : va_W)))) (xRunV_id (As := [.int (-4 : Int32)]) (rest := []) C (c_X8_refuse h) k_X8_refuse mw_165 ⟨rfl, rfl⟩ ⟨Nat.le_of_ble_eq_true rfl, Nat.le_of_ble_eq_true rfl⟩ hP hD rfl rfl hl rfl rfl (Nat.le_of_ble_eq_true rfl) dX8_says_110 ⟨Nat.le_refl _, Nat.le_refl _⟩) hD hS hA (fun _ => wX8_adr _ _) (fun v18 s19 H locs h hP hD hS => ?_)
    exact xrw_i C s19 h hP hS dX8_says_113
set_option maxHeartbeats 4000000 in
set_option maxRecDepth 100000 in
theorem t_X8_says_91 {p : Program} {l : Launch} {e : Env} {s : State} {m : MethodId} {args : Array Value} {below : List Frame} {meth : Method} {c : Code} {D : va_G} {K : Nat → ClassId} {h0 : Nat} {a0 : Nat → Nat} {n0 : Nat → Option Nat} {la0 : Nat → Nat} {p1 : Int32} {p2 : Int32} {post : Int32 → (zS) → Prop} {A : Nat → Prop} (C : xC p s m args meth c cX8_says RX8 4 (some .int) D vwCl (xty K)) (hA : ∀ q, s.heap.size ≤ q → A q) : ∀ (r0 : zS) (H : Heap) (locs : List Loc) (ls : Array Slot), lv_has ls 4 [(0, .ref h0)] → va_P D vwCl (wX8 K h0 a0 n0 la0 r0 ++ (([] : va_W))) H → va_D A (wX8 K h0 a0 n0 la0 r0 ++ (([] : va_W))) → va_S A s.heap H locs → wp_X8_says_91 p1 p2 post r0 → W p l e ({ frames := 3, cells := 0, slots := 0, locals := 68 } : Room) s m args below meth c H locs 0 0 (MQ below (va_Qi (fun r (u : (zS)) => post r u) (fun (u : (zS)) t => va_P D vwCl (wX8 K h0 a0 n0 la0 u ++ (([] : va_W))) t.heap) A) args s 0 0 A) (F0 m 91 ls []) := by
  obtain ⟨hx, hb, hr, hml, hown, hts, hlocks, hK, hT⟩ := id C
  intro r0 H locs ls hl hP hD hS h
  unfold wp_X8_says_91 at h
  refine lv_aload_n hx hb dX8_says_91 rfl (lv_at hl 0 rfl) ?_
  refine lv_bipush (v := -3) hx hb dX8_says_92 (by decide) ?_
  refine xend_rw_i_id (wf := fun (u : (zS)) => (wX8 K h0 a0 n0 la0 u ++ (([] : va_W)))) (xRunV_id (As := [.int (-3 : Int32)]) (rest := []) C (c_X8_refuse h) k_X8_refuse mw_165 ⟨rfl, rfl⟩ ⟨Nat.le_of_ble_eq_true rfl, Nat.le_of_ble_eq_true rfl⟩ hP hD rfl rfl hl rfl rfl (Nat.le_of_ble_eq_true rfl) dX8_says_94 ⟨Nat.le_refl _, Nat.le_refl _⟩) hD hS hA (fun _ => wX8_adr _ _) (fun v24 s25 H locs h hP hD hS => ?_)
  exact xrw_i C s25 h hP hS dX8_says_97
set_option maxHeartbeats 4000000 in
set_option maxRecDepth 100000 in
theorem c_X8_says {l : Launch} {D : va_G} {K : Nat → ClassId} {h0 : Nat} {a0 : Nat → Nat} {n0 : Nat → Option Nat} {la0 : Nat → Nat} {r0 : zS} {p1 : Int32} {p2 : Int32} {sz : Nat} {post : Int32 → (zS) → Prop}   (h : wp_X8_says r0 p1 p2 post) : Met l yX8_says (Cond.code yX8_says cX8_says 4 (some .int) :: wsL_law) ({ frames := 3, cells := 0, slots := 0, locals := 68 } : Room) (va_Pc [.ref h0, .int p1, .int p2] (xPre D vwCl (xty K) (wX8 K h0 a0 n0 la0 r0 ++ (([] : va_W))) sz)) (va_Qi (fun r (u : (zS)) => post r u) (fun (u : (zS)) t => va_P D vwCl (wX8 K h0 a0 n0 la0 u ++ (([] : va_W))) t.heap) (va_A (wX8 K h0 a0 n0 la0 r0 ++ (([] : va_W))) sz)) 0 0 (va_A (wX8 K h0 a0 n0 la0 r0 ++ (([] : va_W))) sz) := by
  refine xMet (by decide) rfl (Nat.le_of_ble_eq_true rfl) (fun p e s m args below meth c C hnm hP hD hsz ls hl => ?_)
  have hl : lv_has ls 4 [(0, .ref h0), (1, .int p1), (2, .int p2)] := hl
  obtain ⟨hx, hb, hr, hml, hown, hts, hlocks, hK, hT⟩ := id C
  subst hsz
  generalize hAe : va_A (wX8 K h0 a0 n0 la0 r0 ++ (([] : va_W))) s.heap.size = A at hD ⊢
  have hA : ∀ q : Nat, s.heap.size ≤ q → A q := fun q h => by rw [← hAe]; exact Or.inr h
  have hS : va_S A s.heap s.heap [] := va_S.rf
  have hP : va_P D vwCl (wX8 K h0 a0 n0 la0 r0 ++ (([] : va_W))) s.heap := hP
  unfold wp_X8_says at h
  refine lv_iload_n hx hb dX8_says_0 rfl (lv_at hl 1 rfl) ?_
  refine lv_i2l hx hb dX8_says_1 rfl ?_
  refine lv_lconst (v := 0) hx hb dX8_says_2 (by decide) ?_
  refine lv_ldc2 hx hb hown (hts _ mw_159) dX8_says_3 ?_
  refine xend_ro_i (xRunS (wc := ([] : va_W)) (As := [.long (p1.toInt64), .long (0 : Int64), .long (7 : Int64)]) (rest := []) C (c_X8_in h) k_X8_in mw_162 ⟨rfl, rfl⟩ ⟨Nat.le_of_ble_eq_true rfl, Nat.le_of_ble_eq_true rfl⟩ hP hD [] rfl rfl hl rfl rfl (Nat.le_of_ble_eq_true rfl) dX8_says_6 ⟨Nat.le_refl _, Nat.le_refl _⟩) (fun v1 h => ?_)
  refine lv_if_eq (tgt := 24) hx hb dX8_says_9 (by decide) (fun c2 => ?_) (fun c2 => ?_)
  · replace h := And.left h c2
    exact t_X8_says_24 C hA _ _ _ _ (lv_sub hl [0] rfl) hP hD hS h
  · replace h := And.right h c2
    refine lv_iload_n hx hb dX8_says_12 rfl (lv_at hl 2 rfl) ?_
    refine lv_i2l hx hb dX8_says_13 rfl ?_
    refine lv_lconst (v := 0) hx hb dX8_says_14 (by decide) ?_
    refine lv_ldc2 hx hb hown (hts _ mw_330) dX8_says_15 ?_
    refine xend_ro_i (xRunS (wc := ([] : va_W)) (As := [.long (p2.toInt64), .long (0 : Int64), .long (5 : Int64)]) (rest := []) C (c_X8_in h) k_X8_in mw_162 ⟨rfl, rfl⟩ ⟨Nat.le_of_ble_eq_true rfl, Nat.le_of_ble_eq_true rfl⟩ hP hD [] rfl rfl hl rfl rfl (Nat.le_of_ble_eq_true rfl) dX8_says_18 ⟨Nat.le_refl _, Nat.le_refl _⟩) (fun v5 h => ?_)
    refine lv_if_ne (tgt := 31) hx hb dX8_says_21 (by decide) (fun c6 => ?_) (fun c6 => ?_)
    · replace h := And.right h c6
      refine lv_aload_n hx hb dX8_says_31 rfl (lv_at hl 0 rfl) ?_
      refine gX8_0 C hP dX8_says_32 ?_
      refine lv_iload_n hx hb dX8_says_35 rfl (lv_at hl 1 rfl) ?_
      have hin := And.left h
      replace h := And.right h
      refine lX8_0 C hP hin dX8_says_36 ?_
      refine lv_iconst (v := 1) hx hb dX8_says_37 (by decide) ?_
      refine lv_icmp_ne (tgt := 48) hx hb dX8_says_38 (by decide) (fun c7 => ?_) (fun c7 => ?_)
      · replace h := And.right h c7
        refine lv_aload_n hx hb dX8_says_48 rfl (lv_at hl 0 rfl) ?_
        refine gX8_0 C hP dX8_says_49 ?_
        refine lv_iload_n hx hb dX8_says_52 rfl (lv_at hl 1 rfl) ?_
        have hin := And.left h
        replace h := And.right h
        refine lX8_0 C hP hin dX8_says_53 ?_
        refine lv_iconst (v := 2) hx hb dX8_says_54 (by decide) ?_
        refine lv_icmp_ne (tgt := 98) hx hb dX8_says_55 (by decide) (fun c8 => ?_) (fun c8 => ?_)
        · replace h := And.right h c8
          exact t_X8_says_98 C hA _ _ _ _ (lv_sub hl [0, 1, 2] rfl) hP hD hS h
        · replace h := And.left h c8
          refine lv_aload_n hx hb dX8_says_58 rfl (lv_at hl 0 rfl) ?_
          refine gX8_11 C hP dX8_says_59 ?_
          refine lv_aload_n hx hb dX8_says_62 rfl (lv_at hl 0 rfl) ?_
          refine gX8_5 C hP dX8_says_63 ?_
          refine lv_iload_n hx hb dX8_says_66 rfl (lv_at hl 1 rfl) ?_
          have hin := And.left h
          replace h := And.right h
          refine lX8_5 C hP hin dX8_says_67 ?_
          have hin := And.left h
          replace h := And.right h
          refine lX8_11 C hP hin dX8_says_68 ?_
          refine lv_topi (fun v20 ev20 => ?_)
          replace h := h v20 ev20
          refine lv_istore_n (lv' := [(3, .int v20), (0, .ref h0), (1, .int p1), (2, .int p2)]) hx hb dX8_says_69 rfl hl (by decide) rfl (fun ls hl => ?_)
          refine lv_iload_n hx hb dX8_says_70 rfl (lv_at hl 3 rfl) ?_
          refine lv_if_eq (tgt := 98) hx hb dX8_says_71 (by decide) (fun c21 => ?_) (fun c21 => ?_)
          · replace h := And.left h c21
            exact t_X8_says_98 C hA _ _ _ _ (lv_sub hl [1, 2, 3] rfl) hP hD hS h
          · replace h := And.right h c21
            refine lv_iload_n hx hb dX8_says_74 rfl (lv_at hl 0 rfl) ?_
            refine lv_iload_n hx hb dX8_says_75 rfl (lv_at hl 3 rfl) ?_
            refine lv_icmp_eq (tgt := 98) hx hb dX8_says_76 (by decide) (fun c22 => ?_) (fun c22 => ?_)
            · replace h := And.left h c22
              exact t_X8_says_98 C hA _ _ _ _ (lv_sub hl [1, 2, 3] rfl) hP hD hS h
            · replace h := And.right h c22
              refine lv_iload_n hx hb dX8_says_79 rfl (lv_at hl 3 rfl) ?_
              refine lv_iconst (v := 2) hx hb dX8_says_80 (by decide) ?_
              refine lv_icmp_ne (tgt := 91) hx hb dX8_says_81 (by decide) (fun c23 => ?_) (fun c23 => ?_)
              · replace h := And.right h c23
                exact t_X8_says_91 C hA _ _ _ _ (lv_sub hl [1] rfl) hP hD hS h
              · replace h := And.left h c23
                refine lv_iload_n hx hb dX8_says_84 rfl (lv_at hl 0 rfl) ?_
                refine xend_ro_i (xRunS (wc := ([] : va_W)) (As := [.int v20]) (rest := []) C (c_X8_reads h) k_X8_reads mw_331 ⟨rfl, rfl⟩ ⟨Nat.le_of_ble_eq_true rfl, Nat.le_of_ble_eq_true rfl⟩ hP hD [] rfl rfl hl rfl rfl (Nat.le_of_ble_eq_true rfl) dX8_says_85 ⟨Nat.le_refl _, Nat.le_refl _⟩) (fun v26 h => ?_)
                refine lv_if_ne (tgt := 98) hx hb dX8_says_88 (by decide) (fun c27 => ?_) (fun c27 => ?_)
                · replace h := And.right h c27
                  exact t_X8_says_98 C hA _ _ _ _ (lv_sub hl [1, 2, 3] rfl) hP hD hS h
                · replace h := And.left h c27
                  exact t_X8_says_91 C hA _ _ _ _ (lv_sub hl [1] rfl) hP hD hS h
      · replace h := And.left h c7
        refine lv_aload_n hx hb dX8_says_41 rfl (lv_at hl 0 rfl) ?_
        refine lv_bipush (v := -3) hx hb dX8_says_42 (by decide) ?_
        refine xend_rw_i_id (wf := fun (u : (zS)) => (wX8 K h0 a0 n0 la0 u ++ (([] : va_W)))) (xRunV_id (As := [.int (-3 : Int32)]) (rest := []) C (c_X8_refuse h) k_X8_refuse mw_165 ⟨rfl, rfl⟩ ⟨Nat.le_of_ble_eq_true rfl, Nat.le_of_ble_eq_true rfl⟩ hP hD rfl rfl hl rfl rfl (Nat.le_of_ble_eq_true rfl) dX8_says_44 ⟨Nat.le_refl _, Nat.le_refl _⟩) hD hS hA (fun _ => wX8_adr _ _) (fun v28 s29 H locs h hP hD hS => ?_)
        exact xrw_i C s29 h hP hS dX8_says_47
    · replace h := And.left h c6
      exact t_X8_says_24 C hA _ _ _ _ (lv_sub hl [0] rfl) hP hD hS h

def wp_X8_rows (r0 : zS) (p1 : Int32) (post : Int32 → (zS) → Prop) : Prop :=
  wp_X8_in (p1.toInt64) (2 : Int64) (4 : Int64) (fun v1 => (v1 = 0 → wp_X8_refuse r0 (-2 : Int32) (fun v7 s8 => post v7 s8)) ∧ (¬ v1 = 0 → ((r0.1 10) ≤ 0 → ∀ v4 : Int32, v4 = (r0.1 9) → post v4 (zI r0 9 p1)) ∧ (¬ (r0.1 10) ≤ 0 → wp_X8_refuse r0 (-5 : Int32) (fun v5 s6 => post v5 s6))))
set_option maxHeartbeats 4000000 in
set_option maxRecDepth 100000 in
theorem c_X8_rows {l : Launch} {D : va_G} {K : Nat → ClassId} {h0 : Nat} {a0 : Nat → Nat} {n0 : Nat → Option Nat} {la0 : Nat → Nat} {r0 : zS} {p1 : Int32} {sz : Nat} {post : Int32 → (zS) → Prop}   (h : wp_X8_rows r0 p1 post) : Met l yX8_rows (Cond.code yX8_rows cX8_rows 3 (some .int) :: wsL_law) ({ frames := 1, cells := 0, slots := 0, locals := 25 } : Room) (va_Pc [.ref h0, .int p1] (xPre D vwCl (xty K) (wX8 K h0 a0 n0 la0 r0 ++ (([] : va_W))) sz)) (va_Qi (fun r (u : (zS)) => post r u) (fun (u : (zS)) t => va_P D vwCl (wX8 K h0 a0 n0 la0 u ++ (([] : va_W))) t.heap) (va_A (wX8 K h0 a0 n0 la0 r0 ++ (([] : va_W))) sz)) 0 0 (va_A (wX8 K h0 a0 n0 la0 r0 ++ (([] : va_W))) sz) := by
  refine xMet (by decide) rfl (Nat.le_of_ble_eq_true rfl) (fun p e s m args below meth c C hnm hP hD hsz ls hl => ?_)
  have hl : lv_has ls 3 [(0, .ref h0), (1, .int p1)] := hl
  obtain ⟨hx, hb, hr, hml, hown, hts, hlocks, hK, hT⟩ := id C
  subst hsz
  generalize hAe : va_A (wX8 K h0 a0 n0 la0 r0 ++ (([] : va_W))) s.heap.size = A at hD ⊢
  have hA : ∀ q : Nat, s.heap.size ≤ q → A q := fun q h => by rw [← hAe]; exact Or.inr h
  have hS : va_S A s.heap s.heap [] := va_S.rf
  have hP : va_P D vwCl (wX8 K h0 a0 n0 la0 r0 ++ (([] : va_W))) s.heap := hP
  unfold wp_X8_rows at h
  refine lv_iload_n hx hb dX8_rows_0 rfl (lv_at hl 1 rfl) ?_
  refine lv_i2l hx hb dX8_rows_1 rfl ?_
  refine lv_ldc2 hx hb hown (hts _ mw_369) dX8_rows_2 ?_
  refine lv_ldc2 hx hb hown (hts _ mw_160) dX8_rows_5 ?_
  refine xend_ro_i (xRunS (wc := ([] : va_W)) (As := [.long (p1.toInt64), .long (2 : Int64), .long (4 : Int64)]) (rest := []) C (c_X8_in h) k_X8_in mw_162 ⟨rfl, rfl⟩ ⟨Nat.le_of_ble_eq_true rfl, Nat.le_of_ble_eq_true rfl⟩ hP hD [] rfl rfl hl rfl rfl (Nat.le_of_ble_eq_true rfl) dX8_rows_8 ⟨Nat.le_refl _, Nat.le_refl _⟩) (fun v1 h => ?_)
  refine lv_if_ne (tgt := 21) hx hb dX8_rows_11 (by decide) (fun c2 => ?_) (fun c2 => ?_)
  · replace h := And.right h c2
    refine lv_aload_n hx hb dX8_rows_21 rfl (lv_at hl 0 rfl) ?_
    refine gX8_10 C hP dX8_rows_22 ?_
    refine lv_if_le (tgt := 35) hx hb dX8_rows_25 (by decide) (fun c3 => ?_) (fun c3 => ?_)
    · replace h := And.left h c3
      refine lv_aload_n hx hb dX8_rows_35 rfl (lv_at hl 0 rfl) ?_
      refine gX8_9 C hP dX8_rows_36 ?_
      refine lv_topi (fun v4 ev4 => ?_)
      replace h := h v4 ev4
      refine lv_istore_n (lv' := [(2, .int v4), (0, .ref h0), (1, .int p1)]) hx hb dX8_rows_39 rfl hl (by decide) rfl (fun ls hl => ?_)
      refine lv_aload_n hx hb dX8_rows_40 rfl (lv_at hl 1 rfl) ?_
      refine lv_iload_n hx hb dX8_rows_41 rfl (lv_at hl 2 rfl) ?_
      refine pX8_9 C hP hD hS dX8_rows_42 (fun H locs hP hD hS => ?_)
      refine lv_iload_n hx hb dX8_rows_45 rfl (lv_at hl 0 rfl) ?_
      exact xrw_i C (zI r0 9 p1) h hP hS dX8_rows_46
    · replace h := And.right h c3
      refine lv_aload_n hx hb dX8_rows_28 rfl (lv_at hl 0 rfl) ?_
      refine lv_bipush (v := -5) hx hb dX8_rows_29 (by decide) ?_
      refine xend_rw_i_id (wf := fun (u : (zS)) => (wX8 K h0 a0 n0 la0 u ++ (([] : va_W)))) (xRunV_id (As := [.int (-5 : Int32)]) (rest := []) C (c_X8_refuse h) k_X8_refuse mw_165 ⟨rfl, rfl⟩ ⟨Nat.le_of_ble_eq_true rfl, Nat.le_of_ble_eq_true rfl⟩ hP hD rfl rfl hl rfl rfl (Nat.le_of_ble_eq_true rfl) dX8_rows_31 ⟨Nat.le_refl _, Nat.le_refl _⟩) hD hS hA (fun _ => wX8_adr _ _) (fun v5 s6 H locs h hP hD hS => ?_)
      exact xrw_i C s6 h hP hS dX8_rows_34
  · replace h := And.left h c2
    refine lv_aload_n hx hb dX8_rows_14 rfl (lv_at hl 0 rfl) ?_
    refine lv_bipush (v := -2) hx hb dX8_rows_15 (by decide) ?_
    refine xend_rw_i_id (wf := fun (u : (zS)) => (wX8 K h0 a0 n0 la0 u ++ (([] : va_W)))) (xRunV_id (As := [.int (-2 : Int32)]) (rest := []) C (c_X8_refuse h) k_X8_refuse mw_165 ⟨rfl, rfl⟩ ⟨Nat.le_of_ble_eq_true rfl, Nat.le_of_ble_eq_true rfl⟩ hP hD rfl rfl hl rfl rfl (Nat.le_of_ble_eq_true rfl) dX8_rows_17 ⟨Nat.le_refl _, Nat.le_refl _⟩) hD hS hA (fun _ => wX8_adr _ _) (fun v7 s8 H locs h hP hD hS => ?_)
    exact xrw_i C s8 h hP hS dX8_rows_20

def wp_X8_addPupil (r0 : zS) (p1 : Int32) (p2 : Int32) (p3 : Int32) (post : (zS) → Prop) : Prop :=
  vp_in (r0.1 10) 12 ∧ (∀ j1 : Nat, j1 = (r0.1 10).toNatClampNeg → vp_in ((zA r0 11 j1 p1).1 10) 12 ∧ (∀ j2 : Nat, j2 = ((zA r0 11 j1 p1).1 10).toNatClampNeg → vp_in ((zA (zA r0 11 j1 p1) 12 j2 p2).1 10) 12 ∧ (∀ j3 : Nat, j3 = ((zA (zA r0 11 j1 p1) 12 j2 p2).1 10).toNatClampNeg → vp_in ((zA (zA (zA r0 11 j1 p1) 12 j2 p2) 13 j3 p3).1 10) 12 ∧ (∀ j4 : Nat, j4 = ((zA (zA (zA r0 11 j1 p1) 12 j2 p2) 13 j3 p3).1 10).toNatClampNeg → ∀ v5 : Int32, v5 = (((zA (zA (zA (zA r0 11 j1 p1) 12 j2 p2) 13 j3 p3) 14 j4 (0 : Int32)).1 10) + (1 : Int32)) → post (zI (zA (zA (zA (zA r0 11 j1 p1) 12 j2 p2) 13 j3 p3) 14 j4 (0 : Int32)) 10 v5)))))
set_option maxHeartbeats 4000000 in
set_option maxRecDepth 100000 in
theorem c_X8_addPupil {l : Launch} {D : va_G} {K : Nat → ClassId} {h0 : Nat} {a0 : Nat → Nat} {n0 : Nat → Option Nat} {la0 : Nat → Nat} {r0 : zS} {p1 : Int32} {p2 : Int32} {p3 : Int32} {sz : Nat} {post : (zS) → Prop}   (h : wp_X8_addPupil r0 p1 p2 p3 post) : Met l yX8_addPupil (Cond.code yX8_addPupil cX8_addPupil 4 none :: wsL_law) ({ frames := 0, cells := 0, slots := 0, locals := 0 } : Room) (va_Pc [.ref h0, .int p1, .int p2, .int p3] (xPre D vwCl (xty K) (wX8 K h0 a0 n0 la0 r0 ++ (([] : va_W))) sz)) (va_Qv (fun (u : (zS)) => post u) (fun (u : (zS)) t => va_P D vwCl (wX8 K h0 a0 n0 la0 u ++ (([] : va_W))) t.heap) (va_A (wX8 K h0 a0 n0 la0 r0 ++ (([] : va_W))) sz)) 0 0 (va_A (wX8 K h0 a0 n0 la0 r0 ++ (([] : va_W))) sz) := by
  refine xMet (by decide) rfl (Nat.le_of_ble_eq_true rfl) (fun p e s m args below meth c C hnm hP hD hsz ls hl => ?_)
  have hl : lv_has ls 4 [(0, .ref h0), (1, .int p1), (2, .int p2), (3, .int p3)] := hl
  obtain ⟨hx, hb, hr, hml, hown, hts, hlocks, hK, hT⟩ := id C
  subst hsz
  generalize hAe : va_A (wX8 K h0 a0 n0 la0 r0 ++ (([] : va_W))) s.heap.size = A at hD ⊢
  have hA : ∀ q : Nat, s.heap.size ≤ q → A q := fun q h => by rw [← hAe]; exact Or.inr h
  have hS : va_S A s.heap s.heap [] := va_S.rf
  have hP : va_P D vwCl (wX8 K h0 a0 n0 la0 r0 ++ (([] : va_W))) s.heap := hP
  unfold wp_X8_addPupil at h
  refine lv_aload_n hx hb dX8_addPupil_0 rfl (lv_at hl 0 rfl) ?_
  refine gX8_11 C hP dX8_addPupil_1 ?_
  refine lv_aload_n hx hb dX8_addPupil_4 rfl (lv_at hl 0 rfl) ?_
  refine gX8_10 C hP dX8_addPupil_5 ?_
  refine lv_iload_n hx hb dX8_addPupil_8 rfl (lv_at hl 1 rfl) ?_
  have hin := And.left h
  obtain ⟨j1, ej1⟩ : ∃ j : Nat, j = (r0.1 10).toNatClampNeg := ⟨_, rfl⟩
  replace h := And.right h j1 ej1
  refine sX8_11 C hP hD hS hin ej1 dX8_addPupil_9 (fun H locs hP hD hS => ?_)
  refine lv_aload_n hx hb dX8_addPupil_10 rfl (lv_at hl 0 rfl) ?_
  refine gX8_12 C hP dX8_addPupil_11 ?_
  refine lv_aload_n hx hb dX8_addPupil_14 rfl (lv_at hl 0 rfl) ?_
  refine gX8_10 C hP dX8_addPupil_15 ?_
  refine lv_iload_n hx hb dX8_addPupil_18 rfl (lv_at hl 2 rfl) ?_
  have hin := And.left h
  obtain ⟨j2, ej2⟩ : ∃ j : Nat, j = ((zA r0 11 j1 p1).1 10).toNatClampNeg := ⟨_, rfl⟩
  replace h := And.right h j2 ej2
  refine sX8_12 C hP hD hS hin ej2 dX8_addPupil_19 (fun H locs hP hD hS => ?_)
  refine lv_aload_n hx hb dX8_addPupil_20 rfl (lv_at hl 0 rfl) ?_
  refine gX8_13 C hP dX8_addPupil_21 ?_
  refine lv_aload_n hx hb dX8_addPupil_24 rfl (lv_at hl 0 rfl) ?_
  refine gX8_10 C hP dX8_addPupil_25 ?_
  refine lv_iload_n hx hb dX8_addPupil_28 rfl (lv_at hl 3 rfl) ?_
  have hin := And.left h
  obtain ⟨j3, ej3⟩ : ∃ j : Nat, j = ((zA (zA r0 11 j1 p1) 12 j2 p2).1 10).toNatClampNeg := ⟨_, rfl⟩
  replace h := And.right h j3 ej3
  refine sX8_13 C hP hD hS hin ej3 dX8_addPupil_29 (fun H locs hP hD hS => ?_)
  refine lv_aload_n hx hb dX8_addPupil_30 rfl (lv_at hl 0 rfl) ?_
  refine gX8_14 C hP dX8_addPupil_31 ?_
  refine lv_aload_n hx hb dX8_addPupil_34 rfl (lv_at hl 0 rfl) ?_
  refine gX8_10 C hP dX8_addPupil_35 ?_
  refine lv_iconst (v := 0) hx hb dX8_addPupil_38 (by decide) ?_
  have hin := And.left h
  obtain ⟨j4, ej4⟩ : ∃ j : Nat, j = ((zA (zA (zA r0 11 j1 p1) 12 j2 p2) 13 j3 p3).1 10).toNatClampNeg := ⟨_, rfl⟩
  replace h := And.right h j4 ej4
  refine sX8_14 C hP hD hS hin ej4 dX8_addPupil_39 (fun H locs hP hD hS => ?_)
  refine lv_aload_n hx hb dX8_addPupil_40 rfl (lv_at hl 0 rfl) ?_
  refine lv_dup hx hb dX8_addPupil_41 rfl ?_
  refine gX8_10 C hP dX8_addPupil_42 ?_
  refine lv_iconst (v := 1) hx hb dX8_addPupil_45 (by decide) ?_
  refine lv_iadd hx hb dX8_addPupil_46 ?_
  refine lv_topi (fun v5 ev5 => ?_)
  replace h := h v5 ev5
  refine pX8_10 C hP hD hS dX8_addPupil_47 (fun H locs hP hD hS => ?_)
  exact xrw_v C (zI (zA (zA (zA (zA r0 11 j1 p1) 12 j2 p2) 13 j3 p3) 14 j4 (0 : Int32)) 10 v5) h hP hS dX8_addPupil_50

def wp_X8_pupil_32 (p1 : Int32) (p2 : Int32) (p3 : Int32) (post : Int32 → (zS) → Prop) (r0 : zS) : Prop :=
  wp_X8_refuse r0 (-2 : Int32) (fun v3 s4 => post v3 s4)
def wp_X8_pupil (r0 : zS) (p1 : Int32) (p2 : Int32) (p3 : Int32) (post : Int32 → (zS) → Prop) : Prop :=
  wp_X8_in (p1.toInt64) (0 : Int64) (5 : Int64) (fun v1 => (v1 = 0 → wp_X8_pupil_32 p1 p2 p3 post r0) ∧ (¬ v1 = 0 → wp_X8_isDesk r0 p2 (fun v5 => (v5 = 0 → wp_X8_pupil_32 p1 p2 p3 post r0) ∧ (¬ v5 = 0 → wp_X8_in (p3.toInt64) (0 : Int64) (9 : Int64) (fun v7 => (v7 = 0 → wp_X8_pupil_32 p1 p2 p3 post r0) ∧ (¬ v7 = 0 → wp_X8_sitting r0 p2 (fun v9 => (v9 = (-1 : Int32) → ((r0.1 10) = (12 : Int32) → wp_X8_refuse r0 (-6 : Int32) (fun v14 s15 => post v14 s15)) ∧ (¬ (r0.1 10) = (12 : Int32) → wp_X8_addPupil r0 p1 p2 p3 (fun s13 => post ((s13.1 10) - (1 : Int32)) s13))) ∧ (¬ v9 = (-1 : Int32) → wp_X8_refuse r0 (-5 : Int32) (fun v16 s17 => post v16 s17)))))))))
set_option maxHeartbeats 4000000 in
set_option maxRecDepth 100000 in
theorem t_X8_pupil_32 {p : Program} {l : Launch} {e : Env} {s : State} {m : MethodId} {args : Array Value} {below : List Frame} {meth : Method} {c : Code} {D : va_G} {K : Nat → ClassId} {h0 : Nat} {a0 : Nat → Nat} {n0 : Nat → Option Nat} {la0 : Nat → Nat} {p1 : Int32} {p2 : Int32} {p3 : Int32} {post : Int32 → (zS) → Prop} {A : Nat → Prop} (C : xC p s m args meth c cX8_pupil RX8 4 (some .int) D vwCl (xty K)) (hA : ∀ q, s.heap.size ≤ q → A q) : ∀ (r0 : zS) (H : Heap) (locs : List Loc) (ls : Array Slot), lv_has ls 4 [(0, .ref h0)] → va_P D vwCl (wX8 K h0 a0 n0 la0 r0 ++ (([] : va_W))) H → va_D A (wX8 K h0 a0 n0 la0 r0 ++ (([] : va_W))) → va_S A s.heap H locs → wp_X8_pupil_32 p1 p2 p3 post r0 → W p l e ({ frames := 2, cells := 0, slots := 0, locals := 46 } : Room) s m args below meth c H locs 0 0 (MQ below (va_Qi (fun r (u : (zS)) => post r u) (fun (u : (zS)) t => va_P D vwCl (wX8 K h0 a0 n0 la0 u ++ (([] : va_W))) t.heap) A) args s 0 0 A) (F0 m 32 ls []) := by
  obtain ⟨hx, hb, hr, hml, hown, hts, hlocks, hK, hT⟩ := id C
  intro r0 H locs ls hl hP hD hS h
  unfold wp_X8_pupil_32 at h
  refine lv_aload_n hx hb dX8_pupil_32 rfl (lv_at hl 0 rfl) ?_
  refine lv_bipush (v := -2) hx hb dX8_pupil_33 (by decide) ?_
  refine xend_rw_i_id (wf := fun (u : (zS)) => (wX8 K h0 a0 n0 la0 u ++ (([] : va_W)))) (xRunV_id (As := [.int (-2 : Int32)]) (rest := []) C (c_X8_refuse h) k_X8_refuse mw_165 ⟨rfl, rfl⟩ ⟨Nat.le_of_ble_eq_true rfl, Nat.le_of_ble_eq_true rfl⟩ hP hD rfl rfl hl rfl rfl (Nat.le_of_ble_eq_true rfl) dX8_pupil_35 ⟨Nat.le_refl _, Nat.le_refl _⟩) hD hS hA (fun _ => wX8_adr _ _) (fun v3 s4 H locs h hP hD hS => ?_)
  exact xrw_i C s4 h hP hS dX8_pupil_38
set_option maxHeartbeats 4000000 in
set_option maxRecDepth 100000 in
theorem c_X8_pupil {l : Launch} {D : va_G} {K : Nat → ClassId} {h0 : Nat} {a0 : Nat → Nat} {n0 : Nat → Option Nat} {la0 : Nat → Nat} {r0 : zS} {p1 : Int32} {p2 : Int32} {p3 : Int32} {sz : Nat} {post : Int32 → (zS) → Prop}   (h : wp_X8_pupil r0 p1 p2 p3 post) : Met l yX8_pupil (Cond.code yX8_pupil cX8_pupil 4 (some .int) :: wsL_law) ({ frames := 2, cells := 0, slots := 0, locals := 46 } : Room) (va_Pc [.ref h0, .int p1, .int p2, .int p3] (xPre D vwCl (xty K) (wX8 K h0 a0 n0 la0 r0 ++ (([] : va_W))) sz)) (va_Qi (fun r (u : (zS)) => post r u) (fun (u : (zS)) t => va_P D vwCl (wX8 K h0 a0 n0 la0 u ++ (([] : va_W))) t.heap) (va_A (wX8 K h0 a0 n0 la0 r0 ++ (([] : va_W))) sz)) 0 0 (va_A (wX8 K h0 a0 n0 la0 r0 ++ (([] : va_W))) sz) := by
  refine xMet (by decide) rfl (Nat.le_of_ble_eq_true rfl) (fun p e s m args below meth c C hnm hP hD hsz ls hl => ?_)
  have hl : lv_has ls 4 [(0, .ref h0), (1, .int p1), (2, .int p2), (3, .int p3)] := hl
  obtain ⟨hx, hb, hr, hml, hown, hts, hlocks, hK, hT⟩ := id C
  subst hsz
  generalize hAe : va_A (wX8 K h0 a0 n0 la0 r0 ++ (([] : va_W))) s.heap.size = A at hD ⊢
  have hA : ∀ q : Nat, s.heap.size ≤ q → A q := fun q h => by rw [← hAe]; exact Or.inr h
  have hS : va_S A s.heap s.heap [] := va_S.rf
  have hP : va_P D vwCl (wX8 K h0 a0 n0 la0 r0 ++ (([] : va_W))) s.heap := hP
  unfold wp_X8_pupil at h
  refine lv_iload_n hx hb dX8_pupil_0 rfl (lv_at hl 1 rfl) ?_
  refine lv_i2l hx hb dX8_pupil_1 rfl ?_
  refine lv_lconst (v := 0) hx hb dX8_pupil_2 (by decide) ?_
  refine lv_ldc2 hx hb hown (hts _ mw_330) dX8_pupil_3 ?_
  refine xend_ro_i (xRunS (wc := ([] : va_W)) (As := [.long (p1.toInt64), .long (0 : Int64), .long (5 : Int64)]) (rest := []) C (c_X8_in h) k_X8_in mw_162 ⟨rfl, rfl⟩ ⟨Nat.le_of_ble_eq_true rfl, Nat.le_of_ble_eq_true rfl⟩ hP hD [] rfl rfl hl rfl rfl (Nat.le_of_ble_eq_true rfl) dX8_pupil_6 ⟨Nat.le_refl _, Nat.le_refl _⟩) (fun v1 h => ?_)
  refine lv_if_eq (tgt := 32) hx hb dX8_pupil_9 (by decide) (fun c2 => ?_) (fun c2 => ?_)
  · replace h := And.left h c2
    exact t_X8_pupil_32 C hA _ _ _ _ (lv_sub hl [0] rfl) hP hD hS h
  · replace h := And.right h c2
    refine lv_aload_n hx hb dX8_pupil_12 rfl (lv_at hl 0 rfl) ?_
    refine lv_iload_n hx hb dX8_pupil_13 rfl (lv_at hl 2 rfl) ?_
    refine xend_ro_i (xRunV_id (As := [.int p2]) (rest := []) C (c_X8_isDesk h) k_X8_isDesk mw_413 ⟨rfl, rfl⟩ ⟨Nat.le_of_ble_eq_true rfl, Nat.le_of_ble_eq_true rfl⟩ hP hD rfl rfl hl rfl rfl (Nat.le_of_ble_eq_true rfl) dX8_pupil_14 ⟨Nat.le_refl _, Nat.le_refl _⟩) (fun v5 h => ?_)
    refine lv_if_eq (tgt := 32) hx hb dX8_pupil_17 (by decide) (fun c6 => ?_) (fun c6 => ?_)
    · replace h := And.left h c6
      exact t_X8_pupil_32 C hA _ _ _ _ (lv_sub hl [0] rfl) hP hD hS h
    · replace h := And.right h c6
      refine lv_iload_n hx hb dX8_pupil_20 rfl (lv_at hl 3 rfl) ?_
      refine lv_i2l hx hb dX8_pupil_21 rfl ?_
      refine lv_lconst (v := 0) hx hb dX8_pupil_22 (by decide) ?_
      refine lv_ldc2 hx hb hown (hts _ mw_412) dX8_pupil_23 ?_
      refine xend_ro_i (xRunS (wc := ([] : va_W)) (As := [.long (p3.toInt64), .long (0 : Int64), .long (9 : Int64)]) (rest := []) C (c_X8_in h) k_X8_in mw_162 ⟨rfl, rfl⟩ ⟨Nat.le_of_ble_eq_true rfl, Nat.le_of_ble_eq_true rfl⟩ hP hD [] rfl rfl hl rfl rfl (Nat.le_of_ble_eq_true rfl) dX8_pupil_26 ⟨Nat.le_refl _, Nat.le_refl _⟩) (fun v7 h => ?_)
      refine lv_if_ne (tgt := 39) hx hb dX8_pupil_29 (by decide) (fun c8 => ?_) (fun c8 => ?_)
      · replace h := And.right h c8
        refine lv_aload_n hx hb dX8_pupil_39 rfl (lv_at hl 0 rfl) ?_
        refine lv_iload_n hx hb dX8_pupil_40 rfl (lv_at hl 2 rfl) ?_
        refine xend_ro_i (xRunV_id (As := [.int p2]) (rest := []) C (c_X8_sitting h) k_X8_sitting mw_417 ⟨rfl, rfl⟩ ⟨Nat.le_of_ble_eq_true rfl, Nat.le_of_ble_eq_true rfl⟩ hP hD rfl rfl hl rfl rfl (Nat.le_of_ble_eq_true rfl) dX8_pupil_41 ⟨Nat.le_refl _, Nat.le_refl _⟩) (fun v9 h => ?_)
        refine lv_iconst (v := -1) hx hb dX8_pupil_44 (by decide) ?_
        refine lv_icmp_eq (tgt := 55) hx hb dX8_pupil_45 (by decide) (fun c10 => ?_) (fun c10 => ?_)
        · replace h := And.left h c10
          refine lv_aload_n hx hb dX8_pupil_55 rfl (lv_at hl 0 rfl) ?_
          refine gX8_10 C hP dX8_pupil_56 ?_
          refine lv_bipush (v := 12) hx hb dX8_pupil_59 (by decide) ?_
          refine lv_icmp_ne (tgt := 71) hx hb dX8_pupil_61 (by decide) (fun c11 => ?_) (fun c11 => ?_)
          · replace h := And.right h c11
            refine lv_aload_n hx hb dX8_pupil_71 rfl (lv_at hl 0 rfl) ?_
            refine lv_iload_n hx hb dX8_pupil_72 rfl (lv_at hl 1 rfl) ?_
            refine lv_iload_n hx hb dX8_pupil_73 rfl (lv_at hl 2 rfl) ?_
            refine lv_iload_n hx hb dX8_pupil_74 rfl (lv_at hl 3 rfl) ?_
            refine xend_rw_v_id (wf := fun (u : (zS)) => (wX8 K h0 a0 n0 la0 u ++ (([] : va_W)))) (xRunV_id (As := [.int p1, .int p2, .int p3]) (rest := []) C (c_X8_addPupil h) k_X8_addPupil mw_421 ⟨rfl, rfl⟩ ⟨Nat.le_of_ble_eq_true rfl, Nat.le_of_ble_eq_true rfl⟩ hP hD rfl rfl hl rfl rfl (Nat.le_of_ble_eq_true rfl) dX8_pupil_75 ⟨Nat.le_refl _, Nat.le_refl _⟩) hD hS hA (fun _ => wX8_adr _ _) (fun s13 H locs h hP hD hS => ?_)
            refine lv_aload_n hx hb dX8_pupil_78 rfl (lv_at hl 0 rfl) ?_
            refine gX8_10 C hP dX8_pupil_79 ?_
            refine lv_iconst (v := 1) hx hb dX8_pupil_82 (by decide) ?_
            refine lv_isub hx hb dX8_pupil_83 ?_
            exact xrw_i C s13 h hP hS dX8_pupil_84
          · replace h := And.left h c11
            refine lv_aload_n hx hb dX8_pupil_64 rfl (lv_at hl 0 rfl) ?_
            refine lv_bipush (v := -6) hx hb dX8_pupil_65 (by decide) ?_
            refine xend_rw_i_id (wf := fun (u : (zS)) => (wX8 K h0 a0 n0 la0 u ++ (([] : va_W)))) (xRunV_id (As := [.int (-6 : Int32)]) (rest := []) C (c_X8_refuse h) k_X8_refuse mw_165 ⟨rfl, rfl⟩ ⟨Nat.le_of_ble_eq_true rfl, Nat.le_of_ble_eq_true rfl⟩ hP hD rfl rfl hl rfl rfl (Nat.le_of_ble_eq_true rfl) dX8_pupil_67 ⟨Nat.le_refl _, Nat.le_refl _⟩) hD hS hA (fun _ => wX8_adr _ _) (fun v14 s15 H locs h hP hD hS => ?_)
            exact xrw_i C s15 h hP hS dX8_pupil_70
        · replace h := And.right h c10
          refine lv_aload_n hx hb dX8_pupil_48 rfl (lv_at hl 0 rfl) ?_
          refine lv_bipush (v := -5) hx hb dX8_pupil_49 (by decide) ?_
          refine xend_rw_i_id (wf := fun (u : (zS)) => (wX8 K h0 a0 n0 la0 u ++ (([] : va_W)))) (xRunV_id (As := [.int (-5 : Int32)]) (rest := []) C (c_X8_refuse h) k_X8_refuse mw_165 ⟨rfl, rfl⟩ ⟨Nat.le_of_ble_eq_true rfl, Nat.le_of_ble_eq_true rfl⟩ hP hD rfl rfl hl rfl rfl (Nat.le_of_ble_eq_true rfl) dX8_pupil_51 ⟨Nat.le_refl _, Nat.le_refl _⟩) hD hS hA (fun _ => wX8_adr _ _) (fun v16 s17 H locs h hP hD hS => ?_)
          exact xrw_i C s17 h hP hS dX8_pupil_54
      · replace h := And.left h c8
        exact t_X8_pupil_32 C hA _ _ _ _ (lv_sub hl [0] rfl) hP hD hS h

def wp_X8_bars_69 (p1 : Int32) (p2 : Int32) (p3 : Int32) (post : (zS) → Prop) (r0 : zS) (y0 : Int32) (y1 : Int32) : Prop :=
  vp_in y1 12 ∧ (∀ j4 : Nat, j4 = y1.toNatClampNeg → post (zA r0 14 j4 y0))
def wp_X8_bars_34 (p1 : Int32) (p2 : Int32) (p3 : Int32) (post : (zS) → Prop) (r0 : zS) (y0 : Int32) (y1 : Int32) : Prop :=
  vp_in y1 12 ∧ (∀ j2 : Nat, j2 = y1.toNatClampNeg → (p3 = 0 → vp_in p2 12 ∧ (wp_X8_bars_69 p1 p2 p3 post (zA r0 14 j2 y0) (((zA r0 14 j2 y0).2.1 14 p2.toNatClampNeg) &&& (((1 : Int32) <<< (p1 &&& 31)) ^^^ (-1 : Int32))) p2)) ∧ (¬ p3 = 0 → vp_in p2 12 ∧ (wp_X8_bars_69 p1 p2 p3 post (zA r0 14 j2 y0) (((zA r0 14 j2 y0).2.1 14 p2.toNatClampNeg) ||| ((1 : Int32) <<< (p1 &&& 31))) p2)))
def wp_X8_bars (r0 : zS) (p1 : Int32) (p2 : Int32) (p3 : Int32) (post : (zS) → Prop) : Prop :=
  (p3 = 0 → vp_in p1 12 ∧ (wp_X8_bars_34 p1 p2 p3 post r0 ((r0.2.1 14 p1.toNatClampNeg) &&& (((1 : Int32) <<< (p2 &&& 31)) ^^^ (-1 : Int32))) p1)) ∧ (¬ p3 = 0 → vp_in p1 12 ∧ (wp_X8_bars_34 p1 p2 p3 post r0 ((r0.2.1 14 p1.toNatClampNeg) ||| ((1 : Int32) <<< (p2 &&& 31))) p1))
set_option maxHeartbeats 4000000 in
set_option maxRecDepth 100000 in
theorem t_X8_bars_69 {p : Program} {l : Launch} {e : Env} {s : State} {m : MethodId} {args : Array Value} {below : List Frame} {meth : Method} {c : Code} {D : va_G} {K : Nat → ClassId} {h0 : Nat} {a0 : Nat → Nat} {n0 : Nat → Option Nat} {la0 : Nat → Nat} {p1 : Int32} {p2 : Int32} {p3 : Int32} {post : (zS) → Prop} {A : Nat → Prop} (C : xC p s m args meth c cX8_bars RX8 4 none D vwCl (xty K)) (hA : ∀ q, s.heap.size ≤ q → A q) : ∀ (r0 : zS) (y0 : Int32) (y1 : Int32) (H : Heap) (locs : List Loc) (ls : Array Slot), lv_has ls 4 [] → va_P D vwCl (wX8 K h0 a0 n0 la0 r0 ++ (([] : va_W))) H → va_D A (wX8 K h0 a0 n0 la0 r0 ++ (([] : va_W))) → va_S A s.heap H locs → wp_X8_bars_69 p1 p2 p3 post r0 y0 y1 → W p l e ({ frames := 0, cells := 0, slots := 0, locals := 0 } : Room) s m args below meth c H locs 0 0 (MQ below (va_Qv (fun (u : (zS)) => post u) (fun (u : (zS)) t => va_P D vwCl (wX8 K h0 a0 n0 la0 u ++ (([] : va_W))) t.heap) A) args s 0 0 A) (F0 m 69 ls [.int y0, .int y1, .ref (a0 14)]) := by
  obtain ⟨hx, hb, hr, hml, hown, hts, hlocks, hK, hT⟩ := id C
  intro r0 y0 y1 H locs ls hl hP hD hS h
  unfold wp_X8_bars_69 at h
  have hin := And.left h
  obtain ⟨j4, ej4⟩ : ∃ j : Nat, j = y1.toNatClampNeg := ⟨_, rfl⟩
  replace h := And.right h j4 ej4
  refine sX8_14 C hP hD hS hin ej4 dX8_bars_69 (fun H locs hP hD hS => ?_)
  exact xrw_v C (zA r0 14 j4 y0) h hP hS dX8_bars_70
set_option maxHeartbeats 4000000 in
set_option maxRecDepth 100000 in
theorem t_X8_bars_34 {p : Program} {l : Launch} {e : Env} {s : State} {m : MethodId} {args : Array Value} {below : List Frame} {meth : Method} {c : Code} {D : va_G} {K : Nat → ClassId} {h0 : Nat} {a0 : Nat → Nat} {n0 : Nat → Option Nat} {la0 : Nat → Nat} {p1 : Int32} {p2 : Int32} {p3 : Int32} {post : (zS) → Prop} {A : Nat → Prop} (C : xC p s m args meth c cX8_bars RX8 4 none D vwCl (xty K)) (hA : ∀ q, s.heap.size ≤ q → A q) : ∀ (r0 : zS) (y0 : Int32) (y1 : Int32) (H : Heap) (locs : List Loc) (ls : Array Slot), lv_has ls 4 [(0, .ref h0), (1, .int p1), (2, .int p2), (3, .int p3)] → va_P D vwCl (wX8 K h0 a0 n0 la0 r0 ++ (([] : va_W))) H → va_D A (wX8 K h0 a0 n0 la0 r0 ++ (([] : va_W))) → va_S A s.heap H locs → wp_X8_bars_34 p1 p2 p3 post r0 y0 y1 → W p l e ({ frames := 0, cells := 0, slots := 0, locals := 0 } : Room) s m args below meth c H locs 0 0 (MQ below (va_Qv (fun (u : (zS)) => post u) (fun (u : (zS)) t => va_P D vwCl (wX8 K h0 a0 n0 la0 u ++ (([] : va_W))) t.heap) A) args s 0 0 A) (F0 m 34 ls [.int y0, .int y1, .ref (a0 14)]) := by
  obtain ⟨hx, hb, hr, hml, hown, hts, hlocks, hK, hT⟩ := id C
  intro r0 y0 y1 H locs ls hl hP hD hS h
  unfold wp_X8_bars_34 at h
  have hin := And.left h
  obtain ⟨j2, ej2⟩ : ∃ j : Nat, j = y1.toNatClampNeg := ⟨_, rfl⟩
  replace h := And.right h j2 ej2
  refine sX8_14 C hP hD hS hin ej2 dX8_bars_34 (fun H locs hP hD hS => ?_)
  refine lv_aload_n hx hb dX8_bars_35 rfl (lv_at hl 0 rfl) ?_
  refine gX8_14 C hP dX8_bars_36 ?_
  refine lv_iload_n hx hb dX8_bars_39 rfl (lv_at hl 2 rfl) ?_
  refine lv_iload_n hx hb dX8_bars_40 rfl (lv_at hl 3 rfl) ?_
  refine lv_if_eq (tgt := 57) hx hb dX8_bars_41 (by decide) (fun c3 => ?_) (fun c3 => ?_)
  · replace h := And.left h c3
    refine lv_aload_n hx hb dX8_bars_57 rfl (lv_at hl 0 rfl) ?_
    refine gX8_14 C hP dX8_bars_58 ?_
    refine lv_iload_n hx hb dX8_bars_61 rfl (lv_at hl 2 rfl) ?_
    have hin := And.left h
    replace h := And.right h
    refine lX8_14 C hP hin dX8_bars_62 ?_
    refine lv_iconst (v := 1) hx hb dX8_bars_63 (by decide) ?_
    refine lv_iload_n hx hb dX8_bars_64 rfl (lv_at hl 1 rfl) ?_
    refine lv_ishl hx hb dX8_bars_65 ?_
    refine lv_iconst (v := -1) hx hb dX8_bars_66 (by decide) ?_
    refine lv_ixor hx hb dX8_bars_67 ?_
    refine lv_iand hx hb dX8_bars_68 ?_
    exact t_X8_bars_69 C hA _ _ _ _ _ _ (lv_sub hl [] rfl) hP hD hS h
  · replace h := And.right h c3
    refine lv_aload_n hx hb dX8_bars_44 rfl (lv_at hl 0 rfl) ?_
    refine gX8_14 C hP dX8_bars_45 ?_
    refine lv_iload_n hx hb dX8_bars_48 rfl (lv_at hl 2 rfl) ?_
    have hin := And.left h
    replace h := And.right h
    refine lX8_14 C hP hin dX8_bars_49 ?_
    refine lv_iconst (v := 1) hx hb dX8_bars_50 (by decide) ?_
    refine lv_iload_n hx hb dX8_bars_51 rfl (lv_at hl 1 rfl) ?_
    refine lv_ishl hx hb dX8_bars_52 ?_
    refine lv_ior hx hb dX8_bars_53 ?_
    refine lv_goto (tgt := 69) hx hb dX8_bars_54 (by decide) ?_
    exact t_X8_bars_69 C hA _ _ _ _ _ _ (lv_sub hl [] rfl) hP hD hS h
set_option maxHeartbeats 4000000 in
set_option maxRecDepth 100000 in
theorem c_X8_bars {l : Launch} {D : va_G} {K : Nat → ClassId} {h0 : Nat} {a0 : Nat → Nat} {n0 : Nat → Option Nat} {la0 : Nat → Nat} {r0 : zS} {p1 : Int32} {p2 : Int32} {p3 : Int32} {sz : Nat} {post : (zS) → Prop}   (h : wp_X8_bars r0 p1 p2 p3 post) : Met l yX8_bars (Cond.code yX8_bars cX8_bars 4 none :: wsL_law) ({ frames := 0, cells := 0, slots := 0, locals := 0 } : Room) (va_Pc [.ref h0, .int p1, .int p2, .int p3] (xPre D vwCl (xty K) (wX8 K h0 a0 n0 la0 r0 ++ (([] : va_W))) sz)) (va_Qv (fun (u : (zS)) => post u) (fun (u : (zS)) t => va_P D vwCl (wX8 K h0 a0 n0 la0 u ++ (([] : va_W))) t.heap) (va_A (wX8 K h0 a0 n0 la0 r0 ++ (([] : va_W))) sz)) 0 0 (va_A (wX8 K h0 a0 n0 la0 r0 ++ (([] : va_W))) sz) := by
  refine xMet (by decide) rfl (Nat.le_of_ble_eq_true rfl) (fun p e s m args below meth c C hnm hP hD hsz ls hl => ?_)
  have hl : lv_has ls 4 [(0, .ref h0), (1, .int p1), (2, .int p2), (3, .int p3)] := hl
  obtain ⟨hx, hb, hr, hml, hown, hts, hlocks, hK, hT⟩ := id C
  subst hsz
  generalize hAe : va_A (wX8 K h0 a0 n0 la0 r0 ++ (([] : va_W))) s.heap.size = A at hD ⊢
  have hA : ∀ q : Nat, s.heap.size ≤ q → A q := fun q h => by rw [← hAe]; exact Or.inr h
  have hS : va_S A s.heap s.heap [] := va_S.rf
  have hP : va_P D vwCl (wX8 K h0 a0 n0 la0 r0 ++ (([] : va_W))) s.heap := hP
  unfold wp_X8_bars at h
  refine lv_aload_n hx hb dX8_bars_0 rfl (lv_at hl 0 rfl) ?_
  refine gX8_14 C hP dX8_bars_1 ?_
  refine lv_iload_n hx hb dX8_bars_4 rfl (lv_at hl 1 rfl) ?_
  refine lv_iload_n hx hb dX8_bars_5 rfl (lv_at hl 3 rfl) ?_
  refine lv_if_eq (tgt := 22) hx hb dX8_bars_6 (by decide) (fun c1 => ?_) (fun c1 => ?_)
  · replace h := And.left h c1
    refine lv_aload_n hx hb dX8_bars_22 rfl (lv_at hl 0 rfl) ?_
    refine gX8_14 C hP dX8_bars_23 ?_
    refine lv_iload_n hx hb dX8_bars_26 rfl (lv_at hl 1 rfl) ?_
    have hin := And.left h
    replace h := And.right h
    refine lX8_14 C hP hin dX8_bars_27 ?_
    refine lv_iconst (v := 1) hx hb dX8_bars_28 (by decide) ?_
    refine lv_iload_n hx hb dX8_bars_29 rfl (lv_at hl 2 rfl) ?_
    refine lv_ishl hx hb dX8_bars_30 ?_
    refine lv_iconst (v := -1) hx hb dX8_bars_31 (by decide) ?_
    refine lv_ixor hx hb dX8_bars_32 ?_
    refine lv_iand hx hb dX8_bars_33 ?_
    exact t_X8_bars_34 C hA _ _ _ _ _ _ (lv_sub hl [0, 1, 2, 3] rfl) hP hD hS h
  · replace h := And.right h c1
    refine lv_aload_n hx hb dX8_bars_9 rfl (lv_at hl 0 rfl) ?_
    refine gX8_14 C hP dX8_bars_10 ?_
    refine lv_iload_n hx hb dX8_bars_13 rfl (lv_at hl 1 rfl) ?_
    have hin := And.left h
    replace h := And.right h
    refine lX8_14 C hP hin dX8_bars_14 ?_
    refine lv_iconst (v := 1) hx hb dX8_bars_15 (by decide) ?_
    refine lv_iload_n hx hb dX8_bars_16 rfl (lv_at hl 2 rfl) ?_
    refine lv_ishl hx hb dX8_bars_17 ?_
    refine lv_ior hx hb dX8_bars_18 ?_
    refine lv_goto (tgt := 34) hx hb dX8_bars_19 (by decide) ?_
    exact t_X8_bars_34 C hA _ _ _ _ _ _ (lv_sub hl [0, 1, 2, 3] rfl) hP hD hS h

def wp_X8_bar (r0 : zS) (p1 : Int32) (p2 : Int32) (p3 : Int32) (post : Int32 → (zS) → Prop) : Prop :=
  wp_X8_areTwo r0 p1 p2 (fun v1 => (v1 = 0 → wp_X8_refuse r0 (-2 : Int32) (fun v7 s8 => post v7 s8)) ∧ (¬ v1 = 0 → vp_in p1 12 ∧ (wp_X8_has (r0.2.1 14 p1.toNatClampNeg) p2 (fun v3 => wp_X8_bars r0 p1 p2 p3 (fun s5 => (v3 = p3 → post (0 : Int32) s5) ∧ (¬ v3 = p3 → post (1 : Int32) s5))))))
set_option maxHeartbeats 4000000 in
set_option maxRecDepth 100000 in
theorem c_X8_bar {l : Launch} {D : va_G} {K : Nat → ClassId} {h0 : Nat} {a0 : Nat → Nat} {n0 : Nat → Option Nat} {la0 : Nat → Nat} {r0 : zS} {p1 : Int32} {p2 : Int32} {p3 : Int32} {sz : Nat} {post : Int32 → (zS) → Prop}   (h : wp_X8_bar r0 p1 p2 p3 post) : Met l yX8_bar (Cond.code yX8_bar cX8_bar 5 (some .int) :: wsL_law) ({ frames := 3, cells := 0, slots := 0, locals := 69 } : Room) (va_Pc [.ref h0, .int p1, .int p2, .int p3] (xPre D vwCl (xty K) (wX8 K h0 a0 n0 la0 r0 ++ (([] : va_W))) sz)) (va_Qi (fun r (u : (zS)) => post r u) (fun (u : (zS)) t => va_P D vwCl (wX8 K h0 a0 n0 la0 u ++ (([] : va_W))) t.heap) (va_A (wX8 K h0 a0 n0 la0 r0 ++ (([] : va_W))) sz)) 0 0 (va_A (wX8 K h0 a0 n0 la0 r0 ++ (([] : va_W))) sz) := by
  refine xMet (by decide) rfl (Nat.le_of_ble_eq_true rfl) (fun p e s m args below meth c C hnm hP hD hsz ls hl => ?_)
  have hl : lv_has ls 5 [(0, .ref h0), (1, .int p1), (2, .int p2), (3, .int p3)] := hl
  obtain ⟨hx, hb, hr, hml, hown, hts, hlocks, hK, hT⟩ := id C
  subst hsz
  generalize hAe : va_A (wX8 K h0 a0 n0 la0 r0 ++ (([] : va_W))) s.heap.size = A at hD ⊢
  have hA : ∀ q : Nat, s.heap.size ≤ q → A q := fun q h => by rw [← hAe]; exact Or.inr h
  have hS : va_S A s.heap s.heap [] := va_S.rf
  have hP : va_P D vwCl (wX8 K h0 a0 n0 la0 r0 ++ (([] : va_W))) s.heap := hP
  unfold wp_X8_bar at h
  refine lv_aload_n hx hb dX8_bar_0 rfl (lv_at hl 0 rfl) ?_
  refine lv_iload_n hx hb dX8_bar_1 rfl (lv_at hl 1 rfl) ?_
  refine lv_iload_n hx hb dX8_bar_2 rfl (lv_at hl 2 rfl) ?_
  refine xend_ro_i (xRunV_id (As := [.int p1, .int p2]) (rest := []) C (c_X8_areTwo h) k_X8_areTwo mw_449 ⟨rfl, rfl⟩ ⟨Nat.le_of_ble_eq_true rfl, Nat.le_of_ble_eq_true rfl⟩ hP hD rfl rfl hl rfl rfl (Nat.le_of_ble_eq_true rfl) dX8_bar_3 ⟨Nat.le_refl _, Nat.le_refl _⟩) (fun v1 h => ?_)
  refine lv_if_ne (tgt := 16) hx hb dX8_bar_6 (by decide) (fun c2 => ?_) (fun c2 => ?_)
  · replace h := And.right h c2
    refine lv_aload_n hx hb dX8_bar_16 rfl (lv_at hl 0 rfl) ?_
    refine gX8_14 C hP dX8_bar_17 ?_
    refine lv_iload_n hx hb dX8_bar_20 rfl (lv_at hl 1 rfl) ?_
    have hin := And.left h
    replace h := And.right h
    refine lX8_14 C hP hin dX8_bar_21 ?_
    refine lv_iload_n hx hb dX8_bar_22 rfl (lv_at hl 2 rfl) ?_
    refine xend_ro_i (xRunS (wc := ([] : va_W)) (As := [.int (r0.2.1 14 p1.toNatClampNeg), .int p2]) (rest := []) C (c_X8_has h) k_X8_has mw_342 ⟨rfl, rfl⟩ ⟨Nat.le_of_ble_eq_true rfl, Nat.le_of_ble_eq_true rfl⟩ hP hD [] rfl rfl hl rfl rfl (Nat.le_of_ble_eq_true rfl) dX8_bar_23 ⟨Nat.le_refl _, Nat.le_refl _⟩) (fun v3 h => ?_)
    refine lv_istore (lv' := [(4, .int v3), (0, .ref h0), (1, .int p1), (2, .int p2), (3, .int p3)]) hx hb dX8_bar_26 hl (by decide) rfl (fun ls hl => ?_)
    refine lv_aload_n hx hb dX8_bar_28 rfl (lv_at hl 1 rfl) ?_
    refine lv_iload_n hx hb dX8_bar_29 rfl (lv_at hl 2 rfl) ?_
    refine lv_iload_n hx hb dX8_bar_30 rfl (lv_at hl 3 rfl) ?_
    refine lv_iload_n hx hb dX8_bar_31 rfl (lv_at hl 4 rfl) ?_
    refine xend_rw_v_id (wf := fun (u : (zS)) => (wX8 K h0 a0 n0 la0 u ++ (([] : va_W)))) (xRunV_id (As := [.int p1, .int p2, .int p3]) (rest := []) C (c_X8_bars h) k_X8_bars mw_453 ⟨rfl, rfl⟩ ⟨Nat.le_of_ble_eq_true rfl, Nat.le_of_ble_eq_true rfl⟩ hP hD rfl rfl hl rfl rfl (Nat.le_of_ble_eq_true rfl) dX8_bar_32 ⟨Nat.le_refl _, Nat.le_refl _⟩) hD hS hA (fun _ => wX8_adr _ _) (fun s5 H locs h hP hD hS => ?_)
    refine lv_iload hx hb dX8_bar_35 (lv_at hl 0 rfl) ?_
    refine lv_iload_n hx hb dX8_bar_37 rfl (lv_at hl 4 rfl) ?_
    refine lv_icmp_eq (tgt := 45) hx hb dX8_bar_38 (by decide) (fun c6 => ?_) (fun c6 => ?_)
    · replace h := And.left h c6
      refine lv_iconst (v := 0) hx hb dX8_bar_45 (by decide) ?_
      exact xrw_i C s5 h hP hS dX8_bar_46
    · replace h := And.right h c6
      refine lv_iconst (v := 1) hx hb dX8_bar_41 (by decide) ?_
      refine lv_goto (tgt := 46) hx hb dX8_bar_42 (by decide) ?_
      exact xrw_i C s5 h hP hS dX8_bar_46
  · replace h := And.left h c2
    refine lv_aload_n hx hb dX8_bar_9 rfl (lv_at hl 0 rfl) ?_
    refine lv_bipush (v := -2) hx hb dX8_bar_10 (by decide) ?_
    refine xend_rw_i_id (wf := fun (u : (zS)) => (wX8 K h0 a0 n0 la0 u ++ (([] : va_W)))) (xRunV_id (As := [.int (-2 : Int32)]) (rest := []) C (c_X8_refuse h) k_X8_refuse mw_165 ⟨rfl, rfl⟩ ⟨Nat.le_of_ble_eq_true rfl, Nat.le_of_ble_eq_true rfl⟩ hP hD rfl rfl hl rfl rfl (Nat.le_of_ble_eq_true rfl) dX8_bar_12 ⟨Nat.le_refl _, Nat.le_refl _⟩) hD hS hA (fun _ => wX8_adr _ _) (fun v7 s8 H locs h hP hD hS => ?_)
    exact xrw_i C s8 h hP hS dX8_bar_15

def wp_X8_move_17 (p1 : Int32) (p2 : Int32) (post : Int32 → (zS) → Prop) (r0 : zS) : Prop :=
  wp_X8_refuse r0 (-2 : Int32) (fun v3 s4 => post v3 s4)
def wp_X8_move (r0 : zS) (p1 : Int32) (p2 : Int32) (post : Int32 → (zS) → Prop) : Prop :=
  wp_X8_isPupil r0 (p1.toInt64) (fun v1 => (v1 = 0 → wp_X8_move_17 p1 p2 post r0) ∧ (¬ v1 = 0 → wp_X8_isDesk r0 p2 (fun v5 => (v5 = 0 → wp_X8_move_17 p1 p2 post r0) ∧ (¬ v5 = 0 → wp_X8_sitting r0 p2 (fun v7 => (v7 = (-1 : Int32) → vp_in p1 12 ∧ (∀ v9 : Int32, v9 = (r0.2.1 12 p1.toNatClampNeg) → vp_in p1 12 ∧ (∀ j10 : Nat, j10 = p1.toNatClampNeg → post v9 (zA r0 12 j10 p2)))) ∧ (¬ v7 = (-1 : Int32) → wp_X8_refuse r0 (-5 : Int32) (fun v11 s12 => post v11 s12)))))))
set_option maxHeartbeats 4000000 in
set_option maxRecDepth 100000 in
theorem t_X8_move_17 {p : Program} {l : Launch} {e : Env} {s : State} {m : MethodId} {args : Array Value} {below : List Frame} {meth : Method} {c : Code} {D : va_G} {K : Nat → ClassId} {h0 : Nat} {a0 : Nat → Nat} {n0 : Nat → Option Nat} {la0 : Nat → Nat} {p1 : Int32} {p2 : Int32} {post : Int32 → (zS) → Prop} {A : Nat → Prop} (C : xC p s m args meth c cX8_move RX8 4 (some .int) D vwCl (xty K)) (hA : ∀ q, s.heap.size ≤ q → A q) : ∀ (r0 : zS) (H : Heap) (locs : List Loc) (ls : Array Slot), lv_has ls 4 [(0, .ref h0)] → va_P D vwCl (wX8 K h0 a0 n0 la0 r0 ++ (([] : va_W))) H → va_D A (wX8 K h0 a0 n0 la0 r0 ++ (([] : va_W))) → va_S A s.heap H locs → wp_X8_move_17 p1 p2 post r0 → W p l e ({ frames := 2, cells := 0, slots := 0, locals := 47 } : Room) s m args below meth c H locs 0 0 (MQ below (va_Qi (fun r (u : (zS)) => post r u) (fun (u : (zS)) t => va_P D vwCl (wX8 K h0 a0 n0 la0 u ++ (([] : va_W))) t.heap) A) args s 0 0 A) (F0 m 17 ls []) := by
  obtain ⟨hx, hb, hr, hml, hown, hts, hlocks, hK, hT⟩ := id C
  intro r0 H locs ls hl hP hD hS h
  unfold wp_X8_move_17 at h
  refine lv_aload_n hx hb dX8_move_17 rfl (lv_at hl 0 rfl) ?_
  refine lv_bipush (v := -2) hx hb dX8_move_18 (by decide) ?_
  refine xend_rw_i_id (wf := fun (u : (zS)) => (wX8 K h0 a0 n0 la0 u ++ (([] : va_W)))) (xRunV_id (As := [.int (-2 : Int32)]) (rest := []) C (c_X8_refuse h) k_X8_refuse mw_165 ⟨rfl, rfl⟩ ⟨Nat.le_of_ble_eq_true rfl, Nat.le_of_ble_eq_true rfl⟩ hP hD rfl rfl hl rfl rfl (Nat.le_of_ble_eq_true rfl) dX8_move_20 ⟨Nat.le_refl _, Nat.le_refl _⟩) hD hS hA (fun _ => wX8_adr _ _) (fun v3 s4 H locs h hP hD hS => ?_)
  exact xrw_i C s4 h hP hS dX8_move_23
set_option maxHeartbeats 4000000 in
set_option maxRecDepth 100000 in
theorem c_X8_move {l : Launch} {D : va_G} {K : Nat → ClassId} {h0 : Nat} {a0 : Nat → Nat} {n0 : Nat → Option Nat} {la0 : Nat → Nat} {r0 : zS} {p1 : Int32} {p2 : Int32} {sz : Nat} {post : Int32 → (zS) → Prop}   (h : wp_X8_move r0 p1 p2 post) : Met l yX8_move (Cond.code yX8_move cX8_move 4 (some .int) :: wsL_law) ({ frames := 2, cells := 0, slots := 0, locals := 47 } : Room) (va_Pc [.ref h0, .int p1, .int p2] (xPre D vwCl (xty K) (wX8 K h0 a0 n0 la0 r0 ++ (([] : va_W))) sz)) (va_Qi (fun r (u : (zS)) => post r u) (fun (u : (zS)) t => va_P D vwCl (wX8 K h0 a0 n0 la0 u ++ (([] : va_W))) t.heap) (va_A (wX8 K h0 a0 n0 la0 r0 ++ (([] : va_W))) sz)) 0 0 (va_A (wX8 K h0 a0 n0 la0 r0 ++ (([] : va_W))) sz) := by
  refine xMet (by decide) rfl (Nat.le_of_ble_eq_true rfl) (fun p e s m args below meth c C hnm hP hD hsz ls hl => ?_)
  have hl : lv_has ls 4 [(0, .ref h0), (1, .int p1), (2, .int p2)] := hl
  obtain ⟨hx, hb, hr, hml, hown, hts, hlocks, hK, hT⟩ := id C
  subst hsz
  generalize hAe : va_A (wX8 K h0 a0 n0 la0 r0 ++ (([] : va_W))) s.heap.size = A at hD ⊢
  have hA : ∀ q : Nat, s.heap.size ≤ q → A q := fun q h => by rw [← hAe]; exact Or.inr h
  have hS : va_S A s.heap s.heap [] := va_S.rf
  have hP : va_P D vwCl (wX8 K h0 a0 n0 la0 r0 ++ (([] : va_W))) s.heap := hP
  unfold wp_X8_move at h
  refine lv_aload_n hx hb dX8_move_0 rfl (lv_at hl 0 rfl) ?_
  refine lv_iload_n hx hb dX8_move_1 rfl (lv_at hl 1 rfl) ?_
  refine lv_i2l hx hb dX8_move_2 rfl ?_
  refine xend_ro_i (xRunV_id (As := [.long (p1.toInt64)]) (rest := []) C (c_X8_isPupil h) k_X8_isPupil mw_262 ⟨rfl, rfl⟩ ⟨Nat.le_of_ble_eq_true rfl, Nat.le_of_ble_eq_true rfl⟩ hP hD rfl rfl hl rfl rfl (Nat.le_of_ble_eq_true rfl) dX8_move_3 ⟨Nat.le_refl _, Nat.le_refl _⟩) (fun v1 h => ?_)
  refine lv_if_eq (tgt := 17) hx hb dX8_move_6 (by decide) (fun c2 => ?_) (fun c2 => ?_)
  · replace h := And.left h c2
    exact t_X8_move_17 C hA _ _ _ _ (lv_sub hl [0] rfl) hP hD hS h
  · replace h := And.right h c2
    refine lv_aload_n hx hb dX8_move_9 rfl (lv_at hl 0 rfl) ?_
    refine lv_iload_n hx hb dX8_move_10 rfl (lv_at hl 2 rfl) ?_
    refine xend_ro_i (xRunV_id (As := [.int p2]) (rest := []) C (c_X8_isDesk h) k_X8_isDesk mw_413 ⟨rfl, rfl⟩ ⟨Nat.le_of_ble_eq_true rfl, Nat.le_of_ble_eq_true rfl⟩ hP hD rfl rfl hl rfl rfl (Nat.le_of_ble_eq_true rfl) dX8_move_11 ⟨Nat.le_refl _, Nat.le_refl _⟩) (fun v5 h => ?_)
    refine lv_if_ne (tgt := 24) hx hb dX8_move_14 (by decide) (fun c6 => ?_) (fun c6 => ?_)
    · replace h := And.right h c6
      refine lv_aload_n hx hb dX8_move_24 rfl (lv_at hl 0 rfl) ?_
      refine lv_iload_n hx hb dX8_move_25 rfl (lv_at hl 2 rfl) ?_
      refine xend_ro_i (xRunV_id (As := [.int p2]) (rest := []) C (c_X8_sitting h) k_X8_sitting mw_417 ⟨rfl, rfl⟩ ⟨Nat.le_of_ble_eq_true rfl, Nat.le_of_ble_eq_true rfl⟩ hP hD rfl rfl hl rfl rfl (Nat.le_of_ble_eq_true rfl) dX8_move_26 ⟨Nat.le_refl _, Nat.le_refl _⟩) (fun v7 h => ?_)
      refine lv_iconst (v := -1) hx hb dX8_move_29 (by decide) ?_
      refine lv_icmp_eq (tgt := 40) hx hb dX8_move_30 (by decide) (fun c8 => ?_) (fun c8 => ?_)
      · replace h := And.left h c8
        refine lv_aload_n hx hb dX8_move_40 rfl (lv_at hl 0 rfl) ?_
        refine gX8_12 C hP dX8_move_41 ?_
        refine lv_iload_n hx hb dX8_move_44 rfl (lv_at hl 1 rfl) ?_
        have hin := And.left h
        replace h := And.right h
        refine lX8_12 C hP hin dX8_move_45 ?_
        refine lv_topi (fun v9 ev9 => ?_)
        replace h := h v9 ev9
        refine lv_istore_n (lv' := [(3, .int v9), (0, .ref h0), (1, .int p1), (2, .int p2)]) hx hb dX8_move_46 rfl hl (by decide) rfl (fun ls hl => ?_)
        refine lv_aload_n hx hb dX8_move_47 rfl (lv_at hl 1 rfl) ?_
        refine gX8_12 C hP dX8_move_48 ?_
        refine lv_iload_n hx hb dX8_move_51 rfl (lv_at hl 2 rfl) ?_
        refine lv_iload_n hx hb dX8_move_52 rfl (lv_at hl 3 rfl) ?_
        have hin := And.left h
        obtain ⟨j10, ej10⟩ : ∃ j : Nat, j = p1.toNatClampNeg := ⟨_, rfl⟩
        replace h := And.right h j10 ej10
        refine sX8_12 C hP hD hS hin ej10 dX8_move_53 (fun H locs hP hD hS => ?_)
        refine lv_iload_n hx hb dX8_move_54 rfl (lv_at hl 0 rfl) ?_
        exact xrw_i C (zA r0 12 j10 p2) h hP hS dX8_move_55
      · replace h := And.right h c8
        refine lv_aload_n hx hb dX8_move_33 rfl (lv_at hl 0 rfl) ?_
        refine lv_bipush (v := -5) hx hb dX8_move_34 (by decide) ?_
        refine xend_rw_i_id (wf := fun (u : (zS)) => (wX8 K h0 a0 n0 la0 u ++ (([] : va_W)))) (xRunV_id (As := [.int (-5 : Int32)]) (rest := []) C (c_X8_refuse h) k_X8_refuse mw_165 ⟨rfl, rfl⟩ ⟨Nat.le_of_ble_eq_true rfl, Nat.le_of_ble_eq_true rfl⟩ hP hD rfl rfl hl rfl rfl (Nat.le_of_ble_eq_true rfl) dX8_move_36 ⟨Nat.le_refl _, Nat.le_refl _⟩) hD hS hA (fun _ => wX8_adr _ _) (fun v11 s12 H locs h hP hD hS => ?_)
        exact xrw_i C s12 h hP hS dX8_move_39
    · replace h := And.left h c6
      exact t_X8_move_17 C hA _ _ _ _ (lv_sub hl [0] rfl) hP hD hS h

def wp_X8_becomeTerm_22 (p1 : Int32) (post : (zS) → Prop) (r0 : zS) (y0 : Int32) : Prop :=
  post (zI r0 16 y0)
def wp_X8_becomeTerm (r0 : zS) (p1 : Int32) (post : (zS) → Prop) : Prop :=
  (p1 ≤ ((zI r0 15 p1).1 16) → wp_X8_becomeTerm_22 p1 post (zI r0 15 p1) p1) ∧ (¬ p1 ≤ ((zI r0 15 p1).1 16) → wp_X8_becomeTerm_22 p1 post (zI r0 15 p1) ((zI r0 15 p1).1 16))
set_option maxHeartbeats 4000000 in
set_option maxRecDepth 100000 in
theorem t_X8_becomeTerm_22 {p : Program} {l : Launch} {e : Env} {s : State} {m : MethodId} {args : Array Value} {below : List Frame} {meth : Method} {c : Code} {D : va_G} {K : Nat → ClassId} {h0 : Nat} {a0 : Nat → Nat} {n0 : Nat → Option Nat} {la0 : Nat → Nat} {p1 : Int32} {post : (zS) → Prop} {A : Nat → Prop} (C : xC p s m args meth c cX8_becomeTerm RX8 2 none D vwCl (xty K)) (hA : ∀ q, s.heap.size ≤ q → A q) : ∀ (r0 : zS) (y0 : Int32) (H : Heap) (locs : List Loc) (ls : Array Slot), lv_has ls 2 [] → va_P D vwCl (wX8 K h0 a0 n0 la0 r0 ++ (([] : va_W))) H → va_D A (wX8 K h0 a0 n0 la0 r0 ++ (([] : va_W))) → va_S A s.heap H locs → wp_X8_becomeTerm_22 p1 post r0 y0 → W p l e ({ frames := 0, cells := 0, slots := 0, locals := 0 } : Room) s m args below meth c H locs 0 0 (MQ below (va_Qv (fun (u : (zS)) => post u) (fun (u : (zS)) t => va_P D vwCl (wX8 K h0 a0 n0 la0 u ++ (([] : va_W))) t.heap) A) args s 0 0 A) (F0 m 22 ls [.int y0, .ref h0]) := by
  obtain ⟨hx, hb, hr, hml, hown, hts, hlocks, hK, hT⟩ := id C
  intro r0 y0 H locs ls hl hP hD hS h
  unfold wp_X8_becomeTerm_22 at h
  refine pX8_16 C hP hD hS dX8_becomeTerm_22 (fun H locs hP hD hS => ?_)
  exact xrw_v C (zI r0 16 y0) h hP hS dX8_becomeTerm_25
set_option maxHeartbeats 4000000 in
set_option maxRecDepth 100000 in
theorem c_X8_becomeTerm {l : Launch} {D : va_G} {K : Nat → ClassId} {h0 : Nat} {a0 : Nat → Nat} {n0 : Nat → Option Nat} {la0 : Nat → Nat} {r0 : zS} {p1 : Int32} {sz : Nat} {post : (zS) → Prop}   (h : wp_X8_becomeTerm r0 p1 post) : Met l yX8_becomeTerm (Cond.code yX8_becomeTerm cX8_becomeTerm 2 none :: wsL_law) ({ frames := 0, cells := 0, slots := 0, locals := 0 } : Room) (va_Pc [.ref h0, .int p1] (xPre D vwCl (xty K) (wX8 K h0 a0 n0 la0 r0 ++ (([] : va_W))) sz)) (va_Qv (fun (u : (zS)) => post u) (fun (u : (zS)) t => va_P D vwCl (wX8 K h0 a0 n0 la0 u ++ (([] : va_W))) t.heap) (va_A (wX8 K h0 a0 n0 la0 r0 ++ (([] : va_W))) sz)) 0 0 (va_A (wX8 K h0 a0 n0 la0 r0 ++ (([] : va_W))) sz) := by
  refine xMet (by decide) rfl (Nat.le_of_ble_eq_true rfl) (fun p e s m args below meth c C hnm hP hD hsz ls hl => ?_)
  have hl : lv_has ls 2 [(0, .ref h0), (1, .int p1)] := hl
  obtain ⟨hx, hb, hr, hml, hown, hts, hlocks, hK, hT⟩ := id C
  subst hsz
  generalize hAe : va_A (wX8 K h0 a0 n0 la0 r0 ++ (([] : va_W))) s.heap.size = A at hD ⊢
  have hA : ∀ q : Nat, s.heap.size ≤ q → A q := fun q h => by rw [← hAe]; exact Or.inr h
  have hS : va_S A s.heap s.heap [] := va_S.rf
  have hP : va_P D vwCl (wX8 K h0 a0 n0 la0 r0 ++ (([] : va_W))) s.heap := hP
  unfold wp_X8_becomeTerm at h
  refine lv_aload_n hx hb dX8_becomeTerm_0 rfl (lv_at hl 0 rfl) ?_
  refine lv_iload_n hx hb dX8_becomeTerm_1 rfl (lv_at hl 1 rfl) ?_
  refine pX8_15 C hP hD hS dX8_becomeTerm_2 (fun H locs hP hD hS => ?_)
  refine lv_aload_n hx hb dX8_becomeTerm_5 rfl (lv_at hl 0 rfl) ?_
  refine lv_aload_n hx hb dX8_becomeTerm_6 rfl (lv_at hl 0 rfl) ?_
  refine gX8_16 C hP dX8_becomeTerm_7 ?_
  refine lv_iload_n hx hb dX8_becomeTerm_10 rfl (lv_at hl 1 rfl) ?_
  refine lv_icmp_ge (tgt := 21) hx hb dX8_becomeTerm_11 (by decide) (fun c1 => ?_) (fun c1 => ?_)
  · replace h := And.left h c1
    refine lv_iload_n hx hb dX8_becomeTerm_21 rfl (lv_at hl 1 rfl) ?_
    exact t_X8_becomeTerm_22 C hA _ _ _ _ _ (lv_sub hl [] rfl) hP hD hS h
  · replace h := And.right h c1
    refine lv_aload_n hx hb dX8_becomeTerm_14 rfl (lv_at hl 0 rfl) ?_
    refine gX8_16 C hP dX8_becomeTerm_15 ?_
    refine lv_goto (tgt := 22) hx hb dX8_becomeTerm_18 (by decide) ?_
    exact t_X8_becomeTerm_22 C hA _ _ _ _ _ (lv_sub hl [] rfl) hP hD hS h

def wp_X8_master_101 (p1 : Int32) (p2 : Int32) (post : Int32 → (zS) → Prop) (r0 : zS) : Prop :=
  wp_X8_refuse r0 (-2 : Int32) (fun v6 s7 => post v6 s7)
def wp_X8_master_77 (p1 : Int32) (p2 : Int32) (post : Int32 → (zS) → Prop) (r0 : zS) (x3 : Int32) : Prop :=
  (p1 = (2 : Int32) → wp_X8_in (p2.toInt64) (0 : Int64) (1000 : Int64) (fun v8 => (v8 = 0 → wp_X8_master_101 p1 p2 post r0) ∧ (¬ v8 = 0 → post x3 (zI r0 17 p2)))) ∧ (¬ p1 = (2 : Int32) → wp_X8_master_101 p1 p2 post r0)
def wp_X8_master_51 (p1 : Int32) (p2 : Int32) (post : Int32 → (zS) → Prop) (r0 : zS) (x3 : Int32) : Prop :=
  (p1 = (1 : Int32) → wp_X8_in (p2.toInt64) (0 : Int64) ((r0.1 15).toInt64) (fun v10 => (v10 = 0 → wp_X8_master_77 p1 p2 post r0 x3) ∧ (¬ v10 = 0 → post x3 (zI r0 16 p2)))) ∧ (¬ p1 = (1 : Int32) → wp_X8_master_77 p1 p2 post r0 x3)
def wp_X8_master_27 (p1 : Int32) (p2 : Int32) (post : Int32 → (zS) → Prop) (r0 : zS) (y0 : Int32) : Prop :=
  (p1 = 0 → wp_X8_in (p2.toInt64) (1 : Int64) (20 : Int64) (fun v12 => (v12 = 0 → wp_X8_master_51 p1 p2 post r0 y0) ∧ (¬ v12 = 0 → wp_X8_becomeTerm r0 p2 (fun s15 => post y0 s15)))) ∧ (¬ p1 = 0 → wp_X8_master_51 p1 p2 post r0 y0)
def wp_X8_master (r0 : zS) (p1 : Int32) (p2 : Int32) (post : Int32 → (zS) → Prop) : Prop :=
  (p1 = 0 → wp_X8_master_27 p1 p2 post r0 (r0.1 15)) ∧ (¬ p1 = 0 → (p1 = (1 : Int32) → wp_X8_master_27 p1 p2 post r0 (r0.1 16)) ∧ (¬ p1 = (1 : Int32) → wp_X8_master_27 p1 p2 post r0 (r0.1 17)))
set_option maxHeartbeats 4000000 in
set_option maxRecDepth 100000 in
theorem t_X8_master_101 {p : Program} {l : Launch} {e : Env} {s : State} {m : MethodId} {args : Array Value} {below : List Frame} {meth : Method} {c : Code} {D : va_G} {K : Nat → ClassId} {h0 : Nat} {a0 : Nat → Nat} {n0 : Nat → Option Nat} {la0 : Nat → Nat} {p1 : Int32} {p2 : Int32} {post : Int32 → (zS) → Prop} {A : Nat → Prop} (C : xC p s m args meth c cX8_master RX8 4 (some .int) D vwCl (xty K)) (hA : ∀ q, s.heap.size ≤ q → A q) : ∀ (r0 : zS) (H : Heap) (locs : List Loc) (ls : Array Slot), lv_has ls 4 [(0, .ref h0)] → va_P D vwCl (wX8 K h0 a0 n0 la0 r0 ++ (([] : va_W))) H → va_D A (wX8 K h0 a0 n0 la0 r0 ++ (([] : va_W))) → va_S A s.heap H locs → wp_X8_master_101 p1 p2 post r0 → W p l e ({ frames := 1, cells := 0, slots := 0, locals := 25 } : Room) s m args below meth c H locs 0 0 (MQ below (va_Qi (fun r (u : (zS)) => post r u) (fun (u : (zS)) t => va_P D vwCl (wX8 K h0 a0 n0 la0 u ++ (([] : va_W))) t.heap) A) args s 0 0 A) (F0 m 101 ls []) := by
  obtain ⟨hx, hb, hr, hml, hown, hts, hlocks, hK, hT⟩ := id C
  intro r0 H locs ls hl hP hD hS h
  unfold wp_X8_master_101 at h
  refine lv_aload_n hx hb dX8_master_101 rfl (lv_at hl 0 rfl) ?_
  refine lv_bipush (v := -2) hx hb dX8_master_102 (by decide) ?_
  refine xend_rw_i_id (wf := fun (u : (zS)) => (wX8 K h0 a0 n0 la0 u ++ (([] : va_W)))) (xRunV_id (As := [.int (-2 : Int32)]) (rest := []) C (c_X8_refuse h) k_X8_refuse mw_165 ⟨rfl, rfl⟩ ⟨Nat.le_of_ble_eq_true rfl, Nat.le_of_ble_eq_true rfl⟩ hP hD rfl rfl hl rfl rfl (Nat.le_of_ble_eq_true rfl) dX8_master_104 ⟨Nat.le_refl _, Nat.le_refl _⟩) hD hS hA (fun _ => wX8_adr _ _) (fun v6 s7 H locs h hP hD hS => ?_)
  exact xrw_i C s7 h hP hS dX8_master_107
set_option maxHeartbeats 4000000 in
set_option maxRecDepth 100000 in
theorem t_X8_master_77 {p : Program} {l : Launch} {e : Env} {s : State} {m : MethodId} {args : Array Value} {below : List Frame} {meth : Method} {c : Code} {D : va_G} {K : Nat → ClassId} {h0 : Nat} {a0 : Nat → Nat} {n0 : Nat → Option Nat} {la0 : Nat → Nat} {p1 : Int32} {p2 : Int32} {post : Int32 → (zS) → Prop} {A : Nat → Prop} (C : xC p s m args meth c cX8_master RX8 4 (some .int) D vwCl (xty K)) (hA : ∀ q, s.heap.size ≤ q → A q) : ∀ (r0 : zS) (x3 : Int32) (H : Heap) (locs : List Loc) (ls : Array Slot), lv_has ls 4 [(0, .ref h0), (1, .int p1), (2, .int p2), (3, .int x3)] → va_P D vwCl (wX8 K h0 a0 n0 la0 r0 ++ (([] : va_W))) H → va_D A (wX8 K h0 a0 n0 la0 r0 ++ (([] : va_W))) → va_S A s.heap H locs → wp_X8_master_77 p1 p2 post r0 x3 → W p l e ({ frames := 1, cells := 0, slots := 0, locals := 25 } : Room) s m args below meth c H locs 0 0 (MQ below (va_Qi (fun r (u : (zS)) => post r u) (fun (u : (zS)) t => va_P D vwCl (wX8 K h0 a0 n0 la0 u ++ (([] : va_W))) t.heap) A) args s 0 0 A) (F0 m 77 ls []) := by
  obtain ⟨hx, hb, hr, hml, hown, hts, hlocks, hK, hT⟩ := id C
  intro r0 x3 H locs ls hl hP hD hS h
  unfold wp_X8_master_77 at h
  refine lv_iload_n hx hb dX8_master_77 rfl (lv_at hl 1 rfl) ?_
  refine lv_iconst (v := 2) hx hb dX8_master_78 (by decide) ?_
  refine lv_icmp_ne (tgt := 101) hx hb dX8_master_79 (by decide) (fun c5 => ?_) (fun c5 => ?_)
  · replace h := And.right h c5
    exact t_X8_master_101 C hA _ _ _ _ (lv_sub hl [0] rfl) hP hD hS h
  · replace h := And.left h c5
    refine lv_iload_n hx hb dX8_master_82 rfl (lv_at hl 2 rfl) ?_
    refine lv_i2l hx hb dX8_master_83 rfl ?_
    refine lv_lconst (v := 0) hx hb dX8_master_84 (by decide) ?_
    refine lv_ldc2 hx hb hown (hts _ mw_484) dX8_master_85 ?_
    refine xend_ro_i (xRunS (wc := ([] : va_W)) (As := [.long (p2.toInt64), .long (0 : Int64), .long (1000 : Int64)]) (rest := []) C (c_X8_in h) k_X8_in mw_162 ⟨rfl, rfl⟩ ⟨Nat.le_of_ble_eq_true rfl, Nat.le_of_ble_eq_true rfl⟩ hP hD [] rfl rfl hl rfl rfl (Nat.le_of_ble_eq_true rfl) dX8_master_88 ⟨Nat.le_refl _, Nat.le_refl _⟩) (fun v8 h => ?_)
    refine lv_if_eq (tgt := 101) hx hb dX8_master_91 (by decide) (fun c9 => ?_) (fun c9 => ?_)
    · replace h := And.left h c9
      exact t_X8_master_101 C hA _ _ _ _ (lv_sub hl [0] rfl) hP hD hS h
    · replace h := And.right h c9
      refine lv_aload_n hx hb dX8_master_94 rfl (lv_at hl 0 rfl) ?_
      refine lv_iload_n hx hb dX8_master_95 rfl (lv_at hl 2 rfl) ?_
      refine pX8_17 C hP hD hS dX8_master_96 (fun H locs hP hD hS => ?_)
      refine lv_iload_n hx hb dX8_master_99 rfl (lv_at hl 3 rfl) ?_
      exact xrw_i C (zI r0 17 p2) h hP hS dX8_master_100
set_option maxHeartbeats 4000000 in
set_option maxRecDepth 100000 in
theorem t_X8_master_51 {p : Program} {l : Launch} {e : Env} {s : State} {m : MethodId} {args : Array Value} {below : List Frame} {meth : Method} {c : Code} {D : va_G} {K : Nat → ClassId} {h0 : Nat} {a0 : Nat → Nat} {n0 : Nat → Option Nat} {la0 : Nat → Nat} {p1 : Int32} {p2 : Int32} {post : Int32 → (zS) → Prop} {A : Nat → Prop} (C : xC p s m args meth c cX8_master RX8 4 (some .int) D vwCl (xty K)) (hA : ∀ q, s.heap.size ≤ q → A q) : ∀ (r0 : zS) (x3 : Int32) (H : Heap) (locs : List Loc) (ls : Array Slot), lv_has ls 4 [(0, .ref h0), (1, .int p1), (2, .int p2), (3, .int x3)] → va_P D vwCl (wX8 K h0 a0 n0 la0 r0 ++ (([] : va_W))) H → va_D A (wX8 K h0 a0 n0 la0 r0 ++ (([] : va_W))) → va_S A s.heap H locs → wp_X8_master_51 p1 p2 post r0 x3 → W p l e ({ frames := 1, cells := 0, slots := 0, locals := 25 } : Room) s m args below meth c H locs 0 0 (MQ below (va_Qi (fun r (u : (zS)) => post r u) (fun (u : (zS)) t => va_P D vwCl (wX8 K h0 a0 n0 la0 u ++ (([] : va_W))) t.heap) A) args s 0 0 A) (F0 m 51 ls []) := by
  obtain ⟨hx, hb, hr, hml, hown, hts, hlocks, hK, hT⟩ := id C
  intro r0 x3 H locs ls hl hP hD hS h
  unfold wp_X8_master_51 at h
  refine lv_iload_n hx hb dX8_master_51 rfl (lv_at hl 1 rfl) ?_
  refine lv_iconst (v := 1) hx hb dX8_master_52 (by decide) ?_
  refine lv_icmp_ne (tgt := 77) hx hb dX8_master_53 (by decide) (fun c4 => ?_) (fun c4 => ?_)
  · replace h := And.right h c4
    exact t_X8_master_77 C hA _ _ _ _ _ (lv_sub hl [0, 1, 2, 3] rfl) hP hD hS h
  · replace h := And.left h c4
    refine lv_iload_n hx hb dX8_master_56 rfl (lv_at hl 2 rfl) ?_
    refine lv_i2l hx hb dX8_master_57 rfl ?_
    refine lv_lconst (v := 0) hx hb dX8_master_58 (by decide) ?_
    refine lv_aload_n hx hb dX8_master_59 rfl (lv_at hl 0 rfl) ?_
    refine gX8_15 C hP dX8_master_60 ?_
    refine lv_i2l hx hb dX8_master_63 rfl ?_
    refine xend_ro_i (xRunS (wc := ([] : va_W)) (As := [.long (p2.toInt64), .long (0 : Int64), .long ((r0.1 15).toInt64)]) (rest := []) C (c_X8_in h) k_X8_in mw_162 ⟨rfl, rfl⟩ ⟨Nat.le_of_ble_eq_true rfl, Nat.le_of_ble_eq_true rfl⟩ hP hD [] rfl rfl hl rfl rfl (Nat.le_of_ble_eq_true rfl) dX8_master_64 ⟨Nat.le_refl _, Nat.le_refl _⟩) (fun v10 h => ?_)
    refine lv_if_eq (tgt := 77) hx hb dX8_master_67 (by decide) (fun c11 => ?_) (fun c11 => ?_)
    · replace h := And.left h c11
      exact t_X8_master_77 C hA _ _ _ _ _ (lv_sub hl [0, 1, 2, 3] rfl) hP hD hS h
    · replace h := And.right h c11
      refine lv_aload_n hx hb dX8_master_70 rfl (lv_at hl 0 rfl) ?_
      refine lv_iload_n hx hb dX8_master_71 rfl (lv_at hl 2 rfl) ?_
      refine pX8_16 C hP hD hS dX8_master_72 (fun H locs hP hD hS => ?_)
      refine lv_iload_n hx hb dX8_master_75 rfl (lv_at hl 3 rfl) ?_
      exact xrw_i C (zI r0 16 p2) h hP hS dX8_master_76
set_option maxHeartbeats 4000000 in
set_option maxRecDepth 100000 in
theorem t_X8_master_27 {p : Program} {l : Launch} {e : Env} {s : State} {m : MethodId} {args : Array Value} {below : List Frame} {meth : Method} {c : Code} {D : va_G} {K : Nat → ClassId} {h0 : Nat} {a0 : Nat → Nat} {n0 : Nat → Option Nat} {la0 : Nat → Nat} {p1 : Int32} {p2 : Int32} {post : Int32 → (zS) → Prop} {A : Nat → Prop} (C : xC p s m args meth c cX8_master RX8 4 (some .int) D vwCl (xty K)) (hA : ∀ q, s.heap.size ≤ q → A q) : ∀ (r0 : zS) (y0 : Int32) (H : Heap) (locs : List Loc) (ls : Array Slot), lv_has ls 4 [(0, .ref h0), (1, .int p1), (2, .int p2)] → va_P D vwCl (wX8 K h0 a0 n0 la0 r0 ++ (([] : va_W))) H → va_D A (wX8 K h0 a0 n0 la0 r0 ++ (([] : va_W))) → va_S A s.heap H locs → wp_X8_master_27 p1 p2 post r0 y0 → W p l e ({ frames := 1, cells := 0, slots := 0, locals := 25 } : Room) s m args below meth c H locs 0 0 (MQ below (va_Qi (fun r (u : (zS)) => post r u) (fun (u : (zS)) t => va_P D vwCl (wX8 K h0 a0 n0 la0 u ++ (([] : va_W))) t.heap) A) args s 0 0 A) (F0 m 27 ls [.int y0]) := by
  obtain ⟨hx, hb, hr, hml, hown, hts, hlocks, hK, hT⟩ := id C
  intro r0 y0 H locs ls hl hP hD hS h
  unfold wp_X8_master_27 at h
  refine lv_istore_n (lv' := [(3, .int y0), (0, .ref h0), (1, .int p1), (2, .int p2)]) hx hb dX8_master_27 rfl hl (by decide) rfl (fun ls hl => ?_)
  refine lv_iload_n hx hb dX8_master_28 rfl (lv_at hl 2 rfl) ?_
  refine lv_if_ne (tgt := 51) hx hb dX8_master_29 (by decide) (fun c3 => ?_) (fun c3 => ?_)
  · replace h := And.right h c3
    exact t_X8_master_51 C hA _ _ _ _ _ (lv_sub hl [1, 2, 3, 0] rfl) hP hD hS h
  · replace h := And.left h c3
    refine lv_iload_n hx hb dX8_master_32 rfl (lv_at hl 3 rfl) ?_
    refine lv_i2l hx hb dX8_master_33 rfl ?_
    refine lv_lconst (v := 1) hx hb dX8_master_34 (by decide) ?_
    refine lv_ldc2 hx hb hown (hts _ mw_483) dX8_master_35 ?_
    refine xend_ro_i (xRunS (wc := ([] : va_W)) (As := [.long (p2.toInt64), .long (1 : Int64), .long (20 : Int64)]) (rest := []) C (c_X8_in h) k_X8_in mw_162 ⟨rfl, rfl⟩ ⟨Nat.le_of_ble_eq_true rfl, Nat.le_of_ble_eq_true rfl⟩ hP hD [] rfl rfl hl rfl rfl (Nat.le_of_ble_eq_true rfl) dX8_master_38 ⟨Nat.le_refl _, Nat.le_refl _⟩) (fun v12 h => ?_)
    refine lv_if_eq (tgt := 51) hx hb dX8_master_41 (by decide) (fun c13 => ?_) (fun c13 => ?_)
    · replace h := And.left h c13
      exact t_X8_master_51 C hA _ _ _ _ _ (lv_sub hl [1, 2, 3, 0] rfl) hP hD hS h
    · replace h := And.right h c13
      refine lv_aload_n hx hb dX8_master_44 rfl (lv_at hl 1 rfl) ?_
      refine lv_iload_n hx hb dX8_master_45 rfl (lv_at hl 3 rfl) ?_
      refine xend_rw_v_id (wf := fun (u : (zS)) => (wX8 K h0 a0 n0 la0 u ++ (([] : va_W)))) (xRunV_id (As := [.int p2]) (rest := []) C (c_X8_becomeTerm h) k_X8_becomeTerm mw_485 ⟨rfl, rfl⟩ ⟨Nat.le_of_ble_eq_true rfl, Nat.le_of_ble_eq_true rfl⟩ hP hD rfl rfl hl rfl rfl (Nat.le_of_ble_eq_true rfl) dX8_master_46 ⟨Nat.le_refl _, Nat.le_refl _⟩) hD hS hA (fun _ => wX8_adr _ _) (fun s15 H locs h hP hD hS => ?_)
      refine lv_iload_n hx hb dX8_master_49 rfl (lv_at hl 0 rfl) ?_
      exact xrw_i C s15 h hP hS dX8_master_50
set_option maxHeartbeats 4000000 in
set_option maxRecDepth 100000 in
theorem c_X8_master {l : Launch} {D : va_G} {K : Nat → ClassId} {h0 : Nat} {a0 : Nat → Nat} {n0 : Nat → Option Nat} {la0 : Nat → Nat} {r0 : zS} {p1 : Int32} {p2 : Int32} {sz : Nat} {post : Int32 → (zS) → Prop}   (h : wp_X8_master r0 p1 p2 post) : Met l yX8_master (Cond.code yX8_master cX8_master 4 (some .int) :: wsL_law) ({ frames := 1, cells := 0, slots := 0, locals := 25 } : Room) (va_Pc [.ref h0, .int p1, .int p2] (xPre D vwCl (xty K) (wX8 K h0 a0 n0 la0 r0 ++ (([] : va_W))) sz)) (va_Qi (fun r (u : (zS)) => post r u) (fun (u : (zS)) t => va_P D vwCl (wX8 K h0 a0 n0 la0 u ++ (([] : va_W))) t.heap) (va_A (wX8 K h0 a0 n0 la0 r0 ++ (([] : va_W))) sz)) 0 0 (va_A (wX8 K h0 a0 n0 la0 r0 ++ (([] : va_W))) sz) := by
  refine xMet (by decide) rfl (Nat.le_of_ble_eq_true rfl) (fun p e s m args below meth c C hnm hP hD hsz ls hl => ?_)
  have hl : lv_has ls 4 [(0, .ref h0), (1, .int p1), (2, .int p2)] := hl
  obtain ⟨hx, hb, hr, hml, hown, hts, hlocks, hK, hT⟩ := id C
  subst hsz
  generalize hAe : va_A (wX8 K h0 a0 n0 la0 r0 ++ (([] : va_W))) s.heap.size = A at hD ⊢
  have hA : ∀ q : Nat, s.heap.size ≤ q → A q := fun q h => by rw [← hAe]; exact Or.inr h
  have hS : va_S A s.heap s.heap [] := va_S.rf
  have hP : va_P D vwCl (wX8 K h0 a0 n0 la0 r0 ++ (([] : va_W))) s.heap := hP
  unfold wp_X8_master at h
  refine lv_iload_n hx hb dX8_master_0 rfl (lv_at hl 1 rfl) ?_
  refine lv_if_ne (tgt := 11) hx hb dX8_master_1 (by decide) (fun c1 => ?_) (fun c1 => ?_)
  · replace h := And.right h c1
    refine lv_iload_n hx hb dX8_master_11 rfl (lv_at hl 1 rfl) ?_
    refine lv_iconst (v := 1) hx hb dX8_master_12 (by decide) ?_
    refine lv_icmp_ne (tgt := 23) hx hb dX8_master_13 (by decide) (fun c2 => ?_) (fun c2 => ?_)
    · replace h := And.right h c2
      refine lv_aload_n hx hb dX8_master_23 rfl (lv_at hl 0 rfl) ?_
      refine gX8_17 C hP dX8_master_24 ?_
      exact t_X8_master_27 C hA _ _ _ _ _ (lv_sub hl [0, 1, 2] rfl) hP hD hS h
    · replace h := And.left h c2
      refine lv_aload_n hx hb dX8_master_16 rfl (lv_at hl 0 rfl) ?_
      refine gX8_16 C hP dX8_master_17 ?_
      refine lv_goto (tgt := 27) hx hb dX8_master_20 (by decide) ?_
      exact t_X8_master_27 C hA _ _ _ _ _ (lv_sub hl [0, 1, 2] rfl) hP hD hS h
  · replace h := And.left h c1
    refine lv_aload_n hx hb dX8_master_4 rfl (lv_at hl 0 rfl) ?_
    refine gX8_15 C hP dX8_master_5 ?_
    refine lv_goto (tgt := 27) hx hb dX8_master_8 (by decide) ?_
    exact t_X8_master_27 C hA _ _ _ _ _ (lv_sub hl [0, 1, 2] rfl) hP hD hS h

def wp_X8_feed (r0 : zS) (p1 : Int32) (post : Int32 → (zS) → Prop) : Prop :=
  wp_X8_in (p1.toInt64) (0 : Int64) (255 : Int64) (fun v1 => (v1 = 0 → wp_X8_refuse r0 (-2 : Int32) (fun v8 s9 => post v8 s9)) ∧ (¬ v1 = 0 → ((r0.1 7) = (250 : Int32) → wp_X8_refuse r0 (-6 : Int32) (fun v6 s7 => post v6 s7)) ∧ (¬ (r0.1 7) = (250 : Int32) → ∀ v4 : Int32, v4 = ((r0.1 7) + (1 : Int32)) → vp_in (r0.1 7) 250 ∧ (∀ j5 : Nat, j5 = (r0.1 7).toNatClampNeg → post ((zA (zI r0 7 v4) 6 j5 p1).1 7) (zA (zI r0 7 v4) 6 j5 p1)))))
set_option maxHeartbeats 4000000 in
set_option maxRecDepth 100000 in
theorem c_X8_feed {l : Launch} {D : va_G} {K : Nat → ClassId} {h0 : Nat} {a0 : Nat → Nat} {n0 : Nat → Option Nat} {la0 : Nat → Nat} {r0 : zS} {p1 : Int32} {sz : Nat} {post : Int32 → (zS) → Prop}   (h : wp_X8_feed r0 p1 post) : Met l yX8_feed (Cond.code yX8_feed cX8_feed 2 (some .int) :: wsL_law) ({ frames := 1, cells := 0, slots := 0, locals := 25 } : Room) (va_Pc [.ref h0, .int p1] (xPre D vwCl (xty K) (wX8 K h0 a0 n0 la0 r0 ++ (([] : va_W))) sz)) (va_Qi (fun r (u : (zS)) => post r u) (fun (u : (zS)) t => va_P D vwCl (wX8 K h0 a0 n0 la0 u ++ (([] : va_W))) t.heap) (va_A (wX8 K h0 a0 n0 la0 r0 ++ (([] : va_W))) sz)) 0 0 (va_A (wX8 K h0 a0 n0 la0 r0 ++ (([] : va_W))) sz) := by
  refine xMet (by decide) rfl (Nat.le_of_ble_eq_true rfl) (fun p e s m args below meth c C hnm hP hD hsz ls hl => ?_)
  have hl : lv_has ls 2 [(0, .ref h0), (1, .int p1)] := hl
  obtain ⟨hx, hb, hr, hml, hown, hts, hlocks, hK, hT⟩ := id C
  subst hsz
  generalize hAe : va_A (wX8 K h0 a0 n0 la0 r0 ++ (([] : va_W))) s.heap.size = A at hD ⊢
  have hA : ∀ q : Nat, s.heap.size ≤ q → A q := fun q h => by rw [← hAe]; exact Or.inr h
  have hS : va_S A s.heap s.heap [] := va_S.rf
  have hP : va_P D vwCl (wX8 K h0 a0 n0 la0 r0 ++ (([] : va_W))) s.heap := hP
  unfold wp_X8_feed at h
  refine lv_iload_n hx hb dX8_feed_0 rfl (lv_at hl 1 rfl) ?_
  refine lv_i2l hx hb dX8_feed_1 rfl ?_
  refine lv_lconst (v := 0) hx hb dX8_feed_2 (by decide) ?_
  refine lv_ldc2 hx hb hown (hts _ mw_502) dX8_feed_3 ?_
  refine xend_ro_i (xRunS (wc := ([] : va_W)) (As := [.long (p1.toInt64), .long (0 : Int64), .long (255 : Int64)]) (rest := []) C (c_X8_in h) k_X8_in mw_162 ⟨rfl, rfl⟩ ⟨Nat.le_of_ble_eq_true rfl, Nat.le_of_ble_eq_true rfl⟩ hP hD [] rfl rfl hl rfl rfl (Nat.le_of_ble_eq_true rfl) dX8_feed_6 ⟨Nat.le_refl _, Nat.le_refl _⟩) (fun v1 h => ?_)
  refine lv_if_ne (tgt := 19) hx hb dX8_feed_9 (by decide) (fun c2 => ?_) (fun c2 => ?_)
  · replace h := And.right h c2
    refine lv_aload_n hx hb dX8_feed_19 rfl (lv_at hl 0 rfl) ?_
    refine gX8_7 C hP dX8_feed_20 ?_
    refine lv_sipush (v := 250) hx hb dX8_feed_23 (by decide) ?_
    refine lv_icmp_ne (tgt := 36) hx hb dX8_feed_26 (by decide) (fun c3 => ?_) (fun c3 => ?_)
    · replace h := And.right h c3
      refine lv_aload_n hx hb dX8_feed_36 rfl (lv_at hl 0 rfl) ?_
      refine gX8_6 C hP dX8_feed_37 ?_
      refine lv_aload_n hx hb dX8_feed_40 rfl (lv_at hl 0 rfl) ?_
      refine lv_dup hx hb dX8_feed_41 rfl ?_
      refine gX8_7 C hP dX8_feed_42 ?_
      refine lv_dup_x1 hx hb dX8_feed_45 rfl rfl ?_
      refine lv_iconst (v := 1) hx hb dX8_feed_46 (by decide) ?_
      refine lv_iadd hx hb dX8_feed_47 ?_
      refine lv_topi (fun v4 ev4 => ?_)
      replace h := h v4 ev4
      refine pX8_7 C hP hD hS dX8_feed_48 (fun H locs hP hD hS => ?_)
      refine lv_iload_n hx hb dX8_feed_51 rfl (lv_at hl 1 rfl) ?_
      have hin := And.left h
      obtain ⟨j5, ej5⟩ : ∃ j : Nat, j = (r0.1 7).toNatClampNeg := ⟨_, rfl⟩
      replace h := And.right h j5 ej5
      refine sX8_6 C hP hD hS hin ej5 dX8_feed_52 (fun H locs hP hD hS => ?_)
      refine lv_aload_n hx hb dX8_feed_53 rfl (lv_at hl 0 rfl) ?_
      refine gX8_7 C hP dX8_feed_54 ?_
      exact xrw_i C (zA (zI r0 7 v4) 6 j5 p1) h hP hS dX8_feed_57
    · replace h := And.left h c3
      refine lv_aload_n hx hb dX8_feed_29 rfl (lv_at hl 0 rfl) ?_
      refine lv_bipush (v := -6) hx hb dX8_feed_30 (by decide) ?_
      refine xend_rw_i_id (wf := fun (u : (zS)) => (wX8 K h0 a0 n0 la0 u ++ (([] : va_W)))) (xRunV_id (As := [.int (-6 : Int32)]) (rest := []) C (c_X8_refuse h) k_X8_refuse mw_165 ⟨rfl, rfl⟩ ⟨Nat.le_of_ble_eq_true rfl, Nat.le_of_ble_eq_true rfl⟩ hP hD rfl rfl hl rfl rfl (Nat.le_of_ble_eq_true rfl) dX8_feed_32 ⟨Nat.le_refl _, Nat.le_refl _⟩) hD hS hA (fun _ => wX8_adr _ _) (fun v6 s7 H locs h hP hD hS => ?_)
      exact xrw_i C s7 h hP hS dX8_feed_35
  · replace h := And.left h c2
    refine lv_aload_n hx hb dX8_feed_12 rfl (lv_at hl 0 rfl) ?_
    refine lv_bipush (v := -2) hx hb dX8_feed_13 (by decide) ?_
    refine xend_rw_i_id (wf := fun (u : (zS)) => (wX8 K h0 a0 n0 la0 u ++ (([] : va_W)))) (xRunV_id (As := [.int (-2 : Int32)]) (rest := []) C (c_X8_refuse h) k_X8_refuse mw_165 ⟨rfl, rfl⟩ ⟨Nat.le_of_ble_eq_true rfl, Nat.le_of_ble_eq_true rfl⟩ hP hD rfl rfl hl rfl rfl (Nat.le_of_ble_eq_true rfl) dX8_feed_15 ⟨Nat.le_refl _, Nat.le_refl _⟩) hD hS hA (fun _ => wX8_adr _ _) (fun v8 s9 H locs h hP hD hS => ?_)
    exact xrw_i C s9 h hP hS dX8_feed_18

def wp_X8_wipe (r0 : zS) (post : Int32 → (zS) → Prop) : Prop :=
  ∀ v1 : Int32, v1 = (r0.1 7) → post v1 (zI r0 7 (0 : Int32))
set_option maxHeartbeats 4000000 in
set_option maxRecDepth 100000 in
theorem c_X8_wipe {l : Launch} {D : va_G} {K : Nat → ClassId} {h0 : Nat} {a0 : Nat → Nat} {n0 : Nat → Option Nat} {la0 : Nat → Nat} {r0 : zS}  {sz : Nat} {post : Int32 → (zS) → Prop}   (h : wp_X8_wipe r0 post) : Met l yX8_wipe (Cond.code yX8_wipe cX8_wipe 2 (some .int) :: wsL_law) ({ frames := 0, cells := 0, slots := 0, locals := 0 } : Room) (va_Pc [.ref h0] (xPre D vwCl (xty K) (wX8 K h0 a0 n0 la0 r0 ++ (([] : va_W))) sz)) (va_Qi (fun r (u : (zS)) => post r u) (fun (u : (zS)) t => va_P D vwCl (wX8 K h0 a0 n0 la0 u ++ (([] : va_W))) t.heap) (va_A (wX8 K h0 a0 n0 la0 r0 ++ (([] : va_W))) sz)) 0 0 (va_A (wX8 K h0 a0 n0 la0 r0 ++ (([] : va_W))) sz) := by
  refine xMet (by decide) rfl (Nat.le_of_ble_eq_true rfl) (fun p e s m args below meth c C hnm hP hD hsz ls hl => ?_)
  have hl : lv_has ls 2 [(0, .ref h0)] := hl
  obtain ⟨hx, hb, hr, hml, hown, hts, hlocks, hK, hT⟩ := id C
  subst hsz
  generalize hAe : va_A (wX8 K h0 a0 n0 la0 r0 ++ (([] : va_W))) s.heap.size = A at hD ⊢
  have hA : ∀ q : Nat, s.heap.size ≤ q → A q := fun q h => by rw [← hAe]; exact Or.inr h
  have hS : va_S A s.heap s.heap [] := va_S.rf
  have hP : va_P D vwCl (wX8 K h0 a0 n0 la0 r0 ++ (([] : va_W))) s.heap := hP
  unfold wp_X8_wipe at h
  refine lv_aload_n hx hb dX8_wipe_0 rfl (lv_at hl 0 rfl) ?_
  refine gX8_7 C hP dX8_wipe_1 ?_
  refine lv_topi (fun v1 ev1 => ?_)
  replace h := h v1 ev1
  refine lv_istore_n (lv' := [(1, .int v1), (0, .ref h0)]) hx hb dX8_wipe_4 rfl hl (by decide) rfl (fun ls hl => ?_)
  refine lv_aload_n hx hb dX8_wipe_5 rfl (lv_at hl 1 rfl) ?_
  refine lv_iconst (v := 0) hx hb dX8_wipe_6 (by decide) ?_
  refine pX8_7 C hP hD hS dX8_wipe_7 (fun H locs hP hD hS => ?_)
  refine lv_iload_n hx hb dX8_wipe_10 rfl (lv_at hl 0 rfl) ?_
  exact xrw_i C (zI r0 7 (0 : Int32)) h hP hS dX8_wipe_11

def wp_X8_isLetter (p0 : Int32) (post : Int32 → Prop) : Prop :=
  (p0 < (97 : Int32) → post (0 : Int32) ) ∧ (¬ p0 < (97 : Int32) → ((122 : Int32) < p0 → post (0 : Int32) ) ∧ (¬ (122 : Int32) < p0 → post (1 : Int32) ))
set_option maxHeartbeats 4000000 in
set_option maxRecDepth 100000 in
theorem c_X8_isLetter {l : Launch} {D : va_G} {K : Nat → ClassId}  {p0 : Int32} {sz : Nat} {post : Int32 → Prop}   (h : wp_X8_isLetter p0 post) : Met l yX8_isLetter (Cond.code yX8_isLetter cX8_isLetter 1 (some .boolean) :: wsL_law) ({ frames := 0, cells := 0, slots := 0, locals := 0 } : Room) (va_Pc [.int p0] (xPre D vwCl (xty K) ([] : va_W) sz)) (roI post) 0 0 (fun _ => False) := by
  refine xMet (by decide) rfl (Nat.le_of_ble_eq_true rfl) (fun p e s m args below meth c C hnm hP hD hsz ls hl => ?_)
  have hl : lv_has ls 1 [(0, .int p0)] := hl
  obtain ⟨hx, hb, hr, hml, hown, hts, hlocks, hK, hT⟩ := id C
  unfold wp_X8_isLetter at h
  refine lv_iload_n hx hb dX8_isLetter_0 rfl (lv_at hl 0 rfl) ?_
  refine lv_bipush (v := 97) hx hb dX8_isLetter_1 (by decide) ?_
  refine lv_icmp_lt (tgt := 16) hx hb dX8_isLetter_3 (by decide) (fun c1 => ?_) (fun c1 => ?_)
  · replace h := And.left h c1
    refine lv_iconst (v := 0) hx hb dX8_isLetter_16 (by decide) ?_
    exact xro_z C rfl h dX8_isLetter_17
  · replace h := And.right h c1
    refine lv_iload_n hx hb dX8_isLetter_6 rfl (lv_at hl 0 rfl) ?_
    refine lv_bipush (v := 122) hx hb dX8_isLetter_7 (by decide) ?_
    refine lv_icmp_gt (tgt := 16) hx hb dX8_isLetter_9 (by decide) (fun c2 => ?_) (fun c2 => ?_)
    · replace h := And.left h c2
      refine lv_iconst (v := 0) hx hb dX8_isLetter_16 (by decide) ?_
      exact xro_z C rfl h dX8_isLetter_17
    · replace h := And.right h c2
      refine lv_iconst (v := 1) hx hb dX8_isLetter_12 (by decide) ?_
      refine lv_goto (tgt := 17) hx hb dX8_isLetter_13 (by decide) ?_
      exact xro_z C rfl h dX8_isLetter_17

def wp_X8_isDigit (p0 : Int32) (post : Int32 → Prop) : Prop :=
  (p0 < (48 : Int32) → post (0 : Int32) ) ∧ (¬ p0 < (48 : Int32) → ((57 : Int32) < p0 → post (0 : Int32) ) ∧ (¬ (57 : Int32) < p0 → post (1 : Int32) ))
set_option maxHeartbeats 4000000 in
set_option maxRecDepth 100000 in
theorem c_X8_isDigit {l : Launch} {D : va_G} {K : Nat → ClassId}  {p0 : Int32} {sz : Nat} {post : Int32 → Prop}   (h : wp_X8_isDigit p0 post) : Met l yX8_isDigit (Cond.code yX8_isDigit cX8_isDigit 1 (some .boolean) :: wsL_law) ({ frames := 0, cells := 0, slots := 0, locals := 0 } : Room) (va_Pc [.int p0] (xPre D vwCl (xty K) ([] : va_W) sz)) (roI post) 0 0 (fun _ => False) := by
  refine xMet (by decide) rfl (Nat.le_of_ble_eq_true rfl) (fun p e s m args below meth c C hnm hP hD hsz ls hl => ?_)
  have hl : lv_has ls 1 [(0, .int p0)] := hl
  obtain ⟨hx, hb, hr, hml, hown, hts, hlocks, hK, hT⟩ := id C
  unfold wp_X8_isDigit at h
  refine lv_iload_n hx hb dX8_isDigit_0 rfl (lv_at hl 0 rfl) ?_
  refine lv_bipush (v := 48) hx hb dX8_isDigit_1 (by decide) ?_
  refine lv_icmp_lt (tgt := 16) hx hb dX8_isDigit_3 (by decide) (fun c1 => ?_) (fun c1 => ?_)
  · replace h := And.left h c1
    refine lv_iconst (v := 0) hx hb dX8_isDigit_16 (by decide) ?_
    exact xro_z C rfl h dX8_isDigit_17
  · replace h := And.right h c1
    refine lv_iload_n hx hb dX8_isDigit_6 rfl (lv_at hl 0 rfl) ?_
    refine lv_bipush (v := 57) hx hb dX8_isDigit_7 (by decide) ?_
    refine lv_icmp_gt (tgt := 16) hx hb dX8_isDigit_9 (by decide) (fun c2 => ?_) (fun c2 => ?_)
    · replace h := And.left h c2
      refine lv_iconst (v := 0) hx hb dX8_isDigit_16 (by decide) ?_
      exact xro_z C rfl h dX8_isDigit_17
    · replace h := And.right h c2
      refine lv_iconst (v := 1) hx hb dX8_isDigit_12 (by decide) ?_
      refine lv_goto (tgt := 17) hx hb dX8_isDigit_13 (by decide) ?_
      exact xro_z C rfl h dX8_isDigit_17

def wp_X8_look_250  (post : (zS) → Prop) (r0 : zS) (y0 : Int32) : Prop :=
  ∀ v9 : Int32, v9 = (((zI r0 29 y0).1 28) + (1 : Int32)) → post (zI (zI r0 29 y0) 28 v9)
def wp_X8_look_214  (post : (zS) → Prop) (k149 : (zS) → Prop) (r0 : zS) (y0 : Int32) : Prop :=
  ∀ v14 : Int32, v14 = (((zI r0 31 y0).1 28) + (1 : Int32)) → k149 (zI (zI r0 31 y0) 28 v14)
def wb_X8_look_149  (post : (zS) → Prop) (ih : (zS) → Prop) (r0 : zS) : Prop :=
  ((r0.1 7) ≤ (r0.1 28) → post r0) ∧ (¬ (r0.1 7) ≤ (r0.1 28) → vp_in (r0.1 28) 250 ∧ (wp_X8_isDigit (r0.2.1 6 (r0.1 28).toNatClampNeg) (fun v11 => (v11 = 0 → post r0) ∧ (¬ v11 = 0 → ((4 : Int32) ≤ ((r0.1 28) - (r0.1 30)) → wp_X8_look_214  post ih r0 (100000 : Int32)) ∧ (¬ (4 : Int32) ≤ ((r0.1 28) - (r0.1 30)) → vp_in (r0.1 28) 250 ∧ (wp_X8_look_214  post ih r0 ((((r0.1 31) * (10 : Int32)) + (r0.2.1 6 (r0.1 28).toNatClampNeg)) - (48 : Int32))))))))
def wp_X8_look_149  (post : (zS) → Prop) (n : Nat) : (zS) → Prop := Nat.rec (motive := fun _ => (zS) → Prop) (fun _ => False) (fun _ ih => wb_X8_look_149  post ih) n
theorem wu_X8_look_149  (post : (zS) → Prop) (n : Nat) (r0 : zS) : wp_X8_look_149  post (n + 1) r0 = wb_X8_look_149  post (wp_X8_look_149  post n) r0 := rfl
def wb_X8_look_90  (post : (zS) → Prop) (ih : (zS) → Prop) (r0 : zS) : Prop :=
  ((r0.1 7) ≤ (r0.1 28) → post r0) ∧ (¬ (r0.1 7) ≤ (r0.1 28) → vp_in (r0.1 28) 250 ∧ (wp_X8_isLetter (r0.2.1 6 (r0.1 28).toNatClampNeg) (fun v16 => (v16 = 0 → post r0) ∧ (¬ v16 = 0 → ∀ v18 : Int32, v18 = ((r0.1 28) + (1 : Int32)) → ih (zI r0 28 v18)))))
def wp_X8_look_90  (post : (zS) → Prop) (n : Nat) : (zS) → Prop := Nat.rec (motive := fun _ => (zS) → Prop) (fun _ => False) (fun _ ih => wb_X8_look_90  post ih) n
theorem wu_X8_look_90  (post : (zS) → Prop) (n : Nat) (r0 : zS) : wp_X8_look_90  post (n + 1) r0 = wb_X8_look_90  post (wp_X8_look_90  post n) r0 := rfl
def wp_X8_look_38  (post : (zS) → Prop) (r0 : zS) : Prop :=
  ∀ v2 : Int32, v2 = (r0.1 28) → (((zI (zI r0 30 v2) 31 (0 : Int32)).1 28) = ((zI (zI r0 30 v2) 31 (0 : Int32)).1 7) → post (zI (zI (zI r0 30 v2) 31 (0 : Int32)) 29 (0 : Int32))) ∧ (¬ ((zI (zI r0 30 v2) 31 (0 : Int32)).1 28) = ((zI (zI r0 30 v2) 31 (0 : Int32)).1 7) → vp_in ((zI (zI r0 30 v2) 31 (0 : Int32)).1 28) 250 ∧ (wp_X8_isLetter ((zI (zI r0 30 v2) 31 (0 : Int32)).2.1 6 ((zI (zI r0 30 v2) 31 (0 : Int32)).1 28).toNatClampNeg) (fun v4 => (v4 = 0 → vp_in ((zI (zI r0 30 v2) 31 (0 : Int32)).1 28) 250 ∧ (wp_X8_isDigit ((zI (zI r0 30 v2) 31 (0 : Int32)).2.1 6 ((zI (zI r0 30 v2) 31 (0 : Int32)).1 28).toNatClampNeg) (fun v6 => (v6 = 0 → vp_in ((zI (zI r0 30 v2) 31 (0 : Int32)).1 28) 250 ∧ ((((zI (zI r0 30 v2) 31 (0 : Int32)).2.1 6 ((zI (zI r0 30 v2) 31 (0 : Int32)).1 28).toNatClampNeg) = (59 : Int32) → wp_X8_look_250  post (zI (zI r0 30 v2) 31 (0 : Int32)) (3 : Int32)) ∧ (¬ ((zI (zI r0 30 v2) 31 (0 : Int32)).2.1 6 ((zI (zI r0 30 v2) 31 (0 : Int32)).1 28).toNatClampNeg) = (59 : Int32) → wp_X8_look_250  post (zI (zI r0 30 v2) 31 (0 : Int32)) (4 : Int32)))) ∧ (¬ v6 = 0 → ∃ n : Nat, wp_X8_look_149  post n (zI (zI (zI r0 30 v2) 31 (0 : Int32)) 29 (2 : Int32)))))) ∧ (¬ v4 = 0 → ∃ n : Nat, wp_X8_look_90  post n (zI (zI (zI r0 30 v2) 31 (0 : Int32)) 29 (1 : Int32))))))
def wb_X8_look_0  (post : (zS) → Prop) (ih : (zS) → Prop) (r0 : zS) : Prop :=
  ((r0.1 7) ≤ (r0.1 28) → wp_X8_look_38  post r0) ∧ (¬ (r0.1 7) ≤ (r0.1 28) → vp_in (r0.1 28) 250 ∧ (((r0.2.1 6 (r0.1 28).toNatClampNeg) = (32 : Int32) → ∀ v20 : Int32, v20 = ((r0.1 28) + (1 : Int32)) → ih (zI r0 28 v20)) ∧ (¬ (r0.2.1 6 (r0.1 28).toNatClampNeg) = (32 : Int32) → wp_X8_look_38  post r0)))
def wp_X8_look_0  (post : (zS) → Prop) (n : Nat) : (zS) → Prop := Nat.rec (motive := fun _ => (zS) → Prop) (fun _ => False) (fun _ ih => wb_X8_look_0  post ih) n
theorem wu_X8_look_0  (post : (zS) → Prop) (n : Nat) (r0 : zS) : wp_X8_look_0  post (n + 1) r0 = wb_X8_look_0  post (wp_X8_look_0  post n) r0 := rfl
def wp_X8_look (r0 : zS) (post : (zS) → Prop) : Prop :=
  ∃ n : Nat, wp_X8_look_0  post n r0
set_option maxHeartbeats 4000000 in
set_option maxRecDepth 100000 in
theorem t_X8_look_250 {p : Program} {l : Launch} {e : Env} {s : State} {m : MethodId} {args : Array Value} {below : List Frame} {meth : Method} {c : Code} {D : va_G} {K : Nat → ClassId} {h0 : Nat} {a0 : Nat → Nat} {n0 : Nat → Option Nat} {la0 : Nat → Nat} {post : (zS) → Prop} {A : Nat → Prop} (C : xC p s m args meth c cX8_look RX8 1 none D vwCl (xty K)) (hA : ∀ q, s.heap.size ≤ q → A q) : ∀ (r0 : zS) (y0 : Int32) (H : Heap) (locs : List Loc) (ls : Array Slot), lv_has ls 1 [(0, .ref h0)] → va_P D vwCl (wX8 K h0 a0 n0 la0 r0 ++ (([] : va_W))) H → va_D A (wX8 K h0 a0 n0 la0 r0 ++ (([] : va_W))) → va_S A s.heap H locs → wp_X8_look_250  post r0 y0 → W p l e ({ frames := 1, cells := 0, slots := 0, locals := 20 } : Room) s m args below meth c H locs 0 0 (MQ below (va_Qv (fun (u : (zS)) => post u) (fun (u : (zS)) t => va_P D vwCl (wX8 K h0 a0 n0 la0 u ++ (([] : va_W))) t.heap) A) args s 0 0 A) (F0 m 250 ls [.int y0, .ref h0]) := by
  obtain ⟨hx, hb, hr, hml, hown, hts, hlocks, hK, hT⟩ := id C
  intro r0 y0 H locs ls hl hP hD hS h
  unfold wp_X8_look_250 at h
  refine pX8_29 C hP hD hS dX8_look_250 (fun H locs hP hD hS => ?_)
  refine lv_aload_n hx hb dX8_look_253 rfl (lv_at hl 0 rfl) ?_
  refine lv_dup hx hb dX8_look_254 rfl ?_
  refine gX8_28 C hP dX8_look_255 ?_
  refine lv_iconst (v := 1) hx hb dX8_look_258 (by decide) ?_
  refine lv_iadd hx hb dX8_look_259 ?_
  refine lv_topi (fun v9 ev9 => ?_)
  replace h := h v9 ev9
  refine pX8_28 C hP hD hS dX8_look_260 (fun H locs hP hD hS => ?_)
  exact xrw_v C (zI (zI r0 29 y0) 28 v9) h hP hS dX8_look_263
set_option maxHeartbeats 4000000 in
set_option maxRecDepth 100000 in
theorem t_X8_look_214 {p : Program} {l : Launch} {e : Env} {s : State} {m : MethodId} {args : Array Value} {below : List Frame} {meth : Method} {c : Code} {D : va_G} {K : Nat → ClassId} {h0 : Nat} {a0 : Nat → Nat} {n0 : Nat → Option Nat} {la0 : Nat → Nat} {post : (zS) → Prop} {A : Nat → Prop} (C : xC p s m args meth c cX8_look RX8 1 none D vwCl (xty K)) (hA : ∀ q, s.heap.size ≤ q → A q) {k149 : (zS) → Prop} (hk149 : ∀ (r0 : zS) (H : Heap) (locs : List Loc) (ls : Array Slot), lv_has ls 1 [(0, .ref h0)] → va_P D vwCl (wX8 K h0 a0 n0 la0 r0 ++ (([] : va_W))) H → va_D A (wX8 K h0 a0 n0 la0 r0 ++ (([] : va_W))) → va_S A s.heap H locs → k149 r0   → W p l e ({ frames := 1, cells := 0, slots := 0, locals := 20 } : Room) s m args below meth c H locs 0 0 (MQ below (va_Qv (fun (u : (zS)) => post u) (fun (u : (zS)) t => va_P D vwCl (wX8 K h0 a0 n0 la0 u ++ (([] : va_W))) t.heap) A) args s 0 0 A) (F0 m 149 ls [])) : ∀ (r0 : zS) (y0 : Int32) (H : Heap) (locs : List Loc) (ls : Array Slot), lv_has ls 1 [(0, .ref h0)] → va_P D vwCl (wX8 K h0 a0 n0 la0 r0 ++ (([] : va_W))) H → va_D A (wX8 K h0 a0 n0 la0 r0 ++ (([] : va_W))) → va_S A s.heap H locs → wp_X8_look_214  post k149 r0 y0 → W p l e ({ frames := 1, cells := 0, slots := 0, locals := 20 } : Room) s m args below meth c H locs 0 0 (MQ below (va_Qv (fun (u : (zS)) => post u) (fun (u : (zS)) t => va_P D vwCl (wX8 K h0 a0 n0 la0 u ++ (([] : va_W))) t.heap) A) args s 0 0 A) (F0 m 214 ls [.int y0, .ref h0]) := by
  obtain ⟨hx, hb, hr, hml, hown, hts, hlocks, hK, hT⟩ := id C
  intro r0 y0 H locs ls hl hP hD hS h
  unfold wp_X8_look_214 at h
  refine pX8_31 C hP hD hS dX8_look_214 (fun H locs hP hD hS => ?_)
  refine lv_aload_n hx hb dX8_look_217 rfl (lv_at hl 0 rfl) ?_
  refine lv_dup hx hb dX8_look_218 rfl ?_
  refine gX8_28 C hP dX8_look_219 ?_
  refine lv_iconst (v := 1) hx hb dX8_look_222 (by decide) ?_
  refine lv_iadd hx hb dX8_look_223 ?_
  refine lv_topi (fun v14 ev14 => ?_)
  replace h := h v14 ev14
  refine pX8_28 C hP hD hS dX8_look_224 (fun H locs hP hD hS => ?_)
  refine lv_goto (tgt := 149) hx hb dX8_look_227 (by decide) ?_
  exact hk149 _ _ _ _ (lv_sub hl [0] rfl) hP hD hS h
set_option maxHeartbeats 4000000 in
set_option maxRecDepth 100000 in
theorem t_X8_look_149 {p : Program} {l : Launch} {e : Env} {s : State} {m : MethodId} {args : Array Value} {below : List Frame} {meth : Method} {c : Code} {D : va_G} {K : Nat → ClassId} {h0 : Nat} {a0 : Nat → Nat} {n0 : Nat → Option Nat} {la0 : Nat → Nat} {post : (zS) → Prop} {A : Nat → Prop} (C : xC p s m args meth c cX8_look RX8 1 none D vwCl (xty K)) (hA : ∀ q, s.heap.size ≤ q → A q) : ∀ (n : Nat) (r0 : zS) (H : Heap) (locs : List Loc) (ls : Array Slot), lv_has ls 1 [(0, .ref h0)] → va_P D vwCl (wX8 K h0 a0 n0 la0 r0 ++ (([] : va_W))) H → va_D A (wX8 K h0 a0 n0 la0 r0 ++ (([] : va_W))) → va_S A s.heap H locs → wp_X8_look_149  post n r0 → W p l e ({ frames := 1, cells := 0, slots := 0, locals := 20 } : Room) s m args below meth c H locs 0 0 (MQ below (va_Qv (fun (u : (zS)) => post u) (fun (u : (zS)) t => va_P D vwCl (wX8 K h0 a0 n0 la0 u ++ (([] : va_W))) t.heap) A) args s 0 0 A) (F0 m 149 ls []) := by
  obtain ⟨hx, hb, hr, hml, hown, hts, hlocks, hK, hT⟩ := id C
  intro n
  induction n with
  | zero =>
    intro r0 H locs ls hl hP hD hS h
    exact False.elim h
  | succ n ihn =>
    intro r0 H locs ls hl hP hD hS h
    rw [wu_X8_look_149] at h
    unfold wb_X8_look_149 at h
    refine lv_aload_n hx hb dX8_look_149 rfl (lv_at hl 0 rfl) ?_
    refine gX8_28 C hP dX8_look_150 ?_
    refine lv_aload_n hx hb dX8_look_153 rfl (lv_at hl 0 rfl) ?_
    refine gX8_7 C hP dX8_look_154 ?_
    refine lv_icmp_ge (tgt := 263) hx hb dX8_look_157 (by decide) (fun c10 => ?_) (fun c10 => ?_)
    · replace h := And.left h c10
      exact xrw_v C r0 h hP hS dX8_look_263
    · replace h := And.right h c10
      refine lv_aload_n hx hb dX8_look_160 rfl (lv_at hl 0 rfl) ?_
      refine gX8_6 C hP dX8_look_161 ?_
      refine lv_aload_n hx hb dX8_look_164 rfl (lv_at hl 0 rfl) ?_
      refine gX8_28 C hP dX8_look_165 ?_
      have hin := And.left h
      replace h := And.right h
      refine lX8_6 C hP hin dX8_look_168 ?_
      refine xend_ro_i (xRunS (wc := ([] : va_W)) (As := [.int (r0.2.1 6 (r0.1 28).toNatClampNeg)]) (rest := []) C (c_X8_isDigit h) k_X8_isDigit mw_674 ⟨rfl, rfl⟩ ⟨Nat.le_of_ble_eq_true rfl, Nat.le_of_ble_eq_true rfl⟩ hP hD [] rfl rfl hl rfl rfl (Nat.le_of_ble_eq_true rfl) dX8_look_169 ⟨Nat.le_refl _, Nat.le_refl _⟩) (fun v11 h => ?_)
      refine lv_if_eq (tgt := 263) hx hb dX8_look_172 (by decide) (fun c12 => ?_) (fun c12 => ?_)
      · replace h := And.left h c12
        exact xrw_v C r0 h hP hS dX8_look_263
      · replace h := And.right h c12
        refine lv_aload_n hx hb dX8_look_175 rfl (lv_at hl 0 rfl) ?_
        refine lv_aload_n hx hb dX8_look_176 rfl (lv_at hl 0 rfl) ?_
        refine gX8_28 C hP dX8_look_177 ?_
        refine lv_aload_n hx hb dX8_look_180 rfl (lv_at hl 0 rfl) ?_
        refine gX8_30 C hP dX8_look_181 ?_
        refine lv_isub hx hb dX8_look_184 ?_
        refine lv_iconst (v := 4) hx hb dX8_look_185 (by decide) ?_
        refine lv_icmp_ge (tgt := 212) hx hb dX8_look_186 (by decide) (fun c13 => ?_) (fun c13 => ?_)
        · replace h := And.left h c13
          refine lv_ldc hx hb hown (hts _ mw_670) dX8_look_212 ?_
          exact t_X8_look_214 C hA ihn _ _ _ _ _ (lv_sub hl [0] rfl) hP hD hS h
        · replace h := And.right h c13
          refine lv_aload_n hx hb dX8_look_189 rfl (lv_at hl 0 rfl) ?_
          refine gX8_31 C hP dX8_look_190 ?_
          refine lv_bipush (v := 10) hx hb dX8_look_193 (by decide) ?_
          refine lv_imul hx hb dX8_look_195 ?_
          refine lv_aload_n hx hb dX8_look_196 rfl (lv_at hl 0 rfl) ?_
          refine gX8_6 C hP dX8_look_197 ?_
          refine lv_aload_n hx hb dX8_look_200 rfl (lv_at hl 0 rfl) ?_
          refine gX8_28 C hP dX8_look_201 ?_
          have hin := And.left h
          replace h := And.right h
          refine lX8_6 C hP hin dX8_look_204 ?_
          refine lv_iadd hx hb dX8_look_205 ?_
          refine lv_bipush (v := 48) hx hb dX8_look_206 (by decide) ?_
          refine lv_isub hx hb dX8_look_208 ?_
          refine lv_goto (tgt := 214) hx hb dX8_look_209 (by decide) ?_
          exact t_X8_look_214 C hA ihn _ _ _ _ _ (lv_sub hl [0] rfl) hP hD hS h
set_option maxHeartbeats 4000000 in
set_option maxRecDepth 100000 in
theorem t_X8_look_90 {p : Program} {l : Launch} {e : Env} {s : State} {m : MethodId} {args : Array Value} {below : List Frame} {meth : Method} {c : Code} {D : va_G} {K : Nat → ClassId} {h0 : Nat} {a0 : Nat → Nat} {n0 : Nat → Option Nat} {la0 : Nat → Nat} {post : (zS) → Prop} {A : Nat → Prop} (C : xC p s m args meth c cX8_look RX8 1 none D vwCl (xty K)) (hA : ∀ q, s.heap.size ≤ q → A q) : ∀ (n : Nat) (r0 : zS) (H : Heap) (locs : List Loc) (ls : Array Slot), lv_has ls 1 [(0, .ref h0)] → va_P D vwCl (wX8 K h0 a0 n0 la0 r0 ++ (([] : va_W))) H → va_D A (wX8 K h0 a0 n0 la0 r0 ++ (([] : va_W))) → va_S A s.heap H locs → wp_X8_look_90  post n r0 → W p l e ({ frames := 1, cells := 0, slots := 0, locals := 20 } : Room) s m args below meth c H locs 0 0 (MQ below (va_Qv (fun (u : (zS)) => post u) (fun (u : (zS)) t => va_P D vwCl (wX8 K h0 a0 n0 la0 u ++ (([] : va_W))) t.heap) A) args s 0 0 A) (F0 m 90 ls []) := by
  obtain ⟨hx, hb, hr, hml, hown, hts, hlocks, hK, hT⟩ := id C
  intro n
  induction n with
  | zero =>
    intro r0 H locs ls hl hP hD hS h
    exact False.elim h
  | succ n ihn =>
    intro r0 H locs ls hl hP hD hS h
    rw [wu_X8_look_90] at h
    unfold wb_X8_look_90 at h
    refine lv_aload_n hx hb dX8_look_90 rfl (lv_at hl 0 rfl) ?_
    refine gX8_28 C hP dX8_look_91 ?_
    refine lv_aload_n hx hb dX8_look_94 rfl (lv_at hl 0 rfl) ?_
    refine gX8_7 C hP dX8_look_95 ?_
    refine lv_icmp_ge (tgt := 263) hx hb dX8_look_98 (by decide) (fun c15 => ?_) (fun c15 => ?_)
    · replace h := And.left h c15
      exact xrw_v C r0 h hP hS dX8_look_263
    · replace h := And.right h c15
      refine lv_aload_n hx hb dX8_look_101 rfl (lv_at hl 0 rfl) ?_
      refine gX8_6 C hP dX8_look_102 ?_
      refine lv_aload_n hx hb dX8_look_105 rfl (lv_at hl 0 rfl) ?_
      refine gX8_28 C hP dX8_look_106 ?_
      have hin := And.left h
      replace h := And.right h
      refine lX8_6 C hP hin dX8_look_109 ?_
      refine xend_ro_i (xRunS (wc := ([] : va_W)) (As := [.int (r0.2.1 6 (r0.1 28).toNatClampNeg)]) (rest := []) C (c_X8_isLetter h) k_X8_isLetter mw_671 ⟨rfl, rfl⟩ ⟨Nat.le_of_ble_eq_true rfl, Nat.le_of_ble_eq_true rfl⟩ hP hD [] rfl rfl hl rfl rfl (Nat.le_of_ble_eq_true rfl) dX8_look_110 ⟨Nat.le_refl _, Nat.le_refl _⟩) (fun v16 h => ?_)
      refine lv_if_eq (tgt := 263) hx hb dX8_look_113 (by decide) (fun c17 => ?_) (fun c17 => ?_)
      · replace h := And.left h c17
        exact xrw_v C r0 h hP hS dX8_look_263
      · replace h := And.right h c17
        refine lv_aload_n hx hb dX8_look_116 rfl (lv_at hl 0 rfl) ?_
        refine lv_dup hx hb dX8_look_117 rfl ?_
        refine gX8_28 C hP dX8_look_118 ?_
        refine lv_iconst (v := 1) hx hb dX8_look_121 (by decide) ?_
        refine lv_iadd hx hb dX8_look_122 ?_
        refine lv_topi (fun v18 ev18 => ?_)
        replace h := h v18 ev18
        refine pX8_28 C hP hD hS dX8_look_123 (fun H locs hP hD hS => ?_)
        refine lv_goto (tgt := 90) hx hb dX8_look_126 (by decide) ?_
        exact ihn _ _ _ _ (lv_sub hl [0] rfl) hP hD hS h
set_option maxHeartbeats 4000000 in
set_option maxRecDepth 100000 in
theorem t_X8_look_38 {p : Program} {l : Launch} {e : Env} {s : State} {m : MethodId} {args : Array Value} {below : List Frame} {meth : Method} {c : Code} {D : va_G} {K : Nat → ClassId} {h0 : Nat} {a0 : Nat → Nat} {n0 : Nat → Option Nat} {la0 : Nat → Nat} {post : (zS) → Prop} {A : Nat → Prop} (C : xC p s m args meth c cX8_look RX8 1 none D vwCl (xty K)) (hA : ∀ q, s.heap.size ≤ q → A q) : ∀ (r0 : zS) (H : Heap) (locs : List Loc) (ls : Array Slot), lv_has ls 1 [(0, .ref h0)] → va_P D vwCl (wX8 K h0 a0 n0 la0 r0 ++ (([] : va_W))) H → va_D A (wX8 K h0 a0 n0 la0 r0 ++ (([] : va_W))) → va_S A s.heap H locs → wp_X8_look_38  post r0 → W p l e ({ frames := 1, cells := 0, slots := 0, locals := 20 } : Room) s m args below meth c H locs 0 0 (MQ below (va_Qv (fun (u : (zS)) => post u) (fun (u : (zS)) t => va_P D vwCl (wX8 K h0 a0 n0 la0 u ++ (([] : va_W))) t.heap) A) args s 0 0 A) (F0 m 38 ls []) := by
  obtain ⟨hx, hb, hr, hml, hown, hts, hlocks, hK, hT⟩ := id C
  intro r0 H locs ls hl hP hD hS h
  unfold wp_X8_look_38 at h
  refine lv_aload_n hx hb dX8_look_38 rfl (lv_at hl 0 rfl) ?_
  refine lv_aload_n hx hb dX8_look_39 rfl (lv_at hl 0 rfl) ?_
  refine gX8_28 C hP dX8_look_40 ?_
  refine lv_topi (fun v2 ev2 => ?_)
  replace h := h v2 ev2
  refine pX8_30 C hP hD hS dX8_look_43 (fun H locs hP hD hS => ?_)
  refine lv_aload_n hx hb dX8_look_46 rfl (lv_at hl 0 rfl) ?_
  refine lv_iconst (v := 0) hx hb dX8_look_47 (by decide) ?_
  refine pX8_31 C hP hD hS dX8_look_48 (fun H locs hP hD hS => ?_)
  refine lv_aload_n hx hb dX8_look_51 rfl (lv_at hl 0 rfl) ?_
  refine gX8_28 C hP dX8_look_52 ?_
  refine lv_aload_n hx hb dX8_look_55 rfl (lv_at hl 0 rfl) ?_
  refine gX8_7 C hP dX8_look_56 ?_
  refine lv_icmp_ne (tgt := 70) hx hb dX8_look_59 (by decide) (fun c3 => ?_) (fun c3 => ?_)
  · replace h := And.right h c3
    refine lv_aload_n hx hb dX8_look_70 rfl (lv_at hl 0 rfl) ?_
    refine gX8_6 C hP dX8_look_71 ?_
    refine lv_aload_n hx hb dX8_look_74 rfl (lv_at hl 0 rfl) ?_
    refine gX8_28 C hP dX8_look_75 ?_
    have hin := And.left h
    replace h := And.right h
    refine lX8_6 C hP hin dX8_look_78 ?_
    refine xend_ro_i (xRunS (wc := ([] : va_W)) (As := [.int ((zI (zI r0 30 v2) 31 (0 : Int32)).2.1 6 ((zI (zI r0 30 v2) 31 (0 : Int32)).1 28).toNatClampNeg)]) (rest := []) C (c_X8_isLetter h) k_X8_isLetter mw_671 ⟨rfl, rfl⟩ ⟨Nat.le_of_ble_eq_true rfl, Nat.le_of_ble_eq_true rfl⟩ hP hD [] rfl rfl hl rfl rfl (Nat.le_of_ble_eq_true rfl) dX8_look_79 ⟨Nat.le_refl _, Nat.le_refl _⟩) (fun v4 h => ?_)
    refine lv_if_eq (tgt := 129) hx hb dX8_look_82 (by decide) (fun c5 => ?_) (fun c5 => ?_)
    · replace h := And.left h c5
      refine lv_aload_n hx hb dX8_look_129 rfl (lv_at hl 0 rfl) ?_
      refine gX8_6 C hP dX8_look_130 ?_
      refine lv_aload_n hx hb dX8_look_133 rfl (lv_at hl 0 rfl) ?_
      refine gX8_28 C hP dX8_look_134 ?_
      have hin := And.left h
      replace h := And.right h
      refine lX8_6 C hP hin dX8_look_137 ?_
      refine xend_ro_i (xRunS (wc := ([] : va_W)) (As := [.int ((zI (zI r0 30 v2) 31 (0 : Int32)).2.1 6 ((zI (zI r0 30 v2) 31 (0 : Int32)).1 28).toNatClampNeg)]) (rest := []) C (c_X8_isDigit h) k_X8_isDigit mw_674 ⟨rfl, rfl⟩ ⟨Nat.le_of_ble_eq_true rfl, Nat.le_of_ble_eq_true rfl⟩ hP hD [] rfl rfl hl rfl rfl (Nat.le_of_ble_eq_true rfl) dX8_look_138 ⟨Nat.le_refl _, Nat.le_refl _⟩) (fun v6 h => ?_)
      refine lv_if_eq (tgt := 230) hx hb dX8_look_141 (by decide) (fun c7 => ?_) (fun c7 => ?_)
      · replace h := And.left h c7
        refine lv_aload_n hx hb dX8_look_230 rfl (lv_at hl 0 rfl) ?_
        refine lv_aload_n hx hb dX8_look_231 rfl (lv_at hl 0 rfl) ?_
        refine gX8_6 C hP dX8_look_232 ?_
        refine lv_aload_n hx hb dX8_look_235 rfl (lv_at hl 0 rfl) ?_
        refine gX8_28 C hP dX8_look_236 ?_
        have hin := And.left h
        replace h := And.right h
        refine lX8_6 C hP hin dX8_look_239 ?_
        refine lv_bipush (v := 59) hx hb dX8_look_240 (by decide) ?_
        refine lv_icmp_ne (tgt := 249) hx hb dX8_look_242 (by decide) (fun c8 => ?_) (fun c8 => ?_)
        · replace h := And.right h c8
          refine lv_iconst (v := 4) hx hb dX8_look_249 (by decide) ?_
          exact t_X8_look_250 C hA _ _ _ _ _ (lv_sub hl [0] rfl) hP hD hS h
        · replace h := And.left h c8
          refine lv_iconst (v := 3) hx hb dX8_look_245 (by decide) ?_
          refine lv_goto (tgt := 250) hx hb dX8_look_246 (by decide) ?_
          exact t_X8_look_250 C hA _ _ _ _ _ (lv_sub hl [0] rfl) hP hD hS h
      · replace h := And.right h c7
        refine lv_aload_n hx hb dX8_look_144 rfl (lv_at hl 0 rfl) ?_
        refine lv_iconst (v := 2) hx hb dX8_look_145 (by decide) ?_
        refine pX8_29 C hP hD hS dX8_look_146 (fun H locs hP hD hS => ?_)
        obtain ⟨n0, h⟩ := h
        exact t_X8_look_149 C hA n0 _ _ _ _ (lv_sub hl [0] rfl) hP hD hS h
    · replace h := And.right h c5
      refine lv_aload_n hx hb dX8_look_85 rfl (lv_at hl 0 rfl) ?_
      refine lv_iconst (v := 1) hx hb dX8_look_86 (by decide) ?_
      refine pX8_29 C hP hD hS dX8_look_87 (fun H locs hP hD hS => ?_)
      obtain ⟨n0, h⟩ := h
      exact t_X8_look_90 C hA n0 _ _ _ _ (lv_sub hl [0] rfl) hP hD hS h
  · replace h := And.left h c3
    refine lv_aload_n hx hb dX8_look_62 rfl (lv_at hl 0 rfl) ?_
    refine lv_iconst (v := 0) hx hb dX8_look_63 (by decide) ?_
    refine pX8_29 C hP hD hS dX8_look_64 (fun H locs hP hD hS => ?_)
    refine lv_goto (tgt := 263) hx hb dX8_look_67 (by decide) ?_
    exact xrw_v C (zI (zI (zI r0 30 v2) 31 (0 : Int32)) 29 (0 : Int32)) h hP hS dX8_look_263
set_option maxHeartbeats 4000000 in
set_option maxRecDepth 100000 in
theorem t_X8_look_0 {p : Program} {l : Launch} {e : Env} {s : State} {m : MethodId} {args : Array Value} {below : List Frame} {meth : Method} {c : Code} {D : va_G} {K : Nat → ClassId} {h0 : Nat} {a0 : Nat → Nat} {n0 : Nat → Option Nat} {la0 : Nat → Nat} {post : (zS) → Prop} {A : Nat → Prop} (C : xC p s m args meth c cX8_look RX8 1 none D vwCl (xty K)) (hA : ∀ q, s.heap.size ≤ q → A q) : ∀ (n : Nat) (r0 : zS) (H : Heap) (locs : List Loc) (ls : Array Slot), lv_has ls 1 [(0, .ref h0)] → va_P D vwCl (wX8 K h0 a0 n0 la0 r0 ++ (([] : va_W))) H → va_D A (wX8 K h0 a0 n0 la0 r0 ++ (([] : va_W))) → va_S A s.heap H locs → wp_X8_look_0  post n r0 → W p l e ({ frames := 1, cells := 0, slots := 0, locals := 20 } : Room) s m args below meth c H locs 0 0 (MQ below (va_Qv (fun (u : (zS)) => post u) (fun (u : (zS)) t => va_P D vwCl (wX8 K h0 a0 n0 la0 u ++ (([] : va_W))) t.heap) A) args s 0 0 A) (F0 m 0 ls []) := by
  obtain ⟨hx, hb, hr, hml, hown, hts, hlocks, hK, hT⟩ := id C
  intro n
  induction n with
  | zero =>
    intro r0 H locs ls hl hP hD hS h
    exact False.elim h
  | succ n ihn =>
    intro r0 H locs ls hl hP hD hS h
    rw [wu_X8_look_0] at h
    unfold wb_X8_look_0 at h
    refine lv_aload_n hx hb dX8_look_0 rfl (lv_at hl 0 rfl) ?_
    refine gX8_28 C hP dX8_look_1 ?_
    refine lv_aload_n hx hb dX8_look_4 rfl (lv_at hl 0 rfl) ?_
    refine gX8_7 C hP dX8_look_5 ?_
    refine lv_icmp_ge (tgt := 38) hx hb dX8_look_8 (by decide) (fun c1 => ?_) (fun c1 => ?_)
    · replace h := And.left h c1
      exact t_X8_look_38 C hA _ _ _ _ (lv_sub hl [0] rfl) hP hD hS h
    · replace h := And.right h c1
      refine lv_aload_n hx hb dX8_look_11 rfl (lv_at hl 0 rfl) ?_
      refine gX8_6 C hP dX8_look_12 ?_
      refine lv_aload_n hx hb dX8_look_15 rfl (lv_at hl 0 rfl) ?_
      refine gX8_28 C hP dX8_look_16 ?_
      have hin := And.left h
      replace h := And.right h
      refine lX8_6 C hP hin dX8_look_19 ?_
      refine lv_bipush (v := 32) hx hb dX8_look_20 (by decide) ?_
      refine lv_icmp_ne (tgt := 38) hx hb dX8_look_22 (by decide) (fun c19 => ?_) (fun c19 => ?_)
      · replace h := And.right h c19
        exact t_X8_look_38 C hA _ _ _ _ (lv_sub hl [0] rfl) hP hD hS h
      · replace h := And.left h c19
        refine lv_aload_n hx hb dX8_look_25 rfl (lv_at hl 0 rfl) ?_
        refine lv_dup hx hb dX8_look_26 rfl ?_
        refine gX8_28 C hP dX8_look_27 ?_
        refine lv_iconst (v := 1) hx hb dX8_look_30 (by decide) ?_
        refine lv_iadd hx hb dX8_look_31 ?_
        refine lv_topi (fun v20 ev20 => ?_)
        replace h := h v20 ev20
        refine pX8_28 C hP hD hS dX8_look_32 (fun H locs hP hD hS => ?_)
        refine lv_goto (tgt := 0) hx hb dX8_look_35 (by decide) ?_
        exact ihn _ _ _ _ (lv_sub hl [0] rfl) hP hD hS h
set_option maxHeartbeats 4000000 in
set_option maxRecDepth 100000 in
theorem c_X8_look {l : Launch} {D : va_G} {K : Nat → ClassId} {h0 : Nat} {a0 : Nat → Nat} {n0 : Nat → Option Nat} {la0 : Nat → Nat} {r0 : zS}  {sz : Nat} {post : (zS) → Prop}   (h : wp_X8_look r0 post) : Met l yX8_look (Cond.code yX8_look cX8_look 1 none :: wsL_law) ({ frames := 1, cells := 0, slots := 0, locals := 20 } : Room) (va_Pc [.ref h0] (xPre D vwCl (xty K) (wX8 K h0 a0 n0 la0 r0 ++ (([] : va_W))) sz)) (va_Qv (fun (u : (zS)) => post u) (fun (u : (zS)) t => va_P D vwCl (wX8 K h0 a0 n0 la0 u ++ (([] : va_W))) t.heap) (va_A (wX8 K h0 a0 n0 la0 r0 ++ (([] : va_W))) sz)) 0 0 (va_A (wX8 K h0 a0 n0 la0 r0 ++ (([] : va_W))) sz) := by
  refine xMet (by decide) rfl (Nat.le_of_ble_eq_true rfl) (fun p e s m args below meth c C hnm hP hD hsz ls hl => ?_)
  have hl : lv_has ls 1 [(0, .ref h0)] := hl
  obtain ⟨hx, hb, hr, hml, hown, hts, hlocks, hK, hT⟩ := id C
  subst hsz
  generalize hAe : va_A (wX8 K h0 a0 n0 la0 r0 ++ (([] : va_W))) s.heap.size = A at hD ⊢
  have hA : ∀ q : Nat, s.heap.size ≤ q → A q := fun q h => by rw [← hAe]; exact Or.inr h
  have hS : va_S A s.heap s.heap [] := va_S.rf
  have hP : va_P D vwCl (wX8 K h0 a0 n0 la0 r0 ++ (([] : va_W))) s.heap := hP
  unfold wp_X8_look at h
  obtain ⟨n0, h⟩ := h
  exact t_X8_look_0 C hA n0 _ _ _ _ (lv_sub hl [0] rfl) hP hD hS h
