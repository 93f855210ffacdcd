def wp_X8_wrong (r0 : zS) (post : Int32 → (zS) → Prop) : Prop :=
  ∀ v1 : Int32, v1 = (r0.1 30) → post (0 : Int32) (zI r0 32 v1)
set_option maxHeartbeats 4000000 in
set_option maxRecDepth 100000 in
theorem c_X8_wrong {l : Launch} {D : va_G} {K : Nat → ClassId} {h0 : Nat} {a0 : Nat → Nat} {n0 : Nat → Option Nat} {la0 : Nat → Nat} {r0 : zS}  {sz : Nat} {post : Int32 → (zS) → Prop}   (h : wp_X8_wrong r0 post) : Met l yX8_wrong (Cond.code yX8_wrong cX8_wrong 1 (some .boolean) :: wsL_law) ({ frames := 0, cells := 0, slots := 0, locals := 0 } : Room) (va_Pc [.ref h0] (xPre D vwCl (xty K) (wX8 K h0 a0 n0 la0 r0 ++ (([] : va_W))) sz)) (va_Qi (fun r (u : (zS)) => post r u) (fun (u : (zS)) t => va_P D vwCl (wX8 K h0 a0 n0 la0 u ++ (([] : va_W))) t.heap) (va_A (wX8 K h0 a0 n0 la0 r0 ++ (([] : va_W))) sz)) 0 0 (va_A (wX8 K h0 a0 n0 la0 r0 ++ (([] : va_W))) sz) := by
  refine xMet (by decide) rfl (Nat.le_of_ble_eq_true rfl) (fun p e s m args below meth c C hnm hP hD hsz ls hl => ?_)
  have hl : lv_has ls 1 [(0, .ref h0)] := hl
  obtain ⟨hx, hb, hr, hml, hown, hts, hlocks, hK, hT⟩ := id C
  subst hsz
  generalize hAe : va_A (wX8 K h0 a0 n0 la0 r0 ++ (([] : va_W))) s.heap.size = A at hD ⊢
  have hA : ∀ q : Nat, s.heap.size ≤ q → A q := fun q h => by rw [← hAe]; exact Or.inr h
  have hS : va_S A s.heap s.heap [] := va_S.rf
  have hP : va_P D vwCl (wX8 K h0 a0 n0 la0 r0 ++ (([] : va_W))) s.heap := hP
  unfold wp_X8_wrong at h
  refine lv_aload_n hx hb dX8_wrong_0 rfl (lv_at hl 0 rfl) ?_
  refine lv_aload_n hx hb dX8_wrong_1 rfl (lv_at hl 0 rfl) ?_
  refine gX8_30 C hP dX8_wrong_2 ?_
  refine lv_topi (fun v1 ev1 => ?_)
  replace h := h v1 ev1
  refine pX8_32 C hP hD hS dX8_wrong_5 (fun H locs hP hD hS => ?_)
  refine lv_iconst (v := 0) hx hb dX8_wrong_8 (by decide) ?_
  exact xrw_z C (zI r0 32 v1) rfl h hP hS dX8_wrong_9

def wb_X8_isWord_28 (r0 : zS) (p1 : Nat) (post : Int32 → Prop) (ih : Int32 → Prop) (x2 : Int32) : Prop :=
  ((nI (zLen.getD p1 0)) ≤ x2 → post (1 : Int32) ) ∧ (¬ (nI (zLen.getD p1 0)) ≤ x2 → vp_in ((r0.1 30) + x2) 250 ∧ (vp_in x2 (zLen.getD p1 0) ∧ (((r0.2.1 6 ((r0.1 30) + x2).toNatClampNeg) = (zCh p1 x2.toNatClampNeg) → ∀ v8 : Int32, v8 = x2 + (1 : Int32) → ih v8) ∧ (¬ (r0.2.1 6 ((r0.1 30) + x2).toNatClampNeg) = (zCh p1 x2.toNatClampNeg) → post (0 : Int32) ))))
def wp_X8_isWord_28 (r0 : zS) (p1 : Nat) (post : Int32 → Prop) (n : Nat) : Int32 → Prop := Nat.rec (motive := fun _ => Int32 → Prop) (fun _ => False) (fun _ ih => wb_X8_isWord_28 r0 p1 post ih) n
theorem wu_X8_isWord_28 (r0 : zS) (p1 : Nat) (post : Int32 → Prop) (n : Nat) (x2 : Int32) : wp_X8_isWord_28 r0 p1 post (n + 1) x2 = wb_X8_isWord_28 r0 p1 post (wp_X8_isWord_28 r0 p1 post n) x2 := rfl
def wp_X8_isWord (r0 : zS) (p1 : Nat) (post : Int32 → Prop) : Prop :=
  ((r0.1 29) = (1 : Int32) → (((r0.1 28) - (r0.1 30)) = (nI (zLen.getD p1 0)) → ∃ n : Nat, wp_X8_isWord_28 r0 p1 post n (0 : Int32)) ∧ (¬ ((r0.1 28) - (r0.1 30)) = (nI (zLen.getD p1 0)) → post (0 : Int32) )) ∧ (¬ (r0.1 29) = (1 : Int32) → post (0 : Int32) )
set_option maxHeartbeats 4000000 in
set_option maxRecDepth 100000 in
theorem t_X8_isWord_28 {p : Program} {l : Launch} {e : Env} {s : State} {m : MethodId} {args : Array Value} {below : List Frame} {meth : Method} {c : Code} {D : va_G} {K : Nat → ClassId} {h0 : Nat} {a0 : Nat → Nat} {n0 : Nat → Option Nat} {la0 : Nat → Nat} {r0 : zS} {p1 : Nat} {post : Int32 → Prop} (C : xC p s m args meth c cX8_isWord RX8 3 (some .boolean) D vwCl (xty K)) (hr1 : p1 < 5) {adK adV : Nat → Nat} (hE : zE adK adV (va_A (wX8 K h0 a0 n0 la0 r0 ++ (([] : va_W))) s.heap.size) s s.heap) (hP : va_P D vwCl (wX8 K h0 a0 n0 la0 r0 ++ (([] : va_W))) s.heap) (hD : va_D (va_A (wX8 K h0 a0 n0 la0 r0 ++ (([] : va_W))) s.heap.size) (wX8 K h0 a0 n0 la0 r0 ++ (([] : va_W)))) : ∀ (n : Nat) (x2 : Int32) (ls : Array Slot), lv_has ls 3 [(0, .ref h0), (1, .ref (adK p1)), (2, .int x2)] → wp_X8_isWord_28 r0 p1 post n x2 → W p l e ({ frames := 4, cells := 0, slots := 0, locals := 111 } : Room) s m args below meth c s.heap [] 0 0 (MQ below (roI post) args s 0 0 (fun _ => False)) (F0 m 28 ls []) := by
  obtain ⟨hx, hb, hr, hml, hown, hts, hlocks, hK, hT⟩ := id C
  have hS : va_S (va_A (wX8 K h0 a0 n0 la0 r0 ++ (([] : va_W))) s.heap.size) s.heap s.heap [] := va_S.rf
  have hA : ∀ q : Nat, s.heap.size ≤ q → (va_A (wX8 K h0 a0 n0 la0 r0 ++ (([] : va_W))) s.heap.size) q := fun q h => Or.inr h
  intro n
  induction n with
  | zero =>
    intro x2 ls hl h
    exact False.elim h
  | succ n ihn =>
    intro x2 ls hl h
    rw [wu_X8_isWord_28] at h
    unfold wb_X8_isWord_28 at h
    refine lv_iload_n hx hb dX8_isWord_28 rfl (lv_at hl 2 rfl) ?_
    refine lv_aload_n hx hb dX8_isWord_29 rfl (lv_at hl 1 rfl) ?_
    refine xend_ro_i (xRunVE (wc := []) (As := []) (rest := [.int x2]) C hE hS hA (c_J0_length_8abf5 (post := fun v => v = (nI (zLen.getD p1 0))) hr1 rfl) k_J0_length_8abf5 mw_685 ⟨rfl, rfl⟩ ⟨Nat.le_of_ble_eq_true rfl, Nat.le_of_ble_eq_true rfl⟩ hP hD [] rfl rfl (fun _ => vk_recv hE.1 hr1 hS) hl rfl rfl (Nat.le_of_ble_eq_true rfl) dX8_isWord_30 ⟨Nat.le_refl _, Nat.le_refl _⟩) (fun v4 hv4 => ?_)
    subst hv4
    refine lv_icmp_ge (tgt := 63) hx hb dX8_isWord_33 (by decide) (fun c5 => ?_) (fun c5 => ?_)
    · replace h := And.left h c5
      refine lv_iconst (v := 1) hx hb dX8_isWord_63 (by decide) ?_
      exact xro_z C rfl h dX8_isWord_64
    · replace h := And.right h c5
      refine lv_aload_n hx hb dX8_isWord_36 rfl (lv_at hl 0 rfl) ?_
      refine gX8_6 C hP dX8_isWord_37 ?_
      refine lv_aload_n hx hb dX8_isWord_40 rfl (lv_at hl 0 rfl) ?_
      refine gX8_30 C hP dX8_isWord_41 ?_
      refine lv_iload_n hx hb dX8_isWord_44 rfl (lv_at hl 2 rfl) ?_
      refine lv_iadd hx hb dX8_isWord_45 ?_
      have hin := And.left h
      replace h := And.right h
      refine lX8_6 C hP hin dX8_isWord_46 ?_
      refine lv_aload_n hx hb dX8_isWord_47 rfl (lv_at hl 1 rfl) ?_
      refine lv_iload_n hx hb dX8_isWord_48 rfl (lv_at hl 2 rfl) ?_
      have hin := And.left h
      replace h := And.right h
      refine xend_ro_i (xRunVE (wc := []) (As := [.int x2]) (rest := [.int (r0.2.1 6 ((r0.1 30) + x2).toNatClampNeg)]) C hE hS hA (c_J0_charAt_5068e (post := fun v => v = (zCh p1 x2.toNatClampNeg)) hr1 hin rfl) k_J0_charAt_5068e mw_686 ⟨rfl, rfl⟩ ⟨Nat.le_of_ble_eq_true rfl, Nat.le_of_ble_eq_true rfl⟩ hP hD [] rfl rfl (fun _ => vk_recv hE.1 hr1 hS) hl rfl rfl (Nat.le_of_ble_eq_true rfl) dX8_isWord_49 ⟨Nat.le_refl _, Nat.le_refl _⟩) (fun v6 hv6 => ?_)
      subst hv6
      refine lv_icmp_eq (tgt := 57) hx hb dX8_isWord_52 (by decide) (fun c7 => ?_) (fun c7 => ?_)
      · replace h := And.left h c7
        obtain ⟨v8, ev8⟩ : ∃ y : Int32, y = x2 + (1 : Int32) := ⟨_, rfl⟩
        replace h := h v8 ev8
        refine lv_iinc (v := v8) (lv' := [(2, .int v8), (0, .ref h0), (1, .ref (adK p1))]) hx hb dX8_isWord_57 hl (k := 2) rfl (by rw [ev8]; rfl) (by decide) rfl (fun ls hl => ?_)
        refine lv_goto (tgt := 28) hx hb dX8_isWord_60 (by decide) ?_
        exact ihn _ _ (lv_sub hl [1, 2, 0] rfl) h
      · replace h := And.right h c7
        refine lv_iconst (v := 0) hx hb dX8_isWord_55 (by decide) ?_
        exact xro_z C rfl h dX8_isWord_56
set_option maxHeartbeats 4000000 in
set_option maxRecDepth 100000 in
theorem c_X8_isWord {l : Launch} {D : va_G} {K : Nat → ClassId} {h0 : Nat} {a0 : Nat → Nat} {n0 : Nat → Option Nat} {la0 : Nat → Nat} {r0 : zS} {p1 : Nat} {adK adV : Nat → Nat} {sz : Nat} {post : Int32 → Prop}  (hr1 : p1 < 5) (h : wp_X8_isWord r0 p1 post) : Met l yX8_isWord (Cond.code yX8_isWord cX8_isWord 3 (some .boolean) :: wsL_law) ({ frames := 4, cells := 0, slots := 0, locals := 111 } : Room) (va_Pc [.ref h0, .ref (adK p1)] (xPreE D vwCl (xty K) (wX8 K h0 a0 n0 la0 r0 ++ (([] : va_W))) sz adK adV)) (roI post) 0 0 (fun _ => False) := by
  refine xMetE (by decide) rfl (Nat.le_of_ble_eq_true rfl) (fun p e s m args below meth c C hnm hP hD hsz ls hl hE => ?_)
  have hl : lv_has ls 3 [(0, .ref h0), (1, .ref (adK p1))] := hl
  obtain ⟨hx, hb, hr, hml, hown, hts, hlocks, hK, hT⟩ := id C
  have hS : va_S (va_A (wX8 K h0 a0 n0 la0 r0 ++ (([] : va_W))) s.heap.size) s.heap s.heap [] := va_S.rf
  have hA : ∀ q : Nat, s.heap.size ≤ q → (va_A (wX8 K h0 a0 n0 la0 r0 ++ (([] : va_W))) s.heap.size) q := fun q h => Or.inr h
  unfold wp_X8_isWord at h
  refine lv_aload_n hx hb dX8_isWord_0 rfl (lv_at hl 0 rfl) ?_
  refine gX8_29 C hP dX8_isWord_1 ?_
  refine lv_iconst (v := 1) hx hb dX8_isWord_4 (by decide) ?_
  refine lv_icmp_ne (tgt := 24) hx hb dX8_isWord_5 (by decide) (fun c1 => ?_) (fun c1 => ?_)
  · replace h := And.right h c1
    refine lv_iconst (v := 0) hx hb dX8_isWord_24 (by decide) ?_
    exact xro_z C rfl h dX8_isWord_25
  · replace h := And.left h c1
    refine lv_aload_n hx hb dX8_isWord_8 rfl (lv_at hl 0 rfl) ?_
    refine gX8_28 C hP dX8_isWord_9 ?_
    refine lv_aload_n hx hb dX8_isWord_12 rfl (lv_at hl 0 rfl) ?_
    refine gX8_30 C hP dX8_isWord_13 ?_
    refine lv_isub hx hb dX8_isWord_16 ?_
    refine lv_aload_n hx hb dX8_isWord_17 rfl (lv_at hl 1 rfl) ?_
    refine xend_ro_i (xRunVE (wc := []) (As := []) (rest := [.int ((r0.1 28) - (r0.1 30))]) C hE hS hA (c_J0_length_8abf5 (post := fun v => v = (nI (zLen.getD p1 0))) hr1 rfl) k_J0_length_8abf5 mw_685 ⟨rfl, rfl⟩ ⟨Nat.le_of_ble_eq_true rfl, Nat.le_of_ble_eq_true rfl⟩ hP hD [] rfl rfl (fun _ => vk_recv hE.1 hr1 hS) hl rfl rfl (Nat.le_of_ble_eq_true rfl) dX8_isWord_18 ⟨Nat.le_refl _, Nat.le_refl _⟩) (fun v2 hv2 => ?_)
    subst hv2
    refine lv_icmp_eq (tgt := 26) hx hb dX8_isWord_21 (by decide) (fun c3 => ?_) (fun c3 => ?_)
    · replace h := And.left h c3
      refine lv_iconst (v := 0) hx hb dX8_isWord_26 (by decide) ?_
      refine lv_istore_n (lv' := [(2, .int (0 : Int32)), (0, .ref h0), (1, .ref (adK p1))]) hx hb dX8_isWord_27 rfl hl (by decide) rfl (fun ls hl => ?_)
      obtain ⟨n0, h⟩ := h
      exact t_X8_isWord_28 C hr1 hE hP hD n0 _ _ (lv_sub hl [1, 2, 0] rfl) h
    · replace h := And.right h c3
      refine lv_iconst (v := 0) hx hb dX8_isWord_24 (by decide) ?_
      exact xro_z C rfl h dX8_isWord_25

def wp_X8_number_23 (p1 : Int32) (p2 : Int32) (p3 : Int32) (post : Int32 → (zS) → Prop) (r0 : zS) : Prop :=
  wp_X8_wrong r0 (fun v2 s3 => xbool v2 ∧ post v2 s3)
def wp_X8_number (r0 : zS) (p1 : Int32) (p2 : Int32) (p3 : Int32) (post : Int32 → (zS) → Prop) : Prop :=
  ((r0.1 29) = (2 : Int32) → wp_X8_in ((r0.1 31).toInt64) (p2.toInt64) (p3.toInt64) (fun v4 => (v4 = 0 → wp_X8_number_23 p1 p2 p3 post r0) ∧ (¬ v4 = 0 → ∀ v6 : Int32, v6 = (r0.1 31) → vp_in p1 3 ∧ (∀ j7 : Nat, j7 = p1.toNatClampNeg → wp_X8_look (zA r0 33 j7 v6) (fun s9 => post (1 : Int32) s9))))) ∧ (¬ (r0.1 29) = (2 : Int32) → wp_X8_number_23 p1 p2 p3 post r0)
set_option maxHeartbeats 4000000 in
set_option maxRecDepth 100000 in
theorem t_X8_number_23 {p : Program} {l : Launch} {e : Env} {s : State} {m : MethodId} {args : Array Value} {below : List Frame} {meth : Method} {c : Code} {D : va_G} {K : Nat → ClassId} {h0 : Nat} {a0 : Nat → Nat} {n0 : Nat → Option Nat} {la0 : Nat → Nat} {p1 : Int32} {p2 : Int32} {p3 : Int32} {post : Int32 → (zS) → Prop} {A : Nat → Prop} (C : xC p s m args meth c cX8_number RX8 4 (some .boolean) D vwCl (xty K)) (hA : ∀ q, s.heap.size ≤ q → A q) : ∀ (r0 : zS) (H : Heap) (locs : List Loc) (ls : Array Slot), lv_has ls 4 [(0, .ref h0)] → va_P D vwCl (wX8 K h0 a0 n0 la0 r0 ++ (([] : va_W))) H → va_D A (wX8 K h0 a0 n0 la0 r0 ++ (([] : va_W))) → va_S A s.heap H locs → wp_X8_number_23 p1 p2 p3 post r0 → W p l e ({ frames := 2, cells := 0, slots := 0, locals := 40 } : Room) s m args below meth c H locs 0 0 (MQ below (va_Qi (fun r (u : (zS)) => post r u) (fun (u : (zS)) t => va_P D vwCl (wX8 K h0 a0 n0 la0 u ++ (([] : va_W))) t.heap) A) args s 0 0 A) (F0 m 23 ls []) := by
  obtain ⟨hx, hb, hr, hml, hown, hts, hlocks, hK, hT⟩ := id C
  intro r0 H locs ls hl hP hD hS h
  unfold wp_X8_number_23 at h
  refine lv_aload_n hx hb dX8_number_23 rfl (lv_at hl 0 rfl) ?_
  refine xend_rw_i_id (wf := fun (u : (zS)) => (wX8 K h0 a0 n0 la0 u ++ (([] : va_W)))) (xRunV_id (As := []) (rest := []) C (c_X8_wrong h) k_X8_wrong mw_695 ⟨rfl, rfl⟩ ⟨Nat.le_of_ble_eq_true rfl, Nat.le_of_ble_eq_true rfl⟩ hP hD rfl rfl hl rfl rfl (Nat.le_of_ble_eq_true rfl) dX8_number_24 ⟨Nat.le_refl _, Nat.le_refl _⟩) hD hS hA (fun _ => wX8_adr _ _) (fun v2 s3 H locs h hP hD hS => ?_)
  exact xrw_z C s3 (And.left h) (And.right h) hP hS dX8_number_27
set_option maxHeartbeats 4000000 in
set_option maxRecDepth 100000 in
theorem c_X8_number {l : Launch} {D : va_G} {K : Nat → ClassId} {h0 : Nat} {a0 : Nat → Nat} {n0 : Nat → Option Nat} {la0 : Nat → Nat} {r0 : zS} {p1 : Int32} {p2 : Int32} {p3 : Int32} {sz : Nat} {post : Int32 → (zS) → Prop}   (h : wp_X8_number r0 p1 p2 p3 post) : Met l yX8_number (Cond.code yX8_number cX8_number 4 (some .boolean) :: wsL_law) ({ frames := 2, cells := 0, slots := 0, locals := 40 } : Room) (va_Pc [.ref h0, .int p1, .int p2, .int p3] (xPre D vwCl (xty K) (wX8 K h0 a0 n0 la0 r0 ++ (([] : va_W))) sz)) (va_Qi (fun r (u : (zS)) => post r u) (fun (u : (zS)) t => va_P D vwCl (wX8 K h0 a0 n0 la0 u ++ (([] : va_W))) t.heap) (va_A (wX8 K h0 a0 n0 la0 r0 ++ (([] : va_W))) sz)) 0 0 (va_A (wX8 K h0 a0 n0 la0 r0 ++ (([] : va_W))) sz) := by
  refine xMet (by decide) rfl (Nat.le_of_ble_eq_true rfl) (fun p e s m args below meth c C hnm hP hD hsz ls hl => ?_)
  have hl : lv_has ls 4 [(0, .ref h0), (1, .int p1), (2, .int p2), (3, .int p3)] := hl
  obtain ⟨hx, hb, hr, hml, hown, hts, hlocks, hK, hT⟩ := id C
  subst hsz
  generalize hAe : va_A (wX8 K h0 a0 n0 la0 r0 ++ (([] : va_W))) s.heap.size = A at hD ⊢
  have hA : ∀ q : Nat, s.heap.size ≤ q → A q := fun q h => by rw [← hAe]; exact Or.inr h
  have hS : va_S A s.heap s.heap [] := va_S.rf
  have hP : va_P D vwCl (wX8 K h0 a0 n0 la0 r0 ++ (([] : va_W))) s.heap := hP
  unfold wp_X8_number at h
  refine lv_aload_n hx hb dX8_number_0 rfl (lv_at hl 0 rfl) ?_
  refine gX8_29 C hP dX8_number_1 ?_
  refine lv_iconst (v := 2) hx hb dX8_number_4 (by decide) ?_
  refine lv_icmp_ne (tgt := 23) hx hb dX8_number_5 (by decide) (fun c1 => ?_) (fun c1 => ?_)
  · replace h := And.right h c1
    exact t_X8_number_23 C hA _ _ _ _ (lv_sub hl [0] rfl) hP hD hS h
  · replace h := And.left h c1
    refine lv_aload_n hx hb dX8_number_8 rfl (lv_at hl 0 rfl) ?_
    refine gX8_31 C hP dX8_number_9 ?_
    refine lv_i2l hx hb dX8_number_12 rfl ?_
    refine lv_iload_n hx hb dX8_number_13 rfl (lv_at hl 2 rfl) ?_
    refine lv_i2l hx hb dX8_number_14 rfl ?_
    refine lv_iload_n hx hb dX8_number_15 rfl (lv_at hl 3 rfl) ?_
    refine lv_i2l hx hb dX8_number_16 rfl ?_
    refine xend_ro_i (xRunS (wc := ([] : va_W)) (As := [.long ((r0.1 31).toInt64), .long (p2.toInt64), .long (p3.toInt64)]) (rest := []) C (c_X8_in h) k_X8_in mw_162 ⟨rfl, rfl⟩ ⟨Nat.le_of_ble_eq_true rfl, Nat.le_of_ble_eq_true rfl⟩ hP hD [] rfl rfl hl rfl rfl (Nat.le_of_ble_eq_true rfl) dX8_number_17 ⟨Nat.le_refl _, Nat.le_refl _⟩) (fun v4 h => ?_)
    refine lv_if_ne (tgt := 28) hx hb dX8_number_20 (by decide) (fun c5 => ?_) (fun c5 => ?_)
    · replace h := And.right h c5
      refine lv_aload_n hx hb dX8_number_28 rfl (lv_at hl 0 rfl) ?_
      refine gX8_33 C hP dX8_number_29 ?_
      refine lv_iload_n hx hb dX8_number_32 rfl (lv_at hl 1 rfl) ?_
      refine lv_aload_n hx hb dX8_number_33 rfl (lv_at hl 0 rfl) ?_
      refine gX8_31 C hP dX8_number_34 ?_
      refine lv_topi (fun v6 ev6 => ?_)
      replace h := h v6 ev6
      have hin := And.left h
      obtain ⟨j7, ej7⟩ : ∃ j : Nat, j = p1.toNatClampNeg := ⟨_, rfl⟩
      replace h := And.right h j7 ej7
      refine sX8_33 C hP hD hS hin ej7 dX8_number_37 (fun H locs hP hD hS => ?_)
      refine lv_aload_n hx hb dX8_number_38 rfl (lv_at hl 0 rfl) ?_
      refine xend_rw_v_id (wf := fun (u : (zS)) => (wX8 K h0 a0 n0 la0 u ++ (([] : va_W)))) (xRunV_id (As := []) (rest := []) C (c_X8_look h) k_X8_look mw_664 ⟨rfl, rfl⟩ ⟨Nat.le_of_ble_eq_true rfl, Nat.le_of_ble_eq_true rfl⟩ hP hD rfl rfl hl rfl rfl (Nat.le_of_ble_eq_true rfl) dX8_number_39 ⟨Nat.le_refl _, Nat.le_refl _⟩) hD hS hA (fun _ => wX8_adr _ _) (fun s9 H locs h hP hD hS => ?_)
      refine lv_iconst (v := 1) hx hb dX8_number_42 (by decide) ?_
      exact xrw_z C s9 rfl h hP hS dX8_number_43
    · replace h := And.left h c5
      exact t_X8_number_23 C hA _ _ _ _ (lv_sub hl [0] rfl) hP hD hS h

def wp_X8_tells (r0 : zS) (p1 : Int32) (p2 : Int32) (post : Int32 → (zS) → Prop) : Prop :=
  wp_X8_look r0 (fun s2 => wp_X8_number s2 (0 : Int32) p1 p2 (fun v3 s4 => xbool v3 ∧ post v3 s4))
set_option maxHeartbeats 4000000 in
set_option maxRecDepth 100000 in
theorem c_X8_tells {l : Launch} {D : va_G} {K : Nat → ClassId} {h0 : Nat} {a0 : Nat → Nat} {n0 : Nat → Option Nat} {la0 : Nat → Nat} {r0 : zS} {p1 : Int32} {p2 : Int32} {sz : Nat} {post : Int32 → (zS) → Prop}   (h : wp_X8_tells r0 p1 p2 post) : Met l yX8_tells (Cond.code yX8_tells cX8_tells 3 (some .boolean) :: wsL_law) ({ frames := 3, cells := 0, slots := 0, locals := 63 } : Room) (va_Pc [.ref h0, .int p1, .int p2] (xPre D vwCl (xty K) (wX8 K h0 a0 n0 la0 r0 ++ (([] : va_W))) sz)) (va_Qi (fun r (u : (zS)) => post r u) (fun (u : (zS)) t => va_P D vwCl (wX8 K h0 a0 n0 la0 u ++ (([] : va_W))) t.heap) (va_A (wX8 K h0 a0 n0 la0 r0 ++ (([] : va_W))) sz)) 0 0 (va_A (wX8 K h0 a0 n0 la0 r0 ++ (([] : va_W))) sz) := by
  refine xMet (by decide) rfl (Nat.le_of_ble_eq_true rfl) (fun p e s m args below meth c C hnm hP hD hsz ls hl => ?_)
  have hl : lv_has ls 3 [(0, .ref h0), (1, .int p1), (2, .int p2)] := hl
  obtain ⟨hx, hb, hr, hml, hown, hts, hlocks, hK, hT⟩ := id C
  subst hsz
  generalize hAe : va_A (wX8 K h0 a0 n0 la0 r0 ++ (([] : va_W))) s.heap.size = A at hD ⊢
  have hA : ∀ q : Nat, s.heap.size ≤ q → A q := fun q h => by rw [← hAe]; exact Or.inr h
  have hS : va_S A s.heap s.heap [] := va_S.rf
  have hP : va_P D vwCl (wX8 K h0 a0 n0 la0 r0 ++ (([] : va_W))) s.heap := hP
  unfold wp_X8_tells at h
  refine lv_aload_n hx hb dX8_tells_0 rfl (lv_at hl 0 rfl) ?_
  refine xend_rw_v_id (wf := fun (u : (zS)) => (wX8 K h0 a0 n0 la0 u ++ (([] : va_W)))) (xRunV_id (As := []) (rest := []) C (c_X8_look h) k_X8_look mw_664 ⟨rfl, rfl⟩ ⟨Nat.le_of_ble_eq_true rfl, Nat.le_of_ble_eq_true rfl⟩ hP hD rfl rfl hl rfl rfl (Nat.le_of_ble_eq_true rfl) dX8_tells_1 ⟨Nat.le_refl _, Nat.le_refl _⟩) hD hS hA (fun _ => wX8_adr _ _) (fun s2 H locs h hP hD hS => ?_)
  refine lv_aload_n hx hb dX8_tells_4 rfl (lv_at hl 0 rfl) ?_
  refine lv_iconst (v := 0) hx hb dX8_tells_5 (by decide) ?_
  refine lv_iload_n hx hb dX8_tells_6 rfl (lv_at hl 1 rfl) ?_
  refine lv_iload_n hx hb dX8_tells_7 rfl (lv_at hl 2 rfl) ?_
  refine xend_rw_i_id (wf := fun (u : (zS)) => (wX8 K h0 a0 n0 la0 u ++ (([] : va_W)))) (xRunV_id (As := [.int (0 : Int32), .int p1, .int p2]) (rest := []) C (c_X8_number h) k_X8_number mw_691 ⟨rfl, rfl⟩ ⟨Nat.le_of_ble_eq_true rfl, Nat.le_of_ble_eq_true rfl⟩ hP hD rfl rfl hl rfl rfl (Nat.le_of_ble_eq_true rfl) dX8_tells_8 ⟨Nat.le_refl _, Nat.le_refl _⟩) hD hS hA (fun _ => wX8_adr _ _) (fun v3 s4 H locs h hP hD hS => ?_)
  exact xrw_z C s4 (And.left h) (And.right h) hP hS dX8_tells_11

def wp_X8_freeDesk_36 (p1 : Int32) (post : Int32 → (zS) → Prop) (r0 : zS) : Prop :=
  wp_X8_number r0 p1 (0 : Int32) (((4 : Int32) * (r0.1 9)) - (1 : Int32)) (fun v2 s3 => xbool v2 ∧ post v2 s3)
def wp_X8_freeDesk (r0 : zS) (p1 : Int32) (post : Int32 → (zS) → Prop) : Prop :=
  ((r0.1 29) = (2 : Int32) → wp_X8_isDesk r0 (r0.1 31) (fun v4 => (v4 = 0 → wp_X8_freeDesk_36 p1 post r0) ∧ (¬ v4 = 0 → wp_X8_sitting r0 (r0.1 31) (fun v6 => (v6 = (-1 : Int32) → wp_X8_freeDesk_36 p1 post r0) ∧ (¬ v6 = (-1 : Int32) → wp_X8_wrong r0 (fun v8 s9 => xbool v8 ∧ post v8 s9)))))) ∧ (¬ (r0.1 29) = (2 : Int32) → wp_X8_freeDesk_36 p1 post r0)
set_option maxHeartbeats 4000000 in
set_option maxRecDepth 100000 in
theorem t_X8_freeDesk_36 {p : Program} {l : Launch} {e : Env} {s : State} {m : MethodId} {args : Array Value} {below : List Frame} {meth : Method} {c : Code} {D : va_G} {K : Nat → ClassId} {h0 : Nat} {a0 : Nat → Nat} {n0 : Nat → Option Nat} {la0 : Nat → Nat} {p1 : Int32} {post : Int32 → (zS) → Prop} {A : Nat → Prop} (C : xC p s m args meth c cX8_freeDesk RX8 2 (some .boolean) D vwCl (xty K)) (hA : ∀ q, s.heap.size ≤ q → A q) : ∀ (r0 : zS) (H : Heap) (locs : List Loc) (ls : Array Slot), lv_has ls 2 [(0, .ref h0), (1, .int p1)] → va_P D vwCl (wX8 K h0 a0 n0 la0 r0 ++ (([] : va_W))) H → va_D A (wX8 K h0 a0 n0 la0 r0 ++ (([] : va_W))) → va_S A s.heap H locs → wp_X8_freeDesk_36 p1 post r0 → W p l e ({ frames := 3, cells := 0, slots := 0, locals := 63 } : Room) s m args below meth c H locs 0 0 (MQ below (va_Qi (fun r (u : (zS)) => post r u) (fun (u : (zS)) t => va_P D vwCl (wX8 K h0 a0 n0 la0 u ++ (([] : va_W))) t.heap) A) args s 0 0 A) (F0 m 36 ls []) := by
  obtain ⟨hx, hb, hr, hml, hown, hts, hlocks, hK, hT⟩ := id C
  intro r0 H locs ls hl hP hD hS h
  unfold wp_X8_freeDesk_36 at h
  refine lv_aload_n hx hb dX8_freeDesk_36 rfl (lv_at hl 0 rfl) ?_
  refine lv_iload_n hx hb dX8_freeDesk_37 rfl (lv_at hl 1 rfl) ?_
  refine lv_iconst (v := 0) hx hb dX8_freeDesk_38 (by decide) ?_
  refine lv_iconst (v := 4) hx hb dX8_freeDesk_39 (by decide) ?_
  refine lv_aload_n hx hb dX8_freeDesk_40 rfl (lv_at hl 0 rfl) ?_
  refine gX8_9 C hP dX8_freeDesk_41 ?_
  refine lv_imul hx hb dX8_freeDesk_44 ?_
  refine lv_iconst (v := 1) hx hb dX8_freeDesk_45 (by decide) ?_
  refine lv_isub hx hb dX8_freeDesk_46 ?_
  refine xend_rw_i_id (wf := fun (u : (zS)) => (wX8 K h0 a0 n0 la0 u ++ (([] : va_W)))) (xRunV_id (As := [.int p1, .int (0 : Int32), .int (((4 : Int32) * (r0.1 9)) - (1 : Int32))]) (rest := []) C (c_X8_number h) k_X8_number mw_691 ⟨rfl, rfl⟩ ⟨Nat.le_of_ble_eq_true rfl, Nat.le_of_ble_eq_true rfl⟩ hP hD rfl rfl hl rfl rfl (Nat.le_of_ble_eq_true rfl) dX8_freeDesk_47 ⟨Nat.le_refl _, Nat.le_refl _⟩) hD hS hA (fun _ => wX8_adr _ _) (fun v2 s3 H locs h hP hD hS => ?_)
  exact xrw_z C s3 (And.left h) (And.right h) hP hS dX8_freeDesk_50
set_option maxHeartbeats 4000000 in
set_option maxRecDepth 100000 in
theorem c_X8_freeDesk {l : Launch} {D : va_G} {K : Nat → ClassId} {h0 : Nat} {a0 : Nat → Nat} {n0 : Nat → Option Nat} {la0 : Nat → Nat} {r0 : zS} {p1 : Int32} {sz : Nat} {post : Int32 → (zS) → Prop}   (h : wp_X8_freeDesk r0 p1 post) : Met l yX8_freeDesk (Cond.code yX8_freeDesk cX8_freeDesk 2 (some .boolean) :: wsL_law) ({ frames := 3, cells := 0, slots := 0, locals := 63 } : Room) (va_Pc [.ref h0, .int p1] (xPre D vwCl (xty K) (wX8 K h0 a0 n0 la0 r0 ++ (([] : va_W))) sz)) (va_Qi (fun r (u : (zS)) => post r u) (fun (u : (zS)) t => va_P D vwCl (wX8 K h0 a0 n0 la0 u ++ (([] : va_W))) t.heap) (va_A (wX8 K h0 a0 n0 la0 r0 ++ (([] : va_W))) sz)) 0 0 (va_A (wX8 K h0 a0 n0 la0 r0 ++ (([] : va_W))) sz) := by
  refine xMet (by decide) rfl (Nat.le_of_ble_eq_true rfl) (fun p e s m args below meth c C hnm hP hD hsz ls hl => ?_)
  have hl : lv_has ls 2 [(0, .ref h0), (1, .int p1)] := hl
  obtain ⟨hx, hb, hr, hml, hown, hts, hlocks, hK, hT⟩ := id C
  subst hsz
  generalize hAe : va_A (wX8 K h0 a0 n0 la0 r0 ++ (([] : va_W))) s.heap.size = A at hD ⊢
  have hA : ∀ q : Nat, s.heap.size ≤ q → A q := fun q h => by rw [← hAe]; exact Or.inr h
  have hS : va_S A s.heap s.heap [] := va_S.rf
  have hP : va_P D vwCl (wX8 K h0 a0 n0 la0 r0 ++ (([] : va_W))) s.heap := hP
  unfold wp_X8_freeDesk at h
  refine lv_aload_n hx hb dX8_freeDesk_0 rfl (lv_at hl 0 rfl) ?_
  refine gX8_29 C hP dX8_freeDesk_1 ?_
  refine lv_iconst (v := 2) hx hb dX8_freeDesk_4 (by decide) ?_
  refine lv_icmp_ne (tgt := 36) hx hb dX8_freeDesk_5 (by decide) (fun c1 => ?_) (fun c1 => ?_)
  · replace h := And.right h c1
    exact t_X8_freeDesk_36 C hA _ _ _ _ (lv_sub hl [0, 1] rfl) hP hD hS h
  · replace h := And.left h c1
    refine lv_aload_n hx hb dX8_freeDesk_8 rfl (lv_at hl 0 rfl) ?_
    refine lv_aload_n hx hb dX8_freeDesk_9 rfl (lv_at hl 0 rfl) ?_
    refine gX8_31 C hP dX8_freeDesk_10 ?_
    refine xend_ro_i (xRunV_id (As := [.int (r0.1 31)]) (rest := []) C (c_X8_isDesk h) k_X8_isDesk mw_413 ⟨rfl, rfl⟩ ⟨Nat.le_of_ble_eq_true rfl, Nat.le_of_ble_eq_true rfl⟩ hP hD rfl rfl hl rfl rfl (Nat.le_of_ble_eq_true rfl) dX8_freeDesk_13 ⟨Nat.le_refl _, Nat.le_refl _⟩) (fun v4 h => ?_)
    refine lv_if_eq (tgt := 36) hx hb dX8_freeDesk_16 (by decide) (fun c5 => ?_) (fun c5 => ?_)
    · replace h := And.left h c5
      exact t_X8_freeDesk_36 C hA _ _ _ _ (lv_sub hl [0, 1] rfl) hP hD hS h
    · replace h := And.right h c5
      refine lv_aload_n hx hb dX8_freeDesk_19 rfl (lv_at hl 0 rfl) ?_
      refine lv_aload_n hx hb dX8_freeDesk_20 rfl (lv_at hl 0 rfl) ?_
      refine gX8_31 C hP dX8_freeDesk_21 ?_
      refine xend_ro_i (xRunV_id (As := [.int (r0.1 31)]) (rest := []) C (c_X8_sitting h) k_X8_sitting mw_417 ⟨rfl, rfl⟩ ⟨Nat.le_of_ble_eq_true rfl, Nat.le_of_ble_eq_true rfl⟩ hP hD rfl rfl hl rfl rfl (Nat.le_of_ble_eq_true rfl) dX8_freeDesk_24 ⟨Nat.le_refl _, Nat.le_refl _⟩) (fun v6 h => ?_)
      refine lv_iconst (v := -1) hx hb dX8_freeDesk_27 (by decide) ?_
      refine lv_icmp_eq (tgt := 36) hx hb dX8_freeDesk_28 (by decide) (fun c7 => ?_) (fun c7 => ?_)
      · replace h := And.left h c7
        exact t_X8_freeDesk_36 C hA _ _ _ _ (lv_sub hl [0, 1] rfl) hP hD hS h
      · replace h := And.right h c7
        refine lv_aload_n hx hb dX8_freeDesk_31 rfl (lv_at hl 0 rfl) ?_
        refine xend_rw_i_id (wf := fun (u : (zS)) => (wX8 K h0 a0 n0 la0 u ++ (([] : va_W)))) (xRunV_id (As := []) (rest := []) C (c_X8_wrong h) k_X8_wrong mw_695 ⟨rfl, rfl⟩ ⟨Nat.le_of_ble_eq_true rfl, Nat.le_of_ble_eq_true rfl⟩ hP hD rfl rfl hl rfl rfl (Nat.le_of_ble_eq_true rfl) dX8_freeDesk_32 ⟨Nat.le_refl _, Nat.le_refl _⟩) hD hS hA (fun _ => wX8_adr _ _) (fun v8 s9 H locs h hP hD hS => ?_)
        exact xrw_z C s9 (And.left h) (And.right h) hP hS dX8_freeDesk_35

def wp_X8_statement_169  (post : Int32 → (zS) → Prop) (r0 : zS) : Prop :=
  wp_X8_number r0 (1 : Int32) (0 : Int32) ((r0.1 10) - (1 : Int32)) (fun v37 s38 => (v37 = 0 → post (0 : Int32) s38) ∧ (¬ v37 = 0 → vp_in (0 : Int32) 3 ∧ (vp_in (1 : Int32) 3 ∧ (wp_X8_bars s38 (s38.2.1 33 (0 : Int32).toNatClampNeg) (s38.2.1 33 (1 : Int32).toNatClampNeg) (1 : Int32) (fun s41 => post (1 : Int32) s41)))))
def wp_X8_statement_118  (post : Int32 → (zS) → Prop) (r0 : zS) : Prop :=
  wp_X8_isWord r0 2 (fun v5 => (v5 = 0 → wp_X8_isWord r0 3 (fun v7 => (v7 = 0 → wp_X8_isWord r0 4 (fun v9 => (v9 = 0 → wp_X8_wrong r0 (fun v11 s12 => xbool v11 ∧ post v11 s12)) ∧ (¬ v9 = 0 → wp_X8_tells r0 (1 : Int32) (20 : Int32) (fun v13 s14 => (v13 = 0 → post (0 : Int32) s14) ∧ (¬ v13 = 0 → vp_in (0 : Int32) 3 ∧ (wp_X8_number s14 (1 : Int32) (0 : Int32) (s14.2.1 33 (0 : Int32).toNatClampNeg) (fun v16 s17 => (v16 = 0 → post (0 : Int32) s17) ∧ (¬ v16 = 0 → wp_X8_number s17 (2 : Int32) (0 : Int32) (1000 : Int32) (fun v19 s20 => (v19 = 0 → post (0 : Int32) s20) ∧ (¬ v19 = 0 → vp_in (0 : Int32) 3 ∧ (∀ v22 : Int32, v22 = (s20.2.1 33 (0 : Int32).toNatClampNeg) → vp_in (1 : Int32) 3 ∧ (∀ v23 : Int32, v23 = ((zI s20 15 v22).2.1 33 (1 : Int32).toNatClampNeg) → vp_in (2 : Int32) 3 ∧ (∀ v24 : Int32, v24 = ((zI (zI s20 15 v22) 16 v23).2.1 33 (2 : Int32).toNatClampNeg) → post (1 : Int32) (zI (zI (zI s20 15 v22) 16 v23) 17 v24)))))))))))))) ∧ (¬ v7 = 0 → wp_X8_tells r0 (0 : Int32) ((r0.1 10) - (1 : Int32)) (fun v25 s26 => (v25 = 0 → post (0 : Int32) s26) ∧ (¬ v25 = 0 → wp_X8_freeDesk s26 (1 : Int32) (fun v28 s29 => (v28 = 0 → post (0 : Int32) s29) ∧ (¬ v28 = 0 → vp_in (0 : Int32) 3 ∧ (vp_in (1 : Int32) 3 ∧ (∀ v31 : Int32, v31 = (s29.2.1 33 (1 : Int32).toNatClampNeg) → vp_in (s29.2.1 33 (0 : Int32).toNatClampNeg) 12 ∧ (∀ j32 : Nat, j32 = (s29.2.1 33 (0 : Int32).toNatClampNeg).toNatClampNeg → post (1 : Int32) (zA s29 12 j32 v31))))))))))) ∧ (¬ v5 = 0 → wp_X8_tells r0 (0 : Int32) ((r0.1 10) - (1 : Int32)) (fun v33 s34 => (v33 = 0 → post (0 : Int32) s34) ∧ (¬ v33 = 0 → ((s34.1 29) = (2 : Int32) → vp_in (0 : Int32) 3 ∧ (((s34.1 31) = (s34.2.1 33 (0 : Int32).toNatClampNeg) → wp_X8_wrong s34 (fun v43 s44 => xbool v43 ∧ post v43 s44)) ∧ (¬ (s34.1 31) = (s34.2.1 33 (0 : Int32).toNatClampNeg) → wp_X8_statement_169  post s34))) ∧ (¬ (s34.1 29) = (2 : Int32) → wp_X8_statement_169  post s34)))))
def wp_X8_statement_46  (post : Int32 → (zS) → Prop) (r0 : zS) : Prop :=
  wp_X8_isWord r0 1 (fun v3 => (v3 = 0 → wp_X8_statement_118  post r0) ∧ (¬ v3 = 0 → ((12 : Int32) ≤ (r0.1 10) → wp_X8_statement_118  post r0) ∧ (¬ (12 : Int32) ≤ (r0.1 10) → wp_X8_tells r0 (0 : Int32) (5 : Int32) (fun v46 s47 => (v46 = 0 → post (0 : Int32) s47) ∧ (¬ v46 = 0 → wp_X8_freeDesk s47 (1 : Int32) (fun v49 s50 => (v49 = 0 → post (0 : Int32) s50) ∧ (¬ v49 = 0 → wp_X8_number s50 (2 : Int32) (0 : Int32) (9 : Int32) (fun v52 s53 => (v52 = 0 → post (0 : Int32) s53) ∧ (¬ v52 = 0 → vp_in (0 : Int32) 3 ∧ (vp_in (1 : Int32) 3 ∧ (vp_in (2 : Int32) 3 ∧ (wp_X8_addPupil s53 (s53.2.1 33 (0 : Int32).toNatClampNeg) (s53.2.1 33 (1 : Int32).toNatClampNeg) (s53.2.1 33 (2 : Int32).toNatClampNeg) (fun s56 => post (1 : Int32) s56)))))))))))))
def wp_X8_statement_41  (post : Int32 → (zS) → Prop) (r0 : zS) (x1 : Int32) (y0 : Int32) : Prop :=
  xbool x1 ∧ post x1 (zI r0 9 y0)
def wp_X8_statement (r0 : zS) (post : Int32 → (zS) → Prop) : Prop :=
  wp_X8_isWord r0 0 (fun v1 => (v1 = 0 → wp_X8_statement_46  post r0) ∧ (¬ v1 = 0 → ((r0.1 10) = 0 → wp_X8_tells r0 (2 : Int32) (4 : Int32) (fun v58 s59 => (v58 = 0 → wp_X8_statement_41  post s59 v58 (s59.1 9)) ∧ (¬ v58 = 0 → vp_in (0 : Int32) 3 ∧ (wp_X8_statement_41  post s59 v58 (s59.2.1 33 (0 : Int32).toNatClampNeg))))) ∧ (¬ (r0.1 10) = 0 → wp_X8_statement_46  post r0)))
set_option maxHeartbeats 4000000 in
set_option maxRecDepth 100000 in
theorem t_X8_statement_169 {p : Program} {l : Launch} {e : Env} {s : State} {m : MethodId} {args : Array Value} {below : List Frame} {meth : Method} {c : Code} {D : va_G} {K : Nat → ClassId} {h0 : Nat} {a0 : Nat → Nat} {n0 : Nat → Option Nat} {la0 : Nat → Nat} {post : Int32 → (zS) → Prop} {A : Nat → Prop} (C : xC p s m args meth c cX8_statement RX8 2 (some .boolean) D vwCl (xty K)) {adK adV : Nat → Nat} (hE : zE adK adV A s s.heap) (hA : ∀ q, s.heap.size ≤ q → A q) : ∀ (r0 : zS) (H : Heap) (locs : List Loc) (ls : Array Slot), lv_has ls 2 [(0, .ref h0)] → va_P D vwCl (wX8 K h0 a0 n0 la0 r0 ++ (([] : va_W))) H → va_D A (wX8 K h0 a0 n0 la0 r0 ++ (([] : va_W))) → va_S A s.heap H locs → wp_X8_statement_169  post r0 → W p l e ({ frames := 5, cells := 0, slots := 0, locals := 133 } : Room) s m args below meth c H locs 0 0 (MQ below (va_Qi (fun r (u : (zS)) => post r u) (fun (u : (zS)) t => va_P D vwCl (wX8 K h0 a0 n0 la0 u ++ (([] : va_W))) t.heap) A) args s 0 0 A) (F0 m 169 ls []) := by
  obtain ⟨hx, hb, hr, hml, hown, hts, hlocks, hK, hT⟩ := id C
  intro r0 H locs ls hl hP hD hS h
  unfold wp_X8_statement_169 at h
  refine lv_aload_n hx hb dX8_statement_169 rfl (lv_at hl 0 rfl) ?_
  refine lv_iconst (v := 1) hx hb dX8_statement_170 (by decide) ?_
  refine lv_iconst (v := 0) hx hb dX8_statement_171 (by decide) ?_
  refine lv_aload_n hx hb dX8_statement_172 rfl (lv_at hl 0 rfl) ?_
  refine gX8_10 C hP dX8_statement_173 ?_
  refine lv_iconst (v := 1) hx hb dX8_statement_176 (by decide) ?_
  refine lv_isub hx hb dX8_statement_177 ?_
  refine xend_rw_i_id (wf := fun (u : (zS)) => (wX8 K h0 a0 n0 la0 u ++ (([] : va_W)))) (xRunV_id (As := [.int (1 : Int32), .int (0 : Int32), .int ((r0.1 10) - (1 : Int32))]) (rest := []) C (c_X8_number h) k_X8_number mw_691 ⟨rfl, rfl⟩ ⟨Nat.le_of_ble_eq_true rfl, Nat.le_of_ble_eq_true rfl⟩ hP hD rfl rfl hl rfl rfl (Nat.le_of_ble_eq_true rfl) dX8_statement_178 ⟨Nat.le_refl _, Nat.le_refl _⟩) hD hS hA (fun _ => wX8_adr _ _) (fun v37 s38 H locs h hP hD hS => ?_)
  refine lv_if_ne (tgt := 186) hx hb dX8_statement_181 (by decide) (fun c39 => ?_) (fun c39 => ?_)
  · replace h := And.right h c39
    refine lv_aload_n hx hb dX8_statement_186 rfl (lv_at hl 0 rfl) ?_
    refine lv_aload_n hx hb dX8_statement_187 rfl (lv_at hl 0 rfl) ?_
    refine gX8_33 C hP dX8_statement_188 ?_
    refine lv_iconst (v := 0) hx hb dX8_statement_191 (by decide) ?_
    have hin := And.left h
    replace h := And.right h
    refine lX8_33 C hP hin dX8_statement_192 ?_
    refine lv_aload_n hx hb dX8_statement_193 rfl (lv_at hl 0 rfl) ?_
    refine gX8_33 C hP dX8_statement_194 ?_
    refine lv_iconst (v := 1) hx hb dX8_statement_197 (by decide) ?_
    have hin := And.left h
    replace h := And.right h
    refine lX8_33 C hP hin dX8_statement_198 ?_
    refine lv_iconst (v := 1) hx hb dX8_statement_199 (by decide) ?_
    refine xend_rw_v_id (wf := fun (u : (zS)) => (wX8 K h0 a0 n0 la0 u ++ (([] : va_W)))) (xRunV_id (As := [.int (s38.2.1 33 (0 : Int32).toNatClampNeg), .int (s38.2.1 33 (1 : Int32).toNatClampNeg), .int (1 : Int32)]) (rest := []) C (c_X8_bars h) k_X8_bars mw_453 ⟨rfl, rfl⟩ ⟨Nat.le_of_ble_eq_true rfl, Nat.le_of_ble_eq_true rfl⟩ hP hD rfl rfl hl rfl rfl (Nat.le_of_ble_eq_true rfl) dX8_statement_200 ⟨Nat.le_refl _, Nat.le_refl _⟩) hD hS hA (fun _ => wX8_adr _ _) (fun s41 H locs h hP hD hS => ?_)
    refine lv_iconst (v := 1) hx hb dX8_statement_203 (by decide) ?_
    exact xrw_z C s41 rfl h hP hS dX8_statement_204
  · replace h := And.left h c39
    refine lv_iconst (v := 0) hx hb dX8_statement_184 (by decide) ?_
    exact xrw_z C s38 rfl h hP hS dX8_statement_185
set_option maxHeartbeats 4000000 in
set_option maxRecDepth 100000 in
theorem t_X8_statement_118 {p : Program} {l : Launch} {e : Env} {s : State} {m : MethodId} {args : Array Value} {below : List Frame} {meth : Method} {c : Code} {D : va_G} {K : Nat → ClassId} {h0 : Nat} {a0 : Nat → Nat} {n0 : Nat → Option Nat} {la0 : Nat → Nat} {post : Int32 → (zS) → Prop} {A : Nat → Prop} (C : xC p s m args meth c cX8_statement RX8 2 (some .boolean) D vwCl (xty K)) {adK adV : Nat → Nat} (hE : zE adK adV A s s.heap) (hA : ∀ q, s.heap.size ≤ q → A q) : ∀ (r0 : zS) (H : Heap) (locs : List Loc) (ls : Array Slot), lv_has ls 2 [(0, .ref h0)] → va_P D vwCl (wX8 K h0 a0 n0 la0 r0 ++ (([] : va_W))) H → va_D A (wX8 K h0 a0 n0 la0 r0 ++ (([] : va_W))) → va_S A s.heap H locs → wp_X8_statement_118  post r0 → W p l e ({ frames := 5, cells := 0, slots := 0, locals := 133 } : Room) s m args below meth c H locs 0 0 (MQ below (va_Qi (fun r (u : (zS)) => post r u) (fun (u : (zS)) t => va_P D vwCl (wX8 K h0 a0 n0 la0 u ++ (([] : va_W))) t.heap) A) args s 0 0 A) (F0 m 118 ls []) := by
  obtain ⟨hx, hb, hr, hml, hown, hts, hlocks, hK, hT⟩ := id C
  intro r0 H locs ls hl hP hD hS h
  unfold wp_X8_statement_118 at h
  refine lv_aload_n hx hb dX8_statement_118 rfl (lv_at hl 0 rfl) ?_
  refine va_ldcS hx hb hown hE.2.2.2.2.2.2.1 dX8_statement_119 ?_
  refine xend_ro_i (xRunVE_id (As := [.ref (adK 2)]) (rest := []) C hE hS hA (c_X8_isWord (by decide) h) k_X8_isWord mw_681 ⟨rfl, rfl⟩ ⟨Nat.le_of_ble_eq_true rfl, Nat.le_of_ble_eq_true rfl⟩ hP hD (fun hw => va_recv hK hw (ci := 8) (q0 := 0) rfl rfl) hl rfl rfl (Nat.le_of_ble_eq_true rfl) dX8_statement_121 ⟨Nat.le_refl _, Nat.le_refl _⟩) (fun v5 h => ?_)
  refine lv_if_eq (tgt := 205) hx hb dX8_statement_124 (by decide) (fun c6 => ?_) (fun c6 => ?_)
  · replace h := And.left h c6
    refine lv_aload_n hx hb dX8_statement_205 rfl (lv_at hl 0 rfl) ?_
    refine va_ldcS hx hb hown hE.2.2.2.2.2.2.2.1 dX8_statement_206 ?_
    refine xend_ro_i (xRunVE_id (As := [.ref (adK 3)]) (rest := []) C hE hS hA (c_X8_isWord (by decide) h) k_X8_isWord mw_681 ⟨rfl, rfl⟩ ⟨Nat.le_of_ble_eq_true rfl, Nat.le_of_ble_eq_true rfl⟩ hP hD (fun hw => va_recv hK hw (ci := 8) (q0 := 0) rfl rfl) hl rfl rfl (Nat.le_of_ble_eq_true rfl) dX8_statement_208 ⟨Nat.le_refl _, Nat.le_refl _⟩) (fun v7 h => ?_)
    refine lv_if_eq (tgt := 257) hx hb dX8_statement_211 (by decide) (fun c8 => ?_) (fun c8 => ?_)
    · replace h := And.left h c8
      refine lv_aload_n hx hb dX8_statement_257 rfl (lv_at hl 0 rfl) ?_
      refine va_ldcS hx hb hown hE.2.2.2.2.2.2.2.2 dX8_statement_258 ?_
      refine xend_ro_i (xRunVE_id (As := [.ref (adK 4)]) (rest := []) C hE hS hA (c_X8_isWord (by decide) h) k_X8_isWord mw_681 ⟨rfl, rfl⟩ ⟨Nat.le_of_ble_eq_true rfl, Nat.le_of_ble_eq_true rfl⟩ hP hD (fun hw => va_recv hK hw (ci := 8) (q0 := 0) rfl rfl) hl rfl rfl (Nat.le_of_ble_eq_true rfl) dX8_statement_260 ⟨Nat.le_refl _, Nat.le_refl _⟩) (fun v9 h => ?_)
      refine lv_if_eq (tgt := 337) hx hb dX8_statement_263 (by decide) (fun c10 => ?_) (fun c10 => ?_)
      · replace h := And.left h c10
        refine lv_aload_n hx hb dX8_statement_337 rfl (lv_at hl 0 rfl) ?_
        refine xend_rw_i_id (wf := fun (u : (zS)) => (wX8 K h0 a0 n0 la0 u ++ (([] : va_W)))) (xRunV_id (As := []) (rest := []) C (c_X8_wrong h) k_X8_wrong mw_695 ⟨rfl, rfl⟩ ⟨Nat.le_of_ble_eq_true rfl, Nat.le_of_ble_eq_true rfl⟩ hP hD rfl rfl hl rfl rfl (Nat.le_of_ble_eq_true rfl) dX8_statement_338 ⟨Nat.le_refl _, Nat.le_refl _⟩) hD hS hA (fun _ => wX8_adr _ _) (fun v11 s12 H locs h hP hD hS => ?_)
        exact xrw_z C s12 (And.left h) (And.right h) hP hS dX8_statement_341
      · replace h := And.right h c10
        refine lv_aload_n hx hb dX8_statement_266 rfl (lv_at hl 0 rfl) ?_
        refine lv_iconst (v := 1) hx hb dX8_statement_267 (by decide) ?_
        refine lv_bipush (v := 20) hx hb dX8_statement_268 (by decide) ?_
        refine xend_rw_i_id (wf := fun (u : (zS)) => (wX8 K h0 a0 n0 la0 u ++ (([] : va_W)))) (xRunV_id (As := [.int (1 : Int32), .int (20 : Int32)]) (rest := []) C (c_X8_tells h) k_X8_tells mw_687 ⟨rfl, rfl⟩ ⟨Nat.le_of_ble_eq_true rfl, Nat.le_of_ble_eq_true rfl⟩ hP hD rfl rfl hl rfl rfl (Nat.le_of_ble_eq_true rfl) dX8_statement_270 ⟨Nat.le_refl _, Nat.le_refl _⟩) hD hS hA (fun _ => wX8_adr _ _) (fun v13 s14 H locs h hP hD hS => ?_)
        refine lv_if_eq (tgt := 303) hx hb dX8_statement_273 (by decide) (fun c15 => ?_) (fun c15 => ?_)
        · replace h := And.left h c15
          refine lv_iconst (v := 0) hx hb dX8_statement_303 (by decide) ?_
          exact xrw_z C s14 rfl h hP hS dX8_statement_304
        · replace h := And.right h c15
          refine lv_aload_n hx hb dX8_statement_276 rfl (lv_at hl 0 rfl) ?_
          refine lv_iconst (v := 1) hx hb dX8_statement_277 (by decide) ?_
          refine lv_iconst (v := 0) hx hb dX8_statement_278 (by decide) ?_
          refine lv_aload_n hx hb dX8_statement_279 rfl (lv_at hl 0 rfl) ?_
          refine gX8_33 C hP dX8_statement_280 ?_
          refine lv_iconst (v := 0) hx hb dX8_statement_283 (by decide) ?_
          have hin := And.left h
          replace h := And.right h
          refine lX8_33 C hP hin dX8_statement_284 ?_
          refine xend_rw_i_id (wf := fun (u : (zS)) => (wX8 K h0 a0 n0 la0 u ++ (([] : va_W)))) (xRunV_id (As := [.int (1 : Int32), .int (0 : Int32), .int (s14.2.1 33 (0 : Int32).toNatClampNeg)]) (rest := []) C (c_X8_number h) k_X8_number mw_691 ⟨rfl, rfl⟩ ⟨Nat.le_of_ble_eq_true rfl, Nat.le_of_ble_eq_true rfl⟩ hP hD rfl rfl hl rfl rfl (Nat.le_of_ble_eq_true rfl) dX8_statement_285 ⟨Nat.le_refl _, Nat.le_refl _⟩) hD hS hA (fun _ => wX8_adr _ _) (fun v16 s17 H locs h hP hD hS => ?_)
          refine lv_if_eq (tgt := 303) hx hb dX8_statement_288 (by decide) (fun c18 => ?_) (fun c18 => ?_)
          · replace h := And.left h c18
            refine lv_iconst (v := 0) hx hb dX8_statement_303 (by decide) ?_
            exact xrw_z C s17 rfl h hP hS dX8_statement_304
          · replace h := And.right h c18
            refine lv_aload_n hx hb dX8_statement_291 rfl (lv_at hl 0 rfl) ?_
            refine lv_iconst (v := 2) hx hb dX8_statement_292 (by decide) ?_
            refine lv_iconst (v := 0) hx hb dX8_statement_293 (by decide) ?_
            refine lv_sipush (v := 1000) hx hb dX8_statement_294 (by decide) ?_
            refine xend_rw_i_id (wf := fun (u : (zS)) => (wX8 K h0 a0 n0 la0 u ++ (([] : va_W)))) (xRunV_id (As := [.int (2 : Int32), .int (0 : Int32), .int (1000 : Int32)]) (rest := []) C (c_X8_number h) k_X8_number mw_691 ⟨rfl, rfl⟩ ⟨Nat.le_of_ble_eq_true rfl, Nat.le_of_ble_eq_true rfl⟩ hP hD rfl rfl hl rfl rfl (Nat.le_of_ble_eq_true rfl) dX8_statement_297 ⟨Nat.le_refl _, Nat.le_refl _⟩) hD hS hA (fun _ => wX8_adr _ _) (fun v19 s20 H locs h hP hD hS => ?_)
            refine lv_if_ne (tgt := 305) hx hb dX8_statement_300 (by decide) (fun c21 => ?_) (fun c21 => ?_)
            · replace h := And.right h c21
              refine lv_aload_n hx hb dX8_statement_305 rfl (lv_at hl 0 rfl) ?_
              refine lv_aload_n hx hb dX8_statement_306 rfl (lv_at hl 0 rfl) ?_
              refine gX8_33 C hP dX8_statement_307 ?_
              refine lv_iconst (v := 0) hx hb dX8_statement_310 (by decide) ?_
              have hin := And.left h
              replace h := And.right h
              refine lX8_33 C hP hin dX8_statement_311 ?_
              refine lv_topi (fun v22 ev22 => ?_)
              replace h := h v22 ev22
              refine pX8_15 C hP hD hS dX8_statement_312 (fun H locs hP hD hS => ?_)
              refine lv_aload_n hx hb dX8_statement_315 rfl (lv_at hl 0 rfl) ?_
              refine lv_aload_n hx hb dX8_statement_316 rfl (lv_at hl 0 rfl) ?_
              refine gX8_33 C hP dX8_statement_317 ?_
              refine lv_iconst (v := 1) hx hb dX8_statement_320 (by decide) ?_
              have hin := And.left h
              replace h := And.right h
              refine lX8_33 C hP hin dX8_statement_321 ?_
              refine lv_topi (fun v23 ev23 => ?_)
              replace h := h v23 ev23
              refine pX8_16 C hP hD hS dX8_statement_322 (fun H locs hP hD hS => ?_)
              refine lv_aload_n hx hb dX8_statement_325 rfl (lv_at hl 0 rfl) ?_
              refine lv_aload_n hx hb dX8_statement_326 rfl (lv_at hl 0 rfl) ?_
              refine gX8_33 C hP dX8_statement_327 ?_
              refine lv_iconst (v := 2) hx hb dX8_statement_330 (by decide) ?_
              have hin := And.left h
              replace h := And.right h
              refine lX8_33 C hP hin dX8_statement_331 ?_
              refine lv_topi (fun v24 ev24 => ?_)
              replace h := h v24 ev24
              refine pX8_17 C hP hD hS dX8_statement_332 (fun H locs hP hD hS => ?_)
              refine lv_iconst (v := 1) hx hb dX8_statement_335 (by decide) ?_
              exact xrw_z C (zI (zI (zI s20 15 v22) 16 v23) 17 v24) rfl h hP hS dX8_statement_336
            · replace h := And.left h c21
              refine lv_iconst (v := 0) hx hb dX8_statement_303 (by decide) ?_
              exact xrw_z C s20 rfl h hP hS dX8_statement_304
    · replace h := And.right h c8
      refine lv_aload_n hx hb dX8_statement_214 rfl (lv_at hl 0 rfl) ?_
      refine lv_iconst (v := 0) hx hb dX8_statement_215 (by decide) ?_
      refine lv_aload_n hx hb dX8_statement_216 rfl (lv_at hl 0 rfl) ?_
      refine gX8_10 C hP dX8_statement_217 ?_
      refine lv_iconst (v := 1) hx hb dX8_statement_220 (by decide) ?_
      refine lv_isub hx hb dX8_statement_221 ?_
      refine xend_rw_i_id (wf := fun (u : (zS)) => (wX8 K h0 a0 n0 la0 u ++ (([] : va_W)))) (xRunV_id (As := [.int (0 : Int32), .int ((r0.1 10) - (1 : Int32))]) (rest := []) C (c_X8_tells h) k_X8_tells mw_687 ⟨rfl, rfl⟩ ⟨Nat.le_of_ble_eq_true rfl, Nat.le_of_ble_eq_true rfl⟩ hP hD rfl rfl hl rfl rfl (Nat.le_of_ble_eq_true rfl) dX8_statement_222 ⟨Nat.le_refl _, Nat.le_refl _⟩) hD hS hA (fun _ => wX8_adr _ _) (fun v25 s26 H locs h hP hD hS => ?_)
      refine lv_if_eq (tgt := 236) hx hb dX8_statement_225 (by decide) (fun c27 => ?_) (fun c27 => ?_)
      · replace h := And.left h c27
        refine lv_iconst (v := 0) hx hb dX8_statement_236 (by decide) ?_
        exact xrw_z C s26 rfl h hP hS dX8_statement_237
      · replace h := And.right h c27
        refine lv_aload_n hx hb dX8_statement_228 rfl (lv_at hl 0 rfl) ?_
        refine lv_iconst (v := 1) hx hb dX8_statement_229 (by decide) ?_
        refine xend_rw_i_id (wf := fun (u : (zS)) => (wX8 K h0 a0 n0 la0 u ++ (([] : va_W)))) (xRunV_id (As := [.int (1 : Int32)]) (rest := []) C (c_X8_freeDesk h) k_X8_freeDesk mw_699 ⟨rfl, rfl⟩ ⟨Nat.le_of_ble_eq_true rfl, Nat.le_of_ble_eq_true rfl⟩ hP hD rfl rfl hl rfl rfl (Nat.le_of_ble_eq_true rfl) dX8_statement_230 ⟨Nat.le_refl _, Nat.le_refl _⟩) hD hS hA (fun _ => wX8_adr _ _) (fun v28 s29 H locs h hP hD hS => ?_)
        refine lv_if_ne (tgt := 238) hx hb dX8_statement_233 (by decide) (fun c30 => ?_) (fun c30 => ?_)
        · replace h := And.right h c30
          refine lv_aload_n hx hb dX8_statement_238 rfl (lv_at hl 0 rfl) ?_
          refine gX8_12 C hP dX8_statement_239 ?_
          refine lv_aload_n hx hb dX8_statement_242 rfl (lv_at hl 0 rfl) ?_
          refine gX8_33 C hP dX8_statement_243 ?_
          refine lv_iconst (v := 0) hx hb dX8_statement_246 (by decide) ?_
          have hin := And.left h
          replace h := And.right h
          refine lX8_33 C hP hin dX8_statement_247 ?_
          refine lv_aload_n hx hb dX8_statement_248 rfl (lv_at hl 0 rfl) ?_
          refine gX8_33 C hP dX8_statement_249 ?_
          refine lv_iconst (v := 1) hx hb dX8_statement_252 (by decide) ?_
          have hin := And.left h
          replace h := And.right h
          refine lX8_33 C hP hin dX8_statement_253 ?_
          refine lv_topi (fun v31 ev31 => ?_)
          replace h := h v31 ev31
          have hin := And.left h
          obtain ⟨j32, ej32⟩ : ∃ j : Nat, j = (s29.2.1 33 (0 : Int32).toNatClampNeg).toNatClampNeg := ⟨_, rfl⟩
          replace h := And.right h j32 ej32
          refine sX8_12 C hP hD hS hin ej32 dX8_statement_254 (fun H locs hP hD hS => ?_)
          refine lv_iconst (v := 1) hx hb dX8_statement_255 (by decide) ?_
          exact xrw_z C (zA s29 12 j32 v31) rfl h hP hS dX8_statement_256
        · replace h := And.left h c30
          refine lv_iconst (v := 0) hx hb dX8_statement_236 (by decide) ?_
          exact xrw_z C s29 rfl h hP hS dX8_statement_237
  · replace h := And.right h c6
    refine lv_aload_n hx hb dX8_statement_127 rfl (lv_at hl 0 rfl) ?_
    refine lv_iconst (v := 0) hx hb dX8_statement_128 (by decide) ?_
    refine lv_aload_n hx hb dX8_statement_129 rfl (lv_at hl 0 rfl) ?_
    refine gX8_10 C hP dX8_statement_130 ?_
    refine lv_iconst (v := 1) hx hb dX8_statement_133 (by decide) ?_
    refine lv_isub hx hb dX8_statement_134 ?_
    refine xend_rw_i_id (wf := fun (u : (zS)) => (wX8 K h0 a0 n0 la0 u ++ (([] : va_W)))) (xRunV_id (As := [.int (0 : Int32), .int ((r0.1 10) - (1 : Int32))]) (rest := []) C (c_X8_tells h) k_X8_tells mw_687 ⟨rfl, rfl⟩ ⟨Nat.le_of_ble_eq_true rfl, Nat.le_of_ble_eq_true rfl⟩ hP hD rfl rfl hl rfl rfl (Nat.le_of_ble_eq_true rfl) dX8_statement_135 ⟨Nat.le_refl _, Nat.le_refl _⟩) hD hS hA (fun _ => wX8_adr _ _) (fun v33 s34 H locs h hP hD hS => ?_)
    refine lv_if_ne (tgt := 143) hx hb dX8_statement_138 (by decide) (fun c35 => ?_) (fun c35 => ?_)
    · replace h := And.right h c35
      refine lv_aload_n hx hb dX8_statement_143 rfl (lv_at hl 0 rfl) ?_
      refine gX8_29 C hP dX8_statement_144 ?_
      refine lv_iconst (v := 2) hx hb dX8_statement_147 (by decide) ?_
      refine lv_icmp_ne (tgt := 169) hx hb dX8_statement_148 (by decide) (fun c36 => ?_) (fun c36 => ?_)
      · replace h := And.right h c36
        exact t_X8_statement_169 C hE hA _ _ _ _ (lv_sub hl [0] rfl) hP hD hS h
      · replace h := And.left h c36
        refine lv_aload_n hx hb dX8_statement_151 rfl (lv_at hl 0 rfl) ?_
        refine gX8_31 C hP dX8_statement_152 ?_
        refine lv_aload_n hx hb dX8_statement_155 rfl (lv_at hl 0 rfl) ?_
        refine gX8_33 C hP dX8_statement_156 ?_
        refine lv_iconst (v := 0) hx hb dX8_statement_159 (by decide) ?_
        have hin := And.left h
        replace h := And.right h
        refine lX8_33 C hP hin dX8_statement_160 ?_
        refine lv_icmp_ne (tgt := 169) hx hb dX8_statement_161 (by decide) (fun c42 => ?_) (fun c42 => ?_)
        · replace h := And.right h c42
          exact t_X8_statement_169 C hE hA _ _ _ _ (lv_sub hl [0] rfl) hP hD hS h
        · replace h := And.left h c42
          refine lv_aload_n hx hb dX8_statement_164 rfl (lv_at hl 0 rfl) ?_
          refine xend_rw_i_id (wf := fun (u : (zS)) => (wX8 K h0 a0 n0 la0 u ++ (([] : va_W)))) (xRunV_id (As := []) (rest := []) C (c_X8_wrong h) k_X8_wrong mw_695 ⟨rfl, rfl⟩ ⟨Nat.le_of_ble_eq_true rfl, Nat.le_of_ble_eq_true rfl⟩ hP hD rfl rfl hl rfl rfl (Nat.le_of_ble_eq_true rfl) dX8_statement_165 ⟨Nat.le_refl _, Nat.le_refl _⟩) hD hS hA (fun _ => wX8_adr _ _) (fun v43 s44 H locs h hP hD hS => ?_)
          exact xrw_z C s44 (And.left h) (And.right h) hP hS dX8_statement_168
    · replace h := And.left h c35
      refine lv_iconst (v := 0) hx hb dX8_statement_141 (by decide) ?_
      exact xrw_z C s34 rfl h hP hS dX8_statement_142
set_option maxHeartbeats 4000000 in
set_option maxRecDepth 100000 in
theorem t_X8_statement_46 {p : Program} {l : Launch} {e : Env} {s : State} {m : MethodId} {args : Array Value} {below : List Frame} {meth : Method} {c : Code} {D : va_G} {K : Nat → ClassId} {h0 : Nat} {a0 : Nat → Nat} {n0 : Nat → Option Nat} {la0 : Nat → Nat} {post : Int32 → (zS) → Prop} {A : Nat → Prop} (C : xC p s m args meth c cX8_statement RX8 2 (some .boolean) D vwCl (xty K)) {adK adV : Nat → Nat} (hE : zE adK adV A s s.heap) (hA : ∀ q, s.heap.size ≤ q → A q) : ∀ (r0 : zS) (H : Heap) (locs : List Loc) (ls : Array Slot), lv_has ls 2 [(0, .ref h0)] → va_P D vwCl (wX8 K h0 a0 n0 la0 r0 ++ (([] : va_W))) H → va_D A (wX8 K h0 a0 n0 la0 r0 ++ (([] : va_W))) → va_S A s.heap H locs → wp_X8_statement_46  post r0 → W p l e ({ frames := 5, cells := 0, slots := 0, locals := 133 } : Room) s m args below meth c H locs 0 0 (MQ below (va_Qi (fun r (u : (zS)) => post r u) (fun (u : (zS)) t => va_P D vwCl (wX8 K h0 a0 n0 la0 u ++ (([] : va_W))) t.heap) A) args s 0 0 A) (F0 m 46 ls []) := by
  obtain ⟨hx, hb, hr, hml, hown, hts, hlocks, hK, hT⟩ := id C
  intro r0 H locs ls hl hP hD hS h
  unfold wp_X8_statement_46 at h
  refine lv_aload_n hx hb dX8_statement_46 rfl (lv_at hl 0 rfl) ?_
  refine va_ldcS hx hb hown hE.2.2.2.2.2.1 dX8_statement_47 ?_
  refine xend_ro_i (xRunVE_id (As := [.ref (adK 1)]) (rest := []) C hE hS hA (c_X8_isWord (by decide) h) k_X8_isWord mw_681 ⟨rfl, rfl⟩ ⟨Nat.le_of_ble_eq_true rfl, Nat.le_of_ble_eq_true rfl⟩ hP hD (fun hw => va_recv hK hw (ci := 8) (q0 := 0) rfl rfl) hl rfl rfl (Nat.le_of_ble_eq_true rfl) dX8_statement_49 ⟨Nat.le_refl _, Nat.le_refl _⟩) (fun v3 h => ?_)
  refine lv_if_eq (tgt := 118) hx hb dX8_statement_52 (by decide) (fun c4 => ?_) (fun c4 => ?_)
  · replace h := And.left h c4
    exact t_X8_statement_118 C hE hA _ _ _ _ (lv_sub hl [0] rfl) hP hD hS h
  · replace h := And.right h c4
    refine lv_aload_n hx hb dX8_statement_55 rfl (lv_at hl 0 rfl) ?_
    refine gX8_10 C hP dX8_statement_56 ?_
    refine lv_bipush (v := 12) hx hb dX8_statement_59 (by decide) ?_
    refine lv_icmp_ge (tgt := 118) hx hb dX8_statement_61 (by decide) (fun c45 => ?_) (fun c45 => ?_)
    · replace h := And.left h c45
      exact t_X8_statement_118 C hE hA _ _ _ _ (lv_sub hl [0] rfl) hP hD hS h
    · replace h := And.right h c45
      refine lv_aload_n hx hb dX8_statement_64 rfl (lv_at hl 0 rfl) ?_
      refine lv_iconst (v := 0) hx hb dX8_statement_65 (by decide) ?_
      refine lv_iconst (v := 5) hx hb dX8_statement_66 (by decide) ?_
      refine xend_rw_i_id (wf := fun (u : (zS)) => (wX8 K h0 a0 n0 la0 u ++ (([] : va_W)))) (xRunV_id (As := [.int (0 : Int32), .int (5 : Int32)]) (rest := []) C (c_X8_tells h) k_X8_tells mw_687 ⟨rfl, rfl⟩ ⟨Nat.le_of_ble_eq_true rfl, Nat.le_of_ble_eq_true rfl⟩ hP hD rfl rfl hl rfl rfl (Nat.le_of_ble_eq_true rfl) dX8_statement_67 ⟨Nat.le_refl _, Nat.le_refl _⟩) hD hS hA (fun _ => wX8_adr _ _) (fun v46 s47 H locs h hP hD hS => ?_)
      refine lv_if_eq (tgt := 92) hx hb dX8_statement_70 (by decide) (fun c48 => ?_) (fun c48 => ?_)
      · replace h := And.left h c48
        refine lv_iconst (v := 0) hx hb dX8_statement_92 (by decide) ?_
        exact xrw_z C s47 rfl h hP hS dX8_statement_93
      · replace h := And.right h c48
        refine lv_aload_n hx hb dX8_statement_73 rfl (lv_at hl 0 rfl) ?_
        refine lv_iconst (v := 1) hx hb dX8_statement_74 (by decide) ?_
        refine xend_rw_i_id (wf := fun (u : (zS)) => (wX8 K h0 a0 n0 la0 u ++ (([] : va_W)))) (xRunV_id (As := [.int (1 : Int32)]) (rest := []) C (c_X8_freeDesk h) k_X8_freeDesk mw_699 ⟨rfl, rfl⟩ ⟨Nat.le_of_ble_eq_true rfl, Nat.le_of_ble_eq_true rfl⟩ hP hD rfl rfl hl rfl rfl (Nat.le_of_ble_eq_true rfl) dX8_statement_75 ⟨Nat.le_refl _, Nat.le_refl _⟩) hD hS hA (fun _ => wX8_adr _ _) (fun v49 s50 H locs h hP hD hS => ?_)
        refine lv_if_eq (tgt := 92) hx hb dX8_statement_78 (by decide) (fun c51 => ?_) (fun c51 => ?_)
        · replace h := And.left h c51
          refine lv_iconst (v := 0) hx hb dX8_statement_92 (by decide) ?_
          exact xrw_z C s50 rfl h hP hS dX8_statement_93
        · replace h := And.right h c51
          refine lv_aload_n hx hb dX8_statement_81 rfl (lv_at hl 0 rfl) ?_
          refine lv_iconst (v := 2) hx hb dX8_statement_82 (by decide) ?_
          refine lv_iconst (v := 0) hx hb dX8_statement_83 (by decide) ?_
          refine lv_bipush (v := 9) hx hb dX8_statement_84 (by decide) ?_
          refine xend_rw_i_id (wf := fun (u : (zS)) => (wX8 K h0 a0 n0 la0 u ++ (([] : va_W)))) (xRunV_id (As := [.int (2 : Int32), .int (0 : Int32), .int (9 : Int32)]) (rest := []) C (c_X8_number h) k_X8_number mw_691 ⟨rfl, rfl⟩ ⟨Nat.le_of_ble_eq_true rfl, Nat.le_of_ble_eq_true rfl⟩ hP hD rfl rfl hl rfl rfl (Nat.le_of_ble_eq_true rfl) dX8_statement_86 ⟨Nat.le_refl _, Nat.le_refl _⟩) hD hS hA (fun _ => wX8_adr _ _) (fun v52 s53 H locs h hP hD hS => ?_)
          refine lv_if_ne (tgt := 94) hx hb dX8_statement_89 (by decide) (fun c54 => ?_) (fun c54 => ?_)
          · replace h := And.right h c54
            refine lv_aload_n hx hb dX8_statement_94 rfl (lv_at hl 0 rfl) ?_
            refine lv_aload_n hx hb dX8_statement_95 rfl (lv_at hl 0 rfl) ?_
            refine gX8_33 C hP dX8_statement_96 ?_
            refine lv_iconst (v := 0) hx hb dX8_statement_99 (by decide) ?_
            have hin := And.left h
            replace h := And.right h
            refine lX8_33 C hP hin dX8_statement_100 ?_
            refine lv_aload_n hx hb dX8_statement_101 rfl (lv_at hl 0 rfl) ?_
            refine gX8_33 C hP dX8_statement_102 ?_
            refine lv_iconst (v := 1) hx hb dX8_statement_105 (by decide) ?_
            have hin := And.left h
            replace h := And.right h
            refine lX8_33 C hP hin dX8_statement_106 ?_
            refine lv_aload_n hx hb dX8_statement_107 rfl (lv_at hl 0 rfl) ?_
            refine gX8_33 C hP dX8_statement_108 ?_
            refine lv_iconst (v := 2) hx hb dX8_statement_111 (by decide) ?_
            have hin := And.left h
            replace h := And.right h
            refine lX8_33 C hP hin dX8_statement_112 ?_
            refine xend_rw_v_id (wf := fun (u : (zS)) => (wX8 K h0 a0 n0 la0 u ++ (([] : va_W)))) (xRunV_id (As := [.int (s53.2.1 33 (0 : Int32).toNatClampNeg), .int (s53.2.1 33 (1 : Int32).toNatClampNeg), .int (s53.2.1 33 (2 : Int32).toNatClampNeg)]) (rest := []) C (c_X8_addPupil h) k_X8_addPupil mw_421 ⟨rfl, rfl⟩ ⟨Nat.le_of_ble_eq_true rfl, Nat.le_of_ble_eq_true rfl⟩ hP hD rfl rfl hl rfl rfl (Nat.le_of_ble_eq_true rfl) dX8_statement_113 ⟨Nat.le_refl _, Nat.le_refl _⟩) hD hS hA (fun _ => wX8_adr _ _) (fun s56 H locs h hP hD hS => ?_)
            refine lv_iconst (v := 1) hx hb dX8_statement_116 (by decide) ?_
            exact xrw_z C s56 rfl h hP hS dX8_statement_117
          · replace h := And.left h c54
            refine lv_iconst (v := 0) hx hb dX8_statement_92 (by decide) ?_
            exact xrw_z C s53 rfl h hP hS dX8_statement_93
set_option maxHeartbeats 4000000 in
set_option maxRecDepth 100000 in
theorem t_X8_statement_41 {p : Program} {l : Launch} {e : Env} {s : State} {m : MethodId} {args : Array Value} {below : List Frame} {meth : Method} {c : Code} {D : va_G} {K : Nat → ClassId} {h0 : Nat} {a0 : Nat → Nat} {n0 : Nat → Option Nat} {la0 : Nat → Nat} {post : Int32 → (zS) → Prop} {A : Nat → Prop} (C : xC p s m args meth c cX8_statement RX8 2 (some .boolean) D vwCl (xty K)) {adK adV : Nat → Nat} (hE : zE adK adV A s s.heap) (hA : ∀ q, s.heap.size ≤ q → A q) : ∀ (r0 : zS) (x1 : Int32) (y0 : Int32) (H : Heap) (locs : List Loc) (ls : Array Slot), lv_has ls 2 [(1, .int x1)] → va_P D vwCl (wX8 K h0 a0 n0 la0 r0 ++ (([] : va_W))) H → va_D A (wX8 K h0 a0 n0 la0 r0 ++ (([] : va_W))) → va_S A s.heap H locs → wp_X8_statement_41  post r0 x1 y0 → W p l e ({ frames := 5, cells := 0, slots := 0, locals := 133 } : Room) s m args below meth c H locs 0 0 (MQ below (va_Qi (fun r (u : (zS)) => post r u) (fun (u : (zS)) t => va_P D vwCl (wX8 K h0 a0 n0 la0 u ++ (([] : va_W))) t.heap) A) args s 0 0 A) (F0 m 41 ls [.int y0, .ref h0]) := by
  obtain ⟨hx, hb, hr, hml, hown, hts, hlocks, hK, hT⟩ := id C
  intro r0 x1 y0 H locs ls hl hP hD hS h
  unfold wp_X8_statement_41 at h
  refine pX8_9 C hP hD hS dX8_statement_41 (fun H locs hP hD hS => ?_)
  refine lv_iload_n hx hb dX8_statement_44 rfl (lv_at hl 0 rfl) ?_
  exact xrw_z C (zI r0 9 y0) (And.left h) (And.right h) hP hS dX8_statement_45
set_option maxHeartbeats 4000000 in
set_option maxRecDepth 100000 in
theorem c_X8_statement {l : Launch} {D : va_G} {K : Nat → ClassId} {h0 : Nat} {a0 : Nat → Nat} {n0 : Nat → Option Nat} {la0 : Nat → Nat} {r0 : zS}  {adK adV : Nat → Nat} {sz : Nat} {post : Int32 → (zS) → Prop}   (h : wp_X8_statement r0 post) : Met l yX8_statement (Cond.code yX8_statement cX8_statement 2 (some .boolean) :: wsL_law) ({ frames := 5, cells := 0, slots := 0, locals := 133 } : Room) (va_Pc [.ref h0] (xPreE D vwCl (xty K) (wX8 K h0 a0 n0 la0 r0 ++ (([] : va_W))) sz adK adV)) (va_Qi (fun r (u : (zS)) => post r u) (fun (u : (zS)) t => va_P D vwCl (wX8 K h0 a0 n0 la0 u ++ (([] : va_W))) t.heap) (va_A (wX8 K h0 a0 n0 la0 r0 ++ (([] : va_W))) sz)) 0 0 (va_A (wX8 K h0 a0 n0 la0 r0 ++ (([] : va_W))) sz) := by
  refine xMetE (by decide) rfl (Nat.le_of_ble_eq_true rfl) (fun p e s m args below meth c C hnm hP hD hsz ls hl hE => ?_)
  have hl : lv_has ls 2 [(0, .ref h0)] := hl
  obtain ⟨hx, hb, hr, hml, hown, hts, hlocks, hK, hT⟩ := id C
  subst hsz
  generalize hAe : va_A (wX8 K h0 a0 n0 la0 r0 ++ (([] : va_W))) s.heap.size = A at hD hE ⊢
  have hA : ∀ q : Nat, s.heap.size ≤ q → A q := fun q h => by rw [← hAe]; exact Or.inr h
  have hS : va_S A s.heap s.heap [] := va_S.rf
  have hP : va_P D vwCl (wX8 K h0 a0 n0 la0 r0 ++ (([] : va_W))) s.heap := hP
  unfold wp_X8_statement at h
  refine lv_aload_n hx hb dX8_statement_0 rfl (lv_at hl 0 rfl) ?_
  refine va_ldcS hx hb hown hE.2.2.2.2.1 dX8_statement_1 ?_
  refine xend_ro_i (xRunVE_id (As := [.ref (adK 0)]) (rest := []) C hE hS hA (c_X8_isWord (by decide) h) k_X8_isWord mw_681 ⟨rfl, rfl⟩ ⟨Nat.le_of_ble_eq_true rfl, Nat.le_of_ble_eq_true rfl⟩ hP hD (fun hw => va_recv hK hw (ci := 8) (q0 := 0) rfl rfl) hl rfl rfl (Nat.le_of_ble_eq_true rfl) dX8_statement_3 ⟨Nat.le_refl _, Nat.le_refl _⟩) (fun v1 h => ?_)
  refine lv_if_eq (tgt := 46) hx hb dX8_statement_6 (by decide) (fun c2 => ?_) (fun c2 => ?_)
  · replace h := And.left h c2
    exact t_X8_statement_46 C hE hA _ _ _ _ (lv_sub hl [0] rfl) hP hD hS h
  · replace h := And.right h c2
    refine lv_aload_n hx hb dX8_statement_9 rfl (lv_at hl 0 rfl) ?_
    refine gX8_10 C hP dX8_statement_10 ?_
    refine lv_if_ne (tgt := 46) hx hb dX8_statement_13 (by decide) (fun c57 => ?_) (fun c57 => ?_)
    · replace h := And.right h c57
      exact t_X8_statement_46 C hE hA _ _ _ _ (lv_sub hl [0] rfl) hP hD hS h
    · replace h := And.left h c57
      refine lv_aload_n hx hb dX8_statement_16 rfl (lv_at hl 0 rfl) ?_
      refine lv_iconst (v := 2) hx hb dX8_statement_17 (by decide) ?_
      refine lv_iconst (v := 4) hx hb dX8_statement_18 (by decide) ?_
      refine xend_rw_i_id (wf := fun (u : (zS)) => (wX8 K h0 a0 n0 la0 u ++ (([] : va_W)))) (xRunV_id (As := [.int (2 : Int32), .int (4 : Int32)]) (rest := []) C (c_X8_tells h) k_X8_tells mw_687 ⟨rfl, rfl⟩ ⟨Nat.le_of_ble_eq_true rfl, Nat.le_of_ble_eq_true rfl⟩ hP hD rfl rfl hl rfl rfl (Nat.le_of_ble_eq_true rfl) dX8_statement_19 ⟨Nat.le_refl _, Nat.le_refl _⟩) hD hS hA (fun _ => wX8_adr _ _) (fun v58 s59 H locs h hP hD hS => ?_)
      refine lv_istore_n (lv' := [(1, .int v58), (0, .ref h0)]) hx hb dX8_statement_22 rfl hl (by decide) rfl (fun ls hl => ?_)
      refine lv_aload_n hx hb dX8_statement_23 rfl (lv_at hl 1 rfl) ?_
      refine lv_iload_n hx hb dX8_statement_24 rfl (lv_at hl 0 rfl) ?_
      refine lv_if_eq (tgt := 37) hx hb dX8_statement_25 (by decide) (fun c60 => ?_) (fun c60 => ?_)
      · replace h := And.left h c60
        refine lv_aload_n hx hb dX8_statement_37 rfl (lv_at hl 1 rfl) ?_
        refine gX8_9 C hP dX8_statement_38 ?_
        exact t_X8_statement_41 C hE hA _ _ _ _ _ _ (lv_sub hl [0] rfl) hP hD hS h
      · replace h := And.right h c60
        refine lv_aload_n hx hb dX8_statement_28 rfl (lv_at hl 1 rfl) ?_
        refine gX8_33 C hP dX8_statement_29 ?_
        refine lv_iconst (v := 0) hx hb dX8_statement_32 (by decide) ?_
        have hin := And.left h
        replace h := And.right h
        refine lX8_33 C hP hin dX8_statement_33 ?_
        refine lv_goto (tgt := 41) hx hb dX8_statement_34 (by decide) ?_
        exact t_X8_statement_41 C hE hA _ _ _ _ _ _ (lv_sub hl [0] rfl) hP hD hS h

def wb_X8_readAll_23  (post : Int32 → (zS) → Prop) (ih : (zS) → Prop) (r0 : zS) : Prop :=
  ((r0.1 29) = 0 → post (1 : Int32) r0) ∧ (¬ (r0.1 29) = 0 → ((r0.1 29) = (3 : Int32) → wp_X8_look r0 (fun s9 => wp_X8_statement s9 (fun v10 s11 => (v10 = 0 → post (0 : Int32) s11) ∧ (¬ v10 = 0 → ∀ v13 : Int32, v13 = ((s11.1 34) + (1 : Int32)) → ih (zI s11 34 v13))))) ∧ (¬ (r0.1 29) = (3 : Int32) → wp_X8_wrong r0 (fun v14 s15 => xbool v14 ∧ post v14 s15)))
def wp_X8_readAll_23  (post : Int32 → (zS) → Prop) (n : Nat) : (zS) → Prop := Nat.rec (motive := fun _ => (zS) → Prop) (fun _ => False) (fun _ ih => wb_X8_readAll_23  post ih) n
theorem wu_X8_readAll_23  (post : Int32 → (zS) → Prop) (n : Nat) (r0 : zS) : wp_X8_readAll_23  post (n + 1) r0 = wb_X8_readAll_23  post (wp_X8_readAll_23  post n) r0 := rfl
def wp_X8_readAll (r0 : zS) (post : Int32 → (zS) → Prop) : Prop :=
  wp_X8_look (zI (zI r0 34 (1 : Int32)) 28 (0 : Int32)) (fun s2 => wp_X8_statement s2 (fun v3 s4 => (v3 = 0 → post (0 : Int32) s4) ∧ (¬ v3 = 0 → ∃ n : Nat, wp_X8_readAll_23  post n s4)))
set_option maxHeartbeats 4000000 in
set_option maxRecDepth 100000 in
theorem t_X8_readAll_23 {p : Program} {l : Launch} {e : Env} {s : State} {m : MethodId} {args : Array Value} {below : List Frame} {meth : Method} {c : Code} {D : va_G} {K : Nat → ClassId} {h0 : Nat} {a0 : Nat → Nat} {n0 : Nat → Option Nat} {la0 : Nat → Nat} {post : Int32 → (zS) → Prop} {A : Nat → Prop} (C : xC p s m args meth c cX8_readAll RX8 1 (some .boolean) D vwCl (xty K)) {adK adV : Nat → Nat} (hE : zE adK adV A s s.heap) (hA : ∀ q, s.heap.size ≤ q → A q) : ∀ (n : Nat) (r0 : zS) (H : Heap) (locs : List Loc) (ls : Array Slot), lv_has ls 1 [(0, .ref h0)] → va_P D vwCl (wX8 K h0 a0 n0 la0 r0 ++ (([] : va_W))) H → va_D A (wX8 K h0 a0 n0 la0 r0 ++ (([] : va_W))) → va_S A s.heap H locs → wp_X8_readAll_23  post n r0 → W p l e ({ frames := 6, cells := 0, slots := 0, locals := 154 } : Room) s m args below meth c H locs 0 0 (MQ below (va_Qi (fun r (u : (zS)) => post r u) (fun (u : (zS)) t => va_P D vwCl (wX8 K h0 a0 n0 la0 u ++ (([] : va_W))) t.heap) A) args s 0 0 A) (F0 m 23 ls []) := by
  obtain ⟨hx, hb, hr, hml, hown, hts, hlocks, hK, hT⟩ := id C
  intro n
  induction n with
  | zero =>
    intro r0 H locs ls hl hP hD hS h
    exact False.elim h
  | succ n ihn =>
    intro r0 H locs ls hl hP hD hS h
    rw [wu_X8_readAll_23] at h
    unfold wb_X8_readAll_23 at h
    refine lv_aload_n hx hb dX8_readAll_23 rfl (lv_at hl 0 rfl) ?_
    refine gX8_29 C hP dX8_readAll_24 ?_
    refine lv_if_eq (tgt := 69) hx hb dX8_readAll_27 (by decide) (fun c6 => ?_) (fun c6 => ?_)
    · replace h := And.left h c6
      refine lv_iconst (v := 1) hx hb dX8_readAll_69 (by decide) ?_
      exact xrw_z C r0 rfl h hP hS dX8_readAll_70
    · replace h := And.right h c6
      refine lv_aload_n hx hb dX8_readAll_30 rfl (lv_at hl 0 rfl) ?_
      refine gX8_29 C hP dX8_readAll_31 ?_
      refine lv_iconst (v := 3) hx hb dX8_readAll_34 (by decide) ?_
      refine lv_icmp_eq (tgt := 43) hx hb dX8_readAll_35 (by decide) (fun c7 => ?_) (fun c7 => ?_)
      · replace h := And.left h c7
        refine lv_aload_n hx hb dX8_readAll_43 rfl (lv_at hl 0 rfl) ?_
        refine xend_rw_v_id (wf := fun (u : (zS)) => (wX8 K h0 a0 n0 la0 u ++ (([] : va_W)))) (xRunV_id (As := []) (rest := []) C (c_X8_look h) k_X8_look mw_664 ⟨rfl, rfl⟩ ⟨Nat.le_of_ble_eq_true rfl, Nat.le_of_ble_eq_true rfl⟩ hP hD rfl rfl hl rfl rfl (Nat.le_of_ble_eq_true rfl) dX8_readAll_44 ⟨Nat.le_refl _, Nat.le_refl _⟩) hD hS hA (fun _ => wX8_adr _ _) (fun s9 H locs h hP hD hS => ?_)
        refine lv_aload_n hx hb dX8_readAll_47 rfl (lv_at hl 0 rfl) ?_
        refine xend_rw_i_id (wf := fun (u : (zS)) => (wX8 K h0 a0 n0 la0 u ++ (([] : va_W)))) (xRunVE_id (As := []) (rest := []) C hE hS hA (c_X8_statement h) k_X8_statement mw_677 ⟨rfl, rfl⟩ ⟨Nat.le_of_ble_eq_true rfl, Nat.le_of_ble_eq_true rfl⟩ hP hD (fun hw => va_recv hK hw (ci := 8) (q0 := 0) rfl rfl) hl rfl rfl (Nat.le_of_ble_eq_true rfl) dX8_readAll_48 ⟨Nat.le_refl _, Nat.le_refl _⟩) hD hS hA (fun _ => wX8_adr _ _) (fun v10 s11 H locs h hP hD hS => ?_)
        refine lv_if_ne (tgt := 56) hx hb dX8_readAll_51 (by decide) (fun c12 => ?_) (fun c12 => ?_)
        · replace h := And.right h c12
          refine lv_aload_n hx hb dX8_readAll_56 rfl (lv_at hl 0 rfl) ?_
          refine lv_dup hx hb dX8_readAll_57 rfl ?_
          refine gX8_34 C hP dX8_readAll_58 ?_
          refine lv_iconst (v := 1) hx hb dX8_readAll_61 (by decide) ?_
          refine lv_iadd hx hb dX8_readAll_62 ?_
          refine lv_topi (fun v13 ev13 => ?_)
          replace h := h v13 ev13
          refine pX8_34 C hP hD hS dX8_readAll_63 (fun H locs hP hD hS => ?_)
          refine lv_goto (tgt := 23) hx hb dX8_readAll_66 (by decide) ?_
          exact ihn _ _ _ _ (lv_sub hl [0] rfl) hP hD hS h
        · replace h := And.left h c12
          refine lv_iconst (v := 0) hx hb dX8_readAll_54 (by decide) ?_
          exact xrw_z C s11 rfl h hP hS dX8_readAll_55
      · replace h := And.right h c7
        refine lv_aload_n hx hb dX8_readAll_38 rfl (lv_at hl 0 rfl) ?_
        refine xend_rw_i_id (wf := fun (u : (zS)) => (wX8 K h0 a0 n0 la0 u ++ (([] : va_W)))) (xRunV_id (As := []) (rest := []) C (c_X8_wrong h) k_X8_wrong mw_695 ⟨rfl, rfl⟩ ⟨Nat.le_of_ble_eq_true rfl, Nat.le_of_ble_eq_true rfl⟩ hP hD rfl rfl hl rfl rfl (Nat.le_of_ble_eq_true rfl) dX8_readAll_39 ⟨Nat.le_refl _, Nat.le_refl _⟩) hD hS hA (fun _ => wX8_adr _ _) (fun v14 s15 H locs h hP hD hS => ?_)
        exact xrw_z C s15 (And.left h) (And.right h) hP hS dX8_readAll_42
set_option maxHeartbeats 4000000 in
set_option maxRecDepth 100000 in
theorem c_X8_readAll {l : Launch} {D : va_G} {K : Nat → ClassId} {h0 : Nat} {a0 : Nat → Nat} {n0 : Nat → Option Nat} {la0 : Nat → Nat} {r0 : zS}  {adK adV : Nat → Nat} {sz : Nat} {post : Int32 → (zS) → Prop}   (h : wp_X8_readAll r0 post) : Met l yX8_readAll (Cond.code yX8_readAll cX8_readAll 1 (some .boolean) :: wsL_law) ({ frames := 6, cells := 0, slots := 0, locals := 154 } : Room) (va_Pc [.ref h0] (xPreE D vwCl (xty K) (wX8 K h0 a0 n0 la0 r0 ++ (([] : va_W))) sz adK adV)) (va_Qi (fun r (u : (zS)) => post r u) (fun (u : (zS)) t => va_P D vwCl (wX8 K h0 a0 n0 la0 u ++ (([] : va_W))) t.heap) (va_A (wX8 K h0 a0 n0 la0 r0 ++ (([] : va_W))) sz)) 0 0 (va_A (wX8 K h0 a0 n0 la0 r0 ++ (([] : va_W))) sz) := by
  refine xMetE (by decide) rfl (Nat.le_of_ble_eq_true rfl) (fun p e s m args below meth c C hnm hP hD hsz ls hl hE => ?_)
  have hl : lv_has ls 1 [(0, .ref h0)] := hl
  obtain ⟨hx, hb, hr, hml, hown, hts, hlocks, hK, hT⟩ := id C
  subst hsz
  generalize hAe : va_A (wX8 K h0 a0 n0 la0 r0 ++ (([] : va_W))) s.heap.size = A at hD hE ⊢
  have hA : ∀ q : Nat, s.heap.size ≤ q → A q := fun q h => by rw [← hAe]; exact Or.inr h
  have hS : va_S A s.heap s.heap [] := va_S.rf
  have hP : va_P D vwCl (wX8 K h0 a0 n0 la0 r0 ++ (([] : va_W))) s.heap := hP
  unfold wp_X8_readAll at h
  refine lv_aload_n hx hb dX8_readAll_0 rfl (lv_at hl 0 rfl) ?_
  refine lv_iconst (v := 1) hx hb dX8_readAll_1 (by decide) ?_
  refine pX8_34 C hP hD hS dX8_readAll_2 (fun H locs hP hD hS => ?_)
  refine lv_aload_n hx hb dX8_readAll_5 rfl (lv_at hl 0 rfl) ?_
  refine lv_iconst (v := 0) hx hb dX8_readAll_6 (by decide) ?_
  refine pX8_28 C hP hD hS dX8_readAll_7 (fun H locs hP hD hS => ?_)
  refine lv_aload_n hx hb dX8_readAll_10 rfl (lv_at hl 0 rfl) ?_
  refine xend_rw_v_id (wf := fun (u : (zS)) => (wX8 K h0 a0 n0 la0 u ++ (([] : va_W)))) (xRunV_id (As := []) (rest := []) C (c_X8_look h) k_X8_look mw_664 ⟨rfl, rfl⟩ ⟨Nat.le_of_ble_eq_true rfl, Nat.le_of_ble_eq_true rfl⟩ hP hD rfl rfl hl rfl rfl (Nat.le_of_ble_eq_true rfl) dX8_readAll_11 ⟨Nat.le_refl _, Nat.le_refl _⟩) hD hS hA (fun _ => wX8_adr _ _) (fun s2 H locs h hP hD hS => ?_)
  refine lv_aload_n hx hb dX8_readAll_14 rfl (lv_at hl 0 rfl) ?_
  refine xend_rw_i_id (wf := fun (u : (zS)) => (wX8 K h0 a0 n0 la0 u ++ (([] : va_W)))) (xRunVE_id (As := []) (rest := []) C hE hS hA (c_X8_statement h) k_X8_statement mw_677 ⟨rfl, rfl⟩ ⟨Nat.le_of_ble_eq_true rfl, Nat.le_of_ble_eq_true rfl⟩ hP hD (fun hw => va_recv hK hw (ci := 8) (q0 := 0) rfl rfl) hl rfl rfl (Nat.le_of_ble_eq_true rfl) dX8_readAll_15 ⟨Nat.le_refl _, Nat.le_refl _⟩) hD hS hA (fun _ => wX8_adr _ _) (fun v3 s4 H locs h hP hD hS => ?_)
  refine lv_if_ne (tgt := 23) hx hb dX8_readAll_18 (by decide) (fun c5 => ?_) (fun c5 => ?_)
  · replace h := And.right h c5
    obtain ⟨n0, h⟩ := h
    exact t_X8_readAll_23 C hE hA n0 _ _ _ _ (lv_sub hl [0] rfl) hP hD hS h
  · replace h := And.left h c5
    refine lv_iconst (v := 0) hx hb dX8_readAll_21 (by decide) ?_
    exact xrw_z C s4 rfl h hP hS dX8_readAll_22

def wb_X8_copied_2 (n0 : Nat) (f0 : Nat → Int32) (n1 : Nat) (post : (Nat → Int32) → Prop) (ih : (Nat → Int32) → Int32 → Prop) (f1 : Nat → Int32) (x2 : Int32) : Prop :=
  ((Int32.ofNat n0) ≤ x2 → post f1) ∧ (¬ (Int32.ofNat n0) ≤ x2 → vp_in x2 n0 ∧ (∀ v2 : Int32, v2 = (f0 x2.toNatClampNeg) → vp_in x2 n1 ∧ (∀ j3 : Nat, j3 = x2.toNatClampNeg → ∀ v4 : Int32, v4 = x2 + (1 : Int32) → ih (upd f1 j3 v2) v4)))
def wp_X8_copied_2 (n0 : Nat) (f0 : Nat → Int32) (n1 : Nat) (post : (Nat → Int32) → Prop) (n : Nat) : (Nat → Int32) → Int32 → Prop := Nat.rec (motive := fun _ => (Nat → Int32) → Int32 → Prop) (fun _ _ => False) (fun _ ih => wb_X8_copied_2 n0 f0 n1 post ih) n
theorem wu_X8_copied_2 (n0 : Nat) (f0 : Nat → Int32) (n1 : Nat) (post : (Nat → Int32) → Prop) (n : Nat) (f1 : Nat → Int32) (x2 : Int32) : wp_X8_copied_2 n0 f0 n1 post (n + 1) f1 x2 = wb_X8_copied_2 n0 f0 n1 post (wp_X8_copied_2 n0 f0 n1 post n) f1 x2 := rfl
def wp_X8_copied (n0 : Nat) (f0 : Nat → Int32) (n1 : Nat) (f1 : Nat → Int32) (post : (Nat → Int32) → Prop) : Prop :=
  ∃ n : Nat, wp_X8_copied_2 n0 f0 n1 post n f1 (0 : Int32)
set_option maxHeartbeats 4000000 in
set_option maxRecDepth 100000 in
theorem t_X8_copied_2 {p : Program} {l : Launch} {e : Env} {s : State} {m : MethodId} {args : Array Value} {below : List Frame} {meth : Method} {c : Code} {D : va_G} {K : Nat → ClassId} {h0 n0 : Nat} {f0 : Nat → Int32} {h1 n1 : Nat} {post : (Nat → Int32) → Prop} {A : Nat → Prop} (C : xC p s m args meth c cX8_copied RX8 3 none D vwCl (xty K)) (hA : ∀ q, s.heap.size ≤ q → A q) : ∀ (n : Nat) (f1 : Nat → Int32) (x2 : Int32) (H : Heap) (locs : List Loc) (ls : Array Slot), lv_has ls 3 [(0, .ref h0), (1, .ref h1), (2, .int x2)] → va_P D vwCl (wAI K h0 n0 f0 ++ (wAI K h1 n1 f1)) H → va_D A (wAI K h0 n0 f0 ++ (wAI K h1 n1 f1)) → va_S A s.heap H locs → wp_X8_copied_2 n0 f0 n1 post n f1 x2 → W p l e ({ frames := 0, cells := 0, slots := 0, locals := 0 } : Room) s m args below meth c H locs 0 0 (MQ below (va_Qv (fun (u : (Nat → Int32)) => post u) (fun (u : (Nat → Int32)) t => va_P D vwCl (wAI K h0 n0 f0 ++ (wAI K h1 n1 u)) t.heap) A) args s 0 0 A) (F0 m 2 ls []) := by
  obtain ⟨hx, hb, hr, hml, hown, hts, hlocks, hK, hT⟩ := id C
  intro n
  induction n with
  | zero =>
    intro f1 x2 H locs ls hl hP hD hS h
    exact False.elim h
  | succ n ihn =>
    intro f1 x2 H locs ls hl hP hD hS h
    rw [wu_X8_copied_2] at h
    unfold wb_X8_copied_2 at h
    refine lv_iload_n hx hb dX8_copied_2 rfl (lv_at hl 2 rfl) ?_
    refine lv_aload_n hx hb dX8_copied_3 rfl (lv_at hl 0 rfl) ?_
    refine va_alen hx hb hK hP 0 0 rfl rfl rfl dX8_copied_4 ?_
    refine lv_icmp_ge (tgt := 20) hx hb dX8_copied_5 (by decide) (fun c1 => ?_) (fun c1 => ?_)
    · replace h := And.left h c1
      exact xrw_v C f1 h hP hS dX8_copied_20
    · replace h := And.right h c1
      refine lv_aload_n hx hb dX8_copied_8 rfl (lv_at hl 1 rfl) ?_
      refine lv_iload_n hx hb dX8_copied_9 rfl (lv_at hl 2 rfl) ?_
      refine lv_aload_n hx hb dX8_copied_10 rfl (lv_at hl 0 rfl) ?_
      refine lv_iload_n hx hb dX8_copied_11 rfl (lv_at hl 2 rfl) ?_
      have hin := And.left h
      replace h := And.right h
      refine va_iald hx hb hK hP 0 0 rfl rfl hin dX8_copied_12 ?_
      refine lv_topi (fun v2 ev2 => ?_)
      replace h := h v2 ev2
      have hin := And.left h
      obtain ⟨j3, ej3⟩ : ∃ j : Nat, j = x2.toNatClampNeg := ⟨_, rfl⟩
      replace h := And.right h j3 ej3
      refine xiast hx hb hK hP hD hS 1 0 rfl rfl hin ej3 dX8_copied_13 (fun H locs hP hD hS => ?_)
      replace hP : va_P D vwCl (wAI K h0 n0 f0 ++ (wAI K h1 n1 (upd f1 j3 v2))) H := hP
      replace hD : va_D A (wAI K h0 n0 f0 ++ (wAI K h1 n1 (upd f1 j3 v2))) := hD
      obtain ⟨v4, ev4⟩ : ∃ y : Int32, y = x2 + (1 : Int32) := ⟨_, rfl⟩
      replace h := h v4 ev4
      refine lv_iinc (v := v4) (lv' := [(2, .int v4), (0, .ref h0), (1, .ref h1)]) hx hb dX8_copied_14 hl (k := 2) rfl (by rw [ev4]; rfl) (by decide) rfl (fun ls hl => ?_)
      refine lv_goto (tgt := 2) hx hb dX8_copied_17 (by decide) ?_
      exact ihn _ _ _ _ _ (lv_sub hl [1, 2, 0] rfl) hP hD hS h
set_option maxHeartbeats 4000000 in
set_option maxRecDepth 100000 in
theorem c_X8_copied {l : Launch} {D : va_G} {K : Nat → ClassId} {h0 n0 : Nat} {f0 : Nat → Int32} {h1 n1 : Nat} {f1 : Nat → Int32}  {sz : Nat} {post : (Nat → Int32) → Prop}   (h : wp_X8_copied n0 f0 n1 f1 post) : Met l yX8_copied (Cond.code yX8_copied cX8_copied 3 none :: wsL_law) ({ frames := 0, cells := 0, slots := 0, locals := 0 } : Room) (va_Pc [.ref h0, .ref h1] (xPre D vwCl (xty K) (wAI K h0 n0 f0 ++ (wAI K h1 n1 f1)) sz)) (va_Qv (fun (u : (Nat → Int32)) => post u) (fun (u : (Nat → Int32)) t => va_P D vwCl (wAI K h0 n0 f0 ++ (wAI K h1 n1 u)) t.heap) (va_A (wAI K h0 n0 f0 ++ (wAI K h1 n1 f1)) sz)) 0 0 (va_A (wAI K h0 n0 f0 ++ (wAI K h1 n1 f1)) sz) := by
  refine xMet (by decide) rfl (Nat.le_of_ble_eq_true rfl) (fun p e s m args below meth c C hnm hP hD hsz ls hl => ?_)
  have hl : lv_has ls 3 [(0, .ref h0), (1, .ref h1)] := hl
  obtain ⟨hx, hb, hr, hml, hown, hts, hlocks, hK, hT⟩ := id C
  subst hsz
  generalize hAe : va_A (wAI K h0 n0 f0 ++ (wAI K h1 n1 f1)) s.heap.size = A at hD ⊢
  have hA : ∀ q : Nat, s.heap.size ≤ q → A q := fun q h => by rw [← hAe]; exact Or.inr h
  have hS : va_S A s.heap s.heap [] := va_S.rf
  have hP : va_P D vwCl (wAI K h0 n0 f0 ++ (wAI K h1 n1 f1)) s.heap := hP
  unfold wp_X8_copied at h
  refine lv_iconst (v := 0) hx hb dX8_copied_0 (by decide) ?_
  refine lv_istore_n (lv' := [(2, .int (0 : Int32)), (0, .ref h0), (1, .ref h1)]) hx hb dX8_copied_1 rfl hl (by decide) rfl (fun ls hl => ?_)
  obtain ⟨n0, h⟩ := h
  exact t_X8_copied_2 C hA n0 _ _ _ _ _ (lv_sub hl [1, 2, 0] rfl) hP hD hS h

def wp_X8_takeFrom (r0 : zS) (r1 : zS) (post : (zS) → Prop) : Prop :=
  ∀ v1 : Int32, v1 = (r1.1 9) → ∀ v2 : Int32, v2 = (r1.1 10) → wp_X8_copied 12 (r1.2.1 11) 12 ((zI (zI r0 9 v1) 10 v2).2.1 11) (fun s4 => wp_X8_copied 12 (r1.2.1 12) 12 ((zG (zI (zI r0 9 v1) 10 v2) 11 s4).2.1 12) (fun s6 => wp_X8_copied 12 (r1.2.1 13) 12 ((zG (zG (zI (zI r0 9 v1) 10 v2) 11 s4) 12 s6).2.1 13) (fun s8 => wp_X8_copied 12 (r1.2.1 14) 12 ((zG (zG (zG (zI (zI r0 9 v1) 10 v2) 11 s4) 12 s6) 13 s8).2.1 14) (fun s10 => ∀ v11 : Int32, v11 = (r1.1 15) → ∀ v12 : Int32, v12 = (r1.1 16) → ∀ v13 : Int32, v13 = (r1.1 17) → ∀ v14 : Int32, v14 = (r1.1 18) → ∀ v15 : Int32, v15 = (r1.1 19) → ∀ v16 : Int32, v16 = (r1.1 20) → ∀ v17 : Int32, v17 = (r1.1 21) → wp_X8_copied 16 (r1.2.1 22) 16 ((zI (zI (zI (zI (zI (zI (zI (zG (zG (zG (zG (zI (zI r0 9 v1) 10 v2) 11 s4) 12 s6) 13 s8) 14 s10) 15 v11) 16 v12) 17 v13) 18 v14) 19 v15) 20 v16) 21 v17).2.1 22) (fun s19 => wp_X8_copied 16 (r1.2.1 23) 16 ((zG (zI (zI (zI (zI (zI (zI (zI (zG (zG (zG (zG (zI (zI r0 9 v1) 10 v2) 11 s4) 12 s6) 13 s8) 14 s10) 15 v11) 16 v12) 17 v13) 18 v14) 19 v15) 20 v16) 21 v17) 22 s19).2.1 23) (fun s21 => wp_X8_copied 16 (r1.2.1 24) 16 ((zG (zG (zI (zI (zI (zI (zI (zI (zI (zG (zG (zG (zG (zI (zI r0 9 v1) 10 v2) 11 s4) 12 s6) 13 s8) 14 s10) 15 v11) 16 v12) 17 v13) 18 v14) 19 v15) 20 v16) 21 v17) 22 s19) 23 s21).2.1 24) (fun s23 => ∀ v24 : Int32, v24 = (r1.1 25) → post (zI (zG (zG (zG (zI (zI (zI (zI (zI (zI (zI (zG (zG (zG (zG (zI (zI r0 9 v1) 10 v2) 11 s4) 12 s6) 13 s8) 14 s10) 15 v11) 16 v12) 17 v13) 18 v14) 19 v15) 20 v16) 21 v17) 22 s19) 23 s21) 24 s23) 25 v24))))))))
set_option maxHeartbeats 4000000 in
set_option maxRecDepth 100000 in
theorem c_X8_takeFrom {l : Launch} {D : va_G} {K : Nat → ClassId} {h0 : Nat} {a0 : Nat → Nat} {n0 : Nat → Option Nat} {la0 : Nat → Nat} {r0 : zS} {h1 : Nat} {a1 : Nat → Nat} {n1 : Nat → Option Nat} {la1 : Nat → Nat} {r1 : zS}  {sz : Nat} {post : (zS) → Prop}   (h : wp_X8_takeFrom r0 r1 post) : Met l yX8_takeFrom (Cond.code yX8_takeFrom cX8_takeFrom 2 none :: wsL_law) ({ frames := 1, cells := 0, slots := 0, locals := 22 } : Room) (va_Pc [.ref h0, .ref h1] (xPre D vwCl (xty K) (wX8 K h0 a0 n0 la0 r0 ++ (wX8 K h1 a1 n1 la1 r1 ++ (([] : va_W)))) sz)) (va_Qv (fun (u : (zS)) => post u) (fun (u : (zS)) t => va_P D vwCl (wX8 K h0 a0 n0 la0 u ++ (wX8 K h1 a1 n1 la1 r1 ++ (([] : va_W)))) t.heap) (va_A (wX8 K h0 a0 n0 la0 r0 ++ (wX8 K h1 a1 n1 la1 r1 ++ (([] : va_W)))) sz)) 0 0 (va_A (wX8 K h0 a0 n0 la0 r0 ++ (wX8 K h1 a1 n1 la1 r1 ++ (([] : va_W)))) sz) := by
  refine xMet (by decide) rfl (Nat.le_of_ble_eq_true rfl) (fun p e s m args below meth c C hnm hP hD hsz ls hl => ?_)
  have hl : lv_has ls 2 [(0, .ref h0), (1, .ref h1)] := hl
  obtain ⟨hx, hb, hr, hml, hown, hts, hlocks, hK, hT⟩ := id C
  subst hsz
  generalize hAe : va_A (wX8 K h0 a0 n0 la0 r0 ++ (wX8 K h1 a1 n1 la1 r1 ++ (([] : va_W)))) s.heap.size = A at hD ⊢
  have hA : ∀ q : Nat, s.heap.size ≤ q → A q := fun q h => by rw [← hAe]; exact Or.inr h
  have hS : va_S A s.heap s.heap [] := va_S.rf
  have hP : va_P D vwCl (wX8 K h0 a0 n0 la0 r0 ++ (wX8 K h1 a1 n1 la1 r1 ++ (([] : va_W)))) s.heap := hP
  unfold wp_X8_takeFrom at h
  refine lv_aload_n hx hb dX8_takeFrom_0 rfl (lv_at hl 0 rfl) ?_
  refine lv_aload_n hx hb dX8_takeFrom_1 rfl (lv_at hl 1 rfl) ?_
  refine va_get (D := D) (ci := 8) (v := .int (r1.1 9)) (C := RX8) (T := TX8) (N := 50) hx hb hts inlX8 hown hK hP 31 rfl rfl 9 (by decide) (hts (.fieldLink RX8 37 "UnderTheDesksModel" "rows" "I") mw_121) (fun _ h9 => h9) rfl dX8_takeFrom_2 ?_
  refine lv_topi (fun v1 ev1 => ?_)
  replace h := h v1 ev1
  refine pX8_9 C hP hD hS dX8_takeFrom_5 (fun H locs hP hD hS => ?_)
  refine lv_aload_n hx hb dX8_takeFrom_8 rfl (lv_at hl 0 rfl) ?_
  refine lv_aload_n hx hb dX8_takeFrom_9 rfl (lv_at hl 1 rfl) ?_
  refine va_get (D := D) (ci := 8) (v := .int (r1.1 10)) (C := RX8) (T := TX8) (N := 50) hx hb hts inlX8 hown hK hP 31 rfl rfl 10 (by decide) (hts (.fieldLink RX8 95 "UnderTheDesksModel" "pupils" "I") mw_266) (fun _ h9 => h9) rfl dX8_takeFrom_10 ?_
  refine lv_topi (fun v2 ev2 => ?_)
  replace h := h v2 ev2
  refine pX8_10 C hP hD hS dX8_takeFrom_13 (fun H locs hP hD hS => ?_)
  refine lv_aload_n hx hb dX8_takeFrom_16 rfl (lv_at hl 1 rfl) ?_
  refine va_get (D := D) (ci := 8) (v := .ref (a1 11)) (C := RX8) (T := TX8) (N := 50) hx hb hts inlX8 hown hK hP 31 rfl rfl 11 (by decide) (hts (.fieldLink RX8 41 "UnderTheDesksModel" "kind" "[I") mw_122) (fun _ h9 => h9) rfl dX8_takeFrom_17 ?_
  refine lv_aload_n hx hb dX8_takeFrom_20 rfl (lv_at hl 0 rfl) ?_
  refine gX8_11 C hP dX8_takeFrom_21 ?_
  refine xend_rw_v (wf := fun (u : (Nat → Int32)) => (wAI K (a1 11) 12 (r1.2.1 11) ++ (wAI K (a0 11) 12 u))) (xRunS (wc := (wAI K (a1 11) 12 (r1.2.1 11) ++ (wAI K (a0 11) 12 ((zI (zI r0 9 v1) 10 v2).2.1 11)))) (As := [.ref (a1 11), .ref (a0 11)]) (rest := []) C (c_X8_copied h) k_X8_copied mw_655 ⟨rfl, rfl⟩ ⟨Nat.le_of_ble_eq_true rfl, Nat.le_of_ble_eq_true rfl⟩ hP hD [40, 9] rfl rfl hl rfl rfl (Nat.le_of_ble_eq_true rfl) dX8_takeFrom_24 ⟨Nat.le_refl _, Nat.le_refl _⟩) hP hD hS hA [40, 9] rfl rfl (fun _ => rfl) (fun s4 H locs h hP hD hS => ?_)
  replace hP : va_P D vwCl (wX8 K h0 a0 n0 la0 (zG (zI (zI r0 9 v1) 10 v2) 11 s4) ++ (wX8 K h1 a1 n1 la1 r1 ++ (([] : va_W)))) H := hP
  replace hD : va_D A (wX8 K h0 a0 n0 la0 (zG (zI (zI r0 9 v1) 10 v2) 11 s4) ++ (wX8 K h1 a1 n1 la1 r1 ++ (([] : va_W)))) := hD
  refine lv_aload_n hx hb dX8_takeFrom_27 rfl (lv_at hl 1 rfl) ?_
  refine va_get (D := D) (ci := 8) (v := .ref (a1 12)) (C := RX8) (T := TX8) (N := 50) hx hb hts inlX8 hown hK hP 31 rfl rfl 12 (by decide) (hts (.fieldLink RX8 44 "UnderTheDesksModel" "desk" "[I") mw_123) (fun _ h9 => h9) rfl dX8_takeFrom_28 ?_
  refine lv_aload_n hx hb dX8_takeFrom_31 rfl (lv_at hl 0 rfl) ?_
  refine gX8_12 C hP dX8_takeFrom_32 ?_
  refine xend_rw_v (wf := fun (u : (Nat → Int32)) => (wAI K (a1 12) 12 (r1.2.1 12) ++ (wAI K (a0 12) 12 u))) (xRunS (wc := (wAI K (a1 12) 12 (r1.2.1 12) ++ (wAI K (a0 12) 12 ((zG (zI (zI r0 9 v1) 10 v2) 11 s4).2.1 12)))) (As := [.ref (a1 12), .ref (a0 12)]) (rest := []) C (c_X8_copied h) k_X8_copied mw_655 ⟨rfl, rfl⟩ ⟨Nat.le_of_ble_eq_true rfl, Nat.le_of_ble_eq_true rfl⟩ hP hD [41, 10] rfl rfl hl rfl rfl (Nat.le_of_ble_eq_true rfl) dX8_takeFrom_35 ⟨Nat.le_refl _, Nat.le_refl _⟩) hP hD hS hA [41, 10] rfl rfl (fun _ => rfl) (fun s6 H locs h hP hD hS => ?_)
  replace hP : va_P D vwCl (wX8 K h0 a0 n0 la0 (zG (zG (zI (zI r0 9 v1) 10 v2) 11 s4) 12 s6) ++ (wX8 K h1 a1 n1 la1 r1 ++ (([] : va_W)))) H := hP
  replace hD : va_D A (wX8 K h0 a0 n0 la0 (zG (zG (zI (zI r0 9 v1) 10 v2) 11 s4) 12 s6) ++ (wX8 K h1 a1 n1 la1 r1 ++ (([] : va_W)))) := hD
  refine lv_aload_n hx hb dX8_takeFrom_38 rfl (lv_at hl 1 rfl) ?_
  refine va_get (D := D) (ci := 8) (v := .ref (a1 13)) (C := RX8) (T := TX8) (N := 50) hx hb hts inlX8 hown hK hP 31 rfl rfl 13 (by decide) (hts (.fieldLink RX8 47 "UnderTheDesksModel" "by" "[I") mw_124) (fun _ h9 => h9) rfl dX8_takeFrom_39 ?_
  refine lv_aload_n hx hb dX8_takeFrom_42 rfl (lv_at hl 0 rfl) ?_
  refine gX8_13 C hP dX8_takeFrom_43 ?_
  refine xend_rw_v (wf := fun (u : (Nat → Int32)) => (wAI K (a1 13) 12 (r1.2.1 13) ++ (wAI K (a0 13) 12 u))) (xRunS (wc := (wAI K (a1 13) 12 (r1.2.1 13) ++ (wAI K (a0 13) 12 ((zG (zG (zI (zI r0 9 v1) 10 v2) 11 s4) 12 s6).2.1 13)))) (As := [.ref (a1 13), .ref (a0 13)]) (rest := []) C (c_X8_copied h) k_X8_copied mw_655 ⟨rfl, rfl⟩ ⟨Nat.le_of_ble_eq_true rfl, Nat.le_of_ble_eq_true rfl⟩ hP hD [42, 11] rfl rfl hl rfl rfl (Nat.le_of_ble_eq_true rfl) dX8_takeFrom_46 ⟨Nat.le_refl _, Nat.le_refl _⟩) hP hD hS hA [42, 11] rfl rfl (fun _ => rfl) (fun s8 H locs h hP hD hS => ?_)
  replace hP : va_P D vwCl (wX8 K h0 a0 n0 la0 (zG (zG (zG (zI (zI r0 9 v1) 10 v2) 11 s4) 12 s6) 13 s8) ++ (wX8 K h1 a1 n1 la1 r1 ++ (([] : va_W)))) H := hP
  replace hD : va_D A (wX8 K h0 a0 n0 la0 (zG (zG (zG (zI (zI r0 9 v1) 10 v2) 11 s4) 12 s6) 13 s8) ++ (wX8 K h1 a1 n1 la1 r1 ++ (([] : va_W)))) := hD
  refine lv_aload_n hx hb dX8_takeFrom_49 rfl (lv_at hl 1 rfl) ?_
  refine va_get (D := D) (ci := 8) (v := .ref (a1 14)) (C := RX8) (T := TX8) (N := 50) hx hb hts inlX8 hown hK hP 31 rfl rfl 14 (by decide) (hts (.fieldLink RX8 50 "UnderTheDesksModel" "barred" "[I") mw_125) (fun _ h9 => h9) rfl dX8_takeFrom_50 ?_
  refine lv_aload_n hx hb dX8_takeFrom_53 rfl (lv_at hl 0 rfl) ?_
  refine gX8_14 C hP dX8_takeFrom_54 ?_
  refine xend_rw_v (wf := fun (u : (Nat → Int32)) => (wAI K (a1 14) 12 (r1.2.1 14) ++ (wAI K (a0 14) 12 u))) (xRunS (wc := (wAI K (a1 14) 12 (r1.2.1 14) ++ (wAI K (a0 14) 12 ((zG (zG (zG (zI (zI r0 9 v1) 10 v2) 11 s4) 12 s6) 13 s8).2.1 14)))) (As := [.ref (a1 14), .ref (a0 14)]) (rest := []) C (c_X8_copied h) k_X8_copied mw_655 ⟨rfl, rfl⟩ ⟨Nat.le_of_ble_eq_true rfl, Nat.le_of_ble_eq_true rfl⟩ hP hD [43, 12] rfl rfl hl rfl rfl (Nat.le_of_ble_eq_true rfl) dX8_takeFrom_57 ⟨Nat.le_refl _, Nat.le_refl _⟩) hP hD hS hA [43, 12] rfl rfl (fun _ => rfl) (fun s10 H locs h hP hD hS => ?_)
  replace hP : va_P D vwCl (wX8 K h0 a0 n0 la0 (zG (zG (zG (zG (zI (zI r0 9 v1) 10 v2) 11 s4) 12 s6) 13 s8) 14 s10) ++ (wX8 K h1 a1 n1 la1 r1 ++ (([] : va_W)))) H := hP
  replace hD : va_D A (wX8 K h0 a0 n0 la0 (zG (zG (zG (zG (zI (zI r0 9 v1) 10 v2) 11 s4) 12 s6) 13 s8) 14 s10) ++ (wX8 K h1 a1 n1 la1 r1 ++ (([] : va_W)))) := hD
  refine lv_aload_n hx hb dX8_takeFrom_60 rfl (lv_at hl 0 rfl) ?_
  refine lv_aload_n hx hb dX8_takeFrom_61 rfl (lv_at hl 1 rfl) ?_
  refine va_get (D := D) (ci := 8) (v := .int (r1.1 15)) (C := RX8) (T := TX8) (N := 50) hx hb hts inlX8 hown hK hP 31 rfl rfl 15 (by decide) (hts (.fieldLink RX8 53 "UnderTheDesksModel" "term" "I") mw_126) (fun _ h9 => h9) rfl dX8_takeFrom_62 ?_
  refine lv_topi (fun v11 ev11 => ?_)
  replace h := h v11 ev11
  refine pX8_15 C hP hD hS dX8_takeFrom_65 (fun H locs hP hD hS => ?_)
  refine lv_aload_n hx hb dX8_takeFrom_68 rfl (lv_at hl 0 rfl) ?_
  refine lv_aload_n hx hb dX8_takeFrom_69 rfl (lv_at hl 1 rfl) ?_
  refine va_get (D := D) (ci := 8) (v := .int (r1.1 16)) (C := RX8) (T := TX8) (N := 50) hx hb hts inlX8 hown hK hP 31 rfl rfl 16 (by decide) (hts (.fieldLink RX8 56 "UnderTheDesksModel" "back" "I") mw_127) (fun _ h9 => h9) rfl dX8_takeFrom_70 ?_
  refine lv_topi (fun v12 ev12 => ?_)
  replace h := h v12 ev12
  refine pX8_16 C hP hD hS dX8_takeFrom_73 (fun H locs hP hD hS => ?_)
  refine lv_aload_n hx hb dX8_takeFrom_76 rfl (lv_at hl 0 rfl) ?_
  refine lv_aload_n hx hb dX8_takeFrom_77 rfl (lv_at hl 1 rfl) ?_
  refine va_get (D := D) (ci := 8) (v := .int (r1.1 17)) (C := RX8) (T := TX8) (N := 50) hx hb hts inlX8 hown hK hP 31 rfl rfl 17 (by decide) (hts (.fieldLink RX8 59 "UnderTheDesksModel" "eye" "I") mw_128) (fun _ h9 => h9) rfl dX8_takeFrom_78 ?_
  refine lv_topi (fun v13 ev13 => ?_)
  replace h := h v13 ev13
  refine pX8_17 C hP hD hS dX8_takeFrom_81 (fun H locs hP hD hS => ?_)
  refine lv_aload_n hx hb dX8_takeFrom_84 rfl (lv_at hl 0 rfl) ?_
  refine lv_aload_n hx hb dX8_takeFrom_85 rfl (lv_at hl 1 rfl) ?_
  refine va_get (D := D) (ci := 8) (v := .int (r1.1 18)) (C := RX8) (T := TX8) (N := 50) hx hb hts inlX8 hown hK hP 31 rfl rfl 18 (by decide) (hts (.fieldLink RX8 361 "UnderTheDesksModel" "second" "I") mw_651) (fun _ h9 => h9) rfl dX8_takeFrom_86 ?_
  refine lv_topi (fun v14 ev14 => ?_)
  replace h := h v14 ev14
  refine pX8_18 C hP hD hS dX8_takeFrom_89 (fun H locs hP hD hS => ?_)
  refine lv_aload_n hx hb dX8_takeFrom_92 rfl (lv_at hl 0 rfl) ?_
  refine lv_aload_n hx hb dX8_takeFrom_93 rfl (lv_at hl 1 rfl) ?_
  refine va_get (D := D) (ci := 8) (v := .int (r1.1 19)) (C := RX8) (T := TX8) (N := 50) hx hb hts inlX8 hown hK hP 31 rfl rfl 19 (by decide) (hts (.fieldLink RX8 370 "UnderTheDesksModel" "sent" "I") mw_652) (fun _ h9 => h9) rfl dX8_takeFrom_94 ?_
  refine lv_topi (fun v15 ev15 => ?_)
  replace h := h v15 ev15
  refine pX8_19 C hP hD hS dX8_takeFrom_97 (fun H locs hP hD hS => ?_)
  refine lv_aload_n hx hb dX8_takeFrom_100 rfl (lv_at hl 0 rfl) ?_
  refine lv_aload_n hx hb dX8_takeFrom_101 rfl (lv_at hl 1 rfl) ?_
  refine va_get (D := D) (ci := 8) (v := .int (r1.1 20)) (C := RX8) (T := TX8) (N := 50) hx hb hts inlX8 hown hK hP 31 rfl rfl 20 (by decide) (hts (.fieldLink RX8 373 "UnderTheDesksModel" "arrived" "I") mw_653) (fun _ h9 => h9) rfl dX8_takeFrom_102 ?_
  refine lv_topi (fun v16 ev16 => ?_)
  replace h := h v16 ev16
  refine pX8_20 C hP hD hS dX8_takeFrom_105 (fun H locs hP hD hS => ?_)
  refine lv_aload_n hx hb dX8_takeFrom_108 rfl (lv_at hl 0 rfl) ?_
  refine lv_aload_n hx hb dX8_takeFrom_109 rfl (lv_at hl 1 rfl) ?_
  refine va_get (D := D) (ci := 8) (v := .int (r1.1 21)) (C := RX8) (T := TX8) (N := 50) hx hb hts inlX8 hown hK hP 31 rfl rfl 21 (by decide) (hts (.fieldLink RX8 358 "UnderTheDesksModel" "notes" "I") mw_654) (fun _ h9 => h9) rfl dX8_takeFrom_110 ?_
  refine lv_topi (fun v17 ev17 => ?_)
  replace h := h v17 ev17
  refine pX8_21 C hP hD hS dX8_takeFrom_113 (fun H locs hP hD hS => ?_)
  refine lv_aload_n hx hb dX8_takeFrom_116 rfl (lv_at hl 1 rfl) ?_
  refine va_get (D := D) (ci := 8) (v := .ref (a1 22)) (C := RX8) (T := TX8) (N := 50) hx hb hts inlX8 hown hK hP 31 rfl rfl 22 (by decide) (hts (.fieldLink RX8 62 "UnderTheDesksModel" "noteAll" "[I") mw_129) (fun _ h9 => h9) rfl dX8_takeFrom_117 ?_
  refine lv_aload_n hx hb dX8_takeFrom_120 rfl (lv_at hl 0 rfl) ?_
  refine gX8_22 C hP dX8_takeFrom_121 ?_
  refine xend_rw_v (wf := fun (u : (Nat → Int32)) => (wAI K (a1 22) 16 (r1.2.1 22) ++ (wAI K (a0 22) 16 u))) (xRunS (wc := (wAI K (a1 22) 16 (r1.2.1 22) ++ (wAI K (a0 22) 16 ((zI (zI (zI (zI (zI (zI (zI (zG (zG (zG (zG (zI (zI r0 9 v1) 10 v2) 11 s4) 12 s6) 13 s8) 14 s10) 15 v11) 16 v12) 17 v13) 18 v14) 19 v15) 20 v16) 21 v17).2.1 22)))) (As := [.ref (a1 22), .ref (a0 22)]) (rest := []) C (c_X8_copied h) k_X8_copied mw_655 ⟨rfl, rfl⟩ ⟨Nat.le_of_ble_eq_true rfl, Nat.le_of_ble_eq_true rfl⟩ hP hD [44, 13] rfl rfl hl rfl rfl (Nat.le_of_ble_eq_true rfl) dX8_takeFrom_124 ⟨Nat.le_refl _, Nat.le_refl _⟩) hP hD hS hA [44, 13] rfl rfl (fun _ => rfl) (fun s19 H locs h hP hD hS => ?_)
  replace hP : va_P D vwCl (wX8 K h0 a0 n0 la0 (zG (zI (zI (zI (zI (zI (zI (zI (zG (zG (zG (zG (zI (zI r0 9 v1) 10 v2) 11 s4) 12 s6) 13 s8) 14 s10) 15 v11) 16 v12) 17 v13) 18 v14) 19 v15) 20 v16) 21 v17) 22 s19) ++ (wX8 K h1 a1 n1 la1 r1 ++ (([] : va_W)))) H := hP
  replace hD : va_D A (wX8 K h0 a0 n0 la0 (zG (zI (zI (zI (zI (zI (zI (zI (zG (zG (zG (zG (zI (zI r0 9 v1) 10 v2) 11 s4) 12 s6) 13 s8) 14 s10) 15 v11) 16 v12) 17 v13) 18 v14) 19 v15) 20 v16) 21 v17) 22 s19) ++ (wX8 K h1 a1 n1 la1 r1 ++ (([] : va_W)))) := hD
  refine lv_aload_n hx hb dX8_takeFrom_127 rfl (lv_at hl 1 rfl) ?_
  refine va_get (D := D) (ci := 8) (v := .ref (a1 23)) (C := RX8) (T := TX8) (N := 50) hx hb hts inlX8 hown hK hP 31 rfl rfl 23 (by decide) (hts (.fieldLink RX8 65 "UnderTheDesksModel" "noteBetween" "[I") mw_130) (fun _ h9 => h9) rfl dX8_takeFrom_128 ?_
  refine lv_aload_n hx hb dX8_takeFrom_131 rfl (lv_at hl 0 rfl) ?_
  refine gX8_23 C hP dX8_takeFrom_132 ?_
  refine xend_rw_v (wf := fun (u : (Nat → Int32)) => (wAI K (a1 23) 16 (r1.2.1 23) ++ (wAI K (a0 23) 16 u))) (xRunS (wc := (wAI K (a1 23) 16 (r1.2.1 23) ++ (wAI K (a0 23) 16 ((zG (zI (zI (zI (zI (zI (zI (zI (zG (zG (zG (zG (zI (zI r0 9 v1) 10 v2) 11 s4) 12 s6) 13 s8) 14 s10) 15 v11) 16 v12) 17 v13) 18 v14) 19 v15) 20 v16) 21 v17) 22 s19).2.1 23)))) (As := [.ref (a1 23), .ref (a0 23)]) (rest := []) C (c_X8_copied h) k_X8_copied mw_655 ⟨rfl, rfl⟩ ⟨Nat.le_of_ble_eq_true rfl, Nat.le_of_ble_eq_true rfl⟩ hP hD [45, 14] rfl rfl hl rfl rfl (Nat.le_of_ble_eq_true rfl) dX8_takeFrom_135 ⟨Nat.le_refl _, Nat.le_refl _⟩) hP hD hS hA [45, 14] rfl rfl (fun _ => rfl) (fun s21 H locs h hP hD hS => ?_)
  replace hP : va_P D vwCl (wX8 K h0 a0 n0 la0 (zG (zG (zI (zI (zI (zI (zI (zI (zI (zG (zG (zG (zG (zI (zI r0 9 v1) 10 v2) 11 s4) 12 s6) 13 s8) 14 s10) 15 v11) 16 v12) 17 v13) 18 v14) 19 v15) 20 v16) 21 v17) 22 s19) 23 s21) ++ (wX8 K h1 a1 n1 la1 r1 ++ (([] : va_W)))) H := hP
  replace hD : va_D A (wX8 K h0 a0 n0 la0 (zG (zG (zI (zI (zI (zI (zI (zI (zI (zG (zG (zG (zG (zI (zI r0 9 v1) 10 v2) 11 s4) 12 s6) 13 s8) 14 s10) 15 v11) 16 v12) 17 v13) 18 v14) 19 v15) 20 v16) 21 v17) 22 s19) 23 s21) ++ (wX8 K h1 a1 n1 la1 r1 ++ (([] : va_W)))) := hD
  refine lv_aload_n hx hb dX8_takeFrom_138 rfl (lv_at hl 1 rfl) ?_
  refine va_get (D := D) (ci := 8) (v := .ref (a1 24)) (C := RX8) (T := TX8) (N := 50) hx hb hts inlX8 hown hK hP 31 rfl rfl 24 (by decide) (hts (.fieldLink RX8 68 "UnderTheDesksModel" "noteCame" "[I") mw_131) (fun _ h9 => h9) rfl dX8_takeFrom_139 ?_
  refine lv_aload_n hx hb dX8_takeFrom_142 rfl (lv_at hl 0 rfl) ?_
  refine gX8_24 C hP dX8_takeFrom_143 ?_
  refine xend_rw_v (wf := fun (u : (Nat → Int32)) => (wAI K (a1 24) 16 (r1.2.1 24) ++ (wAI K (a0 24) 16 u))) (xRunS (wc := (wAI K (a1 24) 16 (r1.2.1 24) ++ (wAI K (a0 24) 16 ((zG (zG (zI (zI (zI (zI (zI (zI (zI (zG (zG (zG (zG (zI (zI r0 9 v1) 10 v2) 11 s4) 12 s6) 13 s8) 14 s10) 15 v11) 16 v12) 17 v13) 18 v14) 19 v15) 20 v16) 21 v17) 22 s19) 23 s21).2.1 24)))) (As := [.ref (a1 24), .ref (a0 24)]) (rest := []) C (c_X8_copied h) k_X8_copied mw_655 ⟨rfl, rfl⟩ ⟨Nat.le_of_ble_eq_true rfl, Nat.le_of_ble_eq_true rfl⟩ hP hD [46, 15] rfl rfl hl rfl rfl (Nat.le_of_ble_eq_true rfl) dX8_takeFrom_146 ⟨Nat.le_refl _, Nat.le_refl _⟩) hP hD hS hA [46, 15] rfl rfl (fun _ => rfl) (fun s23 H locs h hP hD hS => ?_)
  replace hP : va_P D vwCl (wX8 K h0 a0 n0 la0 (zG (zG (zG (zI (zI (zI (zI (zI (zI (zI (zG (zG (zG (zG (zI (zI r0 9 v1) 10 v2) 11 s4) 12 s6) 13 s8) 14 s10) 15 v11) 16 v12) 17 v13) 18 v14) 19 v15) 20 v16) 21 v17) 22 s19) 23 s21) 24 s23) ++ (wX8 K h1 a1 n1 la1 r1 ++ (([] : va_W)))) H := hP
  replace hD : va_D A (wX8 K h0 a0 n0 la0 (zG (zG (zG (zI (zI (zI (zI (zI (zI (zI (zG (zG (zG (zG (zI (zI r0 9 v1) 10 v2) 11 s4) 12 s6) 13 s8) 14 s10) 15 v11) 16 v12) 17 v13) 18 v14) 19 v15) 20 v16) 21 v17) 22 s19) 23 s21) 24 s23) ++ (wX8 K h1 a1 n1 la1 r1 ++ (([] : va_W)))) := hD
  refine lv_aload_n hx hb dX8_takeFrom_149 rfl (lv_at hl 0 rfl) ?_
  refine lv_aload_n hx hb dX8_takeFrom_150 rfl (lv_at hl 1 rfl) ?_
  refine va_get (D := D) (ci := 8) (v := .int (r1.1 25)) (C := RX8) (T := TX8) (N := 50) hx hb hts inlX8 hown hK hP 31 rfl rfl 25 (by decide) (hts (.fieldLink RX8 71 "UnderTheDesksModel" "seed" "I") mw_132) (fun _ h9 => h9) rfl dX8_takeFrom_151 ?_
  refine lv_topi (fun v24 ev24 => ?_)
  replace h := h v24 ev24
  refine pX8_25 C hP hD hS dX8_takeFrom_154 (fun H locs hP hD hS => ?_)
  exact xrw_v C (zI (zG (zG (zG (zI (zI (zI (zI (zI (zI (zI (zG (zG (zG (zG (zI (zI r0 9 v1) 10 v2) 11 s4) 12 s6) 13 s8) 14 s10) 15 v11) 16 v12) 17 v13) 18 v14) 19 v15) 20 v16) 21 v17) 22 s19) 23 s21) 24 s23) 25 v24) h hP hS dX8_takeFrom_157

def wp_X8_pupilOf (r0 : zS) (p1 : Int32) (p2 : Int32) (post : Int32 → (zS) → Prop) : Prop :=
  wp_X8_isPupil r0 (p1.toInt64) (fun v1 => (v1 = 0 → wp_X8_refuse r0 (-2 : Int32) (fun v7 s8 => post v7 s8)) ∧ (¬ v1 = 0 → (p2 = 0 → vp_in p1 12 ∧ (post (r0.2.1 11 p1.toNatClampNeg) r0)) ∧ (p2 = 1 → vp_in p1 12 ∧ (post (r0.2.1 12 p1.toNatClampNeg) r0)) ∧ (p2 = 2 → vp_in p1 12 ∧ (post (r0.2.1 13 p1.toNatClampNeg) r0)) ∧ (p2 = 3 → wp_X8_beside r0 p1 (fun v4 => post v4 r0)) ∧ (p2 = 4 → vp_in p1 12 ∧ (post (r0.2.1 14 p1.toNatClampNeg) r0)) ∧ (¬ p2 = 0 → ¬ p2 = 1 → ¬ p2 = 2 → ¬ p2 = 3 → ¬ p2 = 4 → wp_X8_refuse r0 (-2 : Int32) (fun v5 s6 => post v5 s6))))
set_option maxHeartbeats 4000000 in
set_option maxRecDepth 100000 in
theorem c_X8_pupilOf {l : Launch} {D : va_G} {K : Nat → ClassId} {h0 : Nat} {a0 : Nat → Nat} {n0 : Nat → Option Nat} {la0 : Nat → Nat} {r0 : zS} {p1 : Int32} {p2 : Int32} {sz : Nat} {post : Int32 → (zS) → Prop}   (h : wp_X8_pupilOf r0 p1 p2 post) : Met l yX8_pupilOf (Cond.code yX8_pupilOf cX8_pupilOf 3 (some .int) :: wsL_law) ({ frames := 3, cells := 0, slots := 0, locals := 68 } : Room) (va_Pc [.ref h0, .int p1, .int p2] (xPre D vwCl (xty K) (wX8 K h0 a0 n0 la0 r0 ++ (([] : va_W))) sz)) (va_Qi (fun r (u : (zS)) => post r u) (fun (u : (zS)) t => va_P D vwCl (wX8 K h0 a0 n0 la0 u ++ (([] : va_W))) t.heap) (va_A (wX8 K h0 a0 n0 la0 r0 ++ (([] : va_W))) sz)) 0 0 (va_A (wX8 K h0 a0 n0 la0 r0 ++ (([] : va_W))) sz) := by
  refine xMet (by decide) rfl (Nat.le_of_ble_eq_true rfl) (fun p e s m args below meth c C hnm hP hD hsz ls hl => ?_)
  have hl : lv_has ls 3 [(0, .ref h0), (1, .int p1), (2, .int p2)] := hl
  obtain ⟨hx, hb, hr, hml, hown, hts, hlocks, hK, hT⟩ := id C
  subst hsz
  generalize hAe : va_A (wX8 K h0 a0 n0 la0 r0 ++ (([] : va_W))) s.heap.size = A at hD ⊢
  have hA : ∀ q : Nat, s.heap.size ≤ q → A q := fun q h => by rw [← hAe]; exact Or.inr h
  have hS : va_S A s.heap s.heap [] := va_S.rf
  have hP : va_P D vwCl (wX8 K h0 a0 n0 la0 r0 ++ (([] : va_W))) s.heap := hP
  unfold wp_X8_pupilOf at h
  refine lv_aload_n hx hb dX8_pupilOf_0 rfl (lv_at hl 0 rfl) ?_
  refine lv_iload_n hx hb dX8_pupilOf_1 rfl (lv_at hl 1 rfl) ?_
  refine lv_i2l hx hb dX8_pupilOf_2 rfl ?_
  refine xend_ro_i (xRunV_id (As := [.long (p1.toInt64)]) (rest := []) C (c_X8_isPupil h) k_X8_isPupil mw_262 ⟨rfl, rfl⟩ ⟨Nat.le_of_ble_eq_true rfl, Nat.le_of_ble_eq_true rfl⟩ hP hD rfl rfl hl rfl rfl (Nat.le_of_ble_eq_true rfl) dX8_pupilOf_3 ⟨Nat.le_refl _, Nat.le_refl _⟩) (fun v1 h => ?_)
  refine lv_if_ne (tgt := 16) hx hb dX8_pupilOf_6 (by decide) (fun c2 => ?_) (fun c2 => ?_)
  · replace h := And.right h c2
    refine lv_iload_n hx hb dX8_pupilOf_16 rfl (lv_at hl 2 rfl) ?_
    rcases (Decidable.em (p2 = 0)) with c3 | c3_0
    · have c3T := xsw c3
      replace h := And.left (h) c3
      refine lv_tableIn (tgt := 52) hx hb dX8_pupilOf_17 (by rw [c3T]; decide) (by rw [c3T]; decide) (by rw [c3T] <;> rfl) (by decide) ?_
      refine lv_aload_n hx hb dX8_pupilOf_52 rfl (lv_at hl 0 rfl) ?_
      refine gX8_11 C hP dX8_pupilOf_53 ?_
      refine lv_iload_n hx hb dX8_pupilOf_56 rfl (lv_at hl 1 rfl) ?_
      have hin := And.left h
      replace h := And.right h
      refine lX8_11 C hP hin dX8_pupilOf_57 ?_
      exact xrw_i C r0 h hP hS dX8_pupilOf_58
    rcases (Decidable.em (p2 = 1)) with c3 | c3_1
    · have c3T := xsw c3
      replace h := And.left (And.right (h)) c3
      refine lv_tableIn (tgt := 59) hx hb dX8_pupilOf_17 (by rw [c3T]; decide) (by rw [c3T]; decide) (by rw [c3T] <;> rfl) (by decide) ?_
      refine lv_aload_n hx hb dX8_pupilOf_59 rfl (lv_at hl 0 rfl) ?_
      refine gX8_12 C hP dX8_pupilOf_60 ?_
      refine lv_iload_n hx hb dX8_pupilOf_63 rfl (lv_at hl 1 rfl) ?_
      have hin := And.left h
      replace h := And.right h
      refine lX8_12 C hP hin dX8_pupilOf_64 ?_
      exact xrw_i C r0 h hP hS dX8_pupilOf_65
    rcases (Decidable.em (p2 = 2)) with c3 | c3_2
    · have c3T := xsw c3
      replace h := And.left (And.right (And.right (h))) c3
      refine lv_tableIn (tgt := 66) hx hb dX8_pupilOf_17 (by rw [c3T]; decide) (by rw [c3T]; decide) (by rw [c3T] <;> rfl) (by decide) ?_
      refine lv_aload_n hx hb dX8_pupilOf_66 rfl (lv_at hl 0 rfl) ?_
      refine gX8_13 C hP dX8_pupilOf_67 ?_
      refine lv_iload_n hx hb dX8_pupilOf_70 rfl (lv_at hl 1 rfl) ?_
      have hin := And.left h
      replace h := And.right h
      refine lX8_13 C hP hin dX8_pupilOf_71 ?_
      exact xrw_i C r0 h hP hS dX8_pupilOf_72
    rcases (Decidable.em (p2 = 3)) with c3 | c3_3
    · have c3T := xsw c3
      replace h := And.left (And.right (And.right (And.right (h)))) c3
      refine lv_tableIn (tgt := 73) hx hb dX8_pupilOf_17 (by rw [c3T]; decide) (by rw [c3T]; decide) (by rw [c3T] <;> rfl) (by decide) ?_
      refine lv_aload_n hx hb dX8_pupilOf_73 rfl (lv_at hl 0 rfl) ?_
      refine lv_iload_n hx hb dX8_pupilOf_74 rfl (lv_at hl 1 rfl) ?_
      refine xend_ro_i (xRunV_id (As := [.int p1]) (rest := []) C (c_X8_beside h) k_X8_beside mw_334 ⟨rfl, rfl⟩ ⟨Nat.le_of_ble_eq_true rfl, Nat.le_of_ble_eq_true rfl⟩ hP hD rfl rfl hl rfl rfl (Nat.le_of_ble_eq_true rfl) dX8_pupilOf_75 ⟨Nat.le_refl _, Nat.le_refl _⟩) (fun v4 h => ?_)
      exact xrw_i C r0 h hP hS dX8_pupilOf_78
    rcases (Decidable.em (p2 = 4)) with c3 | c3_4
    · have c3T := xsw c3
      replace h := And.left (And.right (And.right (And.right (And.right (h))))) c3
      refine lv_tableIn (tgt := 79) hx hb dX8_pupilOf_17 (by rw [c3T]; decide) (by rw [c3T]; decide) (by rw [c3T] <;> rfl) (by decide) ?_
      refine lv_aload_n hx hb dX8_pupilOf_79 rfl (lv_at hl 0 rfl) ?_
      refine gX8_14 C hP dX8_pupilOf_80 ?_
      refine lv_iload_n hx hb dX8_pupilOf_83 rfl (lv_at hl 1 rfl) ?_
      have hin := And.left h
      replace h := And.right h
      refine lX8_14 C hP hin dX8_pupilOf_84 ?_
      exact xrw_i C r0 h hP hS dX8_pupilOf_85
    replace h := And.right (And.right (And.right (And.right (And.right (h))))) c3_0 c3_1 c3_2 c3_3 c3_4
    have c3N_0 := lv_neT (a := 0) c3_0 rfl
    have c3N_1 := lv_neT (a := 1) c3_1 rfl
    have c3N_2 := lv_neT (a := 2) c3_2 rfl
    have c3N_3 := lv_neT (a := 3) c3_3 rfl
    have c3N_4 := lv_neT (a := 4) c3_4 rfl
    refine lv_tableOut (tgt := 86) hx hb dX8_pupilOf_17 (by omega) (by decide) ?_
    refine lv_aload_n hx hb dX8_pupilOf_86 rfl (lv_at hl 0 rfl) ?_
    refine lv_bipush (v := -2) hx hb dX8_pupilOf_87 (by decide) ?_
    refine xend_rw_i_id (wf := fun (u : (zS)) => (wX8 K h0 a0 n0 la0 u ++ (([] : va_W)))) (xRunV_id (As := [.int (-2 : Int32)]) (rest := []) C (c_X8_refuse h) k_X8_refuse mw_165 ⟨rfl, rfl⟩ ⟨Nat.le_of_ble_eq_true rfl, Nat.le_of_ble_eq_true rfl⟩ hP hD rfl rfl hl rfl rfl (Nat.le_of_ble_eq_true rfl) dX8_pupilOf_89 ⟨Nat.le_refl _, Nat.le_refl _⟩) hD hS hA (fun _ => wX8_adr _ _) (fun v5 s6 H locs h hP hD hS => ?_)
    exact xrw_i C s6 h hP hS dX8_pupilOf_92
  · replace h := And.left h c2
    refine lv_aload_n hx hb dX8_pupilOf_9 rfl (lv_at hl 0 rfl) ?_
    refine lv_bipush (v := -2) hx hb dX8_pupilOf_10 (by decide) ?_
    refine xend_rw_i_id (wf := fun (u : (zS)) => (wX8 K h0 a0 n0 la0 u ++ (([] : va_W)))) (xRunV_id (As := [.int (-2 : Int32)]) (rest := []) C (c_X8_refuse h) k_X8_refuse mw_165 ⟨rfl, rfl⟩ ⟨Nat.le_of_ble_eq_true rfl, Nat.le_of_ble_eq_true rfl⟩ hP hD rfl rfl hl rfl rfl (Nat.le_of_ble_eq_true rfl) dX8_pupilOf_12 ⟨Nat.le_refl _, Nat.le_refl _⟩) hD hS hA (fun _ => wX8_adr _ _) (fun v7 s8 H locs h hP hD hS => ?_)
    exact xrw_i C s8 h hP hS dX8_pupilOf_15

def wp_X8_at (r0 : zS) (p1 : Int32) (post : Int32 → (zS) → Prop) : Prop :=
  wp_X8_isDesk r0 p1 (fun v1 => (v1 = 0 → wp_X8_refuse r0 (-2 : Int32) (fun v3 s4 => post v3 s4)) ∧ (¬ v1 = 0 → wp_X8_sitting r0 p1 (fun v5 => post v5 r0)))
set_option maxHeartbeats 4000000 in
set_option maxRecDepth 100000 in
theorem c_X8_at {l : Launch} {D : va_G} {K : Nat → ClassId} {h0 : Nat} {a0 : Nat → Nat} {n0 : Nat → Option Nat} {la0 : Nat → Nat} {r0 : zS} {p1 : Int32} {sz : Nat} {post : Int32 → (zS) → Prop}   (h : wp_X8_at r0 p1 post) : Met l yX8_at (Cond.code yX8_at cX8_at 2 (some .int) :: wsL_law) ({ frames := 2, cells := 0, slots := 0, locals := 46 } : Room) (va_Pc [.ref h0, .int p1] (xPre D vwCl (xty K) (wX8 K h0 a0 n0 la0 r0 ++ (([] : va_W))) sz)) (va_Qi (fun r (u : (zS)) => post r u) (fun (u : (zS)) t => va_P D vwCl (wX8 K h0 a0 n0 la0 u ++ (([] : va_W))) t.heap) (va_A (wX8 K h0 a0 n0 la0 r0 ++ (([] : va_W))) sz)) 0 0 (va_A (wX8 K h0 a0 n0 la0 r0 ++ (([] : va_W))) sz) := by
  refine xMet (by decide) rfl (Nat.le_of_ble_eq_true rfl) (fun p e s m args below meth c C hnm hP hD hsz ls hl => ?_)
  have hl : lv_has ls 2 [(0, .ref h0), (1, .int p1)] := hl
  obtain ⟨hx, hb, hr, hml, hown, hts, hlocks, hK, hT⟩ := id C
  subst hsz
  generalize hAe : va_A (wX8 K h0 a0 n0 la0 r0 ++ (([] : va_W))) s.heap.size = A at hD ⊢
  have hA : ∀ q : Nat, s.heap.size ≤ q → A q := fun q h => by rw [← hAe]; exact Or.inr h
  have hS : va_S A s.heap s.heap [] := va_S.rf
  have hP : va_P D vwCl (wX8 K h0 a0 n0 la0 r0 ++ (([] : va_W))) s.heap := hP
  unfold wp_X8_at at h
  refine lv_aload_n hx hb dX8_at_0 rfl (lv_at hl 0 rfl) ?_
  refine lv_iload_n hx hb dX8_at_1 rfl (lv_at hl 1 rfl) ?_
  refine xend_ro_i (xRunV_id (As := [.int p1]) (rest := []) C (c_X8_isDesk h) k_X8_isDesk mw_413 ⟨rfl, rfl⟩ ⟨Nat.le_of_ble_eq_true rfl, Nat.le_of_ble_eq_true rfl⟩ hP hD rfl rfl hl rfl rfl (Nat.le_of_ble_eq_true rfl) dX8_at_2 ⟨Nat.le_refl _, Nat.le_refl _⟩) (fun v1 h => ?_)
  refine lv_if_eq (tgt := 16) hx hb dX8_at_5 (by decide) (fun c2 => ?_) (fun c2 => ?_)
  · replace h := And.left h c2
    refine lv_aload_n hx hb dX8_at_16 rfl (lv_at hl 0 rfl) ?_
    refine lv_bipush (v := -2) hx hb dX8_at_17 (by decide) ?_
    refine xend_rw_i_id (wf := fun (u : (zS)) => (wX8 K h0 a0 n0 la0 u ++ (([] : va_W)))) (xRunV_id (As := [.int (-2 : Int32)]) (rest := []) C (c_X8_refuse h) k_X8_refuse mw_165 ⟨rfl, rfl⟩ ⟨Nat.le_of_ble_eq_true rfl, Nat.le_of_ble_eq_true rfl⟩ hP hD rfl rfl hl rfl rfl (Nat.le_of_ble_eq_true rfl) dX8_at_19 ⟨Nat.le_refl _, Nat.le_refl _⟩) hD hS hA (fun _ => wX8_adr _ _) (fun v3 s4 H locs h hP hD hS => ?_)
    exact xrw_i C s4 h hP hS dX8_at_22
  · replace h := And.right h c2
    refine lv_aload_n hx hb dX8_at_8 rfl (lv_at hl 0 rfl) ?_
    refine lv_iload_n hx hb dX8_at_9 rfl (lv_at hl 1 rfl) ?_
    refine xend_ro_i (xRunV_id (As := [.int p1]) (rest := []) C (c_X8_sitting h) k_X8_sitting mw_417 ⟨rfl, rfl⟩ ⟨Nat.le_of_ble_eq_true rfl, Nat.le_of_ble_eq_true rfl⟩ hP hD rfl rfl hl rfl rfl (Nat.le_of_ble_eq_true rfl) dX8_at_10 ⟨Nat.le_refl _, Nat.le_refl _⟩) (fun v5 h => ?_)
    refine lv_goto (tgt := 22) hx hb dX8_at_13 (by decide) ?_
    exact xrw_i C r0 h hP hS dX8_at_22

def wp_X8_looks (r0 : zS) (p1 : Int32) (post : Int32 → Prop) : Prop :=
  ¬ (r0.1 15) = 0 ∧ (((p1 - p1 / (r0.1 15) * (r0.1 15)) < (r0.1 16) → post (0 : Int32) ) ∧ (¬ (p1 - p1 / (r0.1 15) * (r0.1 15)) < (r0.1 16) → post (1 : Int32) ))
set_option maxHeartbeats 4000000 in
set_option maxRecDepth 100000 in
theorem c_X8_looks {l : Launch} {D : va_G} {K : Nat → ClassId} {h0 : Nat} {a0 : Nat → Nat} {n0 : Nat → Option Nat} {la0 : Nat → Nat} {r0 : zS} {p1 : Int32} {sz : Nat} {post : Int32 → Prop}   (h : wp_X8_looks r0 p1 post) : Met l yX8_looks (Cond.code yX8_looks cX8_looks 2 (some .boolean) :: wsL_law) ({ frames := 0, cells := 0, slots := 0, locals := 0 } : Room) (va_Pc [.ref h0, .int p1] (xPre D vwCl (xty K) (wX8 K h0 a0 n0 la0 r0 ++ (([] : va_W))) sz)) (roI post) 0 0 (fun _ => False) := by
  refine xMet (by decide) rfl (Nat.le_of_ble_eq_true rfl) (fun p e s m args below meth c C hnm hP hD hsz ls hl => ?_)
  have hl : lv_has ls 2 [(0, .ref h0), (1, .int p1)] := hl
  obtain ⟨hx, hb, hr, hml, hown, hts, hlocks, hK, hT⟩ := id C
  unfold wp_X8_looks at h
  refine lv_iload_n hx hb dX8_looks_0 rfl (lv_at hl 1 rfl) ?_
  refine lv_aload_n hx hb dX8_looks_1 rfl (lv_at hl 0 rfl) ?_
  refine gX8_15 C hP dX8_looks_2 ?_
  have hne := And.left h
  replace h := And.right h
  refine lv_irem hx hb dX8_looks_5 hne ?_
  refine lv_aload_n hx hb dX8_looks_6 rfl (lv_at hl 0 rfl) ?_
  refine gX8_16 C hP dX8_looks_7 ?_
  refine lv_icmp_lt (tgt := 17) hx hb dX8_looks_10 (by decide) (fun c1 => ?_) (fun c1 => ?_)
  · replace h := And.left h c1
    refine lv_iconst (v := 0) hx hb dX8_looks_17 (by decide) ?_
    exact xro_z C rfl h dX8_looks_18
  · replace h := And.right h c1
    refine lv_iconst (v := 1) hx hb dX8_looks_13 (by decide) ?_
    refine lv_goto (tgt := 18) hx hb dX8_looks_14 (by decide) ?_
    exact xro_z C rfl h dX8_looks_18

def wp_X8_lossAt_29 (r0 : zS) (p1 : Int32) (p2 : Int32) (p3 : Int32) (post : Int32 → Prop) (y0 : Int32) (y1 : Int32) : Prop :=
  ∀ v5 : Int32, v5 = (y1 + y0) → ((1000 : Int32) ≤ v5 → post (1000 : Int32) ) ∧ (¬ (1000 : Int32) ≤ v5 → post v5 )
def wp_X8_lossAt_13 (r0 : zS) (p1 : Int32) (p2 : Int32) (p3 : Int32) (post : Int32 → Prop) (y0 : Int32) : Prop :=
  wp_X8_looks r0 p2 (fun v3 => (v3 = 0 → wp_X8_lossAt_29 r0 p1 p2 p3 post (0 : Int32) y0) ∧ (¬ v3 = 0 → wp_X8_lossAt_29 r0 p1 p2 p3 post (r0.1 17) y0))
def wp_X8_lossAt (r0 : zS) (p1 : Int32) (p2 : Int32) (p3 : Int32) (post : Int32 → Prop) : Prop :=
  (p3 = 0 → wp_X8_lossOf r0 p1 (fun v2 => wp_X8_lossAt_13 r0 p1 p2 p3 post v2)) ∧ (¬ p3 = 0 → wp_X8_lossAt_13 r0 p1 p2 p3 post (0 : Int32))
set_option maxHeartbeats 4000000 in
set_option maxRecDepth 100000 in
theorem t_X8_lossAt_29 {p : Program} {l : Launch} {e : Env} {s : State} {m : MethodId} {args : Array Value} {below : List Frame} {meth : Method} {c : Code} {D : va_G} {K : Nat → ClassId} {h0 : Nat} {a0 : Nat → Nat} {n0 : Nat → Option Nat} {la0 : Nat → Nat} {r0 : zS} {p1 : Int32} {p2 : Int32} {p3 : Int32} {post : Int32 → Prop} (C : xC p s m args meth c cX8_lossAt RX8 5 (some .int) D vwCl (xty K)) (hP : va_P D vwCl (wX8 K h0 a0 n0 la0 r0 ++ (([] : va_W))) s.heap) (hD : va_D (va_A (wX8 K h0 a0 n0 la0 r0 ++ (([] : va_W))) s.heap.size) (wX8 K h0 a0 n0 la0 r0 ++ (([] : va_W)))) : ∀ (y0 : Int32) (y1 : Int32) (ls : Array Slot), lv_has ls 5 [] → wp_X8_lossAt_29 r0 p1 p2 p3 post y0 y1 → W p l e ({ frames := 1, cells := 0, slots := 0, locals := 21 } : Room) s m args below meth c s.heap [] 0 0 (MQ below (roI post) args s 0 0 (fun _ => False)) (F0 m 29 ls [.int y0, .int y1]) := by
  obtain ⟨hx, hb, hr, hml, hown, hts, hlocks, hK, hT⟩ := id C
  intro y0 y1 ls hl h
  unfold wp_X8_lossAt_29 at h
  refine lv_iadd hx hb dX8_lossAt_29 ?_
  refine lv_topi (fun v5 ev5 => ?_)
  replace h := h v5 ev5
  refine lv_istore (lv' := [(4, .int v5)]) hx hb dX8_lossAt_30 hl (by decide) rfl (fun ls hl => ?_)
  refine lv_iload hx hb dX8_lossAt_32 (lv_at hl 0 rfl) ?_
  refine lv_sipush (v := 1000) hx hb dX8_lossAt_34 (by decide) ?_
  refine lv_icmp_ge (tgt := 45) hx hb dX8_lossAt_37 (by decide) (fun c6 => ?_) (fun c6 => ?_)
  · replace h := And.left h c6
    refine lv_sipush (v := 1000) hx hb dX8_lossAt_45 (by decide) ?_
    exact xro_i C h dX8_lossAt_48
  · replace h := And.right h c6
    refine lv_iload hx hb dX8_lossAt_40 (lv_at hl 0 rfl) ?_
    refine lv_goto (tgt := 48) hx hb dX8_lossAt_42 (by decide) ?_
    exact xro_i C h dX8_lossAt_48
set_option maxHeartbeats 4000000 in
set_option maxRecDepth 100000 in
theorem t_X8_lossAt_13 {p : Program} {l : Launch} {e : Env} {s : State} {m : MethodId} {args : Array Value} {below : List Frame} {meth : Method} {c : Code} {D : va_G} {K : Nat → ClassId} {h0 : Nat} {a0 : Nat → Nat} {n0 : Nat → Option Nat} {la0 : Nat → Nat} {r0 : zS} {p1 : Int32} {p2 : Int32} {p3 : Int32} {post : Int32 → Prop} (C : xC p s m args meth c cX8_lossAt RX8 5 (some .int) D vwCl (xty K)) (hP : va_P D vwCl (wX8 K h0 a0 n0 la0 r0 ++ (([] : va_W))) s.heap) (hD : va_D (va_A (wX8 K h0 a0 n0 la0 r0 ++ (([] : va_W))) s.heap.size) (wX8 K h0 a0 n0 la0 r0 ++ (([] : va_W)))) : ∀ (y0 : Int32) (ls : Array Slot), lv_has ls 5 [(0, .ref h0), (2, .int p2)] → wp_X8_lossAt_13 r0 p1 p2 p3 post y0 → W p l e ({ frames := 1, cells := 0, slots := 0, locals := 21 } : Room) s m args below meth c s.heap [] 0 0 (MQ below (roI post) args s 0 0 (fun _ => False)) (F0 m 13 ls [.int y0]) := by
  obtain ⟨hx, hb, hr, hml, hown, hts, hlocks, hK, hT⟩ := id C
  intro y0 ls hl h
  unfold wp_X8_lossAt_13 at h
  refine lv_aload_n hx hb dX8_lossAt_13 rfl (lv_at hl 0 rfl) ?_
  refine lv_iload_n hx hb dX8_lossAt_14 rfl (lv_at hl 1 rfl) ?_
  refine xend_ro_i (xRunV_id (As := [.int p2]) (rest := [.int y0]) C (c_X8_looks h) k_X8_looks mw_747 ⟨rfl, rfl⟩ ⟨Nat.le_of_ble_eq_true rfl, Nat.le_of_ble_eq_true rfl⟩ hP hD rfl rfl hl rfl rfl (Nat.le_of_ble_eq_true rfl) dX8_lossAt_15 ⟨Nat.le_refl _, Nat.le_refl _⟩) (fun v3 h => ?_)
  refine lv_if_eq (tgt := 28) hx hb dX8_lossAt_18 (by decide) (fun c4 => ?_) (fun c4 => ?_)
  · replace h := And.left h c4
    refine lv_iconst (v := 0) hx hb dX8_lossAt_28 (by decide) ?_
    exact t_X8_lossAt_29 C hP hD _ _ _ (lv_sub hl [] rfl) h
  · replace h := And.right h c4
    refine lv_aload_n hx hb dX8_lossAt_21 rfl (lv_at hl 0 rfl) ?_
    refine gX8_17 C hP dX8_lossAt_22 ?_
    refine lv_goto (tgt := 29) hx hb dX8_lossAt_25 (by decide) ?_
    exact t_X8_lossAt_29 C hP hD _ _ _ (lv_sub hl [] rfl) h
set_option maxHeartbeats 4000000 in
set_option maxRecDepth 100000 in
theorem c_X8_lossAt {l : Launch} {D : va_G} {K : Nat → ClassId} {h0 : Nat} {a0 : Nat → Nat} {n0 : Nat → Option Nat} {la0 : Nat → Nat} {r0 : zS} {p1 : Int32} {p2 : Int32} {p3 : Int32} {sz : Nat} {post : Int32 → Prop}   (h : wp_X8_lossAt r0 p1 p2 p3 post) : Met l yX8_lossAt (Cond.code yX8_lossAt cX8_lossAt 5 (some .int) :: wsL_law) ({ frames := 1, cells := 0, slots := 0, locals := 21 } : Room) (va_Pc [.ref h0, .int p1, .int p2, .int p3] (xPre D vwCl (xty K) (wX8 K h0 a0 n0 la0 r0 ++ (([] : va_W))) sz)) (roI post) 0 0 (fun _ => False) := by
  refine xMet (by decide) rfl (Nat.le_of_ble_eq_true rfl) (fun p e s m args below meth c C hnm hP hD hsz ls hl => ?_)
  have hl : lv_has ls 5 [(0, .ref h0), (1, .int p1), (2, .int p2), (3, .int p3)] := hl
  obtain ⟨hx, hb, hr, hml, hown, hts, hlocks, hK, hT⟩ := id C
  unfold wp_X8_lossAt at h
  refine lv_iload_n hx hb dX8_lossAt_0 rfl (lv_at hl 3 rfl) ?_
  refine lv_if_eq (tgt := 8) hx hb dX8_lossAt_1 (by decide) (fun c1 => ?_) (fun c1 => ?_)
  · replace h := And.left h c1
    refine lv_aload_n hx hb dX8_lossAt_8 rfl (lv_at hl 0 rfl) ?_
    refine lv_iload_n hx hb dX8_lossAt_9 rfl (lv_at hl 1 rfl) ?_
    refine xend_ro_i (xRunV_id (As := [.int p1]) (rest := []) C (c_X8_lossOf h) k_X8_lossOf mw_352 ⟨rfl, rfl⟩ ⟨Nat.le_of_ble_eq_true rfl, Nat.le_of_ble_eq_true rfl⟩ hP hD rfl rfl hl rfl rfl (Nat.le_of_ble_eq_true rfl) dX8_lossAt_10 ⟨Nat.le_refl _, Nat.le_refl _⟩) (fun v2 h => ?_)
    exact t_X8_lossAt_13 C hP hD _ _ (lv_sub hl [0, 2] rfl) h
  · replace h := And.right h c1
    refine lv_iconst (v := 0) hx hb dX8_lossAt_4 (by decide) ?_
    refine lv_goto (tgt := 13) hx hb dX8_lossAt_5 (by decide) ?_
    exact t_X8_lossAt_13 C hP hD _ _ (lv_sub hl [0, 2] rfl) h

def wp_X8_loss_31 (p1 : Int32) (p2 : Int32) (post : Int32 → (zS) → Prop) (r0 : zS) : Prop :=
  wp_X8_refuse r0 (-2 : Int32) (fun v3 s4 => post v3 s4)
def wp_X8_loss (r0 : zS) (p1 : Int32) (p2 : Int32) (post : Int32 → (zS) → Prop) : Prop :=
  wp_X8_isPupil r0 (p1.toInt64) (fun v1 => (v1 = 0 → wp_X8_loss_31 p1 p2 post r0) ∧ (¬ v1 = 0 → wp_X8_in (p2.toInt64) (0 : Int64) (9999 : Int64) (fun v5 => (v5 = 0 → wp_X8_loss_31 p1 p2 post r0) ∧ (¬ v5 = 0 → wp_X8_lossAt r0 p1 p2 (0 : Int32) (fun v7 => post v7 r0)))))
set_option maxHeartbeats 4000000 in
set_option maxRecDepth 100000 in
theorem t_X8_loss_31 {p : Program} {l : Launch} {e : Env} {s : State} {m : MethodId} {args : Array Value} {below : List Frame} {meth : Method} {c : Code} {D : va_G} {K : Nat → ClassId} {h0 : Nat} {a0 : Nat → Nat} {n0 : Nat → Option Nat} {la0 : Nat → Nat} {p1 : Int32} {p2 : Int32} {post : Int32 → (zS) → Prop} {A : Nat → Prop} (C : xC p s m args meth c cX8_loss RX8 3 (some .int) D vwCl (xty K)) (hA : ∀ q, s.heap.size ≤ q → A q) : ∀ (r0 : zS) (H : Heap) (locs : List Loc) (ls : Array Slot), lv_has ls 3 [(0, .ref h0)] → va_P D vwCl (wX8 K h0 a0 n0 la0 r0 ++ (([] : va_W))) H → va_D A (wX8 K h0 a0 n0 la0 r0 ++ (([] : va_W))) → va_S A s.heap H locs → wp_X8_loss_31 p1 p2 post r0 → W p l e ({ frames := 2, cells := 0, slots := 0, locals := 47 } : Room) s m args below meth c H locs 0 0 (MQ below (va_Qi (fun r (u : (zS)) => post r u) (fun (u : (zS)) t => va_P D vwCl (wX8 K h0 a0 n0 la0 u ++ (([] : va_W))) t.heap) A) args s 0 0 A) (F0 m 31 ls []) := by
  obtain ⟨hx, hb, hr, hml, hown, hts, hlocks, hK, hT⟩ := id C
  intro r0 H locs ls hl hP hD hS h
  unfold wp_X8_loss_31 at h
  refine lv_aload_n hx hb dX8_loss_31 rfl (lv_at hl 0 rfl) ?_
  refine lv_bipush (v := -2) hx hb dX8_loss_32 (by decide) ?_
  refine xend_rw_i_id (wf := fun (u : (zS)) => (wX8 K h0 a0 n0 la0 u ++ (([] : va_W)))) (xRunV_id (As := [.int (-2 : Int32)]) (rest := []) C (c_X8_refuse h) k_X8_refuse mw_165 ⟨rfl, rfl⟩ ⟨Nat.le_of_ble_eq_true rfl, Nat.le_of_ble_eq_true rfl⟩ hP hD rfl rfl hl rfl rfl (Nat.le_of_ble_eq_true rfl) dX8_loss_34 ⟨Nat.le_refl _, Nat.le_refl _⟩) hD hS hA (fun _ => wX8_adr _ _) (fun v3 s4 H locs h hP hD hS => ?_)
  exact xrw_i C s4 h hP hS dX8_loss_37
set_option maxHeartbeats 4000000 in
set_option maxRecDepth 100000 in
theorem c_X8_loss {l : Launch} {D : va_G} {K : Nat → ClassId} {h0 : Nat} {a0 : Nat → Nat} {n0 : Nat → Option Nat} {la0 : Nat → Nat} {r0 : zS} {p1 : Int32} {p2 : Int32} {sz : Nat} {post : Int32 → (zS) → Prop}   (h : wp_X8_loss r0 p1 p2 post) : Met l yX8_loss (Cond.code yX8_loss cX8_loss 3 (some .int) :: wsL_law) ({ frames := 2, cells := 0, slots := 0, locals := 47 } : Room) (va_Pc [.ref h0, .int p1, .int p2] (xPre D vwCl (xty K) (wX8 K h0 a0 n0 la0 r0 ++ (([] : va_W))) sz)) (va_Qi (fun r (u : (zS)) => post r u) (fun (u : (zS)) t => va_P D vwCl (wX8 K h0 a0 n0 la0 u ++ (([] : va_W))) t.heap) (va_A (wX8 K h0 a0 n0 la0 r0 ++ (([] : va_W))) sz)) 0 0 (va_A (wX8 K h0 a0 n0 la0 r0 ++ (([] : va_W))) sz) := by
  refine xMet (by decide) rfl (Nat.le_of_ble_eq_true rfl) (fun p e s m args below meth c C hnm hP hD hsz ls hl => ?_)
  have hl : lv_has ls 3 [(0, .ref h0), (1, .int p1), (2, .int p2)] := hl
  obtain ⟨hx, hb, hr, hml, hown, hts, hlocks, hK, hT⟩ := id C
  subst hsz
  generalize hAe : va_A (wX8 K h0 a0 n0 la0 r0 ++ (([] : va_W))) s.heap.size = A at hD ⊢
  have hA : ∀ q : Nat, s.heap.size ≤ q → A q := fun q h => by rw [← hAe]; exact Or.inr h
  have hS : va_S A s.heap s.heap [] := va_S.rf
  have hP : va_P D vwCl (wX8 K h0 a0 n0 la0 r0 ++ (([] : va_W))) s.heap := hP
  unfold wp_X8_loss at h
  refine lv_aload_n hx hb dX8_loss_0 rfl (lv_at hl 0 rfl) ?_
  refine lv_iload_n hx hb dX8_loss_1 rfl (lv_at hl 1 rfl) ?_
  refine lv_i2l hx hb dX8_loss_2 rfl ?_
  refine xend_ro_i (xRunV_id (As := [.long (p1.toInt64)]) (rest := []) C (c_X8_isPupil h) k_X8_isPupil mw_262 ⟨rfl, rfl⟩ ⟨Nat.le_of_ble_eq_true rfl, Nat.le_of_ble_eq_true rfl⟩ hP hD rfl rfl hl rfl rfl (Nat.le_of_ble_eq_true rfl) dX8_loss_3 ⟨Nat.le_refl _, Nat.le_refl _⟩) (fun v1 h => ?_)
  refine lv_if_eq (tgt := 31) hx hb dX8_loss_6 (by decide) (fun c2 => ?_) (fun c2 => ?_)
  · replace h := And.left h c2
    exact t_X8_loss_31 C hA _ _ _ _ (lv_sub hl [0] rfl) hP hD hS h
  · replace h := And.right h c2
    refine lv_iload_n hx hb dX8_loss_9 rfl (lv_at hl 2 rfl) ?_
    refine lv_i2l hx hb dX8_loss_10 rfl ?_
    refine lv_lconst (v := 0) hx hb dX8_loss_11 (by decide) ?_
    refine lv_ldc2 hx hb hown (hts _ mw_742) dX8_loss_12 ?_
    refine xend_ro_i (xRunS (wc := ([] : va_W)) (As := [.long (p2.toInt64), .long (0 : Int64), .long (9999 : Int64)]) (rest := []) C (c_X8_in h) k_X8_in mw_162 ⟨rfl, rfl⟩ ⟨Nat.le_of_ble_eq_true rfl, Nat.le_of_ble_eq_true rfl⟩ hP hD [] rfl rfl hl rfl rfl (Nat.le_of_ble_eq_true rfl) dX8_loss_15 ⟨Nat.le_refl _, Nat.le_refl _⟩) (fun v5 h => ?_)
    refine lv_if_eq (tgt := 31) hx hb dX8_loss_18 (by decide) (fun c6 => ?_) (fun c6 => ?_)
    · replace h := And.left h c6
      exact t_X8_loss_31 C hA _ _ _ _ (lv_sub hl [0] rfl) hP hD hS h
    · replace h := And.right h c6
      refine lv_aload_n hx hb dX8_loss_21 rfl (lv_at hl 0 rfl) ?_
      refine lv_iload_n hx hb dX8_loss_22 rfl (lv_at hl 1 rfl) ?_
      refine lv_iload_n hx hb dX8_loss_23 rfl (lv_at hl 2 rfl) ?_
      refine lv_iconst (v := 0) hx hb dX8_loss_24 (by decide) ?_
      refine xend_ro_i (xRunV_id (As := [.int p1, .int p2, .int (0 : Int32)]) (rest := []) C (c_X8_lossAt h) k_X8_lossAt mw_743 ⟨rfl, rfl⟩ ⟨Nat.le_of_ble_eq_true rfl, Nat.le_of_ble_eq_true rfl⟩ hP hD rfl rfl hl rfl rfl (Nat.le_of_ble_eq_true rfl) dX8_loss_25 ⟨Nat.le_refl _, Nat.le_refl _⟩) (fun v7 h => ?_)
      refine lv_goto (tgt := 37) hx hb dX8_loss_28 (by decide) ?_
      exact xrw_i C r0 h hP hS dX8_loss_37

def wp_X8_found_166 (p1 : Int32) (p2 : Int32) (p3 : Int32) (p4 : Int32) (p5 : Int32) (post : (zS) → Prop) (r0 : zS) : Prop :=
  ∀ v10 : Int32, v10 = ((r0.1 38) + (1 : Int32)) → post (zI r0 38 v10)
def wp_X8_found_137 (p1 : Int32) (p2 : Int32) (p3 : Int32) (p4 : Int32) (p5 : Int32) (post : (zS) → Prop) (r0 : zS) : Prop :=
  ∀ v7 : Int32, v7 = (p1 - (1 : Int32)) → wp_X8_copied 12 ((zI (zI (zI r0 42 p4) 43 v7) 44 p3).2.1 35) 12 ((zI (zI (zI r0 42 p4) 43 v7) 44 p3).2.1 45) (fun s9 => wp_X8_found_166 p1 p2 p3 p4 p5 post (zG (zI (zI (zI r0 42 p4) 43 v7) 44 p3) 45 s9))
def wp_X8_found_99 (p1 : Int32) (p2 : Int32) (p3 : Int32) (p4 : Int32) (p5 : Int32) (post : (zS) → Prop) (r0 : zS) (y0 : Int32) : Prop :=
  (((zI r0 40 y0).1 38) = 0 → wp_X8_found_137 p1 p2 p3 p4 p5 post (zI r0 40 y0)) ∧ (¬ ((zI r0 40 y0).1 38) = 0 → (((zI r0 40 y0).1 42) < p4 → wp_X8_found_137 p1 p2 p3 p4 p5 post (zI r0 40 y0)) ∧ (¬ ((zI r0 40 y0).1 42) < p4 → (p4 = ((zI r0 40 y0).1 42) → (((zI r0 40 y0).1 43) ≤ (p1 - (1 : Int32)) → wp_X8_found_166 p1 p2 p3 p4 p5 post (zI r0 40 y0)) ∧ (¬ ((zI r0 40 y0).1 43) ≤ (p1 - (1 : Int32)) → wp_X8_found_137 p1 p2 p3 p4 p5 post (zI r0 40 y0))) ∧ (¬ p4 = ((zI r0 40 y0).1 42) → wp_X8_found_166 p1 p2 p3 p4 p5 post (zI r0 40 y0))))
def wp_X8_found_90 (p1 : Int32) (p2 : Int32) (p3 : Int32) (p4 : Int32) (p5 : Int32) (post : (zS) → Prop) (r0 : zS) : Prop :=
  wp_X8_found_99 p1 p2 p3 p4 p5 post r0 p5
def wp_X8_found_70 (p1 : Int32) (p2 : Int32) (p3 : Int32) (p4 : Int32) (p5 : Int32) (post : (zS) → Prop) (r0 : zS) (y0 : Int32) : Prop :=
  (((zI r0 39 y0).1 38) = 0 → wp_X8_found_90 p1 p2 p3 p4 p5 post (zI r0 39 y0)) ∧ (¬ ((zI r0 39 y0).1 38) = 0 → (((zI r0 39 y0).1 40) ≤ p5 → wp_X8_found_99 p1 p2 p3 p4 p5 post (zI r0 39 y0) ((zI r0 39 y0).1 40)) ∧ (¬ ((zI r0 39 y0).1 40) ≤ p5 → wp_X8_found_90 p1 p2 p3 p4 p5 post (zI r0 39 y0)))
def wp_X8_found_60 (p1 : Int32) (p2 : Int32) (p3 : Int32) (p4 : Int32) (p5 : Int32) (post : (zS) → Prop) (r0 : zS) : Prop :=
  wp_X8_found_70 p1 p2 p3 p4 p5 post r0 (p1 - (1 : Int32))
def wp_X8_found_39 (p1 : Int32) (p2 : Int32) (p3 : Int32) (p4 : Int32) (p5 : Int32) (post : (zS) → Prop) (r0 : zS) (y0 : Int32) : Prop :=
  (((zI r0 41 y0).1 38) = 0 → wp_X8_found_60 p1 p2 p3 p4 p5 post (zI r0 41 y0)) ∧ (¬ ((zI r0 41 y0).1 38) = 0 → (((zI r0 41 y0).1 39) ≤ (p1 - (1 : Int32)) → wp_X8_found_70 p1 p2 p3 p4 p5 post (zI r0 41 y0) ((zI r0 41 y0).1 39)) ∧ (¬ ((zI r0 41 y0).1 39) ≤ (p1 - (1 : Int32)) → wp_X8_found_60 p1 p2 p3 p4 p5 post (zI r0 41 y0)))
def wp_X8_found (r0 : zS) (p1 : Int32) (p2 : Int32) (p3 : Int32) (p4 : Int32) (p5 : Int32) (post : (zS) → Prop) : Prop :=
  vp_in (r0.1 38) 1000 ∧ (∀ j1 : Nat, j1 = (r0.1 38).toNatClampNeg → vp_in ((zA r0 46 j1 p2).1 38) 1000 ∧ (∀ j2 : Nat, j2 = ((zA r0 46 j1 p2).1 38).toNatClampNeg → (((zA (zA r0 46 j1 p2) 47 j2 p4).1 38) = 0 → wp_X8_found_39 p1 p2 p3 p4 p5 post (zA (zA r0 46 j1 p2) 47 j2 p4) p2) ∧ (¬ ((zA (zA r0 46 j1 p2) 47 j2 p4).1 38) = 0 → wp_X8_found_39 p1 p2 p3 p4 p5 post (zA (zA r0 46 j1 p2) 47 j2 p4) (((zA (zA r0 46 j1 p2) 47 j2 p4).1 41) &&& p2))))
set_option maxHeartbeats 4000000 in
set_option maxRecDepth 100000 in
theorem t_X8_found_166 {p : Program} {l : Launch} {e : Env} {s : State} {m : MethodId} {args : Array Value} {below : List Frame} {meth : Method} {c : Code} {D : va_G} {K : Nat → ClassId} {h0 : Nat} {a0 : Nat → Nat} {n0 : Nat → Option Nat} {la0 : Nat → Nat} {p1 : Int32} {p2 : Int32} {p3 : Int32} {p4 : Int32} {p5 : Int32} {post : (zS) → Prop} {A : Nat → Prop} (C : xC p s m args meth c cX8_found RX8 6 none D vwCl (xty K)) (hA : ∀ q, s.heap.size ≤ q → A q) : ∀ (r0 : zS) (H : Heap) (locs : List Loc) (ls : Array Slot), lv_has ls 6 [(0, .ref h0)] → va_P D vwCl (wX8 K h0 a0 n0 la0 r0 ++ (([] : va_W))) H → va_D A (wX8 K h0 a0 n0 la0 r0 ++ (([] : va_W))) → va_S A s.heap H locs → wp_X8_found_166 p1 p2 p3 p4 p5 post r0 → W p l e ({ frames := 1, cells := 0, slots := 0, locals := 22 } : Room) s m args below meth c H locs 0 0 (MQ below (va_Qv (fun (u : (zS)) => post u) (fun (u : (zS)) t => va_P D vwCl (wX8 K h0 a0 n0 la0 u ++ (([] : va_W))) t.heap) A) args s 0 0 A) (F0 m 166 ls []) := by
  obtain ⟨hx, hb, hr, hml, hown, hts, hlocks, hK, hT⟩ := id C
  intro r0 H locs ls hl hP hD hS h
  unfold wp_X8_found_166 at h
  refine lv_aload_n hx hb dX8_found_166 rfl (lv_at hl 0 rfl) ?_
  refine lv_dup hx hb dX8_found_167 rfl ?_
  refine gX8_38 C hP dX8_found_168 ?_
  refine lv_iconst (v := 1) hx hb dX8_found_171 (by decide) ?_
  refine lv_iadd hx hb dX8_found_172 ?_
  refine lv_topi (fun v10 ev10 => ?_)
  replace h := h v10 ev10
  refine pX8_38 C hP hD hS dX8_found_173 (fun H locs hP hD hS => ?_)
  exact xrw_v C (zI r0 38 v10) h hP hS dX8_found_176
set_option maxHeartbeats 4000000 in
set_option maxRecDepth 100000 in
theorem t_X8_found_137 {p : Program} {l : Launch} {e : Env} {s : State} {m : MethodId} {args : Array Value} {below : List Frame} {meth : Method} {c : Code} {D : va_G} {K : Nat → ClassId} {h0 : Nat} {a0 : Nat → Nat} {n0 : Nat → Option Nat} {la0 : Nat → Nat} {p1 : Int32} {p2 : Int32} {p3 : Int32} {p4 : Int32} {p5 : Int32} {post : (zS) → Prop} {A : Nat → Prop} (C : xC p s m args meth c cX8_found RX8 6 none D vwCl (xty K)) (hA : ∀ q, s.heap.size ≤ q → A q) : ∀ (r0 : zS) (H : Heap) (locs : List Loc) (ls : Array Slot), lv_has ls 6 [(0, .ref h0), (1, .int p1), (3, .int p3), (4, .int p4)] → va_P D vwCl (wX8 K h0 a0 n0 la0 r0 ++ (([] : va_W))) H → va_D A (wX8 K h0 a0 n0 la0 r0 ++ (([] : va_W))) → va_S A s.heap H locs → wp_X8_found_137 p1 p2 p3 p4 p5 post r0 → W p l e ({ frames := 1, cells := 0, slots := 0, locals := 22 } : Room) s m args below meth c H locs 0 0 (MQ below (va_Qv (fun (u : (zS)) => post u) (fun (u : (zS)) t => va_P D vwCl (wX8 K h0 a0 n0 la0 u ++ (([] : va_W))) t.heap) A) args s 0 0 A) (F0 m 137 ls []) := by
  obtain ⟨hx, hb, hr, hml, hown, hts, hlocks, hK, hT⟩ := id C
  intro r0 H locs ls hl hP hD hS h
  unfold wp_X8_found_137 at h
  refine lv_aload_n hx hb dX8_found_137 rfl (lv_at hl 0 rfl) ?_
  refine lv_iload hx hb dX8_found_138 (lv_at hl 3 rfl) ?_
  refine pX8_42 C hP hD hS dX8_found_140 (fun H locs hP hD hS => ?_)
  refine lv_aload_n hx hb dX8_found_143 rfl (lv_at hl 0 rfl) ?_
  refine lv_iload_n hx hb dX8_found_144 rfl (lv_at hl 1 rfl) ?_
  refine lv_iconst (v := 1) hx hb dX8_found_145 (by decide) ?_
  refine lv_isub hx hb dX8_found_146 ?_
  refine lv_topi (fun v7 ev7 => ?_)
  replace h := h v7 ev7
  refine pX8_43 C hP hD hS dX8_found_147 (fun H locs hP hD hS => ?_)
  refine lv_aload_n hx hb dX8_found_150 rfl (lv_at hl 0 rfl) ?_
  refine lv_iload_n hx hb dX8_found_151 rfl (lv_at hl 2 rfl) ?_
  refine pX8_44 C hP hD hS dX8_found_152 (fun H locs hP hD hS => ?_)
  refine lv_aload_n hx hb dX8_found_155 rfl (lv_at hl 0 rfl) ?_
  refine gX8_35 C hP dX8_found_156 ?_
  refine lv_aload_n hx hb dX8_found_159 rfl (lv_at hl 0 rfl) ?_
  refine gX8_45 C hP dX8_found_160 ?_
  refine xend_rw_v (wf := fun (u : (Nat → Int32)) => (wAI K (a0 35) 12 ((zI (zI (zI r0 42 p4) 43 v7) 44 p3).2.1 35) ++ (wAI K (a0 45) 12 u))) (xRunS (wc := (wAI K (a0 35) 12 ((zI (zI (zI r0 42 p4) 43 v7) 44 p3).2.1 35) ++ (wAI K (a0 45) 12 ((zI (zI (zI r0 42 p4) 43 v7) 44 p3).2.1 45)))) (As := [.ref (a0 35), .ref (a0 45)]) (rest := []) C (c_X8_copied h) k_X8_copied mw_655 ⟨rfl, rfl⟩ ⟨Nat.le_of_ble_eq_true rfl, Nat.le_of_ble_eq_true rfl⟩ hP hD [17, 18] rfl rfl hl rfl rfl (Nat.le_of_ble_eq_true rfl) dX8_found_163 ⟨Nat.le_refl _, Nat.le_refl _⟩) hP hD hS hA [17, 18] rfl rfl (fun _ => rfl) (fun s9 H locs h hP hD hS => ?_)
  replace hP : va_P D vwCl (wX8 K h0 a0 n0 la0 (zG (zI (zI (zI r0 42 p4) 43 v7) 44 p3) 45 s9) ++ (([] : va_W))) H := hP
  replace hD : va_D A (wX8 K h0 a0 n0 la0 (zG (zI (zI (zI r0 42 p4) 43 v7) 44 p3) 45 s9) ++ (([] : va_W))) := hD
  exact t_X8_found_166 C hA _ _ _ _ (lv_sub hl [0] rfl) hP hD hS h
set_option maxHeartbeats 4000000 in
set_option maxRecDepth 100000 in
theorem t_X8_found_99 {p : Program} {l : Launch} {e : Env} {s : State} {m : MethodId} {args : Array Value} {below : List Frame} {meth : Method} {c : Code} {D : va_G} {K : Nat → ClassId} {h0 : Nat} {a0 : Nat → Nat} {n0 : Nat → Option Nat} {la0 : Nat → Nat} {p1 : Int32} {p2 : Int32} {p3 : Int32} {p4 : Int32} {p5 : Int32} {post : (zS) → Prop} {A : Nat → Prop} (C : xC p s m args meth c cX8_found RX8 6 none D vwCl (xty K)) (hA : ∀ q, s.heap.size ≤ q → A q) : ∀ (r0 : zS) (y0 : Int32) (H : Heap) (locs : List Loc) (ls : Array Slot), lv_has ls 6 [(0, .ref h0), (1, .int p1), (3, .int p3), (4, .int p4)] → va_P D vwCl (wX8 K h0 a0 n0 la0 r0 ++ (([] : va_W))) H → va_D A (wX8 K h0 a0 n0 la0 r0 ++ (([] : va_W))) → va_S A s.heap H locs → wp_X8_found_99 p1 p2 p3 p4 p5 post r0 y0 → W p l e ({ frames := 1, cells := 0, slots := 0, locals := 22 } : Room) s m args below meth c H locs 0 0 (MQ below (va_Qv (fun (u : (zS)) => post u) (fun (u : (zS)) t => va_P D vwCl (wX8 K h0 a0 n0 la0 u ++ (([] : va_W))) t.heap) A) args s 0 0 A) (F0 m 99 ls [.int y0, .ref h0]) := by
  obtain ⟨hx, hb, hr, hml, hown, hts, hlocks, hK, hT⟩ := id C
  intro r0 y0 H locs ls hl hP hD hS h
  unfold wp_X8_found_99 at h
  refine pX8_40 C hP hD hS dX8_found_99 (fun H locs hP hD hS => ?_)
  refine lv_aload_n hx hb dX8_found_102 rfl (lv_at hl 0 rfl) ?_
  refine gX8_38 C hP dX8_found_103 ?_
  refine lv_if_eq (tgt := 137) hx hb dX8_found_106 (by decide) (fun c6 => ?_) (fun c6 => ?_)
  · replace h := And.left h c6
    exact t_X8_found_137 C hA _ _ _ _ (lv_sub hl [0, 1, 2, 3] rfl) hP hD hS h
  · replace h := And.right h c6
    refine lv_iload hx hb dX8_found_109 (lv_at hl 3 rfl) ?_
    refine lv_aload_n hx hb dX8_found_111 rfl (lv_at hl 0 rfl) ?_
    refine gX8_42 C hP dX8_found_112 ?_
    refine lv_icmp_gt (tgt := 137) hx hb dX8_found_115 (by decide) (fun c11 => ?_) (fun c11 => ?_)
    · replace h := And.left h c11
      exact t_X8_found_137 C hA _ _ _ _ (lv_sub hl [0, 1, 2, 3] rfl) hP hD hS h
    · replace h := And.right h c11
      refine lv_iload hx hb dX8_found_118 (lv_at hl 3 rfl) ?_
      refine lv_aload_n hx hb dX8_found_120 rfl (lv_at hl 0 rfl) ?_
      refine gX8_42 C hP dX8_found_121 ?_
      refine lv_icmp_ne (tgt := 166) hx hb dX8_found_124 (by decide) (fun c12 => ?_) (fun c12 => ?_)
      · replace h := And.right h c12
        exact t_X8_found_166 C hA _ _ _ _ (lv_sub hl [0] rfl) hP hD hS h
      · replace h := And.left h c12
        refine lv_iload_n hx hb dX8_found_127 rfl (lv_at hl 1 rfl) ?_
        refine lv_iconst (v := 1) hx hb dX8_found_128 (by decide) ?_
        refine lv_isub hx hb dX8_found_129 ?_
        refine lv_aload_n hx hb dX8_found_130 rfl (lv_at hl 0 rfl) ?_
        refine gX8_43 C hP dX8_found_131 ?_
        refine lv_icmp_ge (tgt := 166) hx hb dX8_found_134 (by decide) (fun c13 => ?_) (fun c13 => ?_)
        · replace h := And.left h c13
          exact t_X8_found_166 C hA _ _ _ _ (lv_sub hl [0] rfl) hP hD hS h
        · replace h := And.right h c13
          exact t_X8_found_137 C hA _ _ _ _ (lv_sub hl [0, 1, 2, 3] rfl) hP hD hS h
set_option maxHeartbeats 4000000 in
set_option maxRecDepth 100000 in
theorem t_X8_found_90 {p : Program} {l : Launch} {e : Env} {s : State} {m : MethodId} {args : Array Value} {below : List Frame} {meth : Method} {c : Code} {D : va_G} {K : Nat → ClassId} {h0 : Nat} {a0 : Nat → Nat} {n0 : Nat → Option Nat} {la0 : Nat → Nat} {p1 : Int32} {p2 : Int32} {p3 : Int32} {p4 : Int32} {p5 : Int32} {post : (zS) → Prop} {A : Nat → Prop} (C : xC p s m args meth c cX8_found RX8 6 none D vwCl (xty K)) (hA : ∀ q, s.heap.size ≤ q → A q) : ∀ (r0 : zS) (H : Heap) (locs : List Loc) (ls : Array Slot), lv_has ls 6 [(0, .ref h0), (1, .int p1), (3, .int p3), (4, .int p4), (5, .int p5)] → va_P D vwCl (wX8 K h0 a0 n0 la0 r0 ++ (([] : va_W))) H → va_D A (wX8 K h0 a0 n0 la0 r0 ++ (([] : va_W))) → va_S A s.heap H locs → wp_X8_found_90 p1 p2 p3 p4 p5 post r0 → W p l e ({ frames := 1, cells := 0, slots := 0, locals := 22 } : Room) s m args below meth c H locs 0 0 (MQ below (va_Qv (fun (u : (zS)) => post u) (fun (u : (zS)) t => va_P D vwCl (wX8 K h0 a0 n0 la0 u ++ (([] : va_W))) t.heap) A) args s 0 0 A) (F0 m 90 ls [.ref h0]) := by
  obtain ⟨hx, hb, hr, hml, hown, hts, hlocks, hK, hT⟩ := id C
  intro r0 H locs ls hl hP hD hS h
  unfold wp_X8_found_90 at h
  refine lv_iload hx hb dX8_found_90 (lv_at hl 4 rfl) ?_
  refine lv_goto (tgt := 99) hx hb dX8_found_92 (by decide) ?_
  exact t_X8_found_99 C hA _ _ _ _ _ (lv_sub hl [0, 1, 2, 3] rfl) hP hD hS h
set_option maxHeartbeats 4000000 in
set_option maxRecDepth 100000 in
theorem t_X8_found_70 {p : Program} {l : Launch} {e : Env} {s : State} {m : MethodId} {args : Array Value} {below : List Frame} {meth : Method} {c : Code} {D : va_G} {K : Nat → ClassId} {h0 : Nat} {a0 : Nat → Nat} {n0 : Nat → Option Nat} {la0 : Nat → Nat} {p1 : Int32} {p2 : Int32} {p3 : Int32} {p4 : Int32} {p5 : Int32} {post : (zS) → Prop} {A : Nat → Prop} (C : xC p s m args meth c cX8_found RX8 6 none D vwCl (xty K)) (hA : ∀ q, s.heap.size ≤ q → A q) : ∀ (r0 : zS) (y0 : Int32) (H : Heap) (locs : List Loc) (ls : Array Slot), lv_has ls 6 [(0, .ref h0), (1, .int p1), (3, .int p3), (4, .int p4), (5, .int p5)] → va_P D vwCl (wX8 K h0 a0 n0 la0 r0 ++ (([] : va_W))) H → va_D A (wX8 K h0 a0 n0 la0 r0 ++ (([] : va_W))) → va_S A s.heap H locs → wp_X8_found_70 p1 p2 p3 p4 p5 post r0 y0 → W p l e ({ frames := 1, cells := 0, slots := 0, locals := 22 } : Room) s m args below meth c H locs 0 0 (MQ below (va_Qv (fun (u : (zS)) => post u) (fun (u : (zS)) t => va_P D vwCl (wX8 K h0 a0 n0 la0 u ++ (([] : va_W))) t.heap) A) args s 0 0 A) (F0 m 70 ls [.int y0, .ref h0]) := by
  obtain ⟨hx, hb, hr, hml, hown, hts, hlocks, hK, hT⟩ := id C
  intro r0 y0 H locs ls hl hP hD hS h
  unfold wp_X8_found_70 at h
  refine pX8_39 C hP hD hS dX8_found_70 (fun H locs hP hD hS => ?_)
  refine lv_aload_n hx hb dX8_found_73 rfl (lv_at hl 0 rfl) ?_
  refine lv_aload_n hx hb dX8_found_74 rfl (lv_at hl 0 rfl) ?_
  refine gX8_38 C hP dX8_found_75 ?_
  refine lv_if_eq (tgt := 90) hx hb dX8_found_78 (by decide) (fun c5 => ?_) (fun c5 => ?_)
  · replace h := And.left h c5
    exact t_X8_found_90 C hA _ _ _ _ (lv_sub hl [0, 1, 2, 3, 4] rfl) hP hD hS h
  · replace h := And.right h c5
    refine lv_iload hx hb dX8_found_81 (lv_at hl 4 rfl) ?_
    refine lv_aload_n hx hb dX8_found_83 rfl (lv_at hl 0 rfl) ?_
    refine gX8_40 C hP dX8_found_84 ?_
    refine lv_icmp_ge (tgt := 95) hx hb dX8_found_87 (by decide) (fun c14 => ?_) (fun c14 => ?_)
    · replace h := And.left h c14
      refine lv_aload_n hx hb dX8_found_95 rfl (lv_at hl 0 rfl) ?_
      refine gX8_40 C hP dX8_found_96 ?_
      exact t_X8_found_99 C hA _ _ _ _ _ (lv_sub hl [0, 1, 2, 3] rfl) hP hD hS h
    · replace h := And.right h c14
      exact t_X8_found_90 C hA _ _ _ _ (lv_sub hl [0, 1, 2, 3, 4] rfl) hP hD hS h
set_option maxHeartbeats 4000000 in
set_option maxRecDepth 100000 in
theorem t_X8_found_60 {p : Program} {l : Launch} {e : Env} {s : State} {m : MethodId} {args : Array Value} {below : List Frame} {meth : Method} {c : Code} {D : va_G} {K : Nat → ClassId} {h0 : Nat} {a0 : Nat → Nat} {n0 : Nat → Option Nat} {la0 : Nat → Nat} {p1 : Int32} {p2 : Int32} {p3 : Int32} {p4 : Int32} {p5 : Int32} {post : (zS) → Prop} {A : Nat → Prop} (C : xC p s m args meth c cX8_found RX8 6 none D vwCl (xty K)) (hA : ∀ q, s.heap.size ≤ q → A q) : ∀ (r0 : zS) (H : Heap) (locs : List Loc) (ls : Array Slot), lv_has ls 6 [(0, .ref h0), (1, .int p1), (3, .int p3), (4, .int p4), (5, .int p5)] → va_P D vwCl (wX8 K h0 a0 n0 la0 r0 ++ (([] : va_W))) H → va_D A (wX8 K h0 a0 n0 la0 r0 ++ (([] : va_W))) → va_S A s.heap H locs → wp_X8_found_60 p1 p2 p3 p4 p5 post r0 → W p l e ({ frames := 1, cells := 0, slots := 0, locals := 22 } : Room) s m args below meth c H locs 0 0 (MQ below (va_Qv (fun (u : (zS)) => post u) (fun (u : (zS)) t => va_P D vwCl (wX8 K h0 a0 n0 la0 u ++ (([] : va_W))) t.heap) A) args s 0 0 A) (F0 m 60 ls [.ref h0]) := by
  obtain ⟨hx, hb, hr, hml, hown, hts, hlocks, hK, hT⟩ := id C
  intro r0 H locs ls hl hP hD hS h
  unfold wp_X8_found_60 at h
  refine lv_iload_n hx hb dX8_found_60 rfl (lv_at hl 1 rfl) ?_
  refine lv_iconst (v := 1) hx hb dX8_found_61 (by decide) ?_
  refine lv_isub hx hb dX8_found_62 ?_
  refine lv_goto (tgt := 70) hx hb dX8_found_63 (by decide) ?_
  exact t_X8_found_70 C hA _ _ _ _ _ (lv_sub hl [0, 1, 2, 3, 4] rfl) hP hD hS h
set_option maxHeartbeats 4000000 in
set_option maxRecDepth 100000 in
theorem t_X8_found_39 {p : Program} {l : Launch} {e : Env} {s : State} {m : MethodId} {args : Array Value} {below : List Frame} {meth : Method} {c : Code} {D : va_G} {K : Nat → ClassId} {h0 : Nat} {a0 : Nat → Nat} {n0 : Nat → Option Nat} {la0 : Nat → Nat} {p1 : Int32} {p2 : Int32} {p3 : Int32} {p4 : Int32} {p5 : Int32} {post : (zS) → Prop} {A : Nat → Prop} (C : xC p s m args meth c cX8_found RX8 6 none D vwCl (xty K)) (hA : ∀ q, s.heap.size ≤ q → A q) : ∀ (r0 : zS) (y0 : Int32) (H : Heap) (locs : List Loc) (ls : Array Slot), lv_has ls 6 [(0, .ref h0), (1, .int p1), (3, .int p3), (4, .int p4), (5, .int p5)] → va_P D vwCl (wX8 K h0 a0 n0 la0 r0 ++ (([] : va_W))) H → va_D A (wX8 K h0 a0 n0 la0 r0 ++ (([] : va_W))) → va_S A s.heap H locs → wp_X8_found_39 p1 p2 p3 p4 p5 post r0 y0 → W p l e ({ frames := 1, cells := 0, slots := 0, locals := 22 } : Room) s m args below meth c H locs 0 0 (MQ below (va_Qv (fun (u : (zS)) => post u) (fun (u : (zS)) t => va_P D vwCl (wX8 K h0 a0 n0 la0 u ++ (([] : va_W))) t.heap) A) args s 0 0 A) (F0 m 39 ls [.int y0, .ref h0]) := by
  obtain ⟨hx, hb, hr, hml, hown, hts, hlocks, hK, hT⟩ := id C
  intro r0 y0 H locs ls hl hP hD hS h
  unfold wp_X8_found_39 at h
  refine pX8_41 C hP hD hS dX8_found_39 (fun H locs hP hD hS => ?_)
  refine lv_aload_n hx hb dX8_found_42 rfl (lv_at hl 0 rfl) ?_
  refine lv_aload_n hx hb dX8_found_43 rfl (lv_at hl 0 rfl) ?_
  refine gX8_38 C hP dX8_found_44 ?_
  refine lv_if_eq (tgt := 60) hx hb dX8_found_47 (by decide) (fun c4 => ?_) (fun c4 => ?_)
  · replace h := And.left h c4
    exact t_X8_found_60 C hA _ _ _ _ (lv_sub hl [0, 1, 2, 3, 4] rfl) hP hD hS h
  · replace h := And.right h c4
    refine lv_iload_n hx hb dX8_found_50 rfl (lv_at hl 1 rfl) ?_
    refine lv_iconst (v := 1) hx hb dX8_found_51 (by decide) ?_
    refine lv_isub hx hb dX8_found_52 ?_
    refine lv_aload_n hx hb dX8_found_53 rfl (lv_at hl 0 rfl) ?_
    refine gX8_39 C hP dX8_found_54 ?_
    refine lv_icmp_ge (tgt := 66) hx hb dX8_found_57 (by decide) (fun c15 => ?_) (fun c15 => ?_)
    · replace h := And.left h c15
      refine lv_aload_n hx hb dX8_found_66 rfl (lv_at hl 0 rfl) ?_
      refine gX8_39 C hP dX8_found_67 ?_
      exact t_X8_found_70 C hA _ _ _ _ _ (lv_sub hl [0, 1, 2, 3, 4] rfl) hP hD hS h
    · replace h := And.right h c15
      exact t_X8_found_60 C hA _ _ _ _ (lv_sub hl [0, 1, 2, 3, 4] rfl) hP hD hS h
set_option maxHeartbeats 4000000 in
set_option maxRecDepth 100000 in
theorem c_X8_found {l : Launch} {D : va_G} {K : Nat → ClassId} {h0 : Nat} {a0 : Nat → Nat} {n0 : Nat → Option Nat} {la0 : Nat → Nat} {r0 : zS} {p1 : Int32} {p2 : Int32} {p3 : Int32} {p4 : Int32} {p5 : Int32} {sz : Nat} {post : (zS) → Prop}   (h : wp_X8_found r0 p1 p2 p3 p4 p5 post) : Met l yX8_found (Cond.code yX8_found cX8_found 6 none :: wsL_law) ({ frames := 1, cells := 0, slots := 0, locals := 22 } : Room) (va_Pc [.ref h0, .int p1, .int p2, .int p3, .int p4, .int p5] (xPre D vwCl (xty K) (wX8 K h0 a0 n0 la0 r0 ++ (([] : va_W))) sz)) (va_Qv (fun (u : (zS)) => post u) (fun (u : (zS)) t => va_P D vwCl (wX8 K h0 a0 n0 la0 u ++ (([] : va_W))) t.heap) (va_A (wX8 K h0 a0 n0 la0 r0 ++ (([] : va_W))) sz)) 0 0 (va_A (wX8 K h0 a0 n0 la0 r0 ++ (([] : va_W))) sz) := by
  refine xMet (by decide) rfl (Nat.le_of_ble_eq_true rfl) (fun p e s m args below meth c C hnm hP hD hsz ls hl => ?_)
  have hl : lv_has ls 6 [(0, .ref h0), (1, .int p1), (2, .int p2), (3, .int p3), (4, .int p4), (5, .int p5)] := hl
  obtain ⟨hx, hb, hr, hml, hown, hts, hlocks, hK, hT⟩ := id C
  subst hsz
  generalize hAe : va_A (wX8 K h0 a0 n0 la0 r0 ++ (([] : va_W))) s.heap.size = A at hD ⊢
  have hA : ∀ q : Nat, s.heap.size ≤ q → A q := fun q h => by rw [← hAe]; exact Or.inr h
  have hS : va_S A s.heap s.heap [] := va_S.rf
  have hP : va_P D vwCl (wX8 K h0 a0 n0 la0 r0 ++ (([] : va_W))) s.heap := hP
  unfold wp_X8_found at h
  refine lv_aload_n hx hb dX8_found_0 rfl (lv_at hl 0 rfl) ?_
  refine gX8_46 C hP dX8_found_1 ?_
  refine lv_aload_n hx hb dX8_found_4 rfl (lv_at hl 0 rfl) ?_
  refine gX8_38 C hP dX8_found_5 ?_
  refine lv_iload_n hx hb dX8_found_8 rfl (lv_at hl 2 rfl) ?_
  have hin := And.left h
  obtain ⟨j1, ej1⟩ : ∃ j : Nat, j = (r0.1 38).toNatClampNeg := ⟨_, rfl⟩
  replace h := And.right h j1 ej1
  refine sX8_46 C hP hD hS hin ej1 dX8_found_9 (fun H locs hP hD hS => ?_)
  refine lv_aload_n hx hb dX8_found_10 rfl (lv_at hl 0 rfl) ?_
  refine gX8_47 C hP dX8_found_11 ?_
  refine lv_aload_n hx hb dX8_found_14 rfl (lv_at hl 0 rfl) ?_
  refine gX8_38 C hP dX8_found_15 ?_
  refine lv_iload hx hb dX8_found_18 (lv_at hl 4 rfl) ?_
  have hin := And.left h
  obtain ⟨j2, ej2⟩ : ∃ j : Nat, j = ((zA r0 46 j1 p2).1 38).toNatClampNeg := ⟨_, rfl⟩
  replace h := And.right h j2 ej2
  refine sX8_47 C hP hD hS hin ej2 dX8_found_20 (fun H locs hP hD hS => ?_)
  refine lv_aload_n hx hb dX8_found_21 rfl (lv_at hl 0 rfl) ?_
  refine lv_aload_n hx hb dX8_found_22 rfl (lv_at hl 0 rfl) ?_
  refine gX8_38 C hP dX8_found_23 ?_
  refine lv_if_ne (tgt := 33) hx hb dX8_found_26 (by decide) (fun c3 => ?_) (fun c3 => ?_)
  · replace h := And.right h c3
    refine lv_aload_n hx hb dX8_found_33 rfl (lv_at hl 0 rfl) ?_
    refine gX8_41 C hP dX8_found_34 ?_
    refine lv_iload_n hx hb dX8_found_37 rfl (lv_at hl 2 rfl) ?_
    refine lv_iand hx hb dX8_found_38 ?_
    exact t_X8_found_39 C hA _ _ _ _ _ (lv_sub hl [0, 1, 3, 4, 5] rfl) hP hD hS h
  · replace h := And.left h c3
    refine lv_iload_n hx hb dX8_found_29 rfl (lv_at hl 2 rfl) ?_
    refine lv_goto (tgt := 39) hx hb dX8_found_30 (by decide) ?_
    exact t_X8_found_39 C hA _ _ _ _ _ (lv_sub hl [0, 1, 3, 4, 5] rfl) hP hD hS h

def wp_X8_seek_226 (p1 : Int32) (p2 : Int32) (p3 : Int32) (p4 : Int32) (p5 : Int32) (rec : (zS) → Int32 → Int32 → Int32 → Int32 → Int32 → ((zS) → Prop) → Prop) (post : (zS) → Prop) (k57 : (zS) → Int32 → Int32 → Prop) (r0 : zS) (x6 : Int32) (x7 : Int32) : Prop :=
  ∀ v9 : Int32, v9 = x7 + (1 : Int32) → k57 r0 x6 v9
def wp_X8_seek_222 (p1 : Int32) (p2 : Int32) (p3 : Int32) (p4 : Int32) (p5 : Int32) (rec : (zS) → Int32 → Int32 → Int32 → Int32 → Int32 → ((zS) → Prop) → Prop) (post : (zS) → Prop) (k57 : (zS) → Int32 → Int32 → Prop) (r0 : zS) (x6 : Int32) (x7 : Int32) (y0 : Int32) (y1 : Int32) (y2 : Int32) (y3 : Int32) (y4 : Int32) (y5 : Int32) : Prop :=
  rec r0 y5 y4 y3 y2 (y1 + y0) (fun s20 => wp_X8_seek_226 p1 p2 p3 p4 p5 rec post k57 s20 x6 x7)
def wp_X8_seek_221 (p1 : Int32) (p2 : Int32) (p3 : Int32) (p4 : Int32) (p5 : Int32) (rec : (zS) → Int32 → Int32 → Int32 → Int32 → Int32 → ((zS) → Prop) → Prop) (post : (zS) → Prop) (k57 : (zS) → Int32 → Int32 → Prop) (r0 : zS) (x6 : Int32) (x7 : Int32) (y0 : Int32) (y1 : Int32) (y2 : Int32) (y3 : Int32) (y4 : Int32) : Prop :=
  wp_X8_seek_222 p1 p2 p3 p4 p5 rec post k57 r0 x6 x7 (0 : Int32) y0 y1 y2 y3 y4
def wp_X8_seek_160 (p1 : Int32) (p2 : Int32) (p3 : Int32) (p4 : Int32) (p5 : Int32) (rec : (zS) → Int32 → Int32 → Int32 → Int32 → Int32 → ((zS) → Prop) → Prop) (post : (zS) → Prop) (k57 : (zS) → Int32 → Int32 → Prop) (r0 : zS) (x6 : Int32) (x7 : Int32) (y0 : Int32) (y1 : Int32) (y2 : Int32) (y3 : Int32) (y4 : Int64) : Prop :=
  wp_X8_lossAt r0 y2 y1 y0 (fun v15 => ∀ v16 : Int32, v16 = (((y4 * ((y3 - v15).toInt64)) / (1000 : Int64)).toInt32) → wp_X8_takes r0 x6 (fun v17 => (x7 = (r0.1 36) → wp_X8_seek_221 p1 p2 p3 p4 p5 rec post k57 r0 x6 x7 p5 v16 (p3 + v17) (p2 ||| ((1 : Int32) <<< (x7 &&& 31))) (p1 + (1 : Int32))) ∧ (¬ x7 = (r0.1 36) → vp_in x7 12 ∧ (wp_X8_reads (r0.2.1 11 x7.toNatClampNeg) (fun v21 => (v21 = 0 → wp_X8_seek_221 p1 p2 p3 p4 p5 rec post k57 r0 x6 x7 p5 v16 (p3 + v17) (p2 ||| ((1 : Int32) <<< (x7 &&& 31))) (p1 + (1 : Int32))) ∧ (¬ v21 = 0 → wp_X8_seek_222 p1 p2 p3 p4 p5 rec post k57 r0 x6 x7 (1 : Int32) p5 v16 (p3 + v17) (p2 ||| ((1 : Int32) <<< (x7 &&& 31))) (p1 + (1 : Int32))))))))
def wp_X8_seek_101 (p1 : Int32) (p2 : Int32) (p3 : Int32) (p4 : Int32) (p5 : Int32) (rec : (zS) → Int32 → Int32 → Int32 → Int32 → Int32 → ((zS) → Prop) → Prop) (post : (zS) → Prop) (k57 : (zS) → Int32 → Int32 → Prop) (r0 : zS) (x6 : Int32) (x7 : Int32) (y0 : Int32) : Prop :=
  wp_X8_has p2 x7 (fun v7 => (v7 = 0 → (y0 = 0 → wp_X8_areBeside r0 x6 x7 (fun v11 => (v11 = 0 → wp_X8_seek_226 p1 p2 p3 p4 p5 rec post k57 r0 x6 x7) ∧ (¬ v11 = 0 → vp_in p1 12 ∧ (∀ j13 : Nat, j13 = p1.toNatClampNeg → (x7 = ((zA r0 35 j13 x7).1 36) → wp_X8_seek_160 p1 p2 p3 p4 p5 rec post k57 (zA r0 35 j13 x7) x6 x7 (1 : Int32) p3 x7 (1000 : Int32) (p4.toInt64)) ∧ (¬ x7 = ((zA r0 35 j13 x7).1 36) → wp_X8_seek_160 p1 p2 p3 p4 p5 rec post k57 (zA r0 35 j13 x7) x6 x7 (0 : Int32) p3 x7 (1000 : Int32) (p4.toInt64)))))) ∧ (¬ y0 = 0 → wp_X8_seek_226 p1 p2 p3 p4 p5 rec post k57 r0 x6 x7)) ∧ (¬ v7 = 0 → wp_X8_seek_226 p1 p2 p3 p4 p5 rec post k57 r0 x6 x7))
def wp_X8_seek_100 (p1 : Int32) (p2 : Int32) (p3 : Int32) (p4 : Int32) (p5 : Int32) (rec : (zS) → Int32 → Int32 → Int32 → Int32 → Int32 → ((zS) → Prop) → Prop) (post : (zS) → Prop) (k57 : (zS) → Int32 → Int32 → Prop) (r0 : zS) (x6 : Int32) (x7 : Int32) : Prop :=
  wp_X8_seek_101 p1 p2 p3 p4 p5 rec post k57 r0 x6 x7 (0 : Int32)
def wb_X8_seek_57 (p1 : Int32) (p2 : Int32) (p3 : Int32) (p4 : Int32) (p5 : Int32) (rec : (zS) → Int32 → Int32 → Int32 → Int32 → Int32 → ((zS) → Prop) → Prop) (post : (zS) → Prop) (ih : (zS) → Int32 → Int32 → Prop) (r0 : zS) (x6 : Int32) (x7 : Int32) : Prop :=
  ((r0.1 10) ≤ x7 → post r0) ∧ (¬ (r0.1 10) ≤ x7 → ((r0.1 37) = (1 : Int32) → (x7 = (r0.1 36) → wp_X8_seek_100 p1 p2 p3 p4 p5 rec post ih r0 x6 x7) ∧ (¬ x7 = (r0.1 36) → vp_in x7 12 ∧ (wp_X8_reads (r0.2.1 11 x7.toNatClampNeg) (fun v24 => (v24 = 0 → wp_X8_seek_100 p1 p2 p3 p4 p5 rec post ih r0 x6 x7) ∧ (¬ v24 = 0 → wp_X8_seek_101 p1 p2 p3 p4 p5 rec post ih r0 x6 x7 (1 : Int32)))))) ∧ (¬ (r0.1 37) = (1 : Int32) → wp_X8_seek_100 p1 p2 p3 p4 p5 rec post ih r0 x6 x7))
def wp_X8_seek_57 (p1 : Int32) (p2 : Int32) (p3 : Int32) (p4 : Int32) (p5 : Int32) (rec : (zS) → Int32 → Int32 → Int32 → Int32 → Int32 → ((zS) → Prop) → Prop) (post : (zS) → Prop) (n : Nat) : (zS) → Int32 → Int32 → Prop := Nat.rec (motive := fun _ => (zS) → Int32 → Int32 → Prop) (fun _ _ _ => False) (fun _ ih => wb_X8_seek_57 p1 p2 p3 p4 p5 rec post ih) n
theorem wu_X8_seek_57 (p1 : Int32) (p2 : Int32) (p3 : Int32) (p4 : Int32) (p5 : Int32) (rec : (zS) → Int32 → Int32 → Int32 → Int32 → Int32 → ((zS) → Prop) → Prop) (post : (zS) → Prop) (n : Nat) (r0 : zS) (x6 : Int32) (x7 : Int32) : wp_X8_seek_57 p1 p2 p3 p4 p5 rec post (n + 1) r0 x6 x7 = wb_X8_seek_57 p1 p2 p3 p4 p5 rec post (wp_X8_seek_57 p1 p2 p3 p4 p5 rec post n) r0 x6 x7 := rfl
def wp_X8_seek_54 (p1 : Int32) (p2 : Int32) (p3 : Int32) (p4 : Int32) (p5 : Int32) (rec : (zS) → Int32 → Int32 → Int32 → Int32 → Int32 → ((zS) → Prop) → Prop) (post : (zS) → Prop) (r0 : zS) (x6 : Int32) : Prop :=
  ∃ n : Nat, wp_X8_seek_57 p1 p2 p3 p4 p5 rec post n r0 x6 (0 : Int32)
def wb_X8_seek (rec : (zS) → Int32 → Int32 → Int32 → Int32 → Int32 → ((zS) → Prop) → Prop) (r0 : zS) (p1 : Int32) (p2 : Int32) (p3 : Int32) (p4 : Int32) (p5 : Int32) (post : (zS) → Prop) : Prop :=
  vp_in (p1 - (1 : Int32)) 12 ∧ (∀ v1 : Int32, v1 = (r0.2.1 35 (p1 - (1 : Int32)).toNatClampNeg) → (v1 = (r0.1 36) → wp_X8_found r0 p1 p2 p3 p4 p5 (fun s29 => post s29)) ∧ (¬ v1 = (r0.1 36) → ((8 : Int32) < p1 → post r0) ∧ (¬ (8 : Int32) < p1 → ((r0.1 37) = (2 : Int32) → wp_X8_looks r0 p3 (fun v26 => (v26 = 0 → wp_X8_seek_54 p1 p2 p3 p4 p5 rec post r0 v1) ∧ (¬ v26 = 0 → post r0))) ∧ (¬ (r0.1 37) = (2 : Int32) → wp_X8_seek_54 p1 p2 p3 p4 p5 rec post r0 v1))))
def wp_X8_seek (d : Nat) : (zS) → Int32 → Int32 → Int32 → Int32 → Int32 → ((zS) → Prop) → Prop := Nat.rec (motive := fun _ => (zS) → Int32 → Int32 → Int32 → Int32 → Int32 → ((zS) → Prop) → Prop) (fun _ _ _ _ _ _ _ => False) (fun _ rec => wb_X8_seek rec) d
theorem wu_X8_seek (d : Nat) (r0 : zS) (p1 : Int32) (p2 : Int32) (p3 : Int32) (p4 : Int32) (p5 : Int32) (post : (zS) → Prop) : wp_X8_seek (d + 1) r0 p1 p2 p3 p4 p5 post = wb_X8_seek (wp_X8_seek d) r0 p1 p2 p3 p4 p5 post := rfl
set_option maxHeartbeats 4000000 in
set_option maxRecDepth 100000 in
theorem t_X8_seek_226 {p : Program} {l : Launch} {e : Env} {s : State} {m : MethodId} {args : Array Value} {below : List Frame} {meth : Method} {c : Code} {D : va_G} {K : Nat → ClassId} {d : Nat} {h0 : Nat} {a0 : Nat → Nat} {n0 : Nat → Option Nat} {la0 : Nat → Nat} {p1 : Int32} {p2 : Int32} {p3 : Int32} {p4 : Int32} {p5 : Int32} {post : (zS) → Prop} {A : Nat → Prop} (C : xC p s m args meth c cX8_seek RX8 10 none D vwCl (xty K)) (hA : ∀ q, s.heap.size ≤ q → A q) {rec : (zS) → Int32 → Int32 → Int32 → Int32 → Int32 → ((zS) → Prop) → Prop} (hrec : ∀ {h0 : Nat} {a0 : Nat → Nat} {n0 : Nat → Option Nat} {la0 : Nat → Nat} {r0 : zS} {p1 : Int32} {p2 : Int32} {p3 : Int32} {p4 : Int32} {p5 : Int32} {sz : Nat} {post : (zS) → Prop}, rec r0 p1 p2 p3 p4 p5 post → Met l yX8_seek (Cond.code yX8_seek cX8_seek 10 none :: wsL_law) ({ frames := d + 3, cells := 0, slots := 0, locals := 40 * d + 87 } : Room) (va_Pc [.ref h0, .int p1, .int p2, .int p3, .int p4, .int p5] (xPre D vwCl (xty K) (wX8 K h0 a0 n0 la0 r0 ++ (([] : va_W))) sz)) (va_Qv (fun (u : (zS)) => post u) (fun (u : (zS)) t => va_P D vwCl (wX8 K h0 a0 n0 la0 u ++ (([] : va_W))) t.heap) (va_A (wX8 K h0 a0 n0 la0 r0 ++ (([] : va_W))) sz)) 0 0 (va_A (wX8 K h0 a0 n0 la0 r0 ++ (([] : va_W))) sz)) {k57 : (zS) → Int32 → Int32 → Prop} (hk57 : ∀ (r0 : zS) (x6 : Int32) (x7 : Int32) (H : Heap) (locs : List Loc) (ls : Array Slot), lv_has ls 10 [(0, .ref h0), (1, .int p1), (2, .int p2), (3, .int p3), (4, .int p4), (5, .int p5), (6, .int x6), (7, .int x7)] → va_P D vwCl (wX8 K h0 a0 n0 la0 r0 ++ (([] : va_W))) H → va_D A (wX8 K h0 a0 n0 la0 r0 ++ (([] : va_W))) → va_S A s.heap H locs → k57 r0 x6 x7  → W p l e ({ frames := (d + 1) + 3, cells := 0, slots := 0, locals := 40 * (d + 1) + 87 } : Room) s m args below meth c H locs 0 0 (MQ below (va_Qv (fun (u : (zS)) => post u) (fun (u : (zS)) t => va_P D vwCl (wX8 K h0 a0 n0 la0 u ++ (([] : va_W))) t.heap) A) args s 0 0 A) (F0 m 57 ls [])) : ∀ (r0 : zS) (x6 : Int32) (x7 : Int32) (H : Heap) (locs : List Loc) (ls : Array Slot), lv_has ls 10 [(0, .ref h0), (1, .int p1), (2, .int p2), (3, .int p3), (4, .int p4), (5, .int p5), (6, .int x6), (7, .int x7)] → va_P D vwCl (wX8 K h0 a0 n0 la0 r0 ++ (([] : va_W))) H → va_D A (wX8 K h0 a0 n0 la0 r0 ++ (([] : va_W))) → va_S A s.heap H locs → wp_X8_seek_226 p1 p2 p3 p4 p5 rec post k57 r0 x6 x7 → W p l e ({ frames := (d + 1) + 3, cells := 0, slots := 0, locals := 40 * (d + 1) + 87 } : Room) s m args below meth c H locs 0 0 (MQ below (va_Qv (fun (u : (zS)) => post u) (fun (u : (zS)) t => va_P D vwCl (wX8 K h0 a0 n0 la0 u ++ (([] : va_W))) t.heap) A) args s 0 0 A) (F0 m 226 ls []) := by
  obtain ⟨hx, hb, hr, hml, hown, hts, hlocks, hK, hT⟩ := id C
  intro r0 x6 x7 H locs ls hl hP hD hS h
  unfold wp_X8_seek_226 at h
  obtain ⟨v9, ev9⟩ : ∃ y : Int32, y = x7 + (1 : Int32) := ⟨_, rfl⟩
  replace h := h v9 ev9
  refine lv_iinc (v := v9) (lv' := [(7, .int v9), (0, .ref h0), (1, .int p1), (2, .int p2), (3, .int p3), (4, .int p4), (5, .int p5), (6, .int x6)]) hx hb dX8_seek_226 hl (k := 7) rfl (by rw [ev9]; rfl) (by decide) rfl (fun ls hl => ?_)
  refine lv_goto (tgt := 57) hx hb dX8_seek_229 (by decide) ?_
  exact hk57 _ _ _ _ _ _ (lv_sub hl [1, 2, 3, 4, 5, 6, 7, 0] rfl) hP hD hS h
set_option maxHeartbeats 4000000 in
set_option maxRecDepth 100000 in
theorem t_X8_seek_222 {p : Program} {l : Launch} {e : Env} {s : State} {m : MethodId} {args : Array Value} {below : List Frame} {meth : Method} {c : Code} {D : va_G} {K : Nat → ClassId} {d : Nat} {h0 : Nat} {a0 : Nat → Nat} {n0 : Nat → Option Nat} {la0 : Nat → Nat} {p1 : Int32} {p2 : Int32} {p3 : Int32} {p4 : Int32} {p5 : Int32} {post : (zS) → Prop} {A : Nat → Prop} (C : xC p s m args meth c cX8_seek RX8 10 none D vwCl (xty K)) (hA : ∀ q, s.heap.size ≤ q → A q) {rec : (zS) → Int32 → Int32 → Int32 → Int32 → Int32 → ((zS) → Prop) → Prop} (hrec : ∀ {h0 : Nat} {a0 : Nat → Nat} {n0 : Nat → Option Nat} {la0 : Nat → Nat} {r0 : zS} {p1 : Int32} {p2 : Int32} {p3 : Int32} {p4 : Int32} {p5 : Int32} {sz : Nat} {post : (zS) → Prop}, rec r0 p1 p2 p3 p4 p5 post → Met l yX8_seek (Cond.code yX8_seek cX8_seek 10 none :: wsL_law) ({ frames := d + 3, cells := 0, slots := 0, locals := 40 * d + 87 } : Room) (va_Pc [.ref h0, .int p1, .int p2, .int p3, .int p4, .int p5] (xPre D vwCl (xty K) (wX8 K h0 a0 n0 la0 r0 ++ (([] : va_W))) sz)) (va_Qv (fun (u : (zS)) => post u) (fun (u : (zS)) t => va_P D vwCl (wX8 K h0 a0 n0 la0 u ++ (([] : va_W))) t.heap) (va_A (wX8 K h0 a0 n0 la0 r0 ++ (([] : va_W))) sz)) 0 0 (va_A (wX8 K h0 a0 n0 la0 r0 ++ (([] : va_W))) sz)) {k57 : (zS) → Int32 → Int32 → Prop} (hk57 : ∀ (r0 : zS) (x6 : Int32) (x7 : Int32) (H : Heap) (locs : List Loc) (ls : Array Slot), lv_has ls 10 [(0, .ref h0), (1, .int p1), (2, .int p2), (3, .int p3), (4, .int p4), (5, .int p5), (6, .int x6), (7, .int x7)] → va_P D vwCl (wX8 K h0 a0 n0 la0 r0 ++ (([] : va_W))) H → va_D A (wX8 K h0 a0 n0 la0 r0 ++ (([] : va_W))) → va_S A s.heap H locs → k57 r0 x6 x7  → W p l e ({ frames := (d + 1) + 3, cells := 0, slots := 0, locals := 40 * (d + 1) + 87 } : Room) s m args below meth c H locs 0 0 (MQ below (va_Qv (fun (u : (zS)) => post u) (fun (u : (zS)) t => va_P D vwCl (wX8 K h0 a0 n0 la0 u ++ (([] : va_W))) t.heap) A) args s 0 0 A) (F0 m 57 ls [])) : ∀ (r0 : zS) (x6 : Int32) (x7 : Int32) (y0 : Int32) (y1 : Int32) (y2 : Int32) (y3 : Int32) (y4 : Int32) (y5 : Int32) (H : Heap) (locs : List Loc) (ls : Array Slot), lv_has ls 10 [(0, .ref h0), (1, .int p1), (2, .int p2), (3, .int p3), (4, .int p4), (5, .int p5), (6, .int x6), (7, .int x7)] → va_P D vwCl (wX8 K h0 a0 n0 la0 r0 ++ (([] : va_W))) H → va_D A (wX8 K h0 a0 n0 la0 r0 ++ (([] : va_W))) → va_S A s.heap H locs → wp_X8_seek_222 p1 p2 p3 p4 p5 rec post k57 r0 x6 x7 y0 y1 y2 y3 y4 y5 → W p l e ({ frames := (d + 1) + 3, cells := 0, slots := 0, locals := 40 * (d + 1) + 87 } : Room) s m args below meth c H locs 0 0 (MQ below (va_Qv (fun (u : (zS)) => post u) (fun (u : (zS)) t => va_P D vwCl (wX8 K h0 a0 n0 la0 u ++ (([] : va_W))) t.heap) A) args s 0 0 A) (F0 m 222 ls [.int y0, .int y1, .int y2, .int y3, .int y4, .int y5, .ref h0]) := by
  obtain ⟨hx, hb, hr, hml, hown, hts, hlocks, hK, hT⟩ := id C
  intro r0 x6 x7 y0 y1 y2 y3 y4 y5 H locs ls hl hP hD hS h
  unfold wp_X8_seek_222 at h
  refine lv_iadd hx hb dX8_seek_222 ?_
  refine xend_rw_v_id (wf := fun (u : (zS)) => (wX8 K h0 a0 n0 la0 u ++ (([] : va_W)))) (xRunV_id (As := [.int y5, .int y4, .int y3, .int y2, .int (y1 + y0)]) (rest := []) C (hrec h) k_X8_seek mw_783 ⟨rfl, rfl⟩ ⟨by dsimp only; omega, by dsimp only; omega⟩ hP hD rfl rfl hl rfl rfl (Nat.le_of_ble_eq_true rfl) dX8_seek_223 ⟨Nat.le_refl _, Nat.le_refl _⟩) hD hS hA (fun _ => wX8_adr _ _) (fun s20 H locs h hP hD hS => ?_)
  exact t_X8_seek_226 C hA hrec hk57 _ _ _ _ _ _ (lv_sub hl [0, 1, 2, 3, 4, 5, 6, 7] rfl) hP hD hS h
set_option maxHeartbeats 4000000 in
set_option maxRecDepth 100000 in
theorem t_X8_seek_221 {p : Program} {l : Launch} {e : Env} {s : State} {m : MethodId} {args : Array Value} {below : List Frame} {meth : Method} {c : Code} {D : va_G} {K : Nat → ClassId} {d : Nat} {h0 : Nat} {a0 : Nat → Nat} {n0 : Nat → Option Nat} {la0 : Nat → Nat} {p1 : Int32} {p2 : Int32} {p3 : Int32} {p4 : Int32} {p5 : Int32} {post : (zS) → Prop} {A : Nat → Prop} (C : xC p s m args meth c cX8_seek RX8 10 none D vwCl (xty K)) (hA : ∀ q, s.heap.size ≤ q → A q) {rec : (zS) → Int32 → Int32 → Int32 → Int32 → Int32 → ((zS) → Prop) → Prop} (hrec : ∀ {h0 : Nat} {a0 : Nat → Nat} {n0 : Nat → Option Nat} {la0 : Nat → Nat} {r0 : zS} {p1 : Int32} {p2 : Int32} {p3 : Int32} {p4 : Int32} {p5 : Int32} {sz : Nat} {post : (zS) → Prop}, rec r0 p1 p2 p3 p4 p5 post → Met l yX8_seek (Cond.code yX8_seek cX8_seek 10 none :: wsL_law) ({ frames := d + 3, cells := 0, slots := 0, locals := 40 * d + 87 } : Room) (va_Pc [.ref h0, .int p1, .int p2, .int p3, .int p4, .int p5] (xPre D vwCl (xty K) (wX8 K h0 a0 n0 la0 r0 ++ (([] : va_W))) sz)) (va_Qv (fun (u : (zS)) => post u) (fun (u : (zS)) t => va_P D vwCl (wX8 K h0 a0 n0 la0 u ++ (([] : va_W))) t.heap) (va_A (wX8 K h0 a0 n0 la0 r0 ++ (([] : va_W))) sz)) 0 0 (va_A (wX8 K h0 a0 n0 la0 r0 ++ (([] : va_W))) sz)) {k57 : (zS) → Int32 → Int32 → Prop} (hk57 : ∀ (r0 : zS) (x6 : Int32) (x7 : Int32) (H : Heap) (locs : List Loc) (ls : Array Slot), lv_has ls 10 [(0, .ref h0), (1, .int p1), (2, .int p2), (3, .int p3), (4, .int p4), (5, .int p5), (6, .int x6), (7, .int x7)] → va_P D vwCl (wX8 K h0 a0 n0 la0 r0 ++ (([] : va_W))) H → va_D A (wX8 K h0 a0 n0 la0 r0 ++ (([] : va_W))) → va_S A s.heap H locs → k57 r0 x6 x7  → W p l e ({ frames := (d + 1) + 3, cells := 0, slots := 0, locals := 40 * (d + 1) + 87 } : Room) s m args below meth c H locs 0 0 (MQ below (va_Qv (fun (u : (zS)) => post u) (fun (u : (zS)) t => va_P D vwCl (wX8 K h0 a0 n0 la0 u ++ (([] : va_W))) t.heap) A) args s 0 0 A) (F0 m 57 ls [])) : ∀ (r0 : zS) (x6 : Int32) (x7 : Int32) (y0 : Int32) (y1 : Int32) (y2 : Int32) (y3 : Int32) (y4 : Int32) (H : Heap) (locs : List Loc) (ls : Array Slot), lv_has ls 10 [(0, .ref h0), (1, .int p1), (2, .int p2), (3, .int p3), (4, .int p4), (5, .int p5), (6, .int x6), (7, .int x7)] → va_P D vwCl (wX8 K h0 a0 n0 la0 r0 ++ (([] : va_W))) H → va_D A (wX8 K h0 a0 n0 la0 r0 ++ (([] : va_W))) → va_S A s.heap H locs → wp_X8_seek_221 p1 p2 p3 p4 p5 rec post k57 r0 x6 x7 y0 y1 y2 y3 y4 → W p l e ({ frames := (d + 1) + 3, cells := 0, slots := 0, locals := 40 * (d + 1) + 87 } : Room) s m args below meth c H locs 0 0 (MQ below (va_Qv (fun (u : (zS)) => post u) (fun (u : (zS)) t => va_P D vwCl (wX8 K h0 a0 n0 la0 u ++ (([] : va_W))) t.heap) A) args s 0 0 A) (F0 m 221 ls [.int y0, .int y1, .int y2, .int y3, .int y4, .ref h0]) := by
  obtain ⟨hx, hb, hr, hml, hown, hts, hlocks, hK, hT⟩ := id C
  intro r0 x6 x7 y0 y1 y2 y3 y4 H locs ls hl hP hD hS h
  unfold wp_X8_seek_221 at h
  refine lv_iconst (v := 0) hx hb dX8_seek_221 (by decide) ?_
  exact t_X8_seek_222 C hA hrec hk57 _ _ _ _ _ _ _ _ _ _ _ _ (lv_sub hl [0, 1, 2, 3, 4, 5, 6, 7] rfl) hP hD hS h
set_option maxHeartbeats 4000000 in
set_option maxRecDepth 100000 in
theorem t_X8_seek_160 {p : Program} {l : Launch} {e : Env} {s : State} {m : MethodId} {args : Array Value} {below : List Frame} {meth : Method} {c : Code} {D : va_G} {K : Nat → ClassId} {d : Nat} {h0 : Nat} {a0 : Nat → Nat} {n0 : Nat → Option Nat} {la0 : Nat → Nat} {p1 : Int32} {p2 : Int32} {p3 : Int32} {p4 : Int32} {p5 : Int32} {post : (zS) → Prop} {A : Nat → Prop} (C : xC p s m args meth c cX8_seek RX8 10 none D vwCl (xty K)) (hA : ∀ q, s.heap.size ≤ q → A q) {rec : (zS) → Int32 → Int32 → Int32 → Int32 → Int32 → ((zS) → Prop) → Prop} (hrec : ∀ {h0 : Nat} {a0 : Nat → Nat} {n0 : Nat → Option Nat} {la0 : Nat → Nat} {r0 : zS} {p1 : Int32} {p2 : Int32} {p3 : Int32} {p4 : Int32} {p5 : Int32} {sz : Nat} {post : (zS) → Prop}, rec r0 p1 p2 p3 p4 p5 post → Met l yX8_seek (Cond.code yX8_seek cX8_seek 10 none :: wsL_law) ({ frames := d + 3, cells := 0, slots := 0, locals := 40 * d + 87 } : Room) (va_Pc [.ref h0, .int p1, .int p2, .int p3, .int p4, .int p5] (xPre D vwCl (xty K) (wX8 K h0 a0 n0 la0 r0 ++ (([] : va_W))) sz)) (va_Qv (fun (u : (zS)) => post u) (fun (u : (zS)) t => va_P D vwCl (wX8 K h0 a0 n0 la0 u ++ (([] : va_W))) t.heap) (va_A (wX8 K h0 a0 n0 la0 r0 ++ (([] : va_W))) sz)) 0 0 (va_A (wX8 K h0 a0 n0 la0 r0 ++ (([] : va_W))) sz)) {k57 : (zS) → Int32 → Int32 → Prop} (hk57 : ∀ (r0 : zS) (x6 : Int32) (x7 : Int32) (H : Heap) (locs : List Loc) (ls : Array Slot), lv_has ls 10 [(0, .ref h0), (1, .int p1), (2, .int p2), (3, .int p3), (4, .int p4), (5, .int p5), (6, .int x6), (7, .int x7)] → va_P D vwCl (wX8 K h0 a0 n0 la0 r0 ++ (([] : va_W))) H → va_D A (wX8 K h0 a0 n0 la0 r0 ++ (([] : va_W))) → va_S A s.heap H locs → k57 r0 x6 x7  → W p l e ({ frames := (d + 1) + 3, cells := 0, slots := 0, locals := 40 * (d + 1) + 87 } : Room) s m args below meth c H locs 0 0 (MQ below (va_Qv (fun (u : (zS)) => post u) (fun (u : (zS)) t => va_P D vwCl (wX8 K h0 a0 n0 la0 u ++ (([] : va_W))) t.heap) A) args s 0 0 A) (F0 m 57 ls [])) : ∀ (r0 : zS) (x6 : Int32) (x7 : Int32) (y0 : Int32) (y1 : Int32) (y2 : Int32) (y3 : Int32) (y4 : Int64) (H : Heap) (locs : List Loc) (ls : Array Slot), lv_has ls 10 [(0, .ref h0), (1, .int p1), (2, .int p2), (3, .int p3), (4, .int p4), (5, .int p5), (6, .int x6), (7, .int x7)] → va_P D vwCl (wX8 K h0 a0 n0 la0 r0 ++ (([] : va_W))) H → va_D A (wX8 K h0 a0 n0 la0 r0 ++ (([] : va_W))) → va_S A s.heap H locs → wp_X8_seek_160 p1 p2 p3 p4 p5 rec post k57 r0 x6 x7 y0 y1 y2 y3 y4 → W p l e ({ frames := (d + 1) + 3, cells := 0, slots := 0, locals := 40 * (d + 1) + 87 } : Room) s m args below meth c H locs 0 0 (MQ below (va_Qv (fun (u : (zS)) => post u) (fun (u : (zS)) t => va_P D vwCl (wX8 K h0 a0 n0 la0 u ++ (([] : va_W))) t.heap) A) args s 0 0 A) (F0 m 160 ls [.int y0, .int y1, .int y2, .ref h0, .int y3, .long y4]) := by
  obtain ⟨hx, hb, hr, hml, hown, hts, hlocks, hK, hT⟩ := id C
  intro r0 x6 x7 y0 y1 y2 y3 y4 H locs ls hl hP hD hS h
  unfold wp_X8_seek_160 at h
  refine xend_ro_i (xRunV_id (As := [.int y2, .int y1, .int y0]) (rest := [.int y3, .long y4]) C (c_X8_lossAt h) k_X8_lossAt mw_743 ⟨rfl, rfl⟩ ⟨by dsimp only; omega, by dsimp only; omega⟩ hP hD rfl rfl hl rfl rfl (Nat.le_of_ble_eq_true rfl) dX8_seek_160 ⟨Nat.le_refl _, Nat.le_refl _⟩) (fun v15 h => ?_)
  refine lv_isub hx hb dX8_seek_163 ?_
  refine lv_i2l hx hb dX8_seek_164 rfl ?_
  refine lv_lmul hx hb dX8_seek_165 ?_
  refine lv_ldc2 hx hb hown (hts _ mw_484) dX8_seek_166 ?_
  refine lv_ldiv hx hb dX8_seek_169 (by decide) ?_
  refine lv_l2i hx hb dX8_seek_170 rfl ?_
  refine lv_topi (fun v16 ev16 => ?_)
  replace h := h v16 ev16
  refine lv_istore (lv' := [(9, .int v16), (0, .ref h0), (1, .int p1), (2, .int p2), (3, .int p3), (4, .int p4), (5, .int p5), (6, .int x6), (7, .int x7)]) hx hb dX8_seek_171 hl (by decide) rfl (fun ls hl => ?_)
  refine lv_aload_n hx hb dX8_seek_173 rfl (lv_at hl 1 rfl) ?_
  refine lv_iload_n hx hb dX8_seek_174 rfl (lv_at hl 2 rfl) ?_
  refine lv_iconst (v := 1) hx hb dX8_seek_175 (by decide) ?_
  refine lv_iadd hx hb dX8_seek_176 ?_
  refine lv_iload_n hx hb dX8_seek_177 rfl (lv_at hl 3 rfl) ?_
  refine lv_iconst (v := 1) hx hb dX8_seek_178 (by decide) ?_
  refine lv_iload hx hb dX8_seek_179 (lv_at hl 8 rfl) ?_
  refine lv_ishl hx hb dX8_seek_181 ?_
  refine lv_ior hx hb dX8_seek_182 ?_
  refine lv_iload_n hx hb dX8_seek_183 rfl (lv_at hl 4 rfl) ?_
  refine lv_aload_n hx hb dX8_seek_184 rfl (lv_at hl 1 rfl) ?_
  refine lv_iload hx hb dX8_seek_185 (lv_at hl 7 rfl) ?_
  refine xend_ro_i (xRunV_id (As := [.int x6]) (rest := [.int p3, .int (p2 ||| ((1 : Int32) <<< (x7 &&& 31))), .int (p1 + (1 : Int32)), .ref h0]) C (c_X8_takes h) k_X8_takes mw_348 ⟨rfl, rfl⟩ ⟨by dsimp only; omega, by dsimp only; omega⟩ hP hD rfl rfl hl rfl rfl (Nat.le_of_ble_eq_true rfl) dX8_seek_187 ⟨Nat.le_refl _, Nat.le_refl _⟩) (fun v17 h => ?_)
  refine lv_iadd hx hb dX8_seek_190 ?_
  refine lv_iload hx hb dX8_seek_191 (lv_at hl 0 rfl) ?_
  refine lv_iload hx hb dX8_seek_193 (lv_at hl 6 rfl) ?_
  refine lv_iload hx hb dX8_seek_195 (lv_at hl 8 rfl) ?_
  refine lv_aload_n hx hb dX8_seek_197 rfl (lv_at hl 1 rfl) ?_
  refine gX8_36 C hP dX8_seek_198 ?_
  refine lv_icmp_eq (tgt := 221) hx hb dX8_seek_201 (by decide) (fun c18 => ?_) (fun c18 => ?_)
  · replace h := And.left h c18
    exact t_X8_seek_221 C hA hrec hk57 _ _ _ _ _ _ _ _ _ _ _ (lv_sub hl [1, 2, 3, 4, 5, 6, 7, 8] rfl) hP hD hS h
  · replace h := And.right h c18
    refine lv_aload_n hx hb dX8_seek_204 rfl (lv_at hl 1 rfl) ?_
    refine gX8_11 C hP dX8_seek_205 ?_
    refine lv_iload hx hb dX8_seek_208 (lv_at hl 8 rfl) ?_
    have hin := And.left h
    replace h := And.right h
    refine lX8_11 C hP hin dX8_seek_210 ?_
    refine xend_ro_i (xRunS (wc := ([] : va_W)) (As := [.int (r0.2.1 11 x7.toNatClampNeg)]) (rest := [.int p5, .int v16, .int (p3 + v17), .int (p2 ||| ((1 : Int32) <<< (x7 &&& 31))), .int (p1 + (1 : Int32)), .ref h0]) C (c_X8_reads h) k_X8_reads mw_331 ⟨rfl, rfl⟩ ⟨by dsimp only; omega, by dsimp only; omega⟩ hP hD [] rfl rfl hl rfl rfl (Nat.le_of_ble_eq_true rfl) dX8_seek_211 ⟨Nat.le_refl _, Nat.le_refl _⟩) (fun v21 h => ?_)
    refine lv_if_eq (tgt := 221) hx hb dX8_seek_214 (by decide) (fun c22 => ?_) (fun c22 => ?_)
    · replace h := And.left h c22
      exact t_X8_seek_221 C hA hrec hk57 _ _ _ _ _ _ _ _ _ _ _ (lv_sub hl [1, 2, 3, 4, 5, 6, 7, 8] rfl) hP hD hS h
    · replace h := And.right h c22
      refine lv_iconst (v := 1) hx hb dX8_seek_217 (by decide) ?_
      refine lv_goto (tgt := 222) hx hb dX8_seek_218 (by decide) ?_
      exact t_X8_seek_222 C hA hrec hk57 _ _ _ _ _ _ _ _ _ _ _ _ (lv_sub hl [1, 2, 3, 4, 5, 6, 7, 8] rfl) hP hD hS h
set_option maxHeartbeats 4000000 in
set_option maxRecDepth 100000 in
theorem t_X8_seek_101 {p : Program} {l : Launch} {e : Env} {s : State} {m : MethodId} {args : Array Value} {below : List Frame} {meth : Method} {c : Code} {D : va_G} {K : Nat → ClassId} {d : Nat} {h0 : Nat} {a0 : Nat → Nat} {n0 : Nat → Option Nat} {la0 : Nat → Nat} {p1 : Int32} {p2 : Int32} {p3 : Int32} {p4 : Int32} {p5 : Int32} {post : (zS) → Prop} {A : Nat → Prop} (C : xC p s m args meth c cX8_seek RX8 10 none D vwCl (xty K)) (hA : ∀ q, s.heap.size ≤ q → A q) {rec : (zS) → Int32 → Int32 → Int32 → Int32 → Int32 → ((zS) → Prop) → Prop} (hrec : ∀ {h0 : Nat} {a0 : Nat → Nat} {n0 : Nat → Option Nat} {la0 : Nat → Nat} {r0 : zS} {p1 : Int32} {p2 : Int32} {p3 : Int32} {p4 : Int32} {p5 : Int32} {sz : Nat} {post : (zS) → Prop}, rec r0 p1 p2 p3 p4 p5 post → Met l yX8_seek (Cond.code yX8_seek cX8_seek 10 none :: wsL_law) ({ frames := d + 3, cells := 0, slots := 0, locals := 40 * d + 87 } : Room) (va_Pc [.ref h0, .int p1, .int p2, .int p3, .int p4, .int p5] (xPre D vwCl (xty K) (wX8 K h0 a0 n0 la0 r0 ++ (([] : va_W))) sz)) (va_Qv (fun (u : (zS)) => post u) (fun (u : (zS)) t => va_P D vwCl (wX8 K h0 a0 n0 la0 u ++ (([] : va_W))) t.heap) (va_A (wX8 K h0 a0 n0 la0 r0 ++ (([] : va_W))) sz)) 0 0 (va_A (wX8 K h0 a0 n0 la0 r0 ++ (([] : va_W))) sz)) {k57 : (zS) → Int32 → Int32 → Prop} (hk57 : ∀ (r0 : zS) (x6 : Int32) (x7 : Int32) (H : Heap) (locs : List Loc) (ls : Array Slot), lv_has ls 10 [(0, .ref h0), (1, .int p1), (2, .int p2), (3, .int p3), (4, .int p4), (5, .int p5), (6, .int x6), (7, .int x7)] → va_P D vwCl (wX8 K h0 a0 n0 la0 r0 ++ (([] : va_W))) H → va_D A (wX8 K h0 a0 n0 la0 r0 ++ (([] : va_W))) → va_S A s.heap H locs → k57 r0 x6 x7  → W p l e ({ frames := (d + 1) + 3, cells := 0, slots := 0, locals := 40 * (d + 1) + 87 } : Room) s m args below meth c H locs 0 0 (MQ below (va_Qv (fun (u : (zS)) => post u) (fun (u : (zS)) t => va_P D vwCl (wX8 K h0 a0 n0 la0 u ++ (([] : va_W))) t.heap) A) args s 0 0 A) (F0 m 57 ls [])) : ∀ (r0 : zS) (x6 : Int32) (x7 : Int32) (y0 : Int32) (H : Heap) (locs : List Loc) (ls : Array Slot), lv_has ls 10 [(0, .ref h0), (1, .int p1), (2, .int p2), (3, .int p3), (4, .int p4), (5, .int p5), (6, .int x6), (7, .int x7)] → va_P D vwCl (wX8 K h0 a0 n0 la0 r0 ++ (([] : va_W))) H → va_D A (wX8 K h0 a0 n0 la0 r0 ++ (([] : va_W))) → va_S A s.heap H locs → wp_X8_seek_101 p1 p2 p3 p4 p5 rec post k57 r0 x6 x7 y0 → W p l e ({ frames := (d + 1) + 3, cells := 0, slots := 0, locals := 40 * (d + 1) + 87 } : Room) s m args below meth c H locs 0 0 (MQ below (va_Qv (fun (u : (zS)) => post u) (fun (u : (zS)) t => va_P D vwCl (wX8 K h0 a0 n0 la0 u ++ (([] : va_W))) t.heap) A) args s 0 0 A) (F0 m 101 ls [.int y0]) := by
  obtain ⟨hx, hb, hr, hml, hown, hts, hlocks, hK, hT⟩ := id C
  intro r0 x6 x7 y0 H locs ls hl hP hD hS h
  unfold wp_X8_seek_101 at h
  refine lv_istore (lv' := [(8, .int y0), (0, .ref h0), (1, .int p1), (2, .int p2), (3, .int p3), (4, .int p4), (5, .int p5), (6, .int x6), (7, .int x7)]) hx hb dX8_seek_101 hl (by decide) rfl (fun ls hl => ?_)
  refine lv_iload_n hx hb dX8_seek_103 rfl (lv_at hl 3 rfl) ?_
  refine lv_iload hx hb dX8_seek_104 (lv_at hl 8 rfl) ?_
  refine xend_ro_i (xRunS (wc := ([] : va_W)) (As := [.int p2, .int x7]) (rest := []) C (c_X8_has h) k_X8_has mw_342 ⟨rfl, rfl⟩ ⟨by dsimp only; omega, by dsimp only; omega⟩ hP hD [] rfl rfl hl rfl rfl (Nat.le_of_ble_eq_true rfl) dX8_seek_106 ⟨Nat.le_refl _, Nat.le_refl _⟩) (fun v7 h => ?_)
  refine lv_if_ne (tgt := 226) hx hb dX8_seek_109 (by decide) (fun c8 => ?_) (fun c8 => ?_)
  · replace h := And.right h c8
    exact t_X8_seek_226 C hA hrec hk57 _ _ _ _ _ _ (lv_sub hl [1, 2, 3, 4, 5, 6, 7, 8] rfl) hP hD hS h
  · replace h := And.left h c8
    refine lv_iload hx hb dX8_seek_112 (lv_at hl 0 rfl) ?_
    refine lv_if_ne (tgt := 226) hx hb dX8_seek_114 (by decide) (fun c10 => ?_) (fun c10 => ?_)
    · replace h := And.right h c10
      exact t_X8_seek_226 C hA hrec hk57 _ _ _ _ _ _ (lv_sub hl [1, 2, 3, 4, 5, 6, 7, 8] rfl) hP hD hS h
    · replace h := And.left h c10
      refine lv_aload_n hx hb dX8_seek_117 rfl (lv_at hl 1 rfl) ?_
      refine lv_iload hx hb dX8_seek_118 (lv_at hl 7 rfl) ?_
      refine lv_iload hx hb dX8_seek_120 (lv_at hl 8 rfl) ?_
      refine xend_ro_i (xRunV_id (As := [.int x6, .int x7]) (rest := []) C (c_X8_areBeside h) k_X8_areBeside mw_338 ⟨rfl, rfl⟩ ⟨by dsimp only; omega, by dsimp only; omega⟩ hP hD rfl rfl hl rfl rfl (Nat.le_of_ble_eq_true rfl) dX8_seek_122 ⟨Nat.le_refl _, Nat.le_refl _⟩) (fun v11 h => ?_)
      refine lv_if_eq (tgt := 226) hx hb dX8_seek_125 (by decide) (fun c12 => ?_) (fun c12 => ?_)
      · replace h := And.left h c12
        exact t_X8_seek_226 C hA hrec hk57 _ _ _ _ _ _ (lv_sub hl [1, 2, 3, 4, 5, 6, 7, 8] rfl) hP hD hS h
      · replace h := And.right h c12
        refine lv_aload_n hx hb dX8_seek_128 rfl (lv_at hl 1 rfl) ?_
        refine gX8_35 C hP dX8_seek_129 ?_
        refine lv_iload_n hx hb dX8_seek_132 rfl (lv_at hl 2 rfl) ?_
        refine lv_iload hx hb dX8_seek_133 (lv_at hl 8 rfl) ?_
        have hin := And.left h
        obtain ⟨j13, ej13⟩ : ∃ j : Nat, j = p1.toNatClampNeg := ⟨_, rfl⟩
        replace h := And.right h j13 ej13
        refine sX8_35 C hP hD hS hin ej13 dX8_seek_135 (fun H locs hP hD hS => ?_)
        refine lv_iload hx hb dX8_seek_136 (lv_at hl 5 rfl) ?_
        refine lv_i2l hx hb dX8_seek_138 rfl ?_
        refine lv_sipush (v := 1000) hx hb dX8_seek_139 (by decide) ?_
        refine lv_aload_n hx hb dX8_seek_142 rfl (lv_at hl 1 rfl) ?_
        refine lv_iload hx hb dX8_seek_143 (lv_at hl 8 rfl) ?_
        refine lv_iload_n hx hb dX8_seek_145 rfl (lv_at hl 4 rfl) ?_
        refine lv_iload hx hb dX8_seek_146 (lv_at hl 8 rfl) ?_
        refine lv_aload_n hx hb dX8_seek_148 rfl (lv_at hl 1 rfl) ?_
        refine gX8_36 C hP dX8_seek_149 ?_
        refine lv_icmp_ne (tgt := 159) hx hb dX8_seek_152 (by decide) (fun c14 => ?_) (fun c14 => ?_)
        · replace h := And.right h c14
          refine lv_iconst (v := 0) hx hb dX8_seek_159 (by decide) ?_
          exact t_X8_seek_160 C hA hrec hk57 _ _ _ _ _ _ _ _ _ _ _ (lv_sub hl [1, 2, 3, 4, 5, 6, 7, 8] rfl) hP hD hS h
        · replace h := And.left h c14
          refine lv_iconst (v := 1) hx hb dX8_seek_155 (by decide) ?_
          refine lv_goto (tgt := 160) hx hb dX8_seek_156 (by decide) ?_
          exact t_X8_seek_160 C hA hrec hk57 _ _ _ _ _ _ _ _ _ _ _ (lv_sub hl [1, 2, 3, 4, 5, 6, 7, 8] rfl) hP hD hS h
set_option maxHeartbeats 4000000 in
set_option maxRecDepth 100000 in
theorem t_X8_seek_100 {p : Program} {l : Launch} {e : Env} {s : State} {m : MethodId} {args : Array Value} {below : List Frame} {meth : Method} {c : Code} {D : va_G} {K : Nat → ClassId} {d : Nat} {h0 : Nat} {a0 : Nat → Nat} {n0 : Nat → Option Nat} {la0 : Nat → Nat} {p1 : Int32} {p2 : Int32} {p3 : Int32} {p4 : Int32} {p5 : Int32} {post : (zS) → Prop} {A : Nat → Prop} (C : xC p s m args meth c cX8_seek RX8 10 none D vwCl (xty K)) (hA : ∀ q, s.heap.size ≤ q → A q) {rec : (zS) → Int32 → Int32 → Int32 → Int32 → Int32 → ((zS) → Prop) → Prop} (hrec : ∀ {h0 : Nat} {a0 : Nat → Nat} {n0 : Nat → Option Nat} {la0 : Nat → Nat} {r0 : zS} {p1 : Int32} {p2 : Int32} {p3 : Int32} {p4 : Int32} {p5 : Int32} {sz : Nat} {post : (zS) → Prop}, rec r0 p1 p2 p3 p4 p5 post → Met l yX8_seek (Cond.code yX8_seek cX8_seek 10 none :: wsL_law) ({ frames := d + 3, cells := 0, slots := 0, locals := 40 * d + 87 } : Room) (va_Pc [.ref h0, .int p1, .int p2, .int p3, .int p4, .int p5] (xPre D vwCl (xty K) (wX8 K h0 a0 n0 la0 r0 ++ (([] : va_W))) sz)) (va_Qv (fun (u : (zS)) => post u) (fun (u : (zS)) t => va_P D vwCl (wX8 K h0 a0 n0 la0 u ++ (([] : va_W))) t.heap) (va_A (wX8 K h0 a0 n0 la0 r0 ++ (([] : va_W))) sz)) 0 0 (va_A (wX8 K h0 a0 n0 la0 r0 ++ (([] : va_W))) sz)) {k57 : (zS) → Int32 → Int32 → Prop} (hk57 : ∀ (r0 : zS) (x6 : Int32) (x7 : Int32) (H : Heap) (locs : List Loc) (ls : Array Slot), lv_has ls 10 [(0, .ref h0), (1, .int p1), (2, .int p2), (3, .int p3), (4, .int p4), (5, .int p5), (6, .int x6), (7, .int x7)] → va_P D vwCl (wX8 K h0 a0 n0 la0 r0 ++ (([] : va_W))) H → va_D A (wX8 K h0 a0 n0 la0 r0 ++ (([] : va_W))) → va_S A s.heap H locs → k57 r0 x6 x7  → W p l e ({ frames := (d + 1) + 3, cells := 0, slots := 0, locals := 40 * (d + 1) + 87 } : Room) s m args below meth c H locs 0 0 (MQ below (va_Qv (fun (u : (zS)) => post u) (fun (u : (zS)) t => va_P D vwCl (wX8 K h0 a0 n0 la0 u ++ (([] : va_W))) t.heap) A) args s 0 0 A) (F0 m 57 ls [])) : ∀ (r0 : zS) (x6 : Int32) (x7 : Int32) (H : Heap) (locs : List Loc) (ls : Array Slot), lv_has ls 10 [(0, .ref h0), (1, .int p1), (2, .int p2), (3, .int p3), (4, .int p4), (5, .int p5), (6, .int x6), (7, .int x7)] → va_P D vwCl (wX8 K h0 a0 n0 la0 r0 ++ (([] : va_W))) H → va_D A (wX8 K h0 a0 n0 la0 r0 ++ (([] : va_W))) → va_S A s.heap H locs → wp_X8_seek_100 p1 p2 p3 p4 p5 rec post k57 r0 x6 x7 → W p l e ({ frames := (d + 1) + 3, cells := 0, slots := 0, locals := 40 * (d + 1) + 87 } : Room) s m args below meth c H locs 0 0 (MQ below (va_Qv (fun (u : (zS)) => post u) (fun (u : (zS)) t => va_P D vwCl (wX8 K h0 a0 n0 la0 u ++ (([] : va_W))) t.heap) A) args s 0 0 A) (F0 m 100 ls []) := by
  obtain ⟨hx, hb, hr, hml, hown, hts, hlocks, hK, hT⟩ := id C
  intro r0 x6 x7 H locs ls hl hP hD hS h
  unfold wp_X8_seek_100 at h
  refine lv_iconst (v := 0) hx hb dX8_seek_100 (by decide) ?_
  exact t_X8_seek_101 C hA hrec hk57 _ _ _ _ _ _ _ (lv_sub hl [0, 1, 2, 3, 4, 5, 6, 7] rfl) hP hD hS h
set_option maxHeartbeats 4000000 in
set_option maxRecDepth 100000 in
theorem t_X8_seek_57 {p : Program} {l : Launch} {e : Env} {s : State} {m : MethodId} {args : Array Value} {below : List Frame} {meth : Method} {c : Code} {D : va_G} {K : Nat → ClassId} {d : Nat} {h0 : Nat} {a0 : Nat → Nat} {n0 : Nat → Option Nat} {la0 : Nat → Nat} {p1 : Int32} {p2 : Int32} {p3 : Int32} {p4 : Int32} {p5 : Int32} {post : (zS) → Prop} {A : Nat → Prop} (C : xC p s m args meth c cX8_seek RX8 10 none D vwCl (xty K)) (hA : ∀ q, s.heap.size ≤ q → A q) {rec : (zS) → Int32 → Int32 → Int32 → Int32 → Int32 → ((zS) → Prop) → Prop} (hrec : ∀ {h0 : Nat} {a0 : Nat → Nat} {n0 : Nat → Option Nat} {la0 : Nat → Nat} {r0 : zS} {p1 : Int32} {p2 : Int32} {p3 : Int32} {p4 : Int32} {p5 : Int32} {sz : Nat} {post : (zS) → Prop}, rec r0 p1 p2 p3 p4 p5 post → Met l yX8_seek (Cond.code yX8_seek cX8_seek 10 none :: wsL_law) ({ frames := d + 3, cells := 0, slots := 0, locals := 40 * d + 87 } : Room) (va_Pc [.ref h0, .int p1, .int p2, .int p3, .int p4, .int p5] (xPre D vwCl (xty K) (wX8 K h0 a0 n0 la0 r0 ++ (([] : va_W))) sz)) (va_Qv (fun (u : (zS)) => post u) (fun (u : (zS)) t => va_P D vwCl (wX8 K h0 a0 n0 la0 u ++ (([] : va_W))) t.heap) (va_A (wX8 K h0 a0 n0 la0 r0 ++ (([] : va_W))) sz)) 0 0 (va_A (wX8 K h0 a0 n0 la0 r0 ++ (([] : va_W))) sz)) : ∀ (n : Nat) (r0 : zS) (x6 : Int32) (x7 : Int32) (H : Heap) (locs : List Loc) (ls : Array Slot), lv_has ls 10 [(0, .ref h0), (1, .int p1), (2, .int p2), (3, .int p3), (4, .int p4), (5, .int p5), (6, .int x6), (7, .int x7)] → va_P D vwCl (wX8 K h0 a0 n0 la0 r0 ++ (([] : va_W))) H → va_D A (wX8 K h0 a0 n0 la0 r0 ++ (([] : va_W))) → va_S A s.heap H locs → wp_X8_seek_57 p1 p2 p3 p4 p5 rec post n r0 x6 x7 → W p l e ({ frames := (d + 1) + 3, cells := 0, slots := 0, locals := 40 * (d + 1) + 87 } : Room) s m args below meth c H locs 0 0 (MQ below (va_Qv (fun (u : (zS)) => post u) (fun (u : (zS)) t => va_P D vwCl (wX8 K h0 a0 n0 la0 u ++ (([] : va_W))) t.heap) A) args s 0 0 A) (F0 m 57 ls []) := by
  obtain ⟨hx, hb, hr, hml, hown, hts, hlocks, hK, hT⟩ := id C
  intro n
  induction n with
  | zero =>
    intro r0 x6 x7 H locs ls hl hP hD hS h
    exact False.elim h
  | succ n ihn =>
    intro r0 x6 x7 H locs ls hl hP hD hS h
    rw [wu_X8_seek_57] at h
    unfold wb_X8_seek_57 at h
    refine lv_iload hx hb dX8_seek_57 (lv_at hl 7 rfl) ?_
    refine lv_aload_n hx hb dX8_seek_59 rfl (lv_at hl 0 rfl) ?_
    refine gX8_10 C hP dX8_seek_60 ?_
    refine lv_icmp_ge (tgt := 232) hx hb dX8_seek_63 (by decide) (fun c5 => ?_) (fun c5 => ?_)
    · replace h := And.left h c5
      exact xrw_v C r0 h hP hS dX8_seek_232
    · replace h := And.right h c5
      refine lv_aload_n hx hb dX8_seek_66 rfl (lv_at hl 0 rfl) ?_
      refine gX8_37 C hP dX8_seek_67 ?_
      refine lv_iconst (v := 1) hx hb dX8_seek_70 (by decide) ?_
      refine lv_icmp_ne (tgt := 100) hx hb dX8_seek_71 (by decide) (fun c6 => ?_) (fun c6 => ?_)
      · replace h := And.right h c6
        exact t_X8_seek_100 C hA hrec ihn _ _ _ _ _ _ (lv_sub hl [0, 1, 2, 3, 4, 5, 6, 7] rfl) hP hD hS h
      · replace h := And.left h c6
        refine lv_iload hx hb dX8_seek_74 (lv_at hl 7 rfl) ?_
        refine lv_aload_n hx hb dX8_seek_76 rfl (lv_at hl 0 rfl) ?_
        refine gX8_36 C hP dX8_seek_77 ?_
        refine lv_icmp_eq (tgt := 100) hx hb dX8_seek_80 (by decide) (fun c23 => ?_) (fun c23 => ?_)
        · replace h := And.left h c23
          exact t_X8_seek_100 C hA hrec ihn _ _ _ _ _ _ (lv_sub hl [0, 1, 2, 3, 4, 5, 6, 7] rfl) hP hD hS h
        · replace h := And.right h c23
          refine lv_aload_n hx hb dX8_seek_83 rfl (lv_at hl 0 rfl) ?_
          refine gX8_11 C hP dX8_seek_84 ?_
          refine lv_iload hx hb dX8_seek_87 (lv_at hl 7 rfl) ?_
          have hin := And.left h
          replace h := And.right h
          refine lX8_11 C hP hin dX8_seek_89 ?_
          refine xend_ro_i (xRunS (wc := ([] : va_W)) (As := [.int (r0.2.1 11 x7.toNatClampNeg)]) (rest := []) C (c_X8_reads h) k_X8_reads mw_331 ⟨rfl, rfl⟩ ⟨by dsimp only; omega, by dsimp only; omega⟩ hP hD [] rfl rfl hl rfl rfl (Nat.le_of_ble_eq_true rfl) dX8_seek_90 ⟨Nat.le_refl _, Nat.le_refl _⟩) (fun v24 h => ?_)
          refine lv_if_eq (tgt := 100) hx hb dX8_seek_93 (by decide) (fun c25 => ?_) (fun c25 => ?_)
          · replace h := And.left h c25
            exact t_X8_seek_100 C hA hrec ihn _ _ _ _ _ _ (lv_sub hl [0, 1, 2, 3, 4, 5, 6, 7] rfl) hP hD hS h
          · replace h := And.right h c25
            refine lv_iconst (v := 1) hx hb dX8_seek_96 (by decide) ?_
            refine lv_goto (tgt := 101) hx hb dX8_seek_97 (by decide) ?_
            exact t_X8_seek_101 C hA hrec ihn _ _ _ _ _ _ _ (lv_sub hl [0, 1, 2, 3, 4, 5, 6, 7] rfl) hP hD hS h
set_option maxHeartbeats 4000000 in
set_option maxRecDepth 100000 in
theorem t_X8_seek_54 {p : Program} {l : Launch} {e : Env} {s : State} {m : MethodId} {args : Array Value} {below : List Frame} {meth : Method} {c : Code} {D : va_G} {K : Nat → ClassId} {d : Nat} {h0 : Nat} {a0 : Nat → Nat} {n0 : Nat → Option Nat} {la0 : Nat → Nat} {p1 : Int32} {p2 : Int32} {p3 : Int32} {p4 : Int32} {p5 : Int32} {post : (zS) → Prop} {A : Nat → Prop} (C : xC p s m args meth c cX8_seek RX8 10 none D vwCl (xty K)) (hA : ∀ q, s.heap.size ≤ q → A q) {rec : (zS) → Int32 → Int32 → Int32 → Int32 → Int32 → ((zS) → Prop) → Prop} (hrec : ∀ {h0 : Nat} {a0 : Nat → Nat} {n0 : Nat → Option Nat} {la0 : Nat → Nat} {r0 : zS} {p1 : Int32} {p2 : Int32} {p3 : Int32} {p4 : Int32} {p5 : Int32} {sz : Nat} {post : (zS) → Prop}, rec r0 p1 p2 p3 p4 p5 post → Met l yX8_seek (Cond.code yX8_seek cX8_seek 10 none :: wsL_law) ({ frames := d + 3, cells := 0, slots := 0, locals := 40 * d + 87 } : Room) (va_Pc [.ref h0, .int p1, .int p2, .int p3, .int p4, .int p5] (xPre D vwCl (xty K) (wX8 K h0 a0 n0 la0 r0 ++ (([] : va_W))) sz)) (va_Qv (fun (u : (zS)) => post u) (fun (u : (zS)) t => va_P D vwCl (wX8 K h0 a0 n0 la0 u ++ (([] : va_W))) t.heap) (va_A (wX8 K h0 a0 n0 la0 r0 ++ (([] : va_W))) sz)) 0 0 (va_A (wX8 K h0 a0 n0 la0 r0 ++ (([] : va_W))) sz)) : ∀ (r0 : zS) (x6 : Int32) (H : Heap) (locs : List Loc) (ls : Array Slot), lv_has ls 10 [(0, .ref h0), (1, .int p1), (2, .int p2), (3, .int p3), (4, .int p4), (5, .int p5), (6, .int x6)] → va_P D vwCl (wX8 K h0 a0 n0 la0 r0 ++ (([] : va_W))) H → va_D A (wX8 K h0 a0 n0 la0 r0 ++ (([] : va_W))) → va_S A s.heap H locs → wp_X8_seek_54 p1 p2 p3 p4 p5 rec post r0 x6 → W p l e ({ frames := (d + 1) + 3, cells := 0, slots := 0, locals := 40 * (d + 1) + 87 } : Room) s m args below meth c H locs 0 0 (MQ below (va_Qv (fun (u : (zS)) => post u) (fun (u : (zS)) t => va_P D vwCl (wX8 K h0 a0 n0 la0 u ++ (([] : va_W))) t.heap) A) args s 0 0 A) (F0 m 54 ls []) := by
  obtain ⟨hx, hb, hr, hml, hown, hts, hlocks, hK, hT⟩ := id C
  intro r0 x6 H locs ls hl hP hD hS h
  unfold wp_X8_seek_54 at h
  refine lv_iconst (v := 0) hx hb dX8_seek_54 (by decide) ?_
  refine lv_istore (lv' := [(7, .int (0 : Int32)), (0, .ref h0), (1, .int p1), (2, .int p2), (3, .int p3), (4, .int p4), (5, .int p5), (6, .int x6)]) hx hb dX8_seek_55 hl (by decide) rfl (fun ls hl => ?_)
  obtain ⟨n0, h⟩ := h
  exact t_X8_seek_57 C hA hrec n0 _ _ _ _ _ _ (lv_sub hl [1, 2, 3, 4, 5, 6, 7, 0] rfl) hP hD hS h
set_option maxHeartbeats 4000000 in
set_option maxRecDepth 100000 in
theorem c_X8_seek {l : Launch} {D : va_G} {K : Nat → ClassId} : ∀ (d : Nat) {h0 : Nat} {a0 : Nat → Nat} {n0 : Nat → Option Nat} {la0 : Nat → Nat} {r0 : zS} {p1 : Int32} {p2 : Int32} {p3 : Int32} {p4 : Int32} {p5 : Int32} {sz : Nat} {post : (zS) → Prop}, wp_X8_seek d r0 p1 p2 p3 p4 p5 post → Met l yX8_seek (Cond.code yX8_seek cX8_seek 10 none :: wsL_law) ({ frames := d + 3, cells := 0, slots := 0, locals := 40 * d + 87 } : Room) (va_Pc [.ref h0, .int p1, .int p2, .int p3, .int p4, .int p5] (xPre D vwCl (xty K) (wX8 K h0 a0 n0 la0 r0 ++ (([] : va_W))) sz)) (va_Qv (fun (u : (zS)) => post u) (fun (u : (zS)) t => va_P D vwCl (wX8 K h0 a0 n0 la0 u ++ (([] : va_W))) t.heap) (va_A (wX8 K h0 a0 n0 la0 r0 ++ (([] : va_W))) sz)) 0 0 (va_A (wX8 K h0 a0 n0 la0 r0 ++ (([] : va_W))) sz) := by
  intro d
  induction d with
  | zero =>
    intro h0 a0 n0 la0 r0 p1 p2 p3 p4 p5 sz post h
    exact False.elim h
  | succ d ihd =>
    intro h0 a0 n0 la0 r0 p1 p2 p3 p4 p5 sz post h
    refine xMet (by decide) rfl (Nat.le_of_ble_eq_true rfl) (fun p e s m args below meth c C hnm hP hD hsz ls hl => ?_)
    have hl : lv_has ls 10 [(0, .ref h0), (1, .int p1), (2, .int p2), (3, .int p3), (4, .int p4), (5, .int p5)] := hl
    obtain ⟨hx, hb, hr, hml, hown, hts, hlocks, hK, hT⟩ := id C
    subst hsz
    generalize hAe : va_A (wX8 K h0 a0 n0 la0 r0 ++ (([] : va_W))) s.heap.size = A at hD ⊢
    have hA : ∀ q : Nat, s.heap.size ≤ q → A q := fun q h => by rw [← hAe]; exact Or.inr h
    have hS : va_S A s.heap s.heap [] := va_S.rf
    have hP : va_P D vwCl (wX8 K h0 a0 n0 la0 r0 ++ (([] : va_W))) s.heap := hP
    rw [wu_X8_seek] at h
    unfold wb_X8_seek at h
    generalize hrc : wp_X8_seek d = rec at h
    have hrec : ∀ {h0 : Nat} {a0 : Nat → Nat} {n0 : Nat → Option Nat} {la0 : Nat → Nat} {r0 : zS} {p1 : Int32} {p2 : Int32} {p3 : Int32} {p4 : Int32} {p5 : Int32} {sz : Nat} {post : (zS) → Prop}, rec r0 p1 p2 p3 p4 p5 post → Met l yX8_seek (Cond.code yX8_seek cX8_seek 10 none :: wsL_law) ({ frames := d + 3, cells := 0, slots := 0, locals := 40 * d + 87 } : Room) (va_Pc [.ref h0, .int p1, .int p2, .int p3, .int p4, .int p5] (xPre D vwCl (xty K) (wX8 K h0 a0 n0 la0 r0 ++ (([] : va_W))) sz)) (va_Qv (fun (u : (zS)) => post u) (fun (u : (zS)) t => va_P D vwCl (wX8 K h0 a0 n0 la0 u ++ (([] : va_W))) t.heap) (va_A (wX8 K h0 a0 n0 la0 r0 ++ (([] : va_W))) sz)) 0 0 (va_A (wX8 K h0 a0 n0 la0 r0 ++ (([] : va_W))) sz) := by
      rw [← hrc]
      exact ihd
    refine lv_aload_n hx hb dX8_seek_0 rfl (lv_at hl 0 rfl) ?_
    refine gX8_35 C hP dX8_seek_1 ?_
    refine lv_iload_n hx hb dX8_seek_4 rfl (lv_at hl 1 rfl) ?_
    refine lv_iconst (v := 1) hx hb dX8_seek_5 (by decide) ?_
    refine lv_isub hx hb dX8_seek_6 ?_
    have hin := And.left h
    replace h := And.right h
    refine lX8_35 C hP hin dX8_seek_7 ?_
    refine lv_topi (fun v1 ev1 => ?_)
    replace h := h v1 ev1
    refine lv_istore (lv' := [(6, .int v1), (0, .ref h0), (1, .int p1), (2, .int p2), (3, .int p3), (4, .int p4), (5, .int p5)]) hx hb dX8_seek_8 hl (by decide) rfl (fun ls hl => ?_)
    refine lv_iload hx hb dX8_seek_10 (lv_at hl 0 rfl) ?_
    refine lv_aload_n hx hb dX8_seek_12 rfl (lv_at hl 1 rfl) ?_
    refine gX8_36 C hP dX8_seek_13 ?_
    refine lv_icmp_ne (tgt := 31) hx hb dX8_seek_16 (by decide) (fun c2 => ?_) (fun c2 => ?_)
    · replace h := And.right h c2
      refine lv_iload_n hx hb dX8_seek_31 rfl (lv_at hl 2 rfl) ?_
      refine lv_bipush (v := 8) hx hb dX8_seek_32 (by decide) ?_
      refine lv_icmp_gt (tgt := 53) hx hb dX8_seek_34 (by decide) (fun c3 => ?_) (fun c3 => ?_)
      · replace h := And.left h c3
        exact xrw_v C r0 h hP hS dX8_seek_53
      · replace h := And.right h c3
        refine lv_aload_n hx hb dX8_seek_37 rfl (lv_at hl 1 rfl) ?_
        refine gX8_37 C hP dX8_seek_38 ?_
        refine lv_iconst (v := 2) hx hb dX8_seek_41 (by decide) ?_
        refine lv_icmp_ne (tgt := 54) hx hb dX8_seek_42 (by decide) (fun c4 => ?_) (fun c4 => ?_)
        · replace h := And.right h c4
          exact t_X8_seek_54 C hA hrec _ _ _ _ _ (lv_sub hl [1, 2, 3, 4, 5, 6, 0] rfl) hP hD hS h
        · replace h := And.left h c4
          refine lv_aload_n hx hb dX8_seek_45 rfl (lv_at hl 1 rfl) ?_
          refine lv_iload_n hx hb dX8_seek_46 rfl (lv_at hl 4 rfl) ?_
          refine xend_ro_i (xRunV_id (As := [.int p3]) (rest := []) C (c_X8_looks h) k_X8_looks mw_747 ⟨rfl, rfl⟩ ⟨by dsimp only; omega, by dsimp only; omega⟩ hP hD rfl rfl hl rfl rfl (Nat.le_of_ble_eq_true rfl) dX8_seek_47 ⟨Nat.le_refl _, Nat.le_refl _⟩) (fun v26 h => ?_)
          refine lv_if_eq (tgt := 54) hx hb dX8_seek_50 (by decide) (fun c27 => ?_) (fun c27 => ?_)
          · replace h := And.left h c27
            exact t_X8_seek_54 C hA hrec _ _ _ _ _ (lv_sub hl [1, 2, 3, 4, 5, 6, 0] rfl) hP hD hS h
          · replace h := And.right h c27
            exact xrw_v C r0 h hP hS dX8_seek_53
    · replace h := And.left h c2
      refine lv_aload_n hx hb dX8_seek_19 rfl (lv_at hl 1 rfl) ?_
      refine lv_iload_n hx hb dX8_seek_20 rfl (lv_at hl 2 rfl) ?_
      refine lv_iload_n hx hb dX8_seek_21 rfl (lv_at hl 3 rfl) ?_
      refine lv_iload_n hx hb dX8_seek_22 rfl (lv_at hl 4 rfl) ?_
      refine lv_iload hx hb dX8_seek_23 (lv_at hl 5 rfl) ?_
      refine lv_iload hx hb dX8_seek_25 (lv_at hl 6 rfl) ?_
      refine xend_rw_v_id (wf := fun (u : (zS)) => (wX8 K h0 a0 n0 la0 u ++ (([] : va_W)))) (xRunV_id (As := [.int p1, .int p2, .int p3, .int p4, .int p5]) (rest := []) C (c_X8_found h) k_X8_found mw_787 ⟨rfl, rfl⟩ ⟨by dsimp only; omega, by dsimp only; omega⟩ hP hD rfl rfl hl rfl rfl (Nat.le_of_ble_eq_true rfl) dX8_seek_27 ⟨Nat.le_refl _, Nat.le_refl _⟩) hD hS hA (fun _ => wX8_adr _ _) (fun s29 H locs h hP hD hS => ?_)
      exact xrw_v C s29 h hP hS dX8_seek_30

def wp_X8_findWays (r0 : zS) (p1 : Int32) (p2 : Int32) (p3 : Int32) (p4 : Int32) (post : (zS) → Prop) : Prop :=
  vp_in (0 : Int32) 12 ∧ (∀ j1 : Nat, j1 = (0 : Int32).toNatClampNeg → wp_X8_seek 10 (zA (zI (zI (zI r0 38 (0 : Int32)) 36 p2) 37 p4) 35 j1 p1) (1 : Int32) ((1 : Int32) <<< (p1 &&& 31)) p3 (1000000 : Int32) (0 : Int32) (fun s3 => post s3))
set_option maxHeartbeats 4000000 in
set_option maxRecDepth 100000 in
theorem c_X8_findWays {l : Launch} {D : va_G} {K : Nat → ClassId} {h0 : Nat} {a0 : Nat → Nat} {n0 : Nat → Option Nat} {la0 : Nat → Nat} {r0 : zS} {p1 : Int32} {p2 : Int32} {p3 : Int32} {p4 : Int32} {sz : Nat} {post : (zS) → Prop}   (h : wp_X8_findWays r0 p1 p2 p3 p4 post) : Met l yX8_findWays (Cond.code yX8_findWays cX8_findWays 5 none :: wsL_law) ({ frames := 14, cells := 0, slots := 0, locals := 516 } : Room) (va_Pc [.ref h0, .int p1, .int p2, .int p3, .int p4] (xPre D vwCl (xty K) (wX8 K h0 a0 n0 la0 r0 ++ (([] : va_W))) sz)) (va_Qv (fun (u : (zS)) => post u) (fun (u : (zS)) t => va_P D vwCl (wX8 K h0 a0 n0 la0 u ++ (([] : va_W))) t.heap) (va_A (wX8 K h0 a0 n0 la0 r0 ++ (([] : va_W))) sz)) 0 0 (va_A (wX8 K h0 a0 n0 la0 r0 ++ (([] : va_W))) sz) := by
  refine xMet (by decide) rfl (Nat.le_of_ble_eq_true rfl) (fun p e s m args below meth c C hnm hP hD hsz ls hl => ?_)
  have hl : lv_has ls 5 [(0, .ref h0), (1, .int p1), (2, .int p2), (3, .int p3), (4, .int p4)] := hl
  obtain ⟨hx, hb, hr, hml, hown, hts, hlocks, hK, hT⟩ := id C
  subst hsz
  generalize hAe : va_A (wX8 K h0 a0 n0 la0 r0 ++ (([] : va_W))) s.heap.size = A at hD ⊢
  have hA : ∀ q : Nat, s.heap.size ≤ q → A q := fun q h => by rw [← hAe]; exact Or.inr h
  have hS : va_S A s.heap s.heap [] := va_S.rf
  have hP : va_P D vwCl (wX8 K h0 a0 n0 la0 r0 ++ (([] : va_W))) s.heap := hP
  unfold wp_X8_findWays at h
  refine lv_aload_n hx hb dX8_findWays_0 rfl (lv_at hl 0 rfl) ?_
  refine lv_iconst (v := 0) hx hb dX8_findWays_1 (by decide) ?_
  refine pX8_38 C hP hD hS dX8_findWays_2 (fun H locs hP hD hS => ?_)
  refine lv_aload_n hx hb dX8_findWays_5 rfl (lv_at hl 0 rfl) ?_
  refine lv_iload_n hx hb dX8_findWays_6 rfl (lv_at hl 2 rfl) ?_
  refine pX8_36 C hP hD hS dX8_findWays_7 (fun H locs hP hD hS => ?_)
  refine lv_aload_n hx hb dX8_findWays_10 rfl (lv_at hl 0 rfl) ?_
  refine lv_iload hx hb dX8_findWays_11 (lv_at hl 4 rfl) ?_
  refine pX8_37 C hP hD hS dX8_findWays_13 (fun H locs hP hD hS => ?_)
  refine lv_aload_n hx hb dX8_findWays_16 rfl (lv_at hl 0 rfl) ?_
  refine gX8_35 C hP dX8_findWays_17 ?_
  refine lv_iconst (v := 0) hx hb dX8_findWays_20 (by decide) ?_
  refine lv_iload_n hx hb dX8_findWays_21 rfl (lv_at hl 1 rfl) ?_
  have hin := And.left h
  obtain ⟨j1, ej1⟩ : ∃ j : Nat, j = (0 : Int32).toNatClampNeg := ⟨_, rfl⟩
  replace h := And.right h j1 ej1
  refine sX8_35 C hP hD hS hin ej1 dX8_findWays_22 (fun H locs hP hD hS => ?_)
  refine lv_aload_n hx hb dX8_findWays_23 rfl (lv_at hl 0 rfl) ?_
  refine lv_iconst (v := 1) hx hb dX8_findWays_24 (by decide) ?_
  refine lv_iconst (v := 1) hx hb dX8_findWays_25 (by decide) ?_
  refine lv_iload_n hx hb dX8_findWays_26 rfl (lv_at hl 1 rfl) ?_
  refine lv_ishl hx hb dX8_findWays_27 ?_
  refine lv_iload_n hx hb dX8_findWays_28 rfl (lv_at hl 3 rfl) ?_
  refine lv_ldcw hx hb hown (hts _ mw_782) dX8_findWays_29 ?_
  refine lv_iconst (v := 0) hx hb dX8_findWays_32 (by decide) ?_
  refine xend_rw_v_id (wf := fun (u : (zS)) => (wX8 K h0 a0 n0 la0 u ++ (([] : va_W)))) (xRunV_id (As := [.int (1 : Int32), .int ((1 : Int32) <<< (p1 &&& 31)), .int p3, .int (1000000 : Int32), .int (0 : Int32)]) (rest := []) C (c_X8_seek 10 h) k_X8_seek mw_783 ⟨rfl, rfl⟩ ⟨Nat.le_of_ble_eq_true rfl, Nat.le_of_ble_eq_true rfl⟩ hP hD rfl rfl hl rfl rfl (Nat.le_of_ble_eq_true rfl) dX8_findWays_33 ⟨Nat.le_refl _, Nat.le_refl _⟩) hD hS hA (fun _ => wX8_adr _ _) (fun s3 H locs h hP hD hS => ?_)
  exact xrw_v C s3 h hP hS dX8_findWays_36

def wp_X8_ways (r0 : zS) (p1 : Int32) (p2 : Int32) (post : Int32 → (zS) → Prop) : Prop :=
  wp_X8_areTwo r0 p1 p2 (fun v1 => (v1 = 0 → wp_X8_refuse r0 (-2 : Int32) (fun v5 s6 => post v5 s6)) ∧ (¬ v1 = 0 → wp_X8_findWays r0 p1 p2 (0 : Int32) (0 : Int32) (fun s4 => post (s4.1 38) s4)))
set_option maxHeartbeats 4000000 in
set_option maxRecDepth 100000 in
theorem c_X8_ways {l : Launch} {D : va_G} {K : Nat → ClassId} {h0 : Nat} {a0 : Nat → Nat} {n0 : Nat → Option Nat} {la0 : Nat → Nat} {r0 : zS} {p1 : Int32} {p2 : Int32} {sz : Nat} {post : Int32 → (zS) → Prop}   (h : wp_X8_ways r0 p1 p2 post) : Met l yX8_ways (Cond.code yX8_ways cX8_ways 3 (some .int) :: wsL_law) ({ frames := 15, cells := 0, slots := 0, locals := 540 } : Room) (va_Pc [.ref h0, .int p1, .int p2] (xPre D vwCl (xty K) (wX8 K h0 a0 n0 la0 r0 ++ (([] : va_W))) sz)) (va_Qi (fun r (u : (zS)) => post r u) (fun (u : (zS)) t => va_P D vwCl (wX8 K h0 a0 n0 la0 u ++ (([] : va_W))) t.heap) (va_A (wX8 K h0 a0 n0 la0 r0 ++ (([] : va_W))) sz)) 0 0 (va_A (wX8 K h0 a0 n0 la0 r0 ++ (([] : va_W))) sz) := by
  refine xMet (by decide) rfl (Nat.le_of_ble_eq_true rfl) (fun p e s m args below meth c C hnm hP hD hsz ls hl => ?_)
  have hl : lv_has ls 3 [(0, .ref h0), (1, .int p1), (2, .int p2)] := hl
  obtain ⟨hx, hb, hr, hml, hown, hts, hlocks, hK, hT⟩ := id C
  subst hsz
  generalize hAe : va_A (wX8 K h0 a0 n0 la0 r0 ++ (([] : va_W))) s.heap.size = A at hD ⊢
  have hA : ∀ q : Nat, s.heap.size ≤ q → A q := fun q h => by rw [← hAe]; exact Or.inr h
  have hS : va_S A s.heap s.heap [] := va_S.rf
  have hP : va_P D vwCl (wX8 K h0 a0 n0 la0 r0 ++ (([] : va_W))) s.heap := hP
  unfold wp_X8_ways at h
  refine lv_aload_n hx hb dX8_ways_0 rfl (lv_at hl 0 rfl) ?_
  refine lv_iload_n hx hb dX8_ways_1 rfl (lv_at hl 1 rfl) ?_
  refine lv_iload_n hx hb dX8_ways_2 rfl (lv_at hl 2 rfl) ?_
  refine xend_ro_i (xRunV_id (As := [.int p1, .int p2]) (rest := []) C (c_X8_areTwo h) k_X8_areTwo mw_449 ⟨rfl, rfl⟩ ⟨Nat.le_of_ble_eq_true rfl, Nat.le_of_ble_eq_true rfl⟩ hP hD rfl rfl hl rfl rfl (Nat.le_of_ble_eq_true rfl) dX8_ways_3 ⟨Nat.le_refl _, Nat.le_refl _⟩) (fun v1 h => ?_)
  refine lv_if_ne (tgt := 16) hx hb dX8_ways_6 (by decide) (fun c2 => ?_) (fun c2 => ?_)
  · replace h := And.right h c2
    refine lv_aload_n hx hb dX8_ways_16 rfl (lv_at hl 0 rfl) ?_
    refine lv_iload_n hx hb dX8_ways_17 rfl (lv_at hl 1 rfl) ?_
    refine lv_iload_n hx hb dX8_ways_18 rfl (lv_at hl 2 rfl) ?_
    refine lv_iconst (v := 0) hx hb dX8_ways_19 (by decide) ?_
    refine lv_iconst (v := 0) hx hb dX8_ways_20 (by decide) ?_
    refine xend_rw_v_id (wf := fun (u : (zS)) => (wX8 K h0 a0 n0 la0 u ++ (([] : va_W)))) (xRunV_id (As := [.int p1, .int p2, .int (0 : Int32), .int (0 : Int32)]) (rest := []) C (c_X8_findWays h) k_X8_findWays mw_776 ⟨rfl, rfl⟩ ⟨Nat.le_of_ble_eq_true rfl, Nat.le_of_ble_eq_true rfl⟩ hP hD rfl rfl hl rfl rfl (Nat.le_of_ble_eq_true rfl) dX8_ways_21 ⟨Nat.le_refl _, Nat.le_refl _⟩) hD hS hA (fun _ => wX8_adr _ _) (fun s4 H locs h hP hD hS => ?_)
    refine lv_aload_n hx hb dX8_ways_24 rfl (lv_at hl 0 rfl) ?_
    refine gX8_38 C hP dX8_ways_25 ?_
    exact xrw_i C s4 h hP hS dX8_ways_28
  · replace h := And.left h c2
    refine lv_aload_n hx hb dX8_ways_9 rfl (lv_at hl 0 rfl) ?_
    refine lv_bipush (v := -2) hx hb dX8_ways_10 (by decide) ?_
    refine xend_rw_i_id (wf := fun (u : (zS)) => (wX8 K h0 a0 n0 la0 u ++ (([] : va_W)))) (xRunV_id (As := [.int (-2 : Int32)]) (rest := []) C (c_X8_refuse h) k_X8_refuse mw_165 ⟨rfl, rfl⟩ ⟨Nat.le_of_ble_eq_true rfl, Nat.le_of_ble_eq_true rfl⟩ hP hD rfl rfl hl rfl rfl (Nat.le_of_ble_eq_true rfl) dX8_ways_12 ⟨Nat.le_refl _, Nat.le_refl _⟩) hD hS hA (fun _ => wX8_adr _ _) (fun v5 s6 H locs h hP hD hS => ?_)
    exact xrw_i C s6 h hP hS dX8_ways_15

def wp_X8_fewest (r0 : zS) (p1 : Int32) (p2 : Int32) (post : Int32 → (zS) → Prop) : Prop :=
  wp_X8_areTwo r0 p1 p2 (fun v1 => (v1 = 0 → wp_X8_refuse r0 (-2 : Int32) (fun v6 s7 => post v6 s7)) ∧ (¬ v1 = 0 → wp_X8_findWays r0 p1 p2 (0 : Int32) (0 : Int32) (fun s4 => ((s4.1 38) = 0 → post (-1 : Int32) s4) ∧ (¬ (s4.1 38) = 0 → post (s4.1 39) s4))))
set_option maxHeartbeats 4000000 in
set_option maxRecDepth 100000 in
theorem c_X8_fewest {l : Launch} {D : va_G} {K : Nat → ClassId} {h0 : Nat} {a0 : Nat → Nat} {n0 : Nat → Option Nat} {la0 : Nat → Nat} {r0 : zS} {p1 : Int32} {p2 : Int32} {sz : Nat} {post : Int32 → (zS) → Prop}   (h : wp_X8_fewest r0 p1 p2 post) : Met l yX8_fewest (Cond.code yX8_fewest cX8_fewest 3 (some .int) :: wsL_law) ({ frames := 15, cells := 0, slots := 0, locals := 540 } : Room) (va_Pc [.ref h0, .int p1, .int p2] (xPre D vwCl (xty K) (wX8 K h0 a0 n0 la0 r0 ++ (([] : va_W))) sz)) (va_Qi (fun r (u : (zS)) => post r u) (fun (u : (zS)) t => va_P D vwCl (wX8 K h0 a0 n0 la0 u ++ (([] : va_W))) t.heap) (va_A (wX8 K h0 a0 n0 la0 r0 ++ (([] : va_W))) sz)) 0 0 (va_A (wX8 K h0 a0 n0 la0 r0 ++ (([] : va_W))) sz) := by
  refine xMet (by decide) rfl (Nat.le_of_ble_eq_true rfl) (fun p e s m args below meth c C hnm hP hD hsz ls hl => ?_)
  have hl : lv_has ls 3 [(0, .ref h0), (1, .int p1), (2, .int p2)] := hl
  obtain ⟨hx, hb, hr, hml, hown, hts, hlocks, hK, hT⟩ := id C
  subst hsz
  generalize hAe : va_A (wX8 K h0 a0 n0 la0 r0 ++ (([] : va_W))) s.heap.size = A at hD ⊢
  have hA : ∀ q : Nat, s.heap.size ≤ q → A q := fun q h => by rw [← hAe]; exact Or.inr h
  have hS : va_S A s.heap s.heap [] := va_S.rf
  have hP : va_P D vwCl (wX8 K h0 a0 n0 la0 r0 ++ (([] : va_W))) s.heap := hP
  unfold wp_X8_fewest at h
  refine lv_aload_n hx hb dX8_fewest_0 rfl (lv_at hl 0 rfl) ?_
  refine lv_iload_n hx hb dX8_fewest_1 rfl (lv_at hl 1 rfl) ?_
  refine lv_iload_n hx hb dX8_fewest_2 rfl (lv_at hl 2 rfl) ?_
  refine xend_ro_i (xRunV_id (As := [.int p1, .int p2]) (rest := []) C (c_X8_areTwo h) k_X8_areTwo mw_449 ⟨rfl, rfl⟩ ⟨Nat.le_of_ble_eq_true rfl, Nat.le_of_ble_eq_true rfl⟩ hP hD rfl rfl hl rfl rfl (Nat.le_of_ble_eq_true rfl) dX8_fewest_3 ⟨Nat.le_refl _, Nat.le_refl _⟩) (fun v1 h => ?_)
  refine lv_if_ne (tgt := 16) hx hb dX8_fewest_6 (by decide) (fun c2 => ?_) (fun c2 => ?_)
  · replace h := And.right h c2
    refine lv_aload_n hx hb dX8_fewest_16 rfl (lv_at hl 0 rfl) ?_
    refine lv_iload_n hx hb dX8_fewest_17 rfl (lv_at hl 1 rfl) ?_
    refine lv_iload_n hx hb dX8_fewest_18 rfl (lv_at hl 2 rfl) ?_
    refine lv_iconst (v := 0) hx hb dX8_fewest_19 (by decide) ?_
    refine lv_iconst (v := 0) hx hb dX8_fewest_20 (by decide) ?_
    refine xend_rw_v_id (wf := fun (u : (zS)) => (wX8 K h0 a0 n0 la0 u ++ (([] : va_W)))) (xRunV_id (As := [.int p1, .int p2, .int (0 : Int32), .int (0 : Int32)]) (rest := []) C (c_X8_findWays h) k_X8_findWays mw_776 ⟨rfl, rfl⟩ ⟨Nat.le_of_ble_eq_true rfl, Nat.le_of_ble_eq_true rfl⟩ hP hD rfl rfl hl rfl rfl (Nat.le_of_ble_eq_true rfl) dX8_fewest_21 ⟨Nat.le_refl _, Nat.le_refl _⟩) hD hS hA (fun _ => wX8_adr _ _) (fun s4 H locs h hP hD hS => ?_)
    refine lv_aload_n hx hb dX8_fewest_24 rfl (lv_at hl 0 rfl) ?_
    refine gX8_38 C hP dX8_fewest_25 ?_
    refine lv_if_ne (tgt := 35) hx hb dX8_fewest_28 (by decide) (fun c5 => ?_) (fun c5 => ?_)
    · replace h := And.right h c5
      refine lv_aload_n hx hb dX8_fewest_35 rfl (lv_at hl 0 rfl) ?_
      refine gX8_39 C hP dX8_fewest_36 ?_
      exact xrw_i C s4 h hP hS dX8_fewest_39
    · replace h := And.left h c5
      refine lv_iconst (v := -1) hx hb dX8_fewest_31 (by decide) ?_
      refine lv_goto (tgt := 39) hx hb dX8_fewest_32 (by decide) ?_
      exact xrw_i C s4 h hP hS dX8_fewest_39
  · replace h := And.left h c2
    refine lv_aload_n hx hb dX8_fewest_9 rfl (lv_at hl 0 rfl) ?_
    refine lv_bipush (v := -2) hx hb dX8_fewest_10 (by decide) ?_
    refine xend_rw_i_id (wf := fun (u : (zS)) => (wX8 K h0 a0 n0 la0 u ++ (([] : va_W)))) (xRunV_id (As := [.int (-2 : Int32)]) (rest := []) C (c_X8_refuse h) k_X8_refuse mw_165 ⟨rfl, rfl⟩ ⟨Nat.le_of_ble_eq_true rfl, Nat.le_of_ble_eq_true rfl⟩ hP hD rfl rfl hl rfl rfl (Nat.le_of_ble_eq_true rfl) dX8_fewest_12 ⟨Nat.le_refl _, Nat.le_refl _⟩) hD hS hA (fun _ => wX8_adr _ _) (fun v6 s7 H locs h hP hD hS => ?_)
    exact xrw_i C s7 h hP hS dX8_fewest_15

def wp_X8_surestOf_27 (p1 : Int32) (p2 : Int32) (p3 : Int32) (p4 : Int32) (p5 : Int32) (post : Int32 → (zS) → Prop) (r0 : zS) : Prop :=
  wp_X8_refuse r0 (-2 : Int32) (fun v3 s4 => post v3 s4)
def wp_X8_surestOf_59 (p1 : Int32) (p2 : Int32) (p3 : Int32) (p4 : Int32) (p5 : Int32) (post : Int32 → (zS) → Prop) (r0 : zS) : Prop :=
  wp_X8_refuse r0 (-5 : Int32) (fun v11 s12 => post v11 s12)
def wp_X8_surestOf (r0 : zS) (p1 : Int32) (p2 : Int32) (p3 : Int32) (p4 : Int32) (p5 : Int32) (post : Int32 → (zS) → Prop) : Prop :=
  wp_X8_areTwo r0 p1 p2 (fun v1 => (v1 = 0 → wp_X8_surestOf_27 p1 p2 p3 p4 p5 post r0) ∧ (¬ v1 = 0 → wp_X8_in (p3.toInt64) (0 : Int64) (9999 : Int64) (fun v5 => (v5 = 0 → wp_X8_surestOf_27 p1 p2 p3 p4 p5 post r0) ∧ (¬ v5 = 0 → ((-1 : Int32) ≤ p4 → wp_X8_findWays r0 p1 p2 p3 p5 (fun s9 => ((s9.1 38) = 0 → wp_X8_surestOf_59 p1 p2 p3 p4 p5 post s9) ∧ (¬ (s9.1 38) = 0 → (p4 ≤ (s9.1 43) → (p4 = (-1 : Int32) → post (s9.1 42) s9) ∧ (¬ p4 = (-1 : Int32) → vp_in p4 12 ∧ (post (s9.2.1 45 p4.toNatClampNeg) s9))) ∧ (¬ p4 ≤ (s9.1 43) → wp_X8_surestOf_59 p1 p2 p3 p4 p5 post s9)))) ∧ (¬ (-1 : Int32) ≤ p4 → wp_X8_surestOf_27 p1 p2 p3 p4 p5 post r0)))))
set_option maxHeartbeats 4000000 in
set_option maxRecDepth 100000 in
theorem t_X8_surestOf_27 {p : Program} {l : Launch} {e : Env} {s : State} {m : MethodId} {args : Array Value} {below : List Frame} {meth : Method} {c : Code} {D : va_G} {K : Nat → ClassId} {h0 : Nat} {a0 : Nat → Nat} {n0 : Nat → Option Nat} {la0 : Nat → Nat} {p1 : Int32} {p2 : Int32} {p3 : Int32} {p4 : Int32} {p5 : Int32} {post : Int32 → (zS) → Prop} {A : Nat → Prop} (C : xC p s m args meth c cX8_surestOf RX8 6 (some .int) D vwCl (xty K)) (hA : ∀ q, s.heap.size ≤ q → A q) : ∀ (r0 : zS) (H : Heap) (locs : List Loc) (ls : Array Slot), lv_has ls 6 [(0, .ref h0)] → va_P D vwCl (wX8 K h0 a0 n0 la0 r0 ++ (([] : va_W))) H → va_D A (wX8 K h0 a0 n0 la0 r0 ++ (([] : va_W))) → va_S A s.heap H locs → wp_X8_surestOf_27 p1 p2 p3 p4 p5 post r0 → W p l e ({ frames := 15, cells := 0, slots := 0, locals := 540 } : Room) s m args below meth c H locs 0 0 (MQ below (va_Qi (fun r (u : (zS)) => post r u) (fun (u : (zS)) t => va_P D vwCl (wX8 K h0 a0 n0 la0 u ++ (([] : va_W))) t.heap) A) args s 0 0 A) (F0 m 27 ls []) := by
  obtain ⟨hx, hb, hr, hml, hown, hts, hlocks, hK, hT⟩ := id C
  intro r0 H locs ls hl hP hD hS h
  unfold wp_X8_surestOf_27 at h
  refine lv_aload_n hx hb dX8_surestOf_27 rfl (lv_at hl 0 rfl) ?_
  refine lv_bipush (v := -2) hx hb dX8_surestOf_28 (by decide) ?_
  refine xend_rw_i_id (wf := fun (u : (zS)) => (wX8 K h0 a0 n0 la0 u ++ (([] : va_W)))) (xRunV_id (As := [.int (-2 : Int32)]) (rest := []) C (c_X8_refuse h) k_X8_refuse mw_165 ⟨rfl, rfl⟩ ⟨Nat.le_of_ble_eq_true rfl, Nat.le_of_ble_eq_true rfl⟩ hP hD rfl rfl hl rfl rfl (Nat.le_of_ble_eq_true rfl) dX8_surestOf_30 ⟨Nat.le_refl _, Nat.le_refl _⟩) hD hS hA (fun _ => wX8_adr _ _) (fun v3 s4 H locs h hP hD hS => ?_)
  exact xrw_i C s4 h hP hS dX8_surestOf_33
set_option maxHeartbeats 4000000 in
set_option maxRecDepth 100000 in
theorem t_X8_surestOf_59 {p : Program} {l : Launch} {e : Env} {s : State} {m : MethodId} {args : Array Value} {below : List Frame} {meth : Method} {c : Code} {D : va_G} {K : Nat → ClassId} {h0 : Nat} {a0 : Nat → Nat} {n0 : Nat → Option Nat} {la0 : Nat → Nat} {p1 : Int32} {p2 : Int32} {p3 : Int32} {p4 : Int32} {p5 : Int32} {post : Int32 → (zS) → Prop} {A : Nat → Prop} (C : xC p s m args meth c cX8_surestOf RX8 6 (some .int) D vwCl (xty K)) (hA : ∀ q, s.heap.size ≤ q → A q) : ∀ (r0 : zS) (H : Heap) (locs : List Loc) (ls : Array Slot), lv_has ls 6 [(0, .ref h0)] → va_P D vwCl (wX8 K h0 a0 n0 la0 r0 ++ (([] : va_W))) H → va_D A (wX8 K h0 a0 n0 la0 r0 ++ (([] : va_W))) → va_S A s.heap H locs → wp_X8_surestOf_59 p1 p2 p3 p4 p5 post r0 → W p l e ({ frames := 15, cells := 0, slots := 0, locals := 540 } : Room) s m args below meth c H locs 0 0 (MQ below (va_Qi (fun r (u : (zS)) => post r u) (fun (u : (zS)) t => va_P D vwCl (wX8 K h0 a0 n0 la0 u ++ (([] : va_W))) t.heap) A) args s 0 0 A) (F0 m 59 ls []) := by
  obtain ⟨hx, hb, hr, hml, hown, hts, hlocks, hK, hT⟩ := id C
  intro r0 H locs ls hl hP hD hS h
  unfold wp_X8_surestOf_59 at h
  refine lv_aload_n hx hb dX8_surestOf_59 rfl (lv_at hl 0 rfl) ?_
  refine lv_bipush (v := -5) hx hb dX8_surestOf_60 (by decide) ?_
  refine xend_rw_i_id (wf := fun (u : (zS)) => (wX8 K h0 a0 n0 la0 u ++ (([] : va_W)))) (xRunV_id (As := [.int (-5 : Int32)]) (rest := []) C (c_X8_refuse h) k_X8_refuse mw_165 ⟨rfl, rfl⟩ ⟨Nat.le_of_ble_eq_true rfl, Nat.le_of_ble_eq_true rfl⟩ hP hD rfl rfl hl rfl rfl (Nat.le_of_ble_eq_true rfl) dX8_surestOf_62 ⟨Nat.le_refl _, Nat.le_refl _⟩) hD hS hA (fun _ => wX8_adr _ _) (fun v11 s12 H locs h hP hD hS => ?_)
  exact xrw_i C s12 h hP hS dX8_surestOf_65
set_option maxHeartbeats 4000000 in
set_option maxRecDepth 100000 in
theorem c_X8_surestOf {l : Launch} {D : va_G} {K : Nat → ClassId} {h0 : Nat} {a0 : Nat → Nat} {n0 : Nat → Option Nat} {la0 : Nat → Nat} {r0 : zS} {p1 : Int32} {p2 : Int32} {p3 : Int32} {p4 : Int32} {p5 : Int32} {sz : Nat} {post : Int32 → (zS) → Prop}   (h : wp_X8_surestOf r0 p1 p2 p3 p4 p5 post) : Met l yX8_surestOf (Cond.code yX8_surestOf cX8_surestOf 6 (some .int) :: wsL_law) ({ frames := 15, cells := 0, slots := 0, locals := 540 } : Room) (va_Pc [.ref h0, .int p1, .int p2, .int p3, .int p4, .int p5] (xPre D vwCl (xty K) (wX8 K h0 a0 n0 la0 r0 ++ (([] : va_W))) sz)) (va_Qi (fun r (u : (zS)) => post r u) (fun (u : (zS)) t => va_P D vwCl (wX8 K h0 a0 n0 la0 u ++ (([] : va_W))) t.heap) (va_A (wX8 K h0 a0 n0 la0 r0 ++ (([] : va_W))) sz)) 0 0 (va_A (wX8 K h0 a0 n0 la0 r0 ++ (([] : va_W))) sz) := by
  refine xMet (by decide) rfl (Nat.le_of_ble_eq_true rfl) (fun p e s m args below meth c C hnm hP hD hsz ls hl => ?_)
  have hl : lv_has ls 6 [(0, .ref h0), (1, .int p1), (2, .int p2), (3, .int p3), (4, .int p4), (5, .int p5)] := hl
  obtain ⟨hx, hb, hr, hml, hown, hts, hlocks, hK, hT⟩ := id C
  subst hsz
  generalize hAe : va_A (wX8 K h0 a0 n0 la0 r0 ++ (([] : va_W))) s.heap.size = A at hD ⊢
  have hA : ∀ q : Nat, s.heap.size ≤ q → A q := fun q h => by rw [← hAe]; exact Or.inr h
  have hS : va_S A s.heap s.heap [] := va_S.rf
  have hP : va_P D vwCl (wX8 K h0 a0 n0 la0 r0 ++ (([] : va_W))) s.heap := hP
  unfold wp_X8_surestOf at h
  refine lv_aload_n hx hb dX8_surestOf_0 rfl (lv_at hl 0 rfl) ?_
  refine lv_iload_n hx hb dX8_surestOf_1 rfl (lv_at hl 1 rfl) ?_
  refine lv_iload_n hx hb dX8_surestOf_2 rfl (lv_at hl 2 rfl) ?_
  refine xend_ro_i (xRunV_id (As := [.int p1, .int p2]) (rest := []) C (c_X8_areTwo h) k_X8_areTwo mw_449 ⟨rfl, rfl⟩ ⟨Nat.le_of_ble_eq_true rfl, Nat.le_of_ble_eq_true rfl⟩ hP hD rfl rfl hl rfl rfl (Nat.le_of_ble_eq_true rfl) dX8_surestOf_3 ⟨Nat.le_refl _, Nat.le_refl _⟩) (fun v1 h => ?_)
  refine lv_if_eq (tgt := 27) hx hb dX8_surestOf_6 (by decide) (fun c2 => ?_) (fun c2 => ?_)
  · replace h := And.left h c2
    exact t_X8_surestOf_27 C hA _ _ _ _ (lv_sub hl [0] rfl) hP hD hS h
  · replace h := And.right h c2
    refine lv_iload_n hx hb dX8_surestOf_9 rfl (lv_at hl 3 rfl) ?_
    refine lv_i2l hx hb dX8_surestOf_10 rfl ?_
    refine lv_lconst (v := 0) hx hb dX8_surestOf_11 (by decide) ?_
    refine lv_ldc2 hx hb hown (hts _ mw_742) dX8_surestOf_12 ?_
    refine xend_ro_i (xRunS (wc := ([] : va_W)) (As := [.long (p3.toInt64), .long (0 : Int64), .long (9999 : Int64)]) (rest := []) C (c_X8_in h) k_X8_in mw_162 ⟨rfl, rfl⟩ ⟨Nat.le_of_ble_eq_true rfl, Nat.le_of_ble_eq_true rfl⟩ hP hD [] rfl rfl hl rfl rfl (Nat.le_of_ble_eq_true rfl) dX8_surestOf_15 ⟨Nat.le_refl _, Nat.le_refl _⟩) (fun v5 h => ?_)
    refine lv_if_eq (tgt := 27) hx hb dX8_surestOf_18 (by decide) (fun c6 => ?_) (fun c6 => ?_)
    · replace h := And.left h c6
      exact t_X8_surestOf_27 C hA _ _ _ _ (lv_sub hl [0] rfl) hP hD hS h
    · replace h := And.right h c6
      refine lv_iload hx hb dX8_surestOf_21 (lv_at hl 4 rfl) ?_
      refine lv_iconst (v := -1) hx hb dX8_surestOf_23 (by decide) ?_
      refine lv_icmp_ge (tgt := 34) hx hb dX8_surestOf_24 (by decide) (fun c7 => ?_) (fun c7 => ?_)
      · replace h := And.left h c7
        refine lv_aload_n hx hb dX8_surestOf_34 rfl (lv_at hl 0 rfl) ?_
        refine lv_iload_n hx hb dX8_surestOf_35 rfl (lv_at hl 1 rfl) ?_
        refine lv_iload_n hx hb dX8_surestOf_36 rfl (lv_at hl 2 rfl) ?_
        refine lv_iload_n hx hb dX8_surestOf_37 rfl (lv_at hl 3 rfl) ?_
        refine lv_iload hx hb dX8_surestOf_38 (lv_at hl 5 rfl) ?_
        refine xend_rw_v_id (wf := fun (u : (zS)) => (wX8 K h0 a0 n0 la0 u ++ (([] : va_W)))) (xRunV_id (As := [.int p1, .int p2, .int p3, .int p5]) (rest := []) C (c_X8_findWays h) k_X8_findWays mw_776 ⟨rfl, rfl⟩ ⟨Nat.le_of_ble_eq_true rfl, Nat.le_of_ble_eq_true rfl⟩ hP hD rfl rfl hl rfl rfl (Nat.le_of_ble_eq_true rfl) dX8_surestOf_40 ⟨Nat.le_refl _, Nat.le_refl _⟩) hD hS hA (fun _ => wX8_adr _ _) (fun s9 H locs h hP hD hS => ?_)
        refine lv_aload_n hx hb dX8_surestOf_43 rfl (lv_at hl 0 rfl) ?_
        refine gX8_38 C hP dX8_surestOf_44 ?_
        refine lv_if_eq (tgt := 59) hx hb dX8_surestOf_47 (by decide) (fun c10 => ?_) (fun c10 => ?_)
        · replace h := And.left h c10
          exact t_X8_surestOf_59 C hA _ _ _ _ (lv_sub hl [0] rfl) hP hD hS h
        · replace h := And.right h c10
          refine lv_iload hx hb dX8_surestOf_50 (lv_at hl 4 rfl) ?_
          refine lv_aload_n hx hb dX8_surestOf_52 rfl (lv_at hl 0 rfl) ?_
          refine gX8_43 C hP dX8_surestOf_53 ?_
          refine lv_icmp_le (tgt := 66) hx hb dX8_surestOf_56 (by decide) (fun c13 => ?_) (fun c13 => ?_)
          · replace h := And.left h c13
            refine lv_iload hx hb dX8_surestOf_66 (lv_at hl 4 rfl) ?_
            refine lv_iconst (v := -1) hx hb dX8_surestOf_68 (by decide) ?_
            refine lv_icmp_ne (tgt := 79) hx hb dX8_surestOf_69 (by decide) (fun c14 => ?_) (fun c14 => ?_)
            · replace h := And.right h c14
              refine lv_aload_n hx hb dX8_surestOf_79 rfl (lv_at hl 0 rfl) ?_
              refine gX8_45 C hP dX8_surestOf_80 ?_
              refine lv_iload hx hb dX8_surestOf_83 (lv_at hl 4 rfl) ?_
              have hin := And.left h
              replace h := And.right h
              refine lX8_45 C hP hin dX8_surestOf_85 ?_
              exact xrw_i C s9 h hP hS dX8_surestOf_86
            · replace h := And.left h c14
              refine lv_aload_n hx hb dX8_surestOf_72 rfl (lv_at hl 0 rfl) ?_
              refine gX8_42 C hP dX8_surestOf_73 ?_
              refine lv_goto (tgt := 86) hx hb dX8_surestOf_76 (by decide) ?_
              exact xrw_i C s9 h hP hS dX8_surestOf_86
          · replace h := And.right h c13
            exact t_X8_surestOf_59 C hA _ _ _ _ (lv_sub hl [0] rfl) hP hD hS h
      · replace h := And.right h c7
        exact t_X8_surestOf_27 C hA _ _ _ _ (lv_sub hl [0] rfl) hP hD hS h

def wp_X8_surest (r0 : zS) (p1 : Int32) (p2 : Int32) (p3 : Int32) (p4 : Int32) (post : Int32 → (zS) → Prop) : Prop :=
  wp_X8_surestOf r0 p1 p2 p3 p4 (0 : Int32) (fun v1 s2 => post v1 s2)
set_option maxHeartbeats 4000000 in
set_option maxRecDepth 100000 in
theorem c_X8_surest {l : Launch} {D : va_G} {K : Nat → ClassId} {h0 : Nat} {a0 : Nat → Nat} {n0 : Nat → Option Nat} {la0 : Nat → Nat} {r0 : zS} {p1 : Int32} {p2 : Int32} {p3 : Int32} {p4 : Int32} {sz : Nat} {post : Int32 → (zS) → Prop}   (h : wp_X8_surest r0 p1 p2 p3 p4 post) : Met l yX8_surest (Cond.code yX8_surest cX8_surest 5 (some .int) :: wsL_law) ({ frames := 16, cells := 0, slots := 0, locals := 565 } : Room) (va_Pc [.ref h0, .int p1, .int p2, .int p3, .int p4] (xPre D vwCl (xty K) (wX8 K h0 a0 n0 la0 r0 ++ (([] : va_W))) sz)) (va_Qi (fun r (u : (zS)) => post r u) (fun (u : (zS)) t => va_P D vwCl (wX8 K h0 a0 n0 la0 u ++ (([] : va_W))) t.heap) (va_A (wX8 K h0 a0 n0 la0 r0 ++ (([] : va_W))) sz)) 0 0 (va_A (wX8 K h0 a0 n0 la0 r0 ++ (([] : va_W))) sz) := by
  refine xMet (by decide) rfl (Nat.le_of_ble_eq_true rfl) (fun p e s m args below meth c C hnm hP hD hsz ls hl => ?_)
  have hl : lv_has ls 5 [(0, .ref h0), (1, .int p1), (2, .int p2), (3, .int p3), (4, .int p4)] := hl
  obtain ⟨hx, hb, hr, hml, hown, hts, hlocks, hK, hT⟩ := id C
  subst hsz
  generalize hAe : va_A (wX8 K h0 a0 n0 la0 r0 ++ (([] : va_W))) s.heap.size = A at hD ⊢
  have hA : ∀ q : Nat, s.heap.size ≤ q → A q := fun q h => by rw [← hAe]; exact Or.inr h
  have hS : va_S A s.heap s.heap [] := va_S.rf
  have hP : va_P D vwCl (wX8 K h0 a0 n0 la0 r0 ++ (([] : va_W))) s.heap := hP
  unfold wp_X8_surest at h
  refine lv_aload_n hx hb dX8_surest_0 rfl (lv_at hl 0 rfl) ?_
  refine lv_iload_n hx hb dX8_surest_1 rfl (lv_at hl 1 rfl) ?_
  refine lv_iload_n hx hb dX8_surest_2 rfl (lv_at hl 2 rfl) ?_
  refine lv_iload_n hx hb dX8_surest_3 rfl (lv_at hl 3 rfl) ?_
  refine lv_iload hx hb dX8_surest_4 (lv_at hl 4 rfl) ?_
  refine lv_iconst (v := 0) hx hb dX8_surest_6 (by decide) ?_
  refine xend_rw_i_id (wf := fun (u : (zS)) => (wX8 K h0 a0 n0 la0 u ++ (([] : va_W)))) (xRunV_id (As := [.int p1, .int p2, .int p3, .int p4, .int (0 : Int32)]) (rest := []) C (c_X8_surestOf h) k_X8_surestOf mw_860 ⟨rfl, rfl⟩ ⟨Nat.le_of_ble_eq_true rfl, Nat.le_of_ble_eq_true rfl⟩ hP hD rfl rfl hl rfl rfl (Nat.le_of_ble_eq_true rfl) dX8_surest_7 ⟨Nat.le_refl _, Nat.le_refl _⟩) hD hS hA (fun _ => wX8_adr _ _) (fun v1 s2 H locs h hP hD hS => ?_)
  exact xrw_i C s2 h hP hS dX8_surest_10

def wp_X8_unread (r0 : zS) (p1 : Int32) (p2 : Int32) (p3 : Int32) (p4 : Int32) (post : Int32 → (zS) → Prop) : Prop :=
  wp_X8_surestOf r0 p1 p2 p3 p4 (1 : Int32) (fun v1 s2 => post v1 s2)
set_option maxHeartbeats 4000000 in
set_option maxRecDepth 100000 in
theorem c_X8_unread {l : Launch} {D : va_G} {K : Nat → ClassId} {h0 : Nat} {a0 : Nat → Nat} {n0 : Nat → Option Nat} {la0 : Nat → Nat} {r0 : zS} {p1 : Int32} {p2 : Int32} {p3 : Int32} {p4 : Int32} {sz : Nat} {post : Int32 → (zS) → Prop}   (h : wp_X8_unread r0 p1 p2 p3 p4 post) : Met l yX8_unread (Cond.code yX8_unread cX8_unread 5 (some .int) :: wsL_law) ({ frames := 16, cells := 0, slots := 0, locals := 565 } : Room) (va_Pc [.ref h0, .int p1, .int p2, .int p3, .int p4] (xPre D vwCl (xty K) (wX8 K h0 a0 n0 la0 r0 ++ (([] : va_W))) sz)) (va_Qi (fun r (u : (zS)) => post r u) (fun (u : (zS)) t => va_P D vwCl (wX8 K h0 a0 n0 la0 u ++ (([] : va_W))) t.heap) (va_A (wX8 K h0 a0 n0 la0 r0 ++ (([] : va_W))) sz)) 0 0 (va_A (wX8 K h0 a0 n0 la0 r0 ++ (([] : va_W))) sz) := by
  refine xMet (by decide) rfl (Nat.le_of_ble_eq_true rfl) (fun p e s m args below meth c C hnm hP hD hsz ls hl => ?_)
  have hl : lv_has ls 5 [(0, .ref h0), (1, .int p1), (2, .int p2), (3, .int p3), (4, .int p4)] := hl
  obtain ⟨hx, hb, hr, hml, hown, hts, hlocks, hK, hT⟩ := id C
  subst hsz
  generalize hAe : va_A (wX8 K h0 a0 n0 la0 r0 ++ (([] : va_W))) s.heap.size = A at hD ⊢
  have hA : ∀ q : Nat, s.heap.size ≤ q → A q := fun q h => by rw [← hAe]; exact Or.inr h
  have hS : va_S A s.heap s.heap [] := va_S.rf
  have hP : va_P D vwCl (wX8 K h0 a0 n0 la0 r0 ++ (([] : va_W))) s.heap := hP
  unfold wp_X8_unread at h
  refine lv_aload_n hx hb dX8_unread_0 rfl (lv_at hl 0 rfl) ?_
  refine lv_iload_n hx hb dX8_unread_1 rfl (lv_at hl 1 rfl) ?_
  refine lv_iload_n hx hb dX8_unread_2 rfl (lv_at hl 2 rfl) ?_
  refine lv_iload_n hx hb dX8_unread_3 rfl (lv_at hl 3 rfl) ?_
  refine lv_iload hx hb dX8_unread_4 (lv_at hl 4 rfl) ?_
  refine lv_iconst (v := 1) hx hb dX8_unread_6 (by decide) ?_
  refine xend_rw_i_id (wf := fun (u : (zS)) => (wX8 K h0 a0 n0 la0 u ++ (([] : va_W)))) (xRunV_id (As := [.int p1, .int p2, .int p3, .int p4, .int (1 : Int32)]) (rest := []) C (c_X8_surestOf h) k_X8_surestOf mw_860 ⟨rfl, rfl⟩ ⟨Nat.le_of_ble_eq_true rfl, Nat.le_of_ble_eq_true rfl⟩ hP hD rfl rfl hl rfl rfl (Nat.le_of_ble_eq_true rfl) dX8_unread_7 ⟨Nat.le_refl _, Nat.le_refl _⟩) hD hS hA (fun _ => wX8_adr _ _) (fun v1 s2 H locs h hP hD hS => ?_)
  exact xrw_i C s2 h hP hS dX8_unread_10

def wp_X8_unseen (r0 : zS) (p1 : Int32) (p2 : Int32) (p3 : Int32) (p4 : Int32) (post : Int32 → (zS) → Prop) : Prop :=
  wp_X8_surestOf r0 p1 p2 p3 p4 (2 : Int32) (fun v1 s2 => post v1 s2)
set_option maxHeartbeats 4000000 in
set_option maxRecDepth 100000 in
theorem c_X8_unseen {l : Launch} {D : va_G} {K : Nat → ClassId} {h0 : Nat} {a0 : Nat → Nat} {n0 : Nat → Option Nat} {la0 : Nat → Nat} {r0 : zS} {p1 : Int32} {p2 : Int32} {p3 : Int32} {p4 : Int32} {sz : Nat} {post : Int32 → (zS) → Prop}   (h : wp_X8_unseen r0 p1 p2 p3 p4 post) : Met l yX8_unseen (Cond.code yX8_unseen cX8_unseen 5 (some .int) :: wsL_law) ({ frames := 16, cells := 0, slots := 0, locals := 565 } : Room) (va_Pc [.ref h0, .int p1, .int p2, .int p3, .int p4] (xPre D vwCl (xty K) (wX8 K h0 a0 n0 la0 r0 ++ (([] : va_W))) sz)) (va_Qi (fun r (u : (zS)) => post r u) (fun (u : (zS)) t => va_P D vwCl (wX8 K h0 a0 n0 la0 u ++ (([] : va_W))) t.heap) (va_A (wX8 K h0 a0 n0 la0 r0 ++ (([] : va_W))) sz)) 0 0 (va_A (wX8 K h0 a0 n0 la0 r0 ++ (([] : va_W))) sz) := by
  refine xMet (by decide) rfl (Nat.le_of_ble_eq_true rfl) (fun p e s m args below meth c C hnm hP hD hsz ls hl => ?_)
  have hl : lv_has ls 5 [(0, .ref h0), (1, .int p1), (2, .int p2), (3, .int p3), (4, .int p4)] := hl
  obtain ⟨hx, hb, hr, hml, hown, hts, hlocks, hK, hT⟩ := id C
  subst hsz
  generalize hAe : va_A (wX8 K h0 a0 n0 la0 r0 ++ (([] : va_W))) s.heap.size = A at hD ⊢
  have hA : ∀ q : Nat, s.heap.size ≤ q → A q := fun q h => by rw [← hAe]; exact Or.inr h
  have hS : va_S A s.heap s.heap [] := va_S.rf
  have hP : va_P D vwCl (wX8 K h0 a0 n0 la0 r0 ++ (([] : va_W))) s.heap := hP
  unfold wp_X8_unseen at h
  refine lv_aload_n hx hb dX8_unseen_0 rfl (lv_at hl 0 rfl) ?_
  refine lv_iload_n hx hb dX8_unseen_1 rfl (lv_at hl 1 rfl) ?_
  refine lv_iload_n hx hb dX8_unseen_2 rfl (lv_at hl 2 rfl) ?_
  refine lv_iload_n hx hb dX8_unseen_3 rfl (lv_at hl 3 rfl) ?_
  refine lv_iload hx hb dX8_unseen_4 (lv_at hl 4 rfl) ?_
  refine lv_iconst (v := 2) hx hb dX8_unseen_6 (by decide) ?_
  refine xend_rw_i_id (wf := fun (u : (zS)) => (wX8 K h0 a0 n0 la0 u ++ (([] : va_W)))) (xRunV_id (As := [.int p1, .int p2, .int p3, .int p4, .int (2 : Int32)]) (rest := []) C (c_X8_surestOf h) k_X8_surestOf mw_860 ⟨rfl, rfl⟩ ⟨Nat.le_of_ble_eq_true rfl, Nat.le_of_ble_eq_true rfl⟩ hP hD rfl rfl hl rfl rfl (Nat.le_of_ble_eq_true rfl) dX8_unseen_7 ⟨Nat.le_refl _, Nat.le_refl _⟩) hD hS hA (fun _ => wX8_adr _ _) (fun v1 s2 H locs h hP hD hS => ?_)
  exact xrw_i C s2 h hP hS dX8_unseen_10

def wp_X8_readers (r0 : zS) (p1 : Int32) (p2 : Int32) (post : Int32 → (zS) → Prop) : Prop :=
  wp_X8_areTwo r0 p1 p2 (fun v1 => (v1 = 0 → wp_X8_refuse r0 (-2 : Int32) (fun v8 s9 => post v8 s9)) ∧ (¬ v1 = 0 → wp_X8_findWays r0 p1 p2 (0 : Int32) (0 : Int32) (fun s4 => ((s4.1 38) = 0 → wp_X8_refuse s4 (-5 : Int32) (fun v6 s7 => post v6 s7)) ∧ (¬ (s4.1 38) = 0 → post (s4.1 40) s4))))
set_option maxHeartbeats 4000000 in
set_option maxRecDepth 100000 in
theorem c_X8_readers {l : Launch} {D : va_G} {K : Nat → ClassId} {h0 : Nat} {a0 : Nat → Nat} {n0 : Nat → Option Nat} {la0 : Nat → Nat} {r0 : zS} {p1 : Int32} {p2 : Int32} {sz : Nat} {post : Int32 → (zS) → Prop}   (h : wp_X8_readers r0 p1 p2 post) : Met l yX8_readers (Cond.code yX8_readers cX8_readers 3 (some .int) :: wsL_law) ({ frames := 15, cells := 0, slots := 0, locals := 540 } : Room) (va_Pc [.ref h0, .int p1, .int p2] (xPre D vwCl (xty K) (wX8 K h0 a0 n0 la0 r0 ++ (([] : va_W))) sz)) (va_Qi (fun r (u : (zS)) => post r u) (fun (u : (zS)) t => va_P D vwCl (wX8 K h0 a0 n0 la0 u ++ (([] : va_W))) t.heap) (va_A (wX8 K h0 a0 n0 la0 r0 ++ (([] : va_W))) sz)) 0 0 (va_A (wX8 K h0 a0 n0 la0 r0 ++ (([] : va_W))) sz) := by
  refine xMet (by decide) rfl (Nat.le_of_ble_eq_true rfl) (fun p e s m args below meth c C hnm hP hD hsz ls hl => ?_)
  have hl : lv_has ls 3 [(0, .ref h0), (1, .int p1), (2, .int p2)] := hl
  obtain ⟨hx, hb, hr, hml, hown, hts, hlocks, hK, hT⟩ := id C
  subst hsz
  generalize hAe : va_A (wX8 K h0 a0 n0 la0 r0 ++ (([] : va_W))) s.heap.size = A at hD ⊢
  have hA : ∀ q : Nat, s.heap.size ≤ q → A q := fun q h => by rw [← hAe]; exact Or.inr h
  have hS : va_S A s.heap s.heap [] := va_S.rf
  have hP : va_P D vwCl (wX8 K h0 a0 n0 la0 r0 ++ (([] : va_W))) s.heap := hP
  unfold wp_X8_readers at h
  refine lv_aload_n hx hb dX8_readers_0 rfl (lv_at hl 0 rfl) ?_
  refine lv_iload_n hx hb dX8_readers_1 rfl (lv_at hl 1 rfl) ?_
  refine lv_iload_n hx hb dX8_readers_2 rfl (lv_at hl 2 rfl) ?_
  refine xend_ro_i (xRunV_id (As := [.int p1, .int p2]) (rest := []) C (c_X8_areTwo h) k_X8_areTwo mw_449 ⟨rfl, rfl⟩ ⟨Nat.le_of_ble_eq_true rfl, Nat.le_of_ble_eq_true rfl⟩ hP hD rfl rfl hl rfl rfl (Nat.le_of_ble_eq_true rfl) dX8_readers_3 ⟨Nat.le_refl _, Nat.le_refl _⟩) (fun v1 h => ?_)
  refine lv_if_ne (tgt := 16) hx hb dX8_readers_6 (by decide) (fun c2 => ?_) (fun c2 => ?_)
  · replace h := And.right h c2
    refine lv_aload_n hx hb dX8_readers_16 rfl (lv_at hl 0 rfl) ?_
    refine lv_iload_n hx hb dX8_readers_17 rfl (lv_at hl 1 rfl) ?_
    refine lv_iload_n hx hb dX8_readers_18 rfl (lv_at hl 2 rfl) ?_
    refine lv_iconst (v := 0) hx hb dX8_readers_19 (by decide) ?_
    refine lv_iconst (v := 0) hx hb dX8_readers_20 (by decide) ?_
    refine xend_rw_v_id (wf := fun (u : (zS)) => (wX8 K h0 a0 n0 la0 u ++ (([] : va_W)))) (xRunV_id (As := [.int p1, .int p2, .int (0 : Int32), .int (0 : Int32)]) (rest := []) C (c_X8_findWays h) k_X8_findWays mw_776 ⟨rfl, rfl⟩ ⟨Nat.le_of_ble_eq_true rfl, Nat.le_of_ble_eq_true rfl⟩ hP hD rfl rfl hl rfl rfl (Nat.le_of_ble_eq_true rfl) dX8_readers_21 ⟨Nat.le_refl _, Nat.le_refl _⟩) hD hS hA (fun _ => wX8_adr _ _) (fun s4 H locs h hP hD hS => ?_)
    refine lv_aload_n hx hb dX8_readers_24 rfl (lv_at hl 0 rfl) ?_
    refine gX8_38 C hP dX8_readers_25 ?_
    refine lv_if_ne (tgt := 40) hx hb dX8_readers_28 (by decide) (fun c5 => ?_) (fun c5 => ?_)
    · replace h := And.right h c5
      refine lv_aload_n hx hb dX8_readers_40 rfl (lv_at hl 0 rfl) ?_
      refine gX8_40 C hP dX8_readers_41 ?_
      exact xrw_i C s4 h hP hS dX8_readers_44
    · replace h := And.left h c5
      refine lv_aload_n hx hb dX8_readers_31 rfl (lv_at hl 0 rfl) ?_
      refine lv_bipush (v := -5) hx hb dX8_readers_32 (by decide) ?_
      refine xend_rw_i_id (wf := fun (u : (zS)) => (wX8 K h0 a0 n0 la0 u ++ (([] : va_W)))) (xRunV_id (As := [.int (-5 : Int32)]) (rest := []) C (c_X8_refuse h) k_X8_refuse mw_165 ⟨rfl, rfl⟩ ⟨Nat.le_of_ble_eq_true rfl, Nat.le_of_ble_eq_true rfl⟩ hP hD rfl rfl hl rfl rfl (Nat.le_of_ble_eq_true rfl) dX8_readers_34 ⟨Nat.le_refl _, Nat.le_refl _⟩) hD hS hA (fun _ => wX8_adr _ _) (fun v6 s7 H locs h hP hD hS => ?_)
      refine lv_goto (tgt := 44) hx hb dX8_readers_37 (by decide) ?_
      exact xrw_i C s7 h hP hS dX8_readers_44
  · replace h := And.left h c2
    refine lv_aload_n hx hb dX8_readers_9 rfl (lv_at hl 0 rfl) ?_
    refine lv_bipush (v := -2) hx hb dX8_readers_10 (by decide) ?_
    refine xend_rw_i_id (wf := fun (u : (zS)) => (wX8 K h0 a0 n0 la0 u ++ (([] : va_W)))) (xRunV_id (As := [.int (-2 : Int32)]) (rest := []) C (c_X8_refuse h) k_X8_refuse mw_165 ⟨rfl, rfl⟩ ⟨Nat.le_of_ble_eq_true rfl, Nat.le_of_ble_eq_true rfl⟩ hP hD rfl rfl hl rfl rfl (Nat.le_of_ble_eq_true rfl) dX8_readers_12 ⟨Nat.le_refl _, Nat.le_refl _⟩) hD hS hA (fun _ => wX8_adr _ _) (fun v8 s9 H locs h hP hD hS => ?_)
    exact xrw_i C s9 h hP hS dX8_readers_15

def wp_X8_both (p0 : Int32) (p1 : Int32) (post : Int32 → Prop) : Prop :=
  post ((((p0.toInt64) * (p1.toInt64)) / (1000000 : Int64)).toInt32) 
set_option maxHeartbeats 4000000 in
set_option maxRecDepth 100000 in
theorem c_X8_both {l : Launch} {D : va_G} {K : Nat → ClassId}  {p0 : Int32} {p1 : Int32} {sz : Nat} {post : Int32 → Prop}   (h : wp_X8_both p0 p1 post) : Met l yX8_both (Cond.code yX8_both cX8_both 2 (some .int) :: wsL_law) ({ frames := 0, cells := 0, slots := 0, locals := 0 } : Room) (va_Pc [.int p0, .int p1] (xPre D vwCl (xty K) ([] : va_W) sz)) (roI post) 0 0 (fun _ => False) := by
  refine xMet (by decide) rfl (Nat.le_of_ble_eq_true rfl) (fun p e s m args below meth c C hnm hP hD hsz ls hl => ?_)
  have hl : lv_has ls 2 [(0, .int p0), (1, .int p1)] := hl
  obtain ⟨hx, hb, hr, hml, hown, hts, hlocks, hK, hT⟩ := id C
  unfold wp_X8_both at h
  refine lv_iload_n hx hb dX8_both_0 rfl (lv_at hl 0 rfl) ?_
  refine lv_i2l hx hb dX8_both_1 rfl ?_
  refine lv_iload_n hx hb dX8_both_2 rfl (lv_at hl 1 rfl) ?_
  refine lv_i2l hx hb dX8_both_3 rfl ?_
  refine lv_lmul hx hb dX8_both_4 ?_
  refine lv_ldc2 hx hb hown (hts _ mw_925) dX8_both_5 ?_
  refine lv_ldiv hx hb dX8_both_8 (by decide) ?_
  refine lv_l2i hx hb dX8_both_9 rfl ?_
  exact xro_i C h dX8_both_10

def wp_X8_together_32 (p1 : Int32) (p2 : Int32) (p3 : Int32) (p4 : Int32) (p5 : Int32) (post : Int32 → (zS) → Prop) (r0 : zS) : Prop :=
  wp_X8_refuse r0 (-2 : Int32) (fun v3 s4 => post v3 s4)
def wp_X8_together_162 (p1 : Int32) (p2 : Int32) (p3 : Int32) (p4 : Int32) (p5 : Int32) (post : Int32 → (zS) → Prop) (k92 : (zS) → Int32 → Int32 → Int32 → Prop) (k102 : (zS) → Int32 → Int32 → Int32 → Int32 → Prop) (r0 : zS) (x6 : Int32) (x8 : Int32) (x9 : Int32) (y0 : Int32) : Prop :=
  ∀ v26 : Int32, v26 = x9 + (1 : Int32) → k102 r0 x6 y0 x8 v26
def wp_X8_together_160 (p1 : Int32) (p2 : Int32) (p3 : Int32) (p4 : Int32) (p5 : Int32) (post : Int32 → (zS) → Prop) (k92 : (zS) → Int32 → Int32 → Int32 → Prop) (k102 : (zS) → Int32 → Int32 → Int32 → Int32 → Prop) (r0 : zS) (x6 : Int32) (x7 : Int32) (x8 : Int32) (x9 : Int32) : Prop :=
  wp_X8_together_162 p1 p2 p3 p4 p5 post k92 k102 r0 x6 x8 x9 x7
def wb_X8_together_102 (p1 : Int32) (p2 : Int32) (p3 : Int32) (p4 : Int32) (p5 : Int32) (post : Int32 → (zS) → Prop) (k92 : (zS) → Int32 → Int32 → Int32 → Prop) (ih : (zS) → Int32 → Int32 → Int32 → Int32 → Prop) (r0 : zS) (x6 : Int32) (x7 : Int32) (x8 : Int32) (x9 : Int32) : Prop :=
  ((r0.1 38) ≤ x9 → ∀ v23 : Int32, v23 = x8 + (1 : Int32) → k92 r0 x6 x7 v23) ∧ (¬ (r0.1 38) ≤ x9 → vp_in x8 1000 ∧ (vp_in x9 1000 ∧ (wp_X8_both (r0.2.1 49 x8.toNatClampNeg) (r0.2.1 47 x9.toNatClampNeg) (fun v24 => vp_in x8 1000 ∧ (vp_in x9 1000 ∧ ((((r0.2.1 48 x8.toNatClampNeg) &&& (r0.2.1 46 x9.toNatClampNeg)) = 0 → (v24 ≤ x7 → wp_X8_together_160 p1 p2 p3 p4 p5 post k92 ih r0 x6 x7 x8 x9) ∧ (¬ v24 ≤ x7 → wp_X8_together_162 p1 p2 p3 p4 p5 post k92 ih r0 x6 x8 x9 v24)) ∧ (¬ ((r0.2.1 48 x8.toNatClampNeg) &&& (r0.2.1 46 x9.toNatClampNeg)) = 0 → wp_X8_together_160 p1 p2 p3 p4 p5 post k92 ih r0 x6 x7 x8 x9)))))))
def wp_X8_together_102 (p1 : Int32) (p2 : Int32) (p3 : Int32) (p4 : Int32) (p5 : Int32) (post : Int32 → (zS) → Prop) (k92 : (zS) → Int32 → Int32 → Int32 → Prop) (n : Nat) : (zS) → Int32 → Int32 → Int32 → Int32 → Prop := Nat.rec (motive := fun _ => (zS) → Int32 → Int32 → Int32 → Int32 → Prop) (fun _ _ _ _ _ => False) (fun _ ih => wb_X8_together_102 p1 p2 p3 p4 p5 post k92 ih) n
theorem wu_X8_together_102 (p1 : Int32) (p2 : Int32) (p3 : Int32) (p4 : Int32) (p5 : Int32) (post : Int32 → (zS) → Prop) (k92 : (zS) → Int32 → Int32 → Int32 → Prop) (n : Nat) (r0 : zS) (x6 : Int32) (x7 : Int32) (x8 : Int32) (x9 : Int32) : wp_X8_together_102 p1 p2 p3 p4 p5 post k92 (n + 1) r0 x6 x7 x8 x9 = wb_X8_together_102 p1 p2 p3 p4 p5 post k92 (wp_X8_together_102 p1 p2 p3 p4 p5 post k92 n) r0 x6 x7 x8 x9 := rfl
def wb_X8_together_92 (p1 : Int32) (p2 : Int32) (p3 : Int32) (p4 : Int32) (p5 : Int32) (post : Int32 → (zS) → Prop) (ih : (zS) → Int32 → Int32 → Int32 → Prop) (r0 : zS) (x6 : Int32) (x7 : Int32) (x8 : Int32) : Prop :=
  (x6 ≤ x8 → (x7 = (-1 : Int32) → wp_X8_refuse r0 (-5 : Int32) (fun v20 s21 => post v20 s21)) ∧ (¬ x7 = (-1 : Int32) → post x7 r0)) ∧ (¬ x6 ≤ x8 → ∃ n : Nat, wp_X8_together_102 p1 p2 p3 p4 p5 post ih n r0 x6 x7 x8 (0 : Int32))
def wp_X8_together_92 (p1 : Int32) (p2 : Int32) (p3 : Int32) (p4 : Int32) (p5 : Int32) (post : Int32 → (zS) → Prop) (n : Nat) : (zS) → Int32 → Int32 → Int32 → Prop := Nat.rec (motive := fun _ => (zS) → Int32 → Int32 → Int32 → Prop) (fun _ _ _ _ => False) (fun _ ih => wb_X8_together_92 p1 p2 p3 p4 p5 post ih) n
theorem wu_X8_together_92 (p1 : Int32) (p2 : Int32) (p3 : Int32) (p4 : Int32) (p5 : Int32) (post : Int32 → (zS) → Prop) (n : Nat) (r0 : zS) (x6 : Int32) (x7 : Int32) (x8 : Int32) : wp_X8_together_92 p1 p2 p3 p4 p5 post (n + 1) r0 x6 x7 x8 = wb_X8_together_92 p1 p2 p3 p4 p5 post (wp_X8_together_92 p1 p2 p3 p4 p5 post n) r0 x6 x7 x8 := rfl
def wp_X8_together (r0 : zS) (p1 : Int32) (p2 : Int32) (p3 : Int32) (p4 : Int32) (p5 : Int32) (post : Int32 → (zS) → Prop) : Prop :=
  wp_X8_areTwo r0 p1 p2 (fun v1 => (v1 = 0 → wp_X8_together_32 p1 p2 p3 p4 p5 post r0) ∧ (¬ v1 = 0 → wp_X8_areTwo r0 p3 p4 (fun v5 => (v5 = 0 → wp_X8_together_32 p1 p2 p3 p4 p5 post r0) ∧ (¬ v5 = 0 → wp_X8_in (p5.toInt64) (0 : Int64) (9999 : Int64) (fun v7 => (v7 = 0 → wp_X8_together_32 p1 p2 p3 p4 p5 post r0) ∧ (¬ v7 = 0 → wp_X8_findWays r0 p1 p2 p5 (0 : Int32) (fun s10 => ∀ v11 : Int32, v11 = (s10.1 38) → wp_X8_copied 1000 (s10.2.1 46) 1000 (s10.2.1 48) (fun s13 => wp_X8_copied 1000 ((zG s10 48 s13).2.1 47) 1000 ((zG s10 48 s13).2.1 49) (fun s15 => wp_X8_findWays (zG (zG s10 48 s13) 49 s15) p3 p4 p5 (0 : Int32) (fun s17 => ∃ n : Nat, wp_X8_together_92 p1 p2 p3 p4 p5 post n s17 v11 (-1 : Int32) (0 : Int32)))))))))))
set_option maxHeartbeats 4000000 in
set_option maxRecDepth 100000 in
theorem t_X8_together_32 {p : Program} {l : Launch} {e : Env} {s : State} {m : MethodId} {args : Array Value} {below : List Frame} {meth : Method} {c : Code} {D : va_G} {K : Nat → ClassId} {h0 : Nat} {a0 : Nat → Nat} {n0 : Nat → Option Nat} {la0 : Nat → Nat} {p1 : Int32} {p2 : Int32} {p3 : Int32} {p4 : Int32} {p5 : Int32} {post : Int32 → (zS) → Prop} {A : Nat → Prop} (C : xC p s m args meth c cX8_together RX8 11 (some .int) D vwCl (xty K)) (hA : ∀ q, s.heap.size ≤ q → A q) : ∀ (r0 : zS) (H : Heap) (locs : List Loc) (ls : Array Slot), lv_has ls 11 [(0, .ref h0)] → va_P D vwCl (wX8 K h0 a0 n0 la0 r0 ++ (([] : va_W))) H → va_D A (wX8 K h0 a0 n0 la0 r0 ++ (([] : va_W))) → va_S A s.heap H locs → wp_X8_together_32 p1 p2 p3 p4 p5 post r0 → W p l e ({ frames := 15, cells := 0, slots := 0, locals := 540 } : Room) s m args below meth c H locs 0 0 (MQ below (va_Qi (fun r (u : (zS)) => post r u) (fun (u : (zS)) t => va_P D vwCl (wX8 K h0 a0 n0 la0 u ++ (([] : va_W))) t.heap) A) args s 0 0 A) (F0 m 32 ls []) := by
  obtain ⟨hx, hb, hr, hml, hown, hts, hlocks, hK, hT⟩ := id C
  intro r0 H locs ls hl hP hD hS h
  unfold wp_X8_together_32 at h
  refine lv_aload_n hx hb dX8_together_32 rfl (lv_at hl 0 rfl) ?_
  refine lv_bipush (v := -2) hx hb dX8_together_33 (by decide) ?_
  refine xend_rw_i_id (wf := fun (u : (zS)) => (wX8 K h0 a0 n0 la0 u ++ (([] : va_W)))) (xRunV_id (As := [.int (-2 : Int32)]) (rest := []) C (c_X8_refuse h) k_X8_refuse mw_165 ⟨rfl, rfl⟩ ⟨Nat.le_of_ble_eq_true rfl, Nat.le_of_ble_eq_true rfl⟩ hP hD rfl rfl hl rfl rfl (Nat.le_of_ble_eq_true rfl) dX8_together_35 ⟨Nat.le_refl _, Nat.le_refl _⟩) hD hS hA (fun _ => wX8_adr _ _) (fun v3 s4 H locs h hP hD hS => ?_)
  exact xrw_i C s4 h hP hS dX8_together_38
set_option maxHeartbeats 4000000 in
set_option maxRecDepth 100000 in
theorem t_X8_together_162 {p : Program} {l : Launch} {e : Env} {s : State} {m : MethodId} {args : Array Value} {below : List Frame} {meth : Method} {c : Code} {D : va_G} {K : Nat → ClassId} {h0 : Nat} {a0 : Nat → Nat} {n0 : Nat → Option Nat} {la0 : Nat → Nat} {p1 : Int32} {p2 : Int32} {p3 : Int32} {p4 : Int32} {p5 : Int32} {post : Int32 → (zS) → Prop} {A : Nat → Prop} (C : xC p s m args meth c cX8_together RX8 11 (some .int) D vwCl (xty K)) (hA : ∀ q, s.heap.size ≤ q → A q) {k92 : (zS) → Int32 → Int32 → Int32 → Prop} (hk92 : ∀ (r0 : zS) (x6 : Int32) (x7 : Int32) (x8 : Int32) (H : Heap) (locs : List Loc) (ls : Array Slot), lv_has ls 11 [(0, .ref h0), (6, .int x6), (7, .int x7), (8, .int x8)] → va_P D vwCl (wX8 K h0 a0 n0 la0 r0 ++ (([] : va_W))) H → va_D A (wX8 K h0 a0 n0 la0 r0 ++ (([] : va_W))) → va_S A s.heap H locs → k92 r0 x6 x7 x8  → W p l e ({ frames := 15, cells := 0, slots := 0, locals := 540 } : Room) s m args below meth c H locs 0 0 (MQ below (va_Qi (fun r (u : (zS)) => post r u) (fun (u : (zS)) t => va_P D vwCl (wX8 K h0 a0 n0 la0 u ++ (([] : va_W))) t.heap) A) args s 0 0 A) (F0 m 92 ls [])) {k102 : (zS) → Int32 → Int32 → Int32 → Int32 → Prop} (hk102 : ∀ (r0 : zS) (x6 : Int32) (x7 : Int32) (x8 : Int32) (x9 : Int32) (H : Heap) (locs : List Loc) (ls : Array Slot), lv_has ls 11 [(0, .ref h0), (6, .int x6), (7, .int x7), (8, .int x8), (9, .int x9)] → va_P D vwCl (wX8 K h0 a0 n0 la0 r0 ++ (([] : va_W))) H → va_D A (wX8 K h0 a0 n0 la0 r0 ++ (([] : va_W))) → va_S A s.heap H locs → k102 r0 x6 x7 x8 x9  → W p l e ({ frames := 15, cells := 0, slots := 0, locals := 540 } : Room) s m args below meth c H locs 0 0 (MQ below (va_Qi (fun r (u : (zS)) => post r u) (fun (u : (zS)) t => va_P D vwCl (wX8 K h0 a0 n0 la0 u ++ (([] : va_W))) t.heap) A) args s 0 0 A) (F0 m 102 ls [])) : ∀ (r0 : zS) (x6 : Int32) (x8 : Int32) (x9 : Int32) (y0 : Int32) (H : Heap) (locs : List Loc) (ls : Array Slot), lv_has ls 11 [(0, .ref h0), (6, .int x6), (8, .int x8), (9, .int x9)] → va_P D vwCl (wX8 K h0 a0 n0 la0 r0 ++ (([] : va_W))) H → va_D A (wX8 K h0 a0 n0 la0 r0 ++ (([] : va_W))) → va_S A s.heap H locs → wp_X8_together_162 p1 p2 p3 p4 p5 post k92 k102 r0 x6 x8 x9 y0 → W p l e ({ frames := 15, cells := 0, slots := 0, locals := 540 } : Room) s m args below meth c H locs 0 0 (MQ below (va_Qi (fun r (u : (zS)) => post r u) (fun (u : (zS)) t => va_P D vwCl (wX8 K h0 a0 n0 la0 u ++ (([] : va_W))) t.heap) A) args s 0 0 A) (F0 m 162 ls [.int y0]) := by
  obtain ⟨hx, hb, hr, hml, hown, hts, hlocks, hK, hT⟩ := id C
  intro r0 x6 x8 x9 y0 H locs ls hl hP hD hS h
  unfold wp_X8_together_162 at h
  refine lv_istore (lv' := [(7, .int y0), (0, .ref h0), (6, .int x6), (8, .int x8), (9, .int x9)]) hx hb dX8_together_162 hl (by decide) rfl (fun ls hl => ?_)
  obtain ⟨v26, ev26⟩ : ∃ y : Int32, y = x9 + (1 : Int32) := ⟨_, rfl⟩
  replace h := h v26 ev26
  refine lv_iinc (v := v26) (lv' := [(9, .int v26), (7, .int y0), (0, .ref h0), (6, .int x6), (8, .int x8)]) hx hb dX8_together_164 hl (k := 4) rfl (by rw [ev26]; rfl) (by decide) rfl (fun ls hl => ?_)
  refine lv_goto (tgt := 102) hx hb dX8_together_167 (by decide) ?_
  exact hk102 _ _ _ _ _ _ _ _ (lv_sub hl [2, 3, 1, 4, 0] rfl) hP hD hS h
set_option maxHeartbeats 4000000 in
set_option maxRecDepth 100000 in
theorem t_X8_together_160 {p : Program} {l : Launch} {e : Env} {s : State} {m : MethodId} {args : Array Value} {below : List Frame} {meth : Method} {c : Code} {D : va_G} {K : Nat → ClassId} {h0 : Nat} {a0 : Nat → Nat} {n0 : Nat → Option Nat} {la0 : Nat → Nat} {p1 : Int32} {p2 : Int32} {p3 : Int32} {p4 : Int32} {p5 : Int32} {post : Int32 → (zS) → Prop} {A : Nat → Prop} (C : xC p s m args meth c cX8_together RX8 11 (some .int) D vwCl (xty K)) (hA : ∀ q, s.heap.size ≤ q → A q) {k92 : (zS) → Int32 → Int32 → Int32 → Prop} (hk92 : ∀ (r0 : zS) (x6 : Int32) (x7 : Int32) (x8 : Int32) (H : Heap) (locs : List Loc) (ls : Array Slot), lv_has ls 11 [(0, .ref h0), (6, .int x6), (7, .int x7), (8, .int x8)] → va_P D vwCl (wX8 K h0 a0 n0 la0 r0 ++ (([] : va_W))) H → va_D A (wX8 K h0 a0 n0 la0 r0 ++ (([] : va_W))) → va_S A s.heap H locs → k92 r0 x6 x7 x8  → W p l e ({ frames := 15, cells := 0, slots := 0, locals := 540 } : Room) s m args below meth c H locs 0 0 (MQ below (va_Qi (fun r (u : (zS)) => post r u) (fun (u : (zS)) t => va_P D vwCl (wX8 K h0 a0 n0 la0 u ++ (([] : va_W))) t.heap) A) args s 0 0 A) (F0 m 92 ls [])) {k102 : (zS) → Int32 → Int32 → Int32 → Int32 → Prop} (hk102 : ∀ (r0 : zS) (x6 : Int32) (x7 : Int32) (x8 : Int32) (x9 : Int32) (H : Heap) (locs : List Loc) (ls : Array Slot), lv_has ls 11 [(0, .ref h0), (6, .int x6), (7, .int x7), (8, .int x8), (9, .int x9)] → va_P D vwCl (wX8 K h0 a0 n0 la0 r0 ++ (([] : va_W))) H → va_D A (wX8 K h0 a0 n0 la0 r0 ++ (([] : va_W))) → va_S A s.heap H locs → k102 r0 x6 x7 x8 x9  → W p l e ({ frames := 15, cells := 0, slots := 0, locals := 540 } : Room) s m args below meth c H locs 0 0 (MQ below (va_Qi (fun r (u : (zS)) => post r u) (fun (u : (zS)) t => va_P D vwCl (wX8 K h0 a0 n0 la0 u ++ (([] : va_W))) t.heap) A) args s 0 0 A) (F0 m 102 ls [])) : ∀ (r0 : zS) (x6 : Int32) (x7 : Int32) (x8 : Int32) (x9 : Int32) (H : Heap) (locs : List Loc) (ls : Array Slot), lv_has ls 11 [(0, .ref h0), (6, .int x6), (7, .int x7), (8, .int x8), (9, .int x9)] → va_P D vwCl (wX8 K h0 a0 n0 la0 r0 ++ (([] : va_W))) H → va_D A (wX8 K h0 a0 n0 la0 r0 ++ (([] : va_W))) → va_S A s.heap H locs → wp_X8_together_160 p1 p2 p3 p4 p5 post k92 k102 r0 x6 x7 x8 x9 → W p l e ({ frames := 15, cells := 0, slots := 0, locals := 540 } : Room) s m args below meth c H locs 0 0 (MQ below (va_Qi (fun r (u : (zS)) => post r u) (fun (u : (zS)) t => va_P D vwCl (wX8 K h0 a0 n0 la0 u ++ (([] : va_W))) t.heap) A) args s 0 0 A) (F0 m 160 ls []) := by
  obtain ⟨hx, hb, hr, hml, hown, hts, hlocks, hK, hT⟩ := id C
  intro r0 x6 x7 x8 x9 H locs ls hl hP hD hS h
  unfold wp_X8_together_160 at h
  refine lv_iload hx hb dX8_together_160 (lv_at hl 2 rfl) ?_
  exact t_X8_together_162 C hA hk92 hk102 _ _ _ _ _ _ _ _ (lv_sub hl [0, 1, 3, 4] rfl) hP hD hS h
set_option maxHeartbeats 4000000 in
set_option maxRecDepth 100000 in
theorem t_X8_together_102 {p : Program} {l : Launch} {e : Env} {s : State} {m : MethodId} {args : Array Value} {below : List Frame} {meth : Method} {c : Code} {D : va_G} {K : Nat → ClassId} {h0 : Nat} {a0 : Nat → Nat} {n0 : Nat → Option Nat} {la0 : Nat → Nat} {p1 : Int32} {p2 : Int32} {p3 : Int32} {p4 : Int32} {p5 : Int32} {post : Int32 → (zS) → Prop} {A : Nat → Prop} (C : xC p s m args meth c cX8_together RX8 11 (some .int) D vwCl (xty K)) (hA : ∀ q, s.heap.size ≤ q → A q) {k92 : (zS) → Int32 → Int32 → Int32 → Prop} (hk92 : ∀ (r0 : zS) (x6 : Int32) (x7 : Int32) (x8 : Int32) (H : Heap) (locs : List Loc) (ls : Array Slot), lv_has ls 11 [(0, .ref h0), (6, .int x6), (7, .int x7), (8, .int x8)] → va_P D vwCl (wX8 K h0 a0 n0 la0 r0 ++ (([] : va_W))) H → va_D A (wX8 K h0 a0 n0 la0 r0 ++ (([] : va_W))) → va_S A s.heap H locs → k92 r0 x6 x7 x8  → W p l e ({ frames := 15, cells := 0, slots := 0, locals := 540 } : Room) s m args below meth c H locs 0 0 (MQ below (va_Qi (fun r (u : (zS)) => post r u) (fun (u : (zS)) t => va_P D vwCl (wX8 K h0 a0 n0 la0 u ++ (([] : va_W))) t.heap) A) args s 0 0 A) (F0 m 92 ls [])) : ∀ (n : Nat) (r0 : zS) (x6 : Int32) (x7 : Int32) (x8 : Int32) (x9 : Int32) (H : Heap) (locs : List Loc) (ls : Array Slot), lv_has ls 11 [(0, .ref h0), (6, .int x6), (7, .int x7), (8, .int x8), (9, .int x9)] → va_P D vwCl (wX8 K h0 a0 n0 la0 r0 ++ (([] : va_W))) H → va_D A (wX8 K h0 a0 n0 la0 r0 ++ (([] : va_W))) → va_S A s.heap H locs → wp_X8_together_102 p1 p2 p3 p4 p5 post k92 n r0 x6 x7 x8 x9 → W p l e ({ frames := 15, cells := 0, slots := 0, locals := 540 } : Room) s m args below meth c H locs 0 0 (MQ below (va_Qi (fun r (u : (zS)) => post r u) (fun (u : (zS)) t => va_P D vwCl (wX8 K h0 a0 n0 la0 u ++ (([] : va_W))) t.heap) A) args s 0 0 A) (F0 m 102 ls []) := by
  obtain ⟨hx, hb, hr, hml, hown, hts, hlocks, hK, hT⟩ := id C
  intro n
  induction n with
  | zero =>
    intro r0 x6 x7 x8 x9 H locs ls hl hP hD hS h
    exact False.elim h
  | succ n ihn =>
    intro r0 x6 x7 x8 x9 H locs ls hl hP hD hS h
    rw [wu_X8_together_102] at h
    unfold wb_X8_together_102 at h
    refine lv_iload hx hb dX8_together_102 (lv_at hl 4 rfl) ?_
    refine lv_aload_n hx hb dX8_together_104 rfl (lv_at hl 0 rfl) ?_
    refine gX8_38 C hP dX8_together_105 ?_
    refine lv_icmp_ge (tgt := 170) hx hb dX8_together_108 (by decide) (fun c22 => ?_) (fun c22 => ?_)
    · replace h := And.left h c22
      obtain ⟨v23, ev23⟩ : ∃ y : Int32, y = x8 + (1 : Int32) := ⟨_, rfl⟩
      replace h := h v23 ev23
      refine lv_iinc (v := v23) (lv' := [(8, .int v23), (0, .ref h0), (6, .int x6), (7, .int x7), (9, .int x9)]) hx hb dX8_together_170 hl (k := 3) rfl (by rw [ev23]; rfl) (by decide) rfl (fun ls hl => ?_)
      refine lv_goto (tgt := 92) hx hb dX8_together_173 (by decide) ?_
      exact hk92 _ _ _ _ _ _ _ (lv_sub hl [1, 2, 3, 0] rfl) hP hD hS h
    · replace h := And.right h c22
      refine lv_aload_n hx hb dX8_together_111 rfl (lv_at hl 0 rfl) ?_
      refine gX8_49 C hP dX8_together_112 ?_
      refine lv_iload hx hb dX8_together_115 (lv_at hl 3 rfl) ?_
      have hin := And.left h
      replace h := And.right h
      refine lX8_49 C hP hin dX8_together_117 ?_
      refine lv_aload_n hx hb dX8_together_118 rfl (lv_at hl 0 rfl) ?_
      refine gX8_47 C hP dX8_together_119 ?_
      refine lv_iload hx hb dX8_together_122 (lv_at hl 4 rfl) ?_
      have hin := And.left h
      replace h := And.right h
      refine lX8_47 C hP hin dX8_together_124 ?_
      refine xend_ro_i (xRunS (wc := ([] : va_W)) (As := [.int (r0.2.1 49 x8.toNatClampNeg), .int (r0.2.1 47 x9.toNatClampNeg)]) (rest := []) C (c_X8_both h) k_X8_both mw_922 ⟨rfl, rfl⟩ ⟨Nat.le_of_ble_eq_true rfl, Nat.le_of_ble_eq_true rfl⟩ hP hD [] rfl rfl hl rfl rfl (Nat.le_of_ble_eq_true rfl) dX8_together_125 ⟨Nat.le_refl _, Nat.le_refl _⟩) (fun v24 h => ?_)
      refine lv_istore (lv' := [(10, .int v24), (0, .ref h0), (6, .int x6), (7, .int x7), (8, .int x8), (9, .int x9)]) hx hb dX8_together_128 hl (by decide) rfl (fun ls hl => ?_)
      refine lv_aload_n hx hb dX8_together_130 rfl (lv_at hl 1 rfl) ?_
      refine gX8_48 C hP dX8_together_131 ?_
      refine lv_iload hx hb dX8_together_134 (lv_at hl 4 rfl) ?_
      have hin := And.left h
      replace h := And.right h
      refine lX8_48 C hP hin dX8_together_136 ?_
      refine lv_aload_n hx hb dX8_together_137 rfl (lv_at hl 1 rfl) ?_
      refine gX8_46 C hP dX8_together_138 ?_
      refine lv_iload hx hb dX8_together_141 (lv_at hl 5 rfl) ?_
      have hin := And.left h
      replace h := And.right h
      refine lX8_46 C hP hin dX8_together_143 ?_
      refine lv_iand hx hb dX8_together_144 ?_
      refine lv_if_ne (tgt := 160) hx hb dX8_together_145 (by decide) (fun c25 => ?_) (fun c25 => ?_)
      · replace h := And.right h c25
        exact t_X8_together_160 C hA hk92 ihn _ _ _ _ _ _ _ _ (lv_sub hl [1, 2, 3, 4, 5] rfl) hP hD hS h
      · replace h := And.left h c25
        refine lv_iload hx hb dX8_together_148 (lv_at hl 0 rfl) ?_
        refine lv_iload hx hb dX8_together_150 (lv_at hl 3 rfl) ?_
        refine lv_icmp_le (tgt := 160) hx hb dX8_together_152 (by decide) (fun c27 => ?_) (fun c27 => ?_)
        · replace h := And.left h c27
          exact t_X8_together_160 C hA hk92 ihn _ _ _ _ _ _ _ _ (lv_sub hl [1, 2, 3, 4, 5] rfl) hP hD hS h
        · replace h := And.right h c27
          refine lv_iload hx hb dX8_together_155 (lv_at hl 0 rfl) ?_
          refine lv_goto (tgt := 162) hx hb dX8_together_157 (by decide) ?_
          exact t_X8_together_162 C hA hk92 ihn _ _ _ _ _ _ _ _ (lv_sub hl [1, 2, 4, 5] rfl) hP hD hS h
set_option maxHeartbeats 4000000 in
set_option maxRecDepth 100000 in
theorem t_X8_together_92 {p : Program} {l : Launch} {e : Env} {s : State} {m : MethodId} {args : Array Value} {below : List Frame} {meth : Method} {c : Code} {D : va_G} {K : Nat → ClassId} {h0 : Nat} {a0 : Nat → Nat} {n0 : Nat → Option Nat} {la0 : Nat → Nat} {p1 : Int32} {p2 : Int32} {p3 : Int32} {p4 : Int32} {p5 : Int32} {post : Int32 → (zS) → Prop} {A : Nat → Prop} (C : xC p s m args meth c cX8_together RX8 11 (some .int) D vwCl (xty K)) (hA : ∀ q, s.heap.size ≤ q → A q) : ∀ (n : Nat) (r0 : zS) (x6 : Int32) (x7 : Int32) (x8 : Int32) (H : Heap) (locs : List Loc) (ls : Array Slot), lv_has ls 11 [(0, .ref h0), (6, .int x6), (7, .int x7), (8, .int x8)] → va_P D vwCl (wX8 K h0 a0 n0 la0 r0 ++ (([] : va_W))) H → va_D A (wX8 K h0 a0 n0 la0 r0 ++ (([] : va_W))) → va_S A s.heap H locs → wp_X8_together_92 p1 p2 p3 p4 p5 post n r0 x6 x7 x8 → W p l e ({ frames := 15, cells := 0, slots := 0, locals := 540 } : Room) s m args below meth c H locs 0 0 (MQ below (va_Qi (fun r (u : (zS)) => post r u) (fun (u : (zS)) t => va_P D vwCl (wX8 K h0 a0 n0 la0 u ++ (([] : va_W))) t.heap) A) args s 0 0 A) (F0 m 92 ls []) := by
  obtain ⟨hx, hb, hr, hml, hown, hts, hlocks, hK, hT⟩ := id C
  intro n
  induction n with
  | zero =>
    intro r0 x6 x7 x8 H locs ls hl hP hD hS h
    exact False.elim h
  | succ n ihn =>
    intro r0 x6 x7 x8 H locs ls hl hP hD hS h
    rw [wu_X8_together_92] at h
    unfold wb_X8_together_92 at h
    refine lv_iload hx hb dX8_together_92 (lv_at hl 3 rfl) ?_
    refine lv_iload hx hb dX8_together_94 (lv_at hl 1 rfl) ?_
    refine lv_icmp_ge (tgt := 176) hx hb dX8_together_96 (by decide) (fun c18 => ?_) (fun c18 => ?_)
    · replace h := And.left h c18
      refine lv_iload hx hb dX8_together_176 (lv_at hl 2 rfl) ?_
      refine lv_iconst (v := -1) hx hb dX8_together_178 (by decide) ?_
      refine lv_icmp_ne (tgt := 191) hx hb dX8_together_179 (by decide) (fun c19 => ?_) (fun c19 => ?_)
      · replace h := And.right h c19
        refine lv_iload hx hb dX8_together_191 (lv_at hl 2 rfl) ?_
        exact xrw_i C r0 h hP hS dX8_together_193
      · replace h := And.left h c19
        refine lv_aload_n hx hb dX8_together_182 rfl (lv_at hl 0 rfl) ?_
        refine lv_bipush (v := -5) hx hb dX8_together_183 (by decide) ?_
        refine xend_rw_i_id (wf := fun (u : (zS)) => (wX8 K h0 a0 n0 la0 u ++ (([] : va_W)))) (xRunV_id (As := [.int (-5 : Int32)]) (rest := []) C (c_X8_refuse h) k_X8_refuse mw_165 ⟨rfl, rfl⟩ ⟨Nat.le_of_ble_eq_true rfl, Nat.le_of_ble_eq_true rfl⟩ hP hD rfl rfl hl rfl rfl (Nat.le_of_ble_eq_true rfl) dX8_together_185 ⟨Nat.le_refl _, Nat.le_refl _⟩) hD hS hA (fun _ => wX8_adr _ _) (fun v20 s21 H locs h hP hD hS => ?_)
        refine lv_goto (tgt := 193) hx hb dX8_together_188 (by decide) ?_
        exact xrw_i C s21 h hP hS dX8_together_193
    · replace h := And.right h c18
      refine lv_iconst (v := 0) hx hb dX8_together_99 (by decide) ?_
      refine lv_istore (lv' := [(9, .int (0 : Int32)), (0, .ref h0), (6, .int x6), (7, .int x7), (8, .int x8)]) hx hb dX8_together_100 hl (by decide) rfl (fun ls hl => ?_)
      obtain ⟨n0, h⟩ := h
      exact t_X8_together_102 C hA ihn n0 _ _ _ _ _ _ _ _ (lv_sub hl [1, 2, 3, 4, 0] rfl) hP hD hS h
set_option maxHeartbeats 4000000 in
set_option maxRecDepth 100000 in
theorem c_X8_together {l : Launch} {D : va_G} {K : Nat → ClassId} {h0 : Nat} {a0 : Nat → Nat} {n0 : Nat → Option Nat} {la0 : Nat → Nat} {r0 : zS} {p1 : Int32} {p2 : Int32} {p3 : Int32} {p4 : Int32} {p5 : Int32} {sz : Nat} {post : Int32 → (zS) → Prop}   (h : wp_X8_together r0 p1 p2 p3 p4 p5 post) : Met l yX8_together (Cond.code yX8_together cX8_together 11 (some .int) :: wsL_law) ({ frames := 15, cells := 0, slots := 0, locals := 540 } : Room) (va_Pc [.ref h0, .int p1, .int p2, .int p3, .int p4, .int p5] (xPre D vwCl (xty K) (wX8 K h0 a0 n0 la0 r0 ++ (([] : va_W))) sz)) (va_Qi (fun r (u : (zS)) => post r u) (fun (u : (zS)) t => va_P D vwCl (wX8 K h0 a0 n0 la0 u ++ (([] : va_W))) t.heap) (va_A (wX8 K h0 a0 n0 la0 r0 ++ (([] : va_W))) sz)) 0 0 (va_A (wX8 K h0 a0 n0 la0 r0 ++ (([] : va_W))) sz) := by
  refine xMet (by decide) rfl (Nat.le_of_ble_eq_true rfl) (fun p e s m args below meth c C hnm hP hD hsz ls hl => ?_)
  have hl : lv_has ls 11 [(0, .ref h0), (1, .int p1), (2, .int p2), (3, .int p3), (4, .int p4), (5, .int p5)] := hl
  obtain ⟨hx, hb, hr, hml, hown, hts, hlocks, hK, hT⟩ := id C
  subst hsz
  generalize hAe : va_A (wX8 K h0 a0 n0 la0 r0 ++ (([] : va_W))) s.heap.size = A at hD ⊢
  have hA : ∀ q : Nat, s.heap.size ≤ q → A q := fun q h => by rw [← hAe]; exact Or.inr h
  have hS : va_S A s.heap s.heap [] := va_S.rf
  have hP : va_P D vwCl (wX8 K h0 a0 n0 la0 r0 ++ (([] : va_W))) s.heap := hP
  unfold wp_X8_together at h
  refine lv_aload_n hx hb dX8_together_0 rfl (lv_at hl 0 rfl) ?_
  refine lv_iload_n hx hb dX8_together_1 rfl (lv_at hl 1 rfl) ?_
  refine lv_iload_n hx hb dX8_together_2 rfl (lv_at hl 2 rfl) ?_
  refine xend_ro_i (xRunV_id (As := [.int p1, .int p2]) (rest := []) C (c_X8_areTwo h) k_X8_areTwo mw_449 ⟨rfl, rfl⟩ ⟨Nat.le_of_ble_eq_true rfl, Nat.le_of_ble_eq_true rfl⟩ hP hD rfl rfl hl rfl rfl (Nat.le_of_ble_eq_true rfl) dX8_together_3 ⟨Nat.le_refl _, Nat.le_refl _⟩) (fun v1 h => ?_)
  refine lv_if_eq (tgt := 32) hx hb dX8_together_6 (by decide) (fun c2 => ?_) (fun c2 => ?_)
  · replace h := And.left h c2
    exact t_X8_together_32 C hA _ _ _ _ (lv_sub hl [0] rfl) hP hD hS h
  · replace h := And.right h c2
    refine lv_aload_n hx hb dX8_together_9 rfl (lv_at hl 0 rfl) ?_
    refine lv_iload_n hx hb dX8_together_10 rfl (lv_at hl 3 rfl) ?_
    refine lv_iload hx hb dX8_together_11 (lv_at hl 4 rfl) ?_
    refine xend_ro_i (xRunV_id (As := [.int p3, .int p4]) (rest := []) C (c_X8_areTwo h) k_X8_areTwo mw_449 ⟨rfl, rfl⟩ ⟨Nat.le_of_ble_eq_true rfl, Nat.le_of_ble_eq_true rfl⟩ hP hD rfl rfl hl rfl rfl (Nat.le_of_ble_eq_true rfl) dX8_together_13 ⟨Nat.le_refl _, Nat.le_refl _⟩) (fun v5 h => ?_)
    refine lv_if_eq (tgt := 32) hx hb dX8_together_16 (by decide) (fun c6 => ?_) (fun c6 => ?_)
    · replace h := And.left h c6
      exact t_X8_together_32 C hA _ _ _ _ (lv_sub hl [0] rfl) hP hD hS h
    · replace h := And.right h c6
      refine lv_iload hx hb dX8_together_19 (lv_at hl 5 rfl) ?_
      refine lv_i2l hx hb dX8_together_21 rfl ?_
      refine lv_lconst (v := 0) hx hb dX8_together_22 (by decide) ?_
      refine lv_ldc2 hx hb hown (hts _ mw_742) dX8_together_23 ?_
      refine xend_ro_i (xRunS (wc := ([] : va_W)) (As := [.long (p5.toInt64), .long (0 : Int64), .long (9999 : Int64)]) (rest := []) C (c_X8_in h) k_X8_in mw_162 ⟨rfl, rfl⟩ ⟨Nat.le_of_ble_eq_true rfl, Nat.le_of_ble_eq_true rfl⟩ hP hD [] rfl rfl hl rfl rfl (Nat.le_of_ble_eq_true rfl) dX8_together_26 ⟨Nat.le_refl _, Nat.le_refl _⟩) (fun v7 h => ?_)
      refine lv_if_ne (tgt := 39) hx hb dX8_together_29 (by decide) (fun c8 => ?_) (fun c8 => ?_)
      · replace h := And.right h c8
        refine lv_aload_n hx hb dX8_together_39 rfl (lv_at hl 0 rfl) ?_
        refine lv_iload_n hx hb dX8_together_40 rfl (lv_at hl 1 rfl) ?_
        refine lv_iload_n hx hb dX8_together_41 rfl (lv_at hl 2 rfl) ?_
        refine lv_iload hx hb dX8_together_42 (lv_at hl 5 rfl) ?_
        refine lv_iconst (v := 0) hx hb dX8_together_44 (by decide) ?_
        refine xend_rw_v_id (wf := fun (u : (zS)) => (wX8 K h0 a0 n0 la0 u ++ (([] : va_W)))) (xRunV_id (As := [.int p1, .int p2, .int p5, .int (0 : Int32)]) (rest := []) C (c_X8_findWays h) k_X8_findWays mw_776 ⟨rfl, rfl⟩ ⟨Nat.le_of_ble_eq_true rfl, Nat.le_of_ble_eq_true rfl⟩ hP hD rfl rfl hl rfl rfl (Nat.le_of_ble_eq_true rfl) dX8_together_45 ⟨Nat.le_refl _, Nat.le_refl _⟩) hD hS hA (fun _ => wX8_adr _ _) (fun s10 H locs h hP hD hS => ?_)
        refine lv_aload_n hx hb dX8_together_48 rfl (lv_at hl 0 rfl) ?_
        refine gX8_38 C hP dX8_together_49 ?_
        refine lv_topi (fun v11 ev11 => ?_)
        replace h := h v11 ev11
        refine lv_istore (lv' := [(6, .int v11), (0, .ref h0), (1, .int p1), (2, .int p2), (3, .int p3), (4, .int p4), (5, .int p5)]) hx hb dX8_together_52 hl (by decide) rfl (fun ls hl => ?_)
        refine lv_aload_n hx hb dX8_together_54 rfl (lv_at hl 1 rfl) ?_
        refine gX8_46 C hP dX8_together_55 ?_
        refine lv_aload_n hx hb dX8_together_58 rfl (lv_at hl 1 rfl) ?_
        refine gX8_48 C hP dX8_together_59 ?_
        refine xend_rw_v (wf := fun (u : (Nat → Int32)) => (wAI K (a0 46) 1000 (s10.2.1 46) ++ (wAI K (a0 48) 1000 u))) (xRunS (wc := (wAI K (a0 46) 1000 (s10.2.1 46) ++ (wAI K (a0 48) 1000 (s10.2.1 48)))) (As := [.ref (a0 46), .ref (a0 48)]) (rest := []) C (c_X8_copied h) k_X8_copied mw_655 ⟨rfl, rfl⟩ ⟨Nat.le_of_ble_eq_true rfl, Nat.le_of_ble_eq_true rfl⟩ hP hD [19, 21] rfl rfl hl rfl rfl (Nat.le_of_ble_eq_true rfl) dX8_together_62 ⟨Nat.le_refl _, Nat.le_refl _⟩) hP hD hS hA [19, 21] rfl rfl (fun _ => rfl) (fun s13 H locs h hP hD hS => ?_)
        replace hP : va_P D vwCl (wX8 K h0 a0 n0 la0 (zG s10 48 s13) ++ (([] : va_W))) H := hP
        replace hD : va_D A (wX8 K h0 a0 n0 la0 (zG s10 48 s13) ++ (([] : va_W))) := hD
        refine lv_aload_n hx hb dX8_together_65 rfl (lv_at hl 1 rfl) ?_
        refine gX8_47 C hP dX8_together_66 ?_
        refine lv_aload_n hx hb dX8_together_69 rfl (lv_at hl 1 rfl) ?_
        refine gX8_49 C hP dX8_together_70 ?_
        refine xend_rw_v (wf := fun (u : (Nat → Int32)) => (wAI K (a0 47) 1000 ((zG s10 48 s13).2.1 47) ++ (wAI K (a0 49) 1000 u))) (xRunS (wc := (wAI K (a0 47) 1000 ((zG s10 48 s13).2.1 47) ++ (wAI K (a0 49) 1000 ((zG s10 48 s13).2.1 49)))) (As := [.ref (a0 47), .ref (a0 49)]) (rest := []) C (c_X8_copied h) k_X8_copied mw_655 ⟨rfl, rfl⟩ ⟨Nat.le_of_ble_eq_true rfl, Nat.le_of_ble_eq_true rfl⟩ hP hD [20, 22] rfl rfl hl rfl rfl (Nat.le_of_ble_eq_true rfl) dX8_together_73 ⟨Nat.le_refl _, Nat.le_refl _⟩) hP hD hS hA [20, 22] rfl rfl (fun _ => rfl) (fun s15 H locs h hP hD hS => ?_)
        replace hP : va_P D vwCl (wX8 K h0 a0 n0 la0 (zG (zG s10 48 s13) 49 s15) ++ (([] : va_W))) H := hP
        replace hD : va_D A (wX8 K h0 a0 n0 la0 (zG (zG s10 48 s13) 49 s15) ++ (([] : va_W))) := hD
        refine lv_aload_n hx hb dX8_together_76 rfl (lv_at hl 1 rfl) ?_
        refine lv_iload_n hx hb dX8_together_77 rfl (lv_at hl 4 rfl) ?_
        refine lv_iload hx hb dX8_together_78 (lv_at hl 5 rfl) ?_
        refine lv_iload hx hb dX8_together_80 (lv_at hl 6 rfl) ?_
        refine lv_iconst (v := 0) hx hb dX8_together_82 (by decide) ?_
        refine xend_rw_v_id (wf := fun (u : (zS)) => (wX8 K h0 a0 n0 la0 u ++ (([] : va_W)))) (xRunV_id (As := [.int p3, .int p4, .int p5, .int (0 : Int32)]) (rest := []) C (c_X8_findWays h) k_X8_findWays mw_776 ⟨rfl, rfl⟩ ⟨Nat.le_of_ble_eq_true rfl, Nat.le_of_ble_eq_true rfl⟩ hP hD rfl rfl hl rfl rfl (Nat.le_of_ble_eq_true rfl) dX8_together_83 ⟨Nat.le_refl _, Nat.le_refl _⟩) hD hS hA (fun _ => wX8_adr _ _) (fun s17 H locs h hP hD hS => ?_)
        refine lv_iconst (v := -1) hx hb dX8_together_86 (by decide) ?_
        refine lv_istore (lv' := [(7, .int (-1 : Int32)), (6, .int v11), (0, .ref h0), (1, .int p1), (2, .int p2), (3, .int p3), (4, .int p4), (5, .int p5)]) hx hb dX8_together_87 hl (by decide) rfl (fun ls hl => ?_)
        refine lv_iconst (v := 0) hx hb dX8_together_89 (by decide) ?_
        refine lv_istore (lv' := [(8, .int (0 : Int32)), (7, .int (-1 : Int32)), (6, .int v11), (0, .ref h0), (1, .int p1), (2, .int p2), (3, .int p3), (4, .int p4), (5, .int p5)]) hx hb dX8_together_90 hl (by decide) rfl (fun ls hl => ?_)
        obtain ⟨n0, h⟩ := h
        exact t_X8_together_92 C hA n0 _ _ _ _ _ _ _ (lv_sub hl [3, 2, 1, 0] rfl) hP hD hS h
      · replace h := And.left h c8
        exact t_X8_together_32 C hA _ _ _ _ (lv_sub hl [0] rfl) hP hD hS h

def wp_X8_halves_21 (p1 : Int32) (p2 : Int32) (p3 : Int32) (post : Int32 → (zS) → Prop) (r0 : zS) : Prop :=
  wp_X8_refuse r0 (-2 : Int32) (fun v3 s4 => post v3 s4)
def wp_X8_halves_123 (p1 : Int32) (p2 : Int32) (p3 : Int32) (post : Int32 → (zS) → Prop) (k51 : (zS) → Int32 → Int32 → Int32 → Prop) (k63 : (zS) → Int32 → Int32 → Int32 → Int32 → Prop) (r0 : zS) (x4 : Int32) (x6 : Int32) (x7 : Int32) (y0 : Int32) : Prop :=
  ∀ v18 : Int32, v18 = x7 + (1 : Int32) → k63 r0 x4 y0 x6 v18
def wp_X8_halves_121 (p1 : Int32) (p2 : Int32) (p3 : Int32) (post : Int32 → (zS) → Prop) (k51 : (zS) → Int32 → Int32 → Int32 → Prop) (k63 : (zS) → Int32 → Int32 → Int32 → Int32 → Prop) (r0 : zS) (x4 : Int32) (x5 : Int32) (x6 : Int32) (x7 : Int32) : Prop :=
  wp_X8_halves_123 p1 p2 p3 post k51 k63 r0 x4 x6 x7 x5
def wb_X8_halves_63 (p1 : Int32) (p2 : Int32) (p3 : Int32) (post : Int32 → (zS) → Prop) (k51 : (zS) → Int32 → Int32 → Int32 → Prop) (ih : (zS) → Int32 → Int32 → Int32 → Int32 → Prop) (r0 : zS) (x4 : Int32) (x5 : Int32) (x6 : Int32) (x7 : Int32) : Prop :=
  (x6 ≤ x7 → ∀ v15 : Int32, v15 = x6 + (1 : Int32) → k51 r0 x4 x5 v15) ∧ (¬ x6 ≤ x7 → vp_in x6 1000 ∧ (vp_in x7 1000 ∧ (wp_X8_both (r0.2.1 47 x6.toNatClampNeg) (r0.2.1 47 x7.toNatClampNeg) (fun v16 => vp_in x6 1000 ∧ (vp_in x7 1000 ∧ ((((r0.2.1 46 x6.toNatClampNeg) &&& (r0.2.1 46 x7.toNatClampNeg)) = x4 → (v16 ≤ x5 → wp_X8_halves_121 p1 p2 p3 post k51 ih r0 x4 x5 x6 x7) ∧ (¬ v16 ≤ x5 → wp_X8_halves_123 p1 p2 p3 post k51 ih r0 x4 x6 x7 v16)) ∧ (¬ ((r0.2.1 46 x6.toNatClampNeg) &&& (r0.2.1 46 x7.toNatClampNeg)) = x4 → wp_X8_halves_121 p1 p2 p3 post k51 ih r0 x4 x5 x6 x7)))))))
def wp_X8_halves_63 (p1 : Int32) (p2 : Int32) (p3 : Int32) (post : Int32 → (zS) → Prop) (k51 : (zS) → Int32 → Int32 → Int32 → Prop) (n : Nat) : (zS) → Int32 → Int32 → Int32 → Int32 → Prop := Nat.rec (motive := fun _ => (zS) → Int32 → Int32 → Int32 → Int32 → Prop) (fun _ _ _ _ _ => False) (fun _ ih => wb_X8_halves_63 p1 p2 p3 post k51 ih) n
theorem wu_X8_halves_63 (p1 : Int32) (p2 : Int32) (p3 : Int32) (post : Int32 → (zS) → Prop) (k51 : (zS) → Int32 → Int32 → Int32 → Prop) (n : Nat) (r0 : zS) (x4 : Int32) (x5 : Int32) (x6 : Int32) (x7 : Int32) : wp_X8_halves_63 p1 p2 p3 post k51 (n + 1) r0 x4 x5 x6 x7 = wb_X8_halves_63 p1 p2 p3 post k51 (wp_X8_halves_63 p1 p2 p3 post k51 n) r0 x4 x5 x6 x7 := rfl
def wb_X8_halves_51 (p1 : Int32) (p2 : Int32) (p3 : Int32) (post : Int32 → (zS) → Prop) (ih : (zS) → Int32 → Int32 → Int32 → Prop) (r0 : zS) (x4 : Int32) (x5 : Int32) (x6 : Int32) : Prop :=
  ((r0.1 38) ≤ x6 → (x5 = (-1 : Int32) → wp_X8_refuse r0 (-5 : Int32) (fun v12 s13 => post v12 s13)) ∧ (¬ x5 = (-1 : Int32) → post x5 r0)) ∧ (¬ (r0.1 38) ≤ x6 → ∃ n : Nat, wp_X8_halves_63 p1 p2 p3 post ih n r0 x4 x5 x6 (0 : Int32))
def wp_X8_halves_51 (p1 : Int32) (p2 : Int32) (p3 : Int32) (post : Int32 → (zS) → Prop) (n : Nat) : (zS) → Int32 → Int32 → Int32 → Prop := Nat.rec (motive := fun _ => (zS) → Int32 → Int32 → Int32 → Prop) (fun _ _ _ _ => False) (fun _ ih => wb_X8_halves_51 p1 p2 p3 post ih) n
theorem wu_X8_halves_51 (p1 : Int32) (p2 : Int32) (p3 : Int32) (post : Int32 → (zS) → Prop) (n : Nat) (r0 : zS) (x4 : Int32) (x5 : Int32) (x6 : Int32) : wp_X8_halves_51 p1 p2 p3 post (n + 1) r0 x4 x5 x6 = wb_X8_halves_51 p1 p2 p3 post (wp_X8_halves_51 p1 p2 p3 post n) r0 x4 x5 x6 := rfl
def wp_X8_halves (r0 : zS) (p1 : Int32) (p2 : Int32) (p3 : Int32) (post : Int32 → (zS) → Prop) : Prop :=
  wp_X8_areTwo r0 p1 p2 (fun v1 => (v1 = 0 → wp_X8_halves_21 p1 p2 p3 post r0) ∧ (¬ v1 = 0 → wp_X8_in (p3.toInt64) (0 : Int64) (9999 : Int64) (fun v5 => (v5 = 0 → wp_X8_halves_21 p1 p2 p3 post r0) ∧ (¬ v5 = 0 → wp_X8_findWays r0 p1 p2 p3 (0 : Int32) (fun s8 => ∀ v9 : Int32, v9 = (((1 : Int32) <<< (p1 &&& 31)) ||| ((1 : Int32) <<< (p2 &&& 31))) → ∃ n : Nat, wp_X8_halves_51 p1 p2 p3 post n s8 v9 (-1 : Int32) (0 : Int32))))))
set_option maxHeartbeats 4000000 in
set_option maxRecDepth 100000 in
theorem t_X8_halves_21 {p : Program} {l : Launch} {e : Env} {s : State} {m : MethodId} {args : Array Value} {below : List Frame} {meth : Method} {c : Code} {D : va_G} {K : Nat → ClassId} {h0 : Nat} {a0 : Nat → Nat} {n0 : Nat → Option Nat} {la0 : Nat → Nat} {p1 : Int32} {p2 : Int32} {p3 : Int32} {post : Int32 → (zS) → Prop} {A : Nat → Prop} (C : xC p s m args meth c cX8_halves RX8 9 (some .int) D vwCl (xty K)) (hA : ∀ q, s.heap.size ≤ q → A q) : ∀ (r0 : zS) (H : Heap) (locs : List Loc) (ls : Array Slot), lv_has ls 9 [(0, .ref h0)] → va_P D vwCl (wX8 K h0 a0 n0 la0 r0 ++ (([] : va_W))) H → va_D A (wX8 K h0 a0 n0 la0 r0 ++ (([] : va_W))) → va_S A s.heap H locs → wp_X8_halves_21 p1 p2 p3 post r0 → W p l e ({ frames := 15, cells := 0, slots := 0, locals := 540 } : Room) s m args below meth c H locs 0 0 (MQ below (va_Qi (fun r (u : (zS)) => post r u) (fun (u : (zS)) t => va_P D vwCl (wX8 K h0 a0 n0 la0 u ++ (([] : va_W))) t.heap) A) args s 0 0 A) (F0 m 21 ls []) := by
  obtain ⟨hx, hb, hr, hml, hown, hts, hlocks, hK, hT⟩ := id C
  intro r0 H locs ls hl hP hD hS h
  unfold wp_X8_halves_21 at h
  refine lv_aload_n hx hb dX8_halves_21 rfl (lv_at hl 0 rfl) ?_
  refine lv_bipush (v := -2) hx hb dX8_halves_22 (by decide) ?_
  refine xend_rw_i_id (wf := fun (u : (zS)) => (wX8 K h0 a0 n0 la0 u ++ (([] : va_W)))) (xRunV_id (As := [.int (-2 : Int32)]) (rest := []) C (c_X8_refuse h) k_X8_refuse mw_165 ⟨rfl, rfl⟩ ⟨Nat.le_of_ble_eq_true rfl, Nat.le_of_ble_eq_true rfl⟩ hP hD rfl rfl hl rfl rfl (Nat.le_of_ble_eq_true rfl) dX8_halves_24 ⟨Nat.le_refl _, Nat.le_refl _⟩) hD hS hA (fun _ => wX8_adr _ _) (fun v3 s4 H locs h hP hD hS => ?_)
  exact xrw_i C s4 h hP hS dX8_halves_27
set_option maxHeartbeats 4000000 in
set_option maxRecDepth 100000 in
theorem t_X8_halves_123 {p : Program} {l : Launch} {e : Env} {s : State} {m : MethodId} {args : Array Value} {below : List Frame} {meth : Method} {c : Code} {D : va_G} {K : Nat → ClassId} {h0 : Nat} {a0 : Nat → Nat} {n0 : Nat → Option Nat} {la0 : Nat → Nat} {p1 : Int32} {p2 : Int32} {p3 : Int32} {post : Int32 → (zS) → Prop} {A : Nat → Prop} (C : xC p s m args meth c cX8_halves RX8 9 (some .int) D vwCl (xty K)) (hA : ∀ q, s.heap.size ≤ q → A q) {k51 : (zS) → Int32 → Int32 → Int32 → Prop} (hk51 : ∀ (r0 : zS) (x4 : Int32) (x5 : Int32) (x6 : Int32) (H : Heap) (locs : List Loc) (ls : Array Slot), lv_has ls 9 [(0, .ref h0), (4, .int x4), (5, .int x5), (6, .int x6)] → va_P D vwCl (wX8 K h0 a0 n0 la0 r0 ++ (([] : va_W))) H → va_D A (wX8 K h0 a0 n0 la0 r0 ++ (([] : va_W))) → va_S A s.heap H locs → k51 r0 x4 x5 x6  → W p l e ({ frames := 15, cells := 0, slots := 0, locals := 540 } : Room) s m args below meth c H locs 0 0 (MQ below (va_Qi (fun r (u : (zS)) => post r u) (fun (u : (zS)) t => va_P D vwCl (wX8 K h0 a0 n0 la0 u ++ (([] : va_W))) t.heap) A) args s 0 0 A) (F0 m 51 ls [])) {k63 : (zS) → Int32 → Int32 → Int32 → Int32 → Prop} (hk63 : ∀ (r0 : zS) (x4 : Int32) (x5 : Int32) (x6 : Int32) (x7 : Int32) (H : Heap) (locs : List Loc) (ls : Array Slot), lv_has ls 9 [(0, .ref h0), (4, .int x4), (5, .int x5), (6, .int x6), (7, .int x7)] → va_P D vwCl (wX8 K h0 a0 n0 la0 r0 ++ (([] : va_W))) H → va_D A (wX8 K h0 a0 n0 la0 r0 ++ (([] : va_W))) → va_S A s.heap H locs → k63 r0 x4 x5 x6 x7  → W p l e ({ frames := 15, cells := 0, slots := 0, locals := 540 } : Room) s m args below meth c H locs 0 0 (MQ below (va_Qi (fun r (u : (zS)) => post r u) (fun (u : (zS)) t => va_P D vwCl (wX8 K h0 a0 n0 la0 u ++ (([] : va_W))) t.heap) A) args s 0 0 A) (F0 m 63 ls [])) : ∀ (r0 : zS) (x4 : Int32) (x6 : Int32) (x7 : Int32) (y0 : Int32) (H : Heap) (locs : List Loc) (ls : Array Slot), lv_has ls 9 [(0, .ref h0), (4, .int x4), (6, .int x6), (7, .int x7)] → va_P D vwCl (wX8 K h0 a0 n0 la0 r0 ++ (([] : va_W))) H → va_D A (wX8 K h0 a0 n0 la0 r0 ++ (([] : va_W))) → va_S A s.heap H locs → wp_X8_halves_123 p1 p2 p3 post k51 k63 r0 x4 x6 x7 y0 → W p l e ({ frames := 15, cells := 0, slots := 0, locals := 540 } : Room) s m args below meth c H locs 0 0 (MQ below (va_Qi (fun r (u : (zS)) => post r u) (fun (u : (zS)) t => va_P D vwCl (wX8 K h0 a0 n0 la0 u ++ (([] : va_W))) t.heap) A) args s 0 0 A) (F0 m 123 ls [.int y0]) := by
  obtain ⟨hx, hb, hr, hml, hown, hts, hlocks, hK, hT⟩ := id C
  intro r0 x4 x6 x7 y0 H locs ls hl hP hD hS h
  unfold wp_X8_halves_123 at h
  refine lv_istore (lv' := [(5, .int y0), (0, .ref h0), (4, .int x4), (6, .int x6), (7, .int x7)]) hx hb dX8_halves_123 hl (by decide) rfl (fun ls hl => ?_)
  obtain ⟨v18, ev18⟩ : ∃ y : Int32, y = x7 + (1 : Int32) := ⟨_, rfl⟩
  replace h := h v18 ev18
  refine lv_iinc (v := v18) (lv' := [(7, .int v18), (5, .int y0), (0, .ref h0), (4, .int x4), (6, .int x6)]) hx hb dX8_halves_125 hl (k := 4) rfl (by rw [ev18]; rfl) (by decide) rfl (fun ls hl => ?_)
  refine lv_goto (tgt := 63) hx hb dX8_halves_128 (by decide) ?_
  exact hk63 _ _ _ _ _ _ _ _ (lv_sub hl [2, 3, 1, 4, 0] rfl) hP hD hS h
set_option maxHeartbeats 4000000 in
set_option maxRecDepth 100000 in
theorem t_X8_halves_121 {p : Program} {l : Launch} {e : Env} {s : State} {m : MethodId} {args : Array Value} {below : List Frame} {meth : Method} {c : Code} {D : va_G} {K : Nat → ClassId} {h0 : Nat} {a0 : Nat → Nat} {n0 : Nat → Option Nat} {la0 : Nat → Nat} {p1 : Int32} {p2 : Int32} {p3 : Int32} {post : Int32 → (zS) → Prop} {A : Nat → Prop} (C : xC p s m args meth c cX8_halves RX8 9 (some .int) D vwCl (xty K)) (hA : ∀ q, s.heap.size ≤ q → A q) {k51 : (zS) → Int32 → Int32 → Int32 → Prop} (hk51 : ∀ (r0 : zS) (x4 : Int32) (x5 : Int32) (x6 : Int32) (H : Heap) (locs : List Loc) (ls : Array Slot), lv_has ls 9 [(0, .ref h0), (4, .int x4), (5, .int x5), (6, .int x6)] → va_P D vwCl (wX8 K h0 a0 n0 la0 r0 ++ (([] : va_W))) H → va_D A (wX8 K h0 a0 n0 la0 r0 ++ (([] : va_W))) → va_S A s.heap H locs → k51 r0 x4 x5 x6  → W p l e ({ frames := 15, cells := 0, slots := 0, locals := 540 } : Room) s m args below meth c H locs 0 0 (MQ below (va_Qi (fun r (u : (zS)) => post r u) (fun (u : (zS)) t => va_P D vwCl (wX8 K h0 a0 n0 la0 u ++ (([] : va_W))) t.heap) A) args s 0 0 A) (F0 m 51 ls [])) {k63 : (zS) → Int32 → Int32 → Int32 → Int32 → Prop} (hk63 : ∀ (r0 : zS) (x4 : Int32) (x5 : Int32) (x6 : Int32) (x7 : Int32) (H : Heap) (locs : List Loc) (ls : Array Slot), lv_has ls 9 [(0, .ref h0), (4, .int x4), (5, .int x5), (6, .int x6), (7, .int x7)] → va_P D vwCl (wX8 K h0 a0 n0 la0 r0 ++ (([] : va_W))) H → va_D A (wX8 K h0 a0 n0 la0 r0 ++ (([] : va_W))) → va_S A s.heap H locs → k63 r0 x4 x5 x6 x7  → W p l e ({ frames := 15, cells := 0, slots := 0, locals := 540 } : Room) s m args below meth c H locs 0 0 (MQ below (va_Qi (fun r (u : (zS)) => post r u) (fun (u : (zS)) t => va_P D vwCl (wX8 K h0 a0 n0 la0 u ++ (([] : va_W))) t.heap) A) args s 0 0 A) (F0 m 63 ls [])) : ∀ (r0 : zS) (x4 : Int32) (x5 : Int32) (x6 : Int32) (x7 : Int32) (H : Heap) (locs : List Loc) (ls : Array Slot), lv_has ls 9 [(0, .ref h0), (4, .int x4), (5, .int x5), (6, .int x6), (7, .int x7)] → va_P D vwCl (wX8 K h0 a0 n0 la0 r0 ++ (([] : va_W))) H → va_D A (wX8 K h0 a0 n0 la0 r0 ++ (([] : va_W))) → va_S A s.heap H locs → wp_X8_halves_121 p1 p2 p3 post k51 k63 r0 x4 x5 x6 x7 → W p l e ({ frames := 15, cells := 0, slots := 0, locals := 540 } : Room) s m args below meth c H locs 0 0 (MQ below (va_Qi (fun r (u : (zS)) => post r u) (fun (u : (zS)) t => va_P D vwCl (wX8 K h0 a0 n0 la0 u ++ (([] : va_W))) t.heap) A) args s 0 0 A) (F0 m 121 ls []) := by
  obtain ⟨hx, hb, hr, hml, hown, hts, hlocks, hK, hT⟩ := id C
  intro r0 x4 x5 x6 x7 H locs ls hl hP hD hS h
  unfold wp_X8_halves_121 at h
  refine lv_iload hx hb dX8_halves_121 (lv_at hl 2 rfl) ?_
  exact t_X8_halves_123 C hA hk51 hk63 _ _ _ _ _ _ _ _ (lv_sub hl [0, 1, 3, 4] rfl) hP hD hS h
set_option maxHeartbeats 4000000 in
set_option maxRecDepth 100000 in
theorem t_X8_halves_63 {p : Program} {l : Launch} {e : Env} {s : State} {m : MethodId} {args : Array Value} {below : List Frame} {meth : Method} {c : Code} {D : va_G} {K : Nat → ClassId} {h0 : Nat} {a0 : Nat → Nat} {n0 : Nat → Option Nat} {la0 : Nat → Nat} {p1 : Int32} {p2 : Int32} {p3 : Int32} {post : Int32 → (zS) → Prop} {A : Nat → Prop} (C : xC p s m args meth c cX8_halves RX8 9 (some .int) D vwCl (xty K)) (hA : ∀ q, s.heap.size ≤ q → A q) {k51 : (zS) → Int32 → Int32 → Int32 → Prop} (hk51 : ∀ (r0 : zS) (x4 : Int32) (x5 : Int32) (x6 : Int32) (H : Heap) (locs : List Loc) (ls : Array Slot), lv_has ls 9 [(0, .ref h0), (4, .int x4), (5, .int x5), (6, .int x6)] → va_P D vwCl (wX8 K h0 a0 n0 la0 r0 ++ (([] : va_W))) H → va_D A (wX8 K h0 a0 n0 la0 r0 ++ (([] : va_W))) → va_S A s.heap H locs → k51 r0 x4 x5 x6  → W p l e ({ frames := 15, cells := 0, slots := 0, locals := 540 } : Room) s m args below meth c H locs 0 0 (MQ below (va_Qi (fun r (u : (zS)) => post r u) (fun (u : (zS)) t => va_P D vwCl (wX8 K h0 a0 n0 la0 u ++ (([] : va_W))) t.heap) A) args s 0 0 A) (F0 m 51 ls [])) : ∀ (n : Nat) (r0 : zS) (x4 : Int32) (x5 : Int32) (x6 : Int32) (x7 : Int32) (H : Heap) (locs : List Loc) (ls : Array Slot), lv_has ls 9 [(0, .ref h0), (4, .int x4), (5, .int x5), (6, .int x6), (7, .int x7)] → va_P D vwCl (wX8 K h0 a0 n0 la0 r0 ++ (([] : va_W))) H → va_D A (wX8 K h0 a0 n0 la0 r0 ++ (([] : va_W))) → va_S A s.heap H locs → wp_X8_halves_63 p1 p2 p3 post k51 n r0 x4 x5 x6 x7 → W p l e ({ frames := 15, cells := 0, slots := 0, locals := 540 } : Room) s m args below meth c H locs 0 0 (MQ below (va_Qi (fun r (u : (zS)) => post r u) (fun (u : (zS)) t => va_P D vwCl (wX8 K h0 a0 n0 la0 u ++ (([] : va_W))) t.heap) A) args s 0 0 A) (F0 m 63 ls []) := by
  obtain ⟨hx, hb, hr, hml, hown, hts, hlocks, hK, hT⟩ := id C
  intro n
  induction n with
  | zero =>
    intro r0 x4 x5 x6 x7 H locs ls hl hP hD hS h
    exact False.elim h
  | succ n ihn =>
    intro r0 x4 x5 x6 x7 H locs ls hl hP hD hS h
    rw [wu_X8_halves_63] at h
    unfold wb_X8_halves_63 at h
    refine lv_iload hx hb dX8_halves_63 (lv_at hl 4 rfl) ?_
    refine lv_iload hx hb dX8_halves_65 (lv_at hl 3 rfl) ?_
    refine lv_icmp_ge (tgt := 131) hx hb dX8_halves_67 (by decide) (fun c14 => ?_) (fun c14 => ?_)
    · replace h := And.left h c14
      obtain ⟨v15, ev15⟩ : ∃ y : Int32, y = x6 + (1 : Int32) := ⟨_, rfl⟩
      replace h := h v15 ev15
      refine lv_iinc (v := v15) (lv' := [(6, .int v15), (0, .ref h0), (4, .int x4), (5, .int x5), (7, .int x7)]) hx hb dX8_halves_131 hl (k := 3) rfl (by rw [ev15]; rfl) (by decide) rfl (fun ls hl => ?_)
      refine lv_goto (tgt := 51) hx hb dX8_halves_134 (by decide) ?_
      exact hk51 _ _ _ _ _ _ _ (lv_sub hl [1, 2, 3, 0] rfl) hP hD hS h
    · replace h := And.right h c14
      refine lv_aload_n hx hb dX8_halves_70 rfl (lv_at hl 0 rfl) ?_
      refine gX8_47 C hP dX8_halves_71 ?_
      refine lv_iload hx hb dX8_halves_74 (lv_at hl 3 rfl) ?_
      have hin := And.left h
      replace h := And.right h
      refine lX8_47 C hP hin dX8_halves_76 ?_
      refine lv_aload_n hx hb dX8_halves_77 rfl (lv_at hl 0 rfl) ?_
      refine gX8_47 C hP dX8_halves_78 ?_
      refine lv_iload hx hb dX8_halves_81 (lv_at hl 4 rfl) ?_
      have hin := And.left h
      replace h := And.right h
      refine lX8_47 C hP hin dX8_halves_83 ?_
      refine xend_ro_i (xRunS (wc := ([] : va_W)) (As := [.int (r0.2.1 47 x6.toNatClampNeg), .int (r0.2.1 47 x7.toNatClampNeg)]) (rest := []) C (c_X8_both h) k_X8_both mw_922 ⟨rfl, rfl⟩ ⟨Nat.le_of_ble_eq_true rfl, Nat.le_of_ble_eq_true rfl⟩ hP hD [] rfl rfl hl rfl rfl (Nat.le_of_ble_eq_true rfl) dX8_halves_84 ⟨Nat.le_refl _, Nat.le_refl _⟩) (fun v16 h => ?_)
      refine lv_istore (lv' := [(8, .int v16), (0, .ref h0), (4, .int x4), (5, .int x5), (6, .int x6), (7, .int x7)]) hx hb dX8_halves_87 hl (by decide) rfl (fun ls hl => ?_)
      refine lv_aload_n hx hb dX8_halves_89 rfl (lv_at hl 1 rfl) ?_
      refine gX8_46 C hP dX8_halves_90 ?_
      refine lv_iload hx hb dX8_halves_93 (lv_at hl 4 rfl) ?_
      have hin := And.left h
      replace h := And.right h
      refine lX8_46 C hP hin dX8_halves_95 ?_
      refine lv_aload_n hx hb dX8_halves_96 rfl (lv_at hl 1 rfl) ?_
      refine gX8_46 C hP dX8_halves_97 ?_
      refine lv_iload hx hb dX8_halves_100 (lv_at hl 5 rfl) ?_
      have hin := And.left h
      replace h := And.right h
      refine lX8_46 C hP hin dX8_halves_102 ?_
      refine lv_iand hx hb dX8_halves_103 ?_
      refine lv_iload hx hb dX8_halves_104 (lv_at hl 2 rfl) ?_
      refine lv_icmp_ne (tgt := 121) hx hb dX8_halves_106 (by decide) (fun c17 => ?_) (fun c17 => ?_)
      · replace h := And.right h c17
        exact t_X8_halves_121 C hA hk51 ihn _ _ _ _ _ _ _ _ (lv_sub hl [1, 2, 3, 4, 5] rfl) hP hD hS h
      · replace h := And.left h c17
        refine lv_iload hx hb dX8_halves_109 (lv_at hl 0 rfl) ?_
        refine lv_iload hx hb dX8_halves_111 (lv_at hl 3 rfl) ?_
        refine lv_icmp_le (tgt := 121) hx hb dX8_halves_113 (by decide) (fun c19 => ?_) (fun c19 => ?_)
        · replace h := And.left h c19
          exact t_X8_halves_121 C hA hk51 ihn _ _ _ _ _ _ _ _ (lv_sub hl [1, 2, 3, 4, 5] rfl) hP hD hS h
        · replace h := And.right h c19
          refine lv_iload hx hb dX8_halves_116 (lv_at hl 0 rfl) ?_
          refine lv_goto (tgt := 123) hx hb dX8_halves_118 (by decide) ?_
          exact t_X8_halves_123 C hA hk51 ihn _ _ _ _ _ _ _ _ (lv_sub hl [1, 2, 4, 5] rfl) hP hD hS h
set_option maxHeartbeats 4000000 in
set_option maxRecDepth 100000 in
theorem t_X8_halves_51 {p : Program} {l : Launch} {e : Env} {s : State} {m : MethodId} {args : Array Value} {below : List Frame} {meth : Method} {c : Code} {D : va_G} {K : Nat → ClassId} {h0 : Nat} {a0 : Nat → Nat} {n0 : Nat → Option Nat} {la0 : Nat → Nat} {p1 : Int32} {p2 : Int32} {p3 : Int32} {post : Int32 → (zS) → Prop} {A : Nat → Prop} (C : xC p s m args meth c cX8_halves RX8 9 (some .int) D vwCl (xty K)) (hA : ∀ q, s.heap.size ≤ q → A q) : ∀ (n : Nat) (r0 : zS) (x4 : Int32) (x5 : Int32) (x6 : Int32) (H : Heap) (locs : List Loc) (ls : Array Slot), lv_has ls 9 [(0, .ref h0), (4, .int x4), (5, .int x5), (6, .int x6)] → va_P D vwCl (wX8 K h0 a0 n0 la0 r0 ++ (([] : va_W))) H → va_D A (wX8 K h0 a0 n0 la0 r0 ++ (([] : va_W))) → va_S A s.heap H locs → wp_X8_halves_51 p1 p2 p3 post n r0 x4 x5 x6 → W p l e ({ frames := 15, cells := 0, slots := 0, locals := 540 } : Room) s m args below meth c H locs 0 0 (MQ below (va_Qi (fun r (u : (zS)) => post r u) (fun (u : (zS)) t => va_P D vwCl (wX8 K h0 a0 n0 la0 u ++ (([] : va_W))) t.heap) A) args s 0 0 A) (F0 m 51 ls []) := by
  obtain ⟨hx, hb, hr, hml, hown, hts, hlocks, hK, hT⟩ := id C
  intro n
  induction n with
  | zero =>
    intro r0 x4 x5 x6 H locs ls hl hP hD hS h
    exact False.elim h
  | succ n ihn =>
    intro r0 x4 x5 x6 H locs ls hl hP hD hS h
    rw [wu_X8_halves_51] at h
    unfold wb_X8_halves_51 at h
    refine lv_iload hx hb dX8_halves_51 (lv_at hl 3 rfl) ?_
    refine lv_aload_n hx hb dX8_halves_53 rfl (lv_at hl 0 rfl) ?_
    refine gX8_38 C hP dX8_halves_54 ?_
    refine lv_icmp_ge (tgt := 137) hx hb dX8_halves_57 (by decide) (fun c10 => ?_) (fun c10 => ?_)
    · replace h := And.left h c10
      refine lv_iload hx hb dX8_halves_137 (lv_at hl 2 rfl) ?_
      refine lv_iconst (v := -1) hx hb dX8_halves_139 (by decide) ?_
      refine lv_icmp_ne (tgt := 152) hx hb dX8_halves_140 (by decide) (fun c11 => ?_) (fun c11 => ?_)
      · replace h := And.right h c11
        refine lv_iload hx hb dX8_halves_152 (lv_at hl 2 rfl) ?_
        exact xrw_i C r0 h hP hS dX8_halves_154
      · replace h := And.left h c11
        refine lv_aload_n hx hb dX8_halves_143 rfl (lv_at hl 0 rfl) ?_
        refine lv_bipush (v := -5) hx hb dX8_halves_144 (by decide) ?_
        refine xend_rw_i_id (wf := fun (u : (zS)) => (wX8 K h0 a0 n0 la0 u ++ (([] : va_W)))) (xRunV_id (As := [.int (-5 : Int32)]) (rest := []) C (c_X8_refuse h) k_X8_refuse mw_165 ⟨rfl, rfl⟩ ⟨Nat.le_of_ble_eq_true rfl, Nat.le_of_ble_eq_true rfl⟩ hP hD rfl rfl hl rfl rfl (Nat.le_of_ble_eq_true rfl) dX8_halves_146 ⟨Nat.le_refl _, Nat.le_refl _⟩) hD hS hA (fun _ => wX8_adr _ _) (fun v12 s13 H locs h hP hD hS => ?_)
        refine lv_goto (tgt := 154) hx hb dX8_halves_149 (by decide) ?_
        exact xrw_i C s13 h hP hS dX8_halves_154
    · replace h := And.right h c10
      refine lv_iconst (v := 0) hx hb dX8_halves_60 (by decide) ?_
      refine lv_istore (lv' := [(7, .int (0 : Int32)), (0, .ref h0), (4, .int x4), (5, .int x5), (6, .int x6)]) hx hb dX8_halves_61 hl (by decide) rfl (fun ls hl => ?_)
      obtain ⟨n0, h⟩ := h
      exact t_X8_halves_63 C hA ihn n0 _ _ _ _ _ _ _ _ (lv_sub hl [1, 2, 3, 4, 0] rfl) hP hD hS h
set_option maxHeartbeats 4000000 in
set_option maxRecDepth 100000 in
theorem c_X8_halves {l : Launch} {D : va_G} {K : Nat → ClassId} {h0 : Nat} {a0 : Nat → Nat} {n0 : Nat → Option Nat} {la0 : Nat → Nat} {r0 : zS} {p1 : Int32} {p2 : Int32} {p3 : Int32} {sz : Nat} {post : Int32 → (zS) → Prop}   (h : wp_X8_halves r0 p1 p2 p3 post) : Met l yX8_halves (Cond.code yX8_halves cX8_halves 9 (some .int) :: wsL_law) ({ frames := 15, cells := 0, slots := 0, locals := 540 } : Room) (va_Pc [.ref h0, .int p1, .int p2, .int p3] (xPre D vwCl (xty K) (wX8 K h0 a0 n0 la0 r0 ++ (([] : va_W))) sz)) (va_Qi (fun r (u : (zS)) => post r u) (fun (u : (zS)) t => va_P D vwCl (wX8 K h0 a0 n0 la0 u ++ (([] : va_W))) t.heap) (va_A (wX8 K h0 a0 n0 la0 r0 ++ (([] : va_W))) sz)) 0 0 (va_A (wX8 K h0 a0 n0 la0 r0 ++ (([] : va_W))) sz) := by
  refine xMet (by decide) rfl (Nat.le_of_ble_eq_true rfl) (fun p e s m args below meth c C hnm hP hD hsz ls hl => ?_)
  have hl : lv_has ls 9 [(0, .ref h0), (1, .int p1), (2, .int p2), (3, .int p3)] := hl
  obtain ⟨hx, hb, hr, hml, hown, hts, hlocks, hK, hT⟩ := id C
  subst hsz
  generalize hAe : va_A (wX8 K h0 a0 n0 la0 r0 ++ (([] : va_W))) s.heap.size = A at hD ⊢
  have hA : ∀ q : Nat, s.heap.size ≤ q → A q := fun q h => by rw [← hAe]; exact Or.inr h
  have hS : va_S A s.heap s.heap [] := va_S.rf
  have hP : va_P D vwCl (wX8 K h0 a0 n0 la0 r0 ++ (([] : va_W))) s.heap := hP
  unfold wp_X8_halves at h
  refine lv_aload_n hx hb dX8_halves_0 rfl (lv_at hl 0 rfl) ?_
  refine lv_iload_n hx hb dX8_halves_1 rfl (lv_at hl 1 rfl) ?_
  refine lv_iload_n hx hb dX8_halves_2 rfl (lv_at hl 2 rfl) ?_
  refine xend_ro_i (xRunV_id (As := [.int p1, .int p2]) (rest := []) C (c_X8_areTwo h) k_X8_areTwo mw_449 ⟨rfl, rfl⟩ ⟨Nat.le_of_ble_eq_true rfl, Nat.le_of_ble_eq_true rfl⟩ hP hD rfl rfl hl rfl rfl (Nat.le_of_ble_eq_true rfl) dX8_halves_3 ⟨Nat.le_refl _, Nat.le_refl _⟩) (fun v1 h => ?_)
  refine lv_if_eq (tgt := 21) hx hb dX8_halves_6 (by decide) (fun c2 => ?_) (fun c2 => ?_)
  · replace h := And.left h c2
    exact t_X8_halves_21 C hA _ _ _ _ (lv_sub hl [0] rfl) hP hD hS h
  · replace h := And.right h c2
    refine lv_iload_n hx hb dX8_halves_9 rfl (lv_at hl 3 rfl) ?_
    refine lv_i2l hx hb dX8_halves_10 rfl ?_
    refine lv_lconst (v := 0) hx hb dX8_halves_11 (by decide) ?_
    refine lv_ldc2 hx hb hown (hts _ mw_742) dX8_halves_12 ?_
    refine xend_ro_i (xRunS (wc := ([] : va_W)) (As := [.long (p3.toInt64), .long (0 : Int64), .long (9999 : Int64)]) (rest := []) C (c_X8_in h) k_X8_in mw_162 ⟨rfl, rfl⟩ ⟨Nat.le_of_ble_eq_true rfl, Nat.le_of_ble_eq_true rfl⟩ hP hD [] rfl rfl hl rfl rfl (Nat.le_of_ble_eq_true rfl) dX8_halves_15 ⟨Nat.le_refl _, Nat.le_refl _⟩) (fun v5 h => ?_)
    refine lv_if_ne (tgt := 28) hx hb dX8_halves_18 (by decide) (fun c6 => ?_) (fun c6 => ?_)
    · replace h := And.right h c6
      refine lv_aload_n hx hb dX8_halves_28 rfl (lv_at hl 0 rfl) ?_
      refine lv_iload_n hx hb dX8_halves_29 rfl (lv_at hl 1 rfl) ?_
      refine lv_iload_n hx hb dX8_halves_30 rfl (lv_at hl 2 rfl) ?_
      refine lv_iload_n hx hb dX8_halves_31 rfl (lv_at hl 3 rfl) ?_
      refine lv_iconst (v := 0) hx hb dX8_halves_32 (by decide) ?_
      refine xend_rw_v_id (wf := fun (u : (zS)) => (wX8 K h0 a0 n0 la0 u ++ (([] : va_W)))) (xRunV_id (As := [.int p1, .int p2, .int p3, .int (0 : Int32)]) (rest := []) C (c_X8_findWays h) k_X8_findWays mw_776 ⟨rfl, rfl⟩ ⟨Nat.le_of_ble_eq_true rfl, Nat.le_of_ble_eq_true rfl⟩ hP hD rfl rfl hl rfl rfl (Nat.le_of_ble_eq_true rfl) dX8_halves_33 ⟨Nat.le_refl _, Nat.le_refl _⟩) hD hS hA (fun _ => wX8_adr _ _) (fun s8 H locs h hP hD hS => ?_)
      refine lv_iconst (v := 1) hx hb dX8_halves_36 (by decide) ?_
      refine lv_iload_n hx hb dX8_halves_37 rfl (lv_at hl 1 rfl) ?_
      refine lv_ishl hx hb dX8_halves_38 ?_
      refine lv_iconst (v := 1) hx hb dX8_halves_39 (by decide) ?_
      refine lv_iload_n hx hb dX8_halves_40 rfl (lv_at hl 2 rfl) ?_
      refine lv_ishl hx hb dX8_halves_41 ?_
      refine lv_ior hx hb dX8_halves_42 ?_
      refine lv_topi (fun v9 ev9 => ?_)
      replace h := h v9 ev9
      refine lv_istore (lv' := [(4, .int v9), (0, .ref h0), (1, .int p1), (2, .int p2), (3, .int p3)]) hx hb dX8_halves_43 hl (by decide) rfl (fun ls hl => ?_)
      refine lv_iconst (v := -1) hx hb dX8_halves_45 (by decide) ?_
      refine lv_istore (lv' := [(5, .int (-1 : Int32)), (4, .int v9), (0, .ref h0), (1, .int p1), (2, .int p2), (3, .int p3)]) hx hb dX8_halves_46 hl (by decide) rfl (fun ls hl => ?_)
      refine lv_iconst (v := 0) hx hb dX8_halves_48 (by decide) ?_
      refine lv_istore (lv' := [(6, .int (0 : Int32)), (5, .int (-1 : Int32)), (4, .int v9), (0, .ref h0), (1, .int p1), (2, .int p2), (3, .int p3)]) hx hb dX8_halves_49 hl (by decide) rfl (fun ls hl => ?_)
      obtain ⟨n0, h⟩ := h
      exact t_X8_halves_51 C hA n0 _ _ _ _ _ _ _ (lv_sub hl [3, 2, 1, 0] rfl) hP hD hS h
    · replace h := And.left h c6
      exact t_X8_halves_21 C hA _ _ _ _ (lv_sub hl [0] rfl) hP hD hS h

def wp_X8_chanceNow (r0 : zS) (p1 : Int32) (p2 : Int32) (p3 : Int32) (post : Int32 → (zS) → Prop) : Prop :=
  wp_X8_findWays r0 p1 p2 p3 (0 : Int32) (fun s2 => ((s2.1 38) = 0 → post (-1 : Int32) s2) ∧ (¬ (s2.1 38) = 0 → post (s2.1 42) s2))
set_option maxHeartbeats 4000000 in
set_option maxRecDepth 100000 in
theorem c_X8_chanceNow {l : Launch} {D : va_G} {K : Nat → ClassId} {h0 : Nat} {a0 : Nat → Nat} {n0 : Nat → Option Nat} {la0 : Nat → Nat} {r0 : zS} {p1 : Int32} {p2 : Int32} {p3 : Int32} {sz : Nat} {post : Int32 → (zS) → Prop}   (h : wp_X8_chanceNow r0 p1 p2 p3 post) : Met l yX8_chanceNow (Cond.code yX8_chanceNow cX8_chanceNow 4 (some .int) :: wsL_law) ({ frames := 15, cells := 0, slots := 0, locals := 540 } : Room) (va_Pc [.ref h0, .int p1, .int p2, .int p3] (xPre D vwCl (xty K) (wX8 K h0 a0 n0 la0 r0 ++ (([] : va_W))) sz)) (va_Qi (fun r (u : (zS)) => post r u) (fun (u : (zS)) t => va_P D vwCl (wX8 K h0 a0 n0 la0 u ++ (([] : va_W))) t.heap) (va_A (wX8 K h0 a0 n0 la0 r0 ++ (([] : va_W))) sz)) 0 0 (va_A (wX8 K h0 a0 n0 la0 r0 ++ (([] : va_W))) sz) := by
  refine xMet (by decide) rfl (Nat.le_of_ble_eq_true rfl) (fun p e s m args below meth c C hnm hP hD hsz ls hl => ?_)
  have hl : lv_has ls 4 [(0, .ref h0), (1, .int p1), (2, .int p2), (3, .int p3)] := hl
  obtain ⟨hx, hb, hr, hml, hown, hts, hlocks, hK, hT⟩ := id C
  subst hsz
  generalize hAe : va_A (wX8 K h0 a0 n0 la0 r0 ++ (([] : va_W))) s.heap.size = A at hD ⊢
  have hA : ∀ q : Nat, s.heap.size ≤ q → A q := fun q h => by rw [← hAe]; exact Or.inr h
  have hS : va_S A s.heap s.heap [] := va_S.rf
  have hP : va_P D vwCl (wX8 K h0 a0 n0 la0 r0 ++ (([] : va_W))) s.heap := hP
  unfold wp_X8_chanceNow at h
  refine lv_aload_n hx hb dX8_chanceNow_0 rfl (lv_at hl 0 rfl) ?_
  refine lv_iload_n hx hb dX8_chanceNow_1 rfl (lv_at hl 1 rfl) ?_
  refine lv_iload_n hx hb dX8_chanceNow_2 rfl (lv_at hl 2 rfl) ?_
  refine lv_iload_n hx hb dX8_chanceNow_3 rfl (lv_at hl 3 rfl) ?_
  refine lv_iconst (v := 0) hx hb dX8_chanceNow_4 (by decide) ?_
  refine xend_rw_v_id (wf := fun (u : (zS)) => (wX8 K h0 a0 n0 la0 u ++ (([] : va_W)))) (xRunV_id (As := [.int p1, .int p2, .int p3, .int (0 : Int32)]) (rest := []) C (c_X8_findWays h) k_X8_findWays mw_776 ⟨rfl, rfl⟩ ⟨Nat.le_of_ble_eq_true rfl, Nat.le_of_ble_eq_true rfl⟩ hP hD rfl rfl hl rfl rfl (Nat.le_of_ble_eq_true rfl) dX8_chanceNow_5 ⟨Nat.le_refl _, Nat.le_refl _⟩) hD hS hA (fun _ => wX8_adr _ _) (fun s2 H locs h hP hD hS => ?_)
  refine lv_aload_n hx hb dX8_chanceNow_8 rfl (lv_at hl 0 rfl) ?_
  refine gX8_38 C hP dX8_chanceNow_9 ?_
  refine lv_if_ne (tgt := 19) hx hb dX8_chanceNow_12 (by decide) (fun c3 => ?_) (fun c3 => ?_)
  · replace h := And.right h c3
    refine lv_aload_n hx hb dX8_chanceNow_19 rfl (lv_at hl 0 rfl) ?_
    refine gX8_42 C hP dX8_chanceNow_20 ?_
    exact xrw_i C s2 h hP hS dX8_chanceNow_23
  · replace h := And.left h c3
    refine lv_iconst (v := -1) hx hb dX8_chanceNow_15 (by decide) ?_
    refine lv_goto (tgt := 23) hx hb dX8_chanceNow_16 (by decide) ?_
    exact xrw_i C s2 h hP hS dX8_chanceNow_23

def wp_X8_crowd_50  (post : Int32 → (zS) → Prop) (k18 : (zS) → Int32 → Int32 → Prop) (r0 : zS) (x2 : Int32) (y0 : Int32) : Prop :=
  ∀ v8 : Int32, v8 = x2 + (1 : Int32) → k18 r0 y0 v8
def wb_X8_crowd_18  (post : Int32 → (zS) → Prop) (ih : (zS) → Int32 → Int32 → Prop) (r0 : zS) (x1 : Int32) (x2 : Int32) : Prop :=
  ((r0.1 10) ≤ x2 → post x1 r0) ∧ (¬ (r0.1 10) ≤ x2 → wp_X8_beside r0 x2 (fun v3 => wp_X8_bits v3 (fun v4 => wp_X8_beside r0 x1 (fun v5 => wp_X8_bits v5 (fun v6 => (v4 ≤ v6 → wp_X8_crowd_50  post ih r0 x2 x1) ∧ (¬ v4 ≤ v6 → wp_X8_crowd_50  post ih r0 x2 x2))))))
def wp_X8_crowd_18  (post : Int32 → (zS) → Prop) (n : Nat) : (zS) → Int32 → Int32 → Prop := Nat.rec (motive := fun _ => (zS) → Int32 → Int32 → Prop) (fun _ _ _ => False) (fun _ ih => wb_X8_crowd_18  post ih) n
theorem wu_X8_crowd_18  (post : Int32 → (zS) → Prop) (n : Nat) (r0 : zS) (x1 : Int32) (x2 : Int32) : wp_X8_crowd_18  post (n + 1) r0 x1 x2 = wb_X8_crowd_18  post (wp_X8_crowd_18  post n) r0 x1 x2 := rfl
def wp_X8_crowd (r0 : zS) (post : Int32 → (zS) → Prop) : Prop :=
  ((r0.1 10) = 0 → wp_X8_refuse r0 (-5 : Int32) (fun v9 s10 => post v9 s10)) ∧ (¬ (r0.1 10) = 0 → ∃ n : Nat, wp_X8_crowd_18  post n r0 (0 : Int32) (1 : Int32))
set_option maxHeartbeats 4000000 in
set_option maxRecDepth 100000 in
theorem t_X8_crowd_50 {p : Program} {l : Launch} {e : Env} {s : State} {m : MethodId} {args : Array Value} {below : List Frame} {meth : Method} {c : Code} {D : va_G} {K : Nat → ClassId} {h0 : Nat} {a0 : Nat → Nat} {n0 : Nat → Option Nat} {la0 : Nat → Nat} {post : Int32 → (zS) → Prop} {A : Nat → Prop} (C : xC p s m args meth c cX8_crowd RX8 3 (some .int) D vwCl (xty K)) (hA : ∀ q, s.heap.size ≤ q → A q) {k18 : (zS) → Int32 → Int32 → Prop} (hk18 : ∀ (r0 : zS) (x1 : Int32) (x2 : Int32) (H : Heap) (locs : List Loc) (ls : Array Slot), lv_has ls 3 [(0, .ref h0), (1, .int x1), (2, .int x2)] → va_P D vwCl (wX8 K h0 a0 n0 la0 r0 ++ (([] : va_W))) H → va_D A (wX8 K h0 a0 n0 la0 r0 ++ (([] : va_W))) → va_S A s.heap H locs → k18 r0 x1 x2  → W p l e ({ frames := 3, cells := 0, slots := 0, locals := 68 } : Room) s m args below meth c H locs 0 0 (MQ below (va_Qi (fun r (u : (zS)) => post r u) (fun (u : (zS)) t => va_P D vwCl (wX8 K h0 a0 n0 la0 u ++ (([] : va_W))) t.heap) A) args s 0 0 A) (F0 m 18 ls [])) : ∀ (r0 : zS) (x2 : Int32) (y0 : Int32) (H : Heap) (locs : List Loc) (ls : Array Slot), lv_has ls 3 [(0, .ref h0), (2, .int x2)] → va_P D vwCl (wX8 K h0 a0 n0 la0 r0 ++ (([] : va_W))) H → va_D A (wX8 K h0 a0 n0 la0 r0 ++ (([] : va_W))) → va_S A s.heap H locs → wp_X8_crowd_50  post k18 r0 x2 y0 → W p l e ({ frames := 3, cells := 0, slots := 0, locals := 68 } : Room) s m args below meth c H locs 0 0 (MQ below (va_Qi (fun r (u : (zS)) => post r u) (fun (u : (zS)) t => va_P D vwCl (wX8 K h0 a0 n0 la0 u ++ (([] : va_W))) t.heap) A) args s 0 0 A) (F0 m 50 ls [.int y0]) := by
  obtain ⟨hx, hb, hr, hml, hown, hts, hlocks, hK, hT⟩ := id C
  intro r0 x2 y0 H locs ls hl hP hD hS h
  unfold wp_X8_crowd_50 at h
  refine lv_istore_n (lv' := [(1, .int y0), (0, .ref h0), (2, .int x2)]) hx hb dX8_crowd_50 rfl hl (by decide) rfl (fun ls hl => ?_)
  obtain ⟨v8, ev8⟩ : ∃ y : Int32, y = x2 + (1 : Int32) := ⟨_, rfl⟩
  replace h := h v8 ev8
  refine lv_iinc (v := v8) (lv' := [(2, .int v8), (1, .int y0), (0, .ref h0)]) hx hb dX8_crowd_51 hl (k := 2) rfl (by rw [ev8]; rfl) (by decide) rfl (fun ls hl => ?_)
  refine lv_goto (tgt := 18) hx hb dX8_crowd_54 (by decide) ?_
  exact hk18 _ _ _ _ _ _ (lv_sub hl [2, 1, 0] rfl) hP hD hS h
set_option maxHeartbeats 4000000 in
set_option maxRecDepth 100000 in
theorem t_X8_crowd_18 {p : Program} {l : Launch} {e : Env} {s : State} {m : MethodId} {args : Array Value} {below : List Frame} {meth : Method} {c : Code} {D : va_G} {K : Nat → ClassId} {h0 : Nat} {a0 : Nat → Nat} {n0 : Nat → Option Nat} {la0 : Nat → Nat} {post : Int32 → (zS) → Prop} {A : Nat → Prop} (C : xC p s m args meth c cX8_crowd RX8 3 (some .int) D vwCl (xty K)) (hA : ∀ q, s.heap.size ≤ q → A q) : ∀ (n : Nat) (r0 : zS) (x1 : Int32) (x2 : Int32) (H : Heap) (locs : List Loc) (ls : Array Slot), lv_has ls 3 [(0, .ref h0), (1, .int x1), (2, .int x2)] → va_P D vwCl (wX8 K h0 a0 n0 la0 r0 ++ (([] : va_W))) H → va_D A (wX8 K h0 a0 n0 la0 r0 ++ (([] : va_W))) → va_S A s.heap H locs → wp_X8_crowd_18  post n r0 x1 x2 → W p l e ({ frames := 3, cells := 0, slots := 0, locals := 68 } : Room) s m args below meth c H locs 0 0 (MQ below (va_Qi (fun r (u : (zS)) => post r u) (fun (u : (zS)) t => va_P D vwCl (wX8 K h0 a0 n0 la0 u ++ (([] : va_W))) t.heap) A) args s 0 0 A) (F0 m 18 ls []) := by
  obtain ⟨hx, hb, hr, hml, hown, hts, hlocks, hK, hT⟩ := id C
  intro n
  induction n with
  | zero =>
    intro r0 x1 x2 H locs ls hl hP hD hS h
    exact False.elim h
  | succ n ihn =>
    intro r0 x1 x2 H locs ls hl hP hD hS h
    rw [wu_X8_crowd_18] at h
    unfold wb_X8_crowd_18 at h
    refine lv_iload_n hx hb dX8_crowd_18 rfl (lv_at hl 2 rfl) ?_
    refine lv_aload_n hx hb dX8_crowd_19 rfl (lv_at hl 0 rfl) ?_
    refine gX8_10 C hP dX8_crowd_20 ?_
    refine lv_icmp_ge (tgt := 57) hx hb dX8_crowd_23 (by decide) (fun c2 => ?_) (fun c2 => ?_)
    · replace h := And.left h c2
      refine lv_iload_n hx hb dX8_crowd_57 rfl (lv_at hl 1 rfl) ?_
      exact xrw_i C r0 h hP hS dX8_crowd_58
    · replace h := And.right h c2
      refine lv_aload_n hx hb dX8_crowd_26 rfl (lv_at hl 0 rfl) ?_
      refine lv_iload_n hx hb dX8_crowd_27 rfl (lv_at hl 2 rfl) ?_
      refine xend_ro_i (xRunV_id (As := [.int x2]) (rest := []) C (c_X8_beside h) k_X8_beside mw_334 ⟨rfl, rfl⟩ ⟨Nat.le_of_ble_eq_true rfl, Nat.le_of_ble_eq_true rfl⟩ hP hD rfl rfl hl rfl rfl (Nat.le_of_ble_eq_true rfl) dX8_crowd_28 ⟨Nat.le_refl _, Nat.le_refl _⟩) (fun v3 h => ?_)
      refine xend_ro_i (xRunS (wc := ([] : va_W)) (As := [.int v3]) (rest := []) C (c_X8_bits h) k_X8_bits mw_345 ⟨rfl, rfl⟩ ⟨Nat.le_of_ble_eq_true rfl, Nat.le_of_ble_eq_true rfl⟩ hP hD [] rfl rfl hl rfl rfl (Nat.le_of_ble_eq_true rfl) dX8_crowd_31 ⟨Nat.le_refl _, Nat.le_refl _⟩) (fun v4 h => ?_)
      refine lv_aload_n hx hb dX8_crowd_34 rfl (lv_at hl 0 rfl) ?_
      refine lv_iload_n hx hb dX8_crowd_35 rfl (lv_at hl 1 rfl) ?_
      refine xend_ro_i (xRunV_id (As := [.int x1]) (rest := [.int v4]) C (c_X8_beside h) k_X8_beside mw_334 ⟨rfl, rfl⟩ ⟨Nat.le_of_ble_eq_true rfl, Nat.le_of_ble_eq_true rfl⟩ hP hD rfl rfl hl rfl rfl (Nat.le_of_ble_eq_true rfl) dX8_crowd_36 ⟨Nat.le_refl _, Nat.le_refl _⟩) (fun v5 h => ?_)
      refine xend_ro_i (xRunS (wc := ([] : va_W)) (As := [.int v5]) (rest := [.int v4]) C (c_X8_bits h) k_X8_bits mw_345 ⟨rfl, rfl⟩ ⟨Nat.le_of_ble_eq_true rfl, Nat.le_of_ble_eq_true rfl⟩ hP hD [] rfl rfl hl rfl rfl (Nat.le_of_ble_eq_true rfl) dX8_crowd_39 ⟨Nat.le_refl _, Nat.le_refl _⟩) (fun v6 h => ?_)
      refine lv_icmp_le (tgt := 49) hx hb dX8_crowd_42 (by decide) (fun c7 => ?_) (fun c7 => ?_)
      · replace h := And.left h c7
        refine lv_iload_n hx hb dX8_crowd_49 rfl (lv_at hl 1 rfl) ?_
        exact t_X8_crowd_50 C hA ihn _ _ _ _ _ _ (lv_sub hl [0, 2] rfl) hP hD hS h
      · replace h := And.right h c7
        refine lv_iload_n hx hb dX8_crowd_45 rfl (lv_at hl 2 rfl) ?_
        refine lv_goto (tgt := 50) hx hb dX8_crowd_46 (by decide) ?_
        exact t_X8_crowd_50 C hA ihn _ _ _ _ _ _ (lv_sub hl [0, 2] rfl) hP hD hS h
set_option maxHeartbeats 4000000 in
set_option maxRecDepth 100000 in
theorem c_X8_crowd {l : Launch} {D : va_G} {K : Nat → ClassId} {h0 : Nat} {a0 : Nat → Nat} {n0 : Nat → Option Nat} {la0 : Nat → Nat} {r0 : zS}  {sz : Nat} {post : Int32 → (zS) → Prop}   (h : wp_X8_crowd r0 post) : Met l yX8_crowd (Cond.code yX8_crowd cX8_crowd 3 (some .int) :: wsL_law) ({ frames := 3, cells := 0, slots := 0, locals := 68 } : Room) (va_Pc [.ref h0] (xPre D vwCl (xty K) (wX8 K h0 a0 n0 la0 r0 ++ (([] : va_W))) sz)) (va_Qi (fun r (u : (zS)) => post r u) (fun (u : (zS)) t => va_P D vwCl (wX8 K h0 a0 n0 la0 u ++ (([] : va_W))) t.heap) (va_A (wX8 K h0 a0 n0 la0 r0 ++ (([] : va_W))) sz)) 0 0 (va_A (wX8 K h0 a0 n0 la0 r0 ++ (([] : va_W))) sz) := by
  refine xMet (by decide) rfl (Nat.le_of_ble_eq_true rfl) (fun p e s m args below meth c C hnm hP hD hsz ls hl => ?_)
  have hl : lv_has ls 3 [(0, .ref h0)] := hl
  obtain ⟨hx, hb, hr, hml, hown, hts, hlocks, hK, hT⟩ := id C
  subst hsz
  generalize hAe : va_A (wX8 K h0 a0 n0 la0 r0 ++ (([] : va_W))) s.heap.size = A at hD ⊢
  have hA : ∀ q : Nat, s.heap.size ≤ q → A q := fun q h => by rw [← hAe]; exact Or.inr h
  have hS : va_S A s.heap s.heap [] := va_S.rf
  have hP : va_P D vwCl (wX8 K h0 a0 n0 la0 r0 ++ (([] : va_W))) s.heap := hP
  unfold wp_X8_crowd at h
  refine lv_aload_n hx hb dX8_crowd_0 rfl (lv_at hl 0 rfl) ?_
  refine gX8_10 C hP dX8_crowd_1 ?_
  refine lv_if_ne (tgt := 14) hx hb dX8_crowd_4 (by decide) (fun c1 => ?_) (fun c1 => ?_)
  · replace h := And.right h c1
    refine lv_iconst (v := 0) hx hb dX8_crowd_14 (by decide) ?_
    refine lv_istore_n (lv' := [(1, .int (0 : Int32)), (0, .ref h0)]) hx hb dX8_crowd_15 rfl hl (by decide) rfl (fun ls hl => ?_)
    refine lv_iconst (v := 1) hx hb dX8_crowd_16 (by decide) ?_
    refine lv_istore_n (lv' := [(2, .int (1 : Int32)), (1, .int (0 : Int32)), (0, .ref h0)]) hx hb dX8_crowd_17 rfl hl (by decide) rfl (fun ls hl => ?_)
    obtain ⟨n0, h⟩ := h
    exact t_X8_crowd_18 C hA n0 _ _ _ _ _ _ (lv_sub hl [2, 1, 0] rfl) hP hD hS h
  · replace h := And.left h c1
    refine lv_aload_n hx hb dX8_crowd_7 rfl (lv_at hl 0 rfl) ?_
    refine lv_bipush (v := -5) hx hb dX8_crowd_8 (by decide) ?_
    refine xend_rw_i_id (wf := fun (u : (zS)) => (wX8 K h0 a0 n0 la0 u ++ (([] : va_W)))) (xRunV_id (As := [.int (-5 : Int32)]) (rest := []) C (c_X8_refuse h) k_X8_refuse mw_165 ⟨rfl, rfl⟩ ⟨Nat.le_of_ble_eq_true rfl, Nat.le_of_ble_eq_true rfl⟩ hP hD rfl rfl hl rfl rfl (Nat.le_of_ble_eq_true rfl) dX8_crowd_10 ⟨Nat.le_refl _, Nat.le_refl _⟩) hD hS hA (fun _ => wX8_adr _ _) (fun v9 s10 H locs h hP hD hS => ?_)
    exact xrw_i C s10 h hP hS dX8_crowd_13

def wp_X8_inRow_55 (p1 : Int32) (post : Int32 → (zS) → Prop) (k27 : (zS) → Int32 → Int32 → Prop) (r0 : zS) (x3 : Int32) (y0 : Int32) (y1 : Int32) : Prop :=
  ∀ v5 : Int32, v5 = (y1 ||| y0) → ∀ v6 : Int32, v6 = x3 + (1 : Int32) → k27 r0 v5 v6
def wb_X8_inRow_27 (p1 : Int32) (post : Int32 → (zS) → Prop) (ih : (zS) → Int32 → Int32 → Prop) (r0 : zS) (x2 : Int32) (x3 : Int32) : Prop :=
  ((r0.1 10) ≤ x3 → post x2 r0) ∧ (¬ (r0.1 10) ≤ x3 → vp_in x3 12 ∧ ((((r0.2.1 12 x3.toNatClampNeg) / (4 : Int32)) = p1 → wp_X8_inRow_55 p1 post ih r0 x3 ((1 : Int32) <<< (x3 &&& 31)) x2) ∧ (¬ ((r0.2.1 12 x3.toNatClampNeg) / (4 : Int32)) = p1 → wp_X8_inRow_55 p1 post ih r0 x3 (0 : Int32) x2)))
def wp_X8_inRow_27 (p1 : Int32) (post : Int32 → (zS) → Prop) (n : Nat) : (zS) → Int32 → Int32 → Prop := Nat.rec (motive := fun _ => (zS) → Int32 → Int32 → Prop) (fun _ _ _ => False) (fun _ ih => wb_X8_inRow_27 p1 post ih) n
theorem wu_X8_inRow_27 (p1 : Int32) (post : Int32 → (zS) → Prop) (n : Nat) (r0 : zS) (x2 : Int32) (x3 : Int32) : wp_X8_inRow_27 p1 post (n + 1) r0 x2 x3 = wb_X8_inRow_27 p1 post (wp_X8_inRow_27 p1 post n) r0 x2 x3 := rfl
def wp_X8_inRow (r0 : zS) (p1 : Int32) (post : Int32 → (zS) → Prop) : Prop :=
  wp_X8_in (p1.toInt64) (0 : Int64) (((r0.1 9) - (1 : Int32)).toInt64) (fun v1 => (v1 = 0 → wp_X8_refuse r0 (-2 : Int32) (fun v7 s8 => post v7 s8)) ∧ (¬ v1 = 0 → ∃ n : Nat, wp_X8_inRow_27 p1 post n r0 (0 : Int32) (0 : Int32)))
set_option maxHeartbeats 4000000 in
set_option maxRecDepth 100000 in
theorem t_X8_inRow_55 {p : Program} {l : Launch} {e : Env} {s : State} {m : MethodId} {args : Array Value} {below : List Frame} {meth : Method} {c : Code} {D : va_G} {K : Nat → ClassId} {h0 : Nat} {a0 : Nat → Nat} {n0 : Nat → Option Nat} {la0 : Nat → Nat} {p1 : Int32} {post : Int32 → (zS) → Prop} {A : Nat → Prop} (C : xC p s m args meth c cX8_inRow RX8 4 (some .int) D vwCl (xty K)) (hA : ∀ q, s.heap.size ≤ q → A q) {k27 : (zS) → Int32 → Int32 → Prop} (hk27 : ∀ (r0 : zS) (x2 : Int32) (x3 : Int32) (H : Heap) (locs : List Loc) (ls : Array Slot), lv_has ls 4 [(0, .ref h0), (1, .int p1), (2, .int x2), (3, .int x3)] → va_P D vwCl (wX8 K h0 a0 n0 la0 r0 ++ (([] : va_W))) H → va_D A (wX8 K h0 a0 n0 la0 r0 ++ (([] : va_W))) → va_S A s.heap H locs → k27 r0 x2 x3  → W p l e ({ frames := 1, cells := 0, slots := 0, locals := 25 } : Room) s m args below meth c H locs 0 0 (MQ below (va_Qi (fun r (u : (zS)) => post r u) (fun (u : (zS)) t => va_P D vwCl (wX8 K h0 a0 n0 la0 u ++ (([] : va_W))) t.heap) A) args s 0 0 A) (F0 m 27 ls [])) : ∀ (r0 : zS) (x3 : Int32) (y0 : Int32) (y1 : Int32) (H : Heap) (locs : List Loc) (ls : Array Slot), lv_has ls 4 [(0, .ref h0), (1, .int p1), (3, .int x3)] → va_P D vwCl (wX8 K h0 a0 n0 la0 r0 ++ (([] : va_W))) H → va_D A (wX8 K h0 a0 n0 la0 r0 ++ (([] : va_W))) → va_S A s.heap H locs → wp_X8_inRow_55 p1 post k27 r0 x3 y0 y1 → W p l e ({ frames := 1, cells := 0, slots := 0, locals := 25 } : Room) s m args below meth c H locs 0 0 (MQ below (va_Qi (fun r (u : (zS)) => post r u) (fun (u : (zS)) t => va_P D vwCl (wX8 K h0 a0 n0 la0 u ++ (([] : va_W))) t.heap) A) args s 0 0 A) (F0 m 55 ls [.int y0, .int y1]) := by
  obtain ⟨hx, hb, hr, hml, hown, hts, hlocks, hK, hT⟩ := id C
  intro r0 x3 y0 y1 H locs ls hl hP hD hS h
  unfold wp_X8_inRow_55 at h
  refine lv_ior hx hb dX8_inRow_55 ?_
  refine lv_topi (fun v5 ev5 => ?_)
  replace h := h v5 ev5
  refine lv_istore_n (lv' := [(2, .int v5), (0, .ref h0), (1, .int p1), (3, .int x3)]) hx hb dX8_inRow_56 rfl hl (by decide) rfl (fun ls hl => ?_)
  obtain ⟨v6, ev6⟩ : ∃ y : Int32, y = x3 + (1 : Int32) := ⟨_, rfl⟩
  replace h := h v6 ev6
  refine lv_iinc (v := v6) (lv' := [(3, .int v6), (2, .int v5), (0, .ref h0), (1, .int p1)]) hx hb dX8_inRow_57 hl (k := 3) rfl (by rw [ev6]; rfl) (by decide) rfl (fun ls hl => ?_)
  refine lv_goto (tgt := 27) hx hb dX8_inRow_60 (by decide) ?_
  exact hk27 _ _ _ _ _ _ (lv_sub hl [2, 3, 1, 0] rfl) hP hD hS h
set_option maxHeartbeats 4000000 in
set_option maxRecDepth 100000 in
theorem t_X8_inRow_27 {p : Program} {l : Launch} {e : Env} {s : State} {m : MethodId} {args : Array Value} {below : List Frame} {meth : Method} {c : Code} {D : va_G} {K : Nat → ClassId} {h0 : Nat} {a0 : Nat → Nat} {n0 : Nat → Option Nat} {la0 : Nat → Nat} {p1 : Int32} {post : Int32 → (zS) → Prop} {A : Nat → Prop} (C : xC p s m args meth c cX8_inRow RX8 4 (some .int) D vwCl (xty K)) (hA : ∀ q, s.heap.size ≤ q → A q) : ∀ (n : Nat) (r0 : zS) (x2 : Int32) (x3 : Int32) (H : Heap) (locs : List Loc) (ls : Array Slot), lv_has ls 4 [(0, .ref h0), (1, .int p1), (2, .int x2), (3, .int x3)] → va_P D vwCl (wX8 K h0 a0 n0 la0 r0 ++ (([] : va_W))) H → va_D A (wX8 K h0 a0 n0 la0 r0 ++ (([] : va_W))) → va_S A s.heap H locs → wp_X8_inRow_27 p1 post n r0 x2 x3 → W p l e ({ frames := 1, cells := 0, slots := 0, locals := 25 } : Room) s m args below meth c H locs 0 0 (MQ below (va_Qi (fun r (u : (zS)) => post r u) (fun (u : (zS)) t => va_P D vwCl (wX8 K h0 a0 n0 la0 u ++ (([] : va_W))) t.heap) A) args s 0 0 A) (F0 m 27 ls []) := by
  obtain ⟨hx, hb, hr, hml, hown, hts, hlocks, hK, hT⟩ := id C
  intro n
  induction n with
  | zero =>
    intro r0 x2 x3 H locs ls hl hP hD hS h
    exact False.elim h
  | succ n ihn =>
    intro r0 x2 x3 H locs ls hl hP hD hS h
    rw [wu_X8_inRow_27] at h
    unfold wb_X8_inRow_27 at h
    refine lv_iload_n hx hb dX8_inRow_27 rfl (lv_at hl 3 rfl) ?_
    refine lv_aload_n hx hb dX8_inRow_28 rfl (lv_at hl 0 rfl) ?_
    refine gX8_10 C hP dX8_inRow_29 ?_
    refine lv_icmp_ge (tgt := 63) hx hb dX8_inRow_32 (by decide) (fun c3 => ?_) (fun c3 => ?_)
    · replace h := And.left h c3
      refine lv_iload_n hx hb dX8_inRow_63 rfl (lv_at hl 2 rfl) ?_
      exact xrw_i C r0 h hP hS dX8_inRow_64
    · replace h := And.right h c3
      refine lv_iload_n hx hb dX8_inRow_35 rfl (lv_at hl 2 rfl) ?_
      refine lv_aload_n hx hb dX8_inRow_36 rfl (lv_at hl 0 rfl) ?_
      refine gX8_12 C hP dX8_inRow_37 ?_
      refine lv_iload_n hx hb dX8_inRow_40 rfl (lv_at hl 3 rfl) ?_
      have hin := And.left h
      replace h := And.right h
      refine lX8_12 C hP hin dX8_inRow_41 ?_
      refine lv_iconst (v := 4) hx hb dX8_inRow_42 (by decide) ?_
      refine lv_idiv hx hb dX8_inRow_43 (by decide) ?_
      refine lv_iload_n hx hb dX8_inRow_44 rfl (lv_at hl 1 rfl) ?_
      refine lv_icmp_ne (tgt := 54) hx hb dX8_inRow_45 (by decide) (fun c4 => ?_) (fun c4 => ?_)
      · replace h := And.right h c4
        refine lv_iconst (v := 0) hx hb dX8_inRow_54 (by decide) ?_
        exact t_X8_inRow_55 C hA ihn _ _ _ _ _ _ _ (lv_sub hl [0, 1, 3] rfl) hP hD hS h
      · replace h := And.left h c4
        refine lv_iconst (v := 1) hx hb dX8_inRow_48 (by decide) ?_
        refine lv_iload_n hx hb dX8_inRow_49 rfl (lv_at hl 3 rfl) ?_
        refine lv_ishl hx hb dX8_inRow_50 ?_
        refine lv_goto (tgt := 55) hx hb dX8_inRow_51 (by decide) ?_
        exact t_X8_inRow_55 C hA ihn _ _ _ _ _ _ _ (lv_sub hl [0, 1, 3] rfl) hP hD hS h
set_option maxHeartbeats 4000000 in
set_option maxRecDepth 100000 in
theorem c_X8_inRow {l : Launch} {D : va_G} {K : Nat → ClassId} {h0 : Nat} {a0 : Nat → Nat} {n0 : Nat → Option Nat} {la0 : Nat → Nat} {r0 : zS} {p1 : Int32} {sz : Nat} {post : Int32 → (zS) → Prop}   (h : wp_X8_inRow r0 p1 post) : Met l yX8_inRow (Cond.code yX8_inRow cX8_inRow 4 (some .int) :: wsL_law) ({ frames := 1, cells := 0, slots := 0, locals := 25 } : Room) (va_Pc [.ref h0, .int p1] (xPre D vwCl (xty K) (wX8 K h0 a0 n0 la0 r0 ++ (([] : va_W))) sz)) (va_Qi (fun r (u : (zS)) => post r u) (fun (u : (zS)) t => va_P D vwCl (wX8 K h0 a0 n0 la0 u ++ (([] : va_W))) t.heap) (va_A (wX8 K h0 a0 n0 la0 r0 ++ (([] : va_W))) sz)) 0 0 (va_A (wX8 K h0 a0 n0 la0 r0 ++ (([] : va_W))) sz) := by
  refine xMet (by decide) rfl (Nat.le_of_ble_eq_true rfl) (fun p e s m args below meth c C hnm hP hD hsz ls hl => ?_)
  have hl : lv_has ls 4 [(0, .ref h0), (1, .int p1)] := hl
  obtain ⟨hx, hb, hr, hml, hown, hts, hlocks, hK, hT⟩ := id C
  subst hsz
  generalize hAe : va_A (wX8 K h0 a0 n0 la0 r0 ++ (([] : va_W))) s.heap.size = A at hD ⊢
  have hA : ∀ q : Nat, s.heap.size ≤ q → A q := fun q h => by rw [← hAe]; exact Or.inr h
  have hS : va_S A s.heap s.heap [] := va_S.rf
  have hP : va_P D vwCl (wX8 K h0 a0 n0 la0 r0 ++ (([] : va_W))) s.heap := hP
  unfold wp_X8_inRow at h
  refine lv_iload_n hx hb dX8_inRow_0 rfl (lv_at hl 1 rfl) ?_
  refine lv_i2l hx hb dX8_inRow_1 rfl ?_
  refine lv_lconst (v := 0) hx hb dX8_inRow_2 (by decide) ?_
  refine lv_aload_n hx hb dX8_inRow_3 rfl (lv_at hl 0 rfl) ?_
  refine gX8_9 C hP dX8_inRow_4 ?_
  refine lv_iconst (v := 1) hx hb dX8_inRow_7 (by decide) ?_
  refine lv_isub hx hb dX8_inRow_8 ?_
  refine lv_i2l hx hb dX8_inRow_9 rfl ?_
  refine xend_ro_i (xRunS (wc := ([] : va_W)) (As := [.long (p1.toInt64), .long (0 : Int64), .long (((r0.1 9) - (1 : Int32)).toInt64)]) (rest := []) C (c_X8_in h) k_X8_in mw_162 ⟨rfl, rfl⟩ ⟨Nat.le_of_ble_eq_true rfl, Nat.le_of_ble_eq_true rfl⟩ hP hD [] rfl rfl hl rfl rfl (Nat.le_of_ble_eq_true rfl) dX8_inRow_10 ⟨Nat.le_refl _, Nat.le_refl _⟩) (fun v1 h => ?_)
  refine lv_if_ne (tgt := 23) hx hb dX8_inRow_13 (by decide) (fun c2 => ?_) (fun c2 => ?_)
  · replace h := And.right h c2
    refine lv_iconst (v := 0) hx hb dX8_inRow_23 (by decide) ?_
    refine lv_istore_n (lv' := [(2, .int (0 : Int32)), (0, .ref h0), (1, .int p1)]) hx hb dX8_inRow_24 rfl hl (by decide) rfl (fun ls hl => ?_)
    refine lv_iconst (v := 0) hx hb dX8_inRow_25 (by decide) ?_
    refine lv_istore_n (lv' := [(3, .int (0 : Int32)), (2, .int (0 : Int32)), (0, .ref h0), (1, .int p1)]) hx hb dX8_inRow_26 rfl hl (by decide) rfl (fun ls hl => ?_)
    obtain ⟨n0, h⟩ := h
    exact t_X8_inRow_27 C hA n0 _ _ _ _ _ _ (lv_sub hl [2, 3, 1, 0] rfl) hP hD hS h
  · replace h := And.left h c2
    refine lv_aload_n hx hb dX8_inRow_16 rfl (lv_at hl 0 rfl) ?_
    refine lv_bipush (v := -2) hx hb dX8_inRow_17 (by decide) ?_
    refine xend_rw_i_id (wf := fun (u : (zS)) => (wX8 K h0 a0 n0 la0 u ++ (([] : va_W)))) (xRunV_id (As := [.int (-2 : Int32)]) (rest := []) C (c_X8_refuse h) k_X8_refuse mw_165 ⟨rfl, rfl⟩ ⟨Nat.le_of_ble_eq_true rfl, Nat.le_of_ble_eq_true rfl⟩ hP hD rfl rfl hl rfl rfl (Nat.le_of_ble_eq_true rfl) dX8_inRow_19 ⟨Nat.le_refl _, Nat.le_refl _⟩) hD hS hA (fun _ => wX8_adr _ _) (fun v7 s8 H locs h hP hD hS => ?_)
    exact xrw_i C s8 h hP hS dX8_inRow_22
