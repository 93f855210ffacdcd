def wp_X7_isShelf (p0 : Int32) (post : Int32 → Prop) : Prop :=
  (p0 < 0 → post (0 : Int32) ) ∧ (¬ p0 < 0 → ((8 : Int32) ≤ p0 → post (0 : Int32) ) ∧ (¬ (8 : Int32) ≤ p0 → post (1 : Int32) ))
set_option maxHeartbeats 4000000 in
set_option maxRecDepth 100000 in
theorem c_X7_isShelf {l : Launch} {D : va_G} {K : Nat → ClassId}  {p0 : Int32} {sz : Nat} {post : Int32 → Prop}   (h : wp_X7_isShelf p0 post) : Met l yX7_isShelf (Cond.code yX7_isShelf cX7_isShelf 1 (some .boolean) :: wsL_law) ({ frames := 0, cells := 0, slots := 0, locals := 0 } : Room) (va_Pc [.int p0] (xPre D vwCl (xty K) ([] : va_W) sz)) (roI post) 0 0 (fun _ => False) := by
  refine xMet (by decide) rfl (Nat.le_of_ble_eq_true rfl) (fun p e s m args below meth c C hnm hP hD hsz ls hl => ?_)
  have hl : lv_has ls 1 [(0, .int p0)] := hl
  obtain ⟨hx, hb, hr, hml, hown, hts, hlocks, hK, hT⟩ := id C
  unfold wp_X7_isShelf at h
  refine lv_iload_n hx hb dX7_isShelf_0 rfl (lv_at hl 0 rfl) ?_
  refine lv_if_lt (tgt := 14) hx hb dX7_isShelf_1 (by decide) (fun c1 => ?_) (fun c1 => ?_)
  · replace h := And.left h c1
    refine lv_iconst (v := 0) hx hb dX7_isShelf_14 (by decide) ?_
    exact xro_z C rfl h dX7_isShelf_15
  · replace h := And.right h c1
    refine lv_iload_n hx hb dX7_isShelf_4 rfl (lv_at hl 0 rfl) ?_
    refine lv_bipush (v := 8) hx hb dX7_isShelf_5 (by decide) ?_
    refine lv_icmp_ge (tgt := 14) hx hb dX7_isShelf_7 (by decide) (fun c2 => ?_) (fun c2 => ?_)
    · replace h := And.left h c2
      refine lv_iconst (v := 0) hx hb dX7_isShelf_14 (by decide) ?_
      exact xro_z C rfl h dX7_isShelf_15
    · replace h := And.right h c2
      refine lv_iconst (v := 1) hx hb dX7_isShelf_10 (by decide) ?_
      refine lv_goto (tgt := 15) hx hb dX7_isShelf_11 (by decide) ?_
      exact xro_z C rfl h dX7_isShelf_15

def wp_X7_refuse (r0 : zS) (p1 : Int32) (post : Int32 → (zS) → Prop) : Prop :=
  ∀ v1 : Int32, v1 = ((-2 : Int32) - p1) → (v1 < 0 → post p1 r0) ∧ (¬ v1 < 0 → ((5 : Int32) ≤ v1 → post p1 r0) ∧ (¬ (5 : Int32) ≤ v1 → vp_in v1 5 ∧ (∀ v4 : Int32, v4 = ((r0.2.1 12 v1.toNatClampNeg) + (1 : Int32)) → vp_in v1 5 ∧ (∀ j5 : Nat, j5 = v1.toNatClampNeg → post p1 (zA r0 12 j5 v4)))))
set_option maxHeartbeats 4000000 in
set_option maxRecDepth 100000 in
theorem c_X7_refuse {l : Launch} {D : va_G} {K : Nat → ClassId} {h0 : Nat} {a0 : Nat → Nat} {hs : Nat → Nat} {r0 : zS} {p1 : Int32} {sz : Nat} {post : Int32 → (zS) → Prop}   (h : wp_X7_refuse r0 p1 post) : Met l yX7_refuse (Cond.code yX7_refuse cX7_refuse 3 (some .int) :: wsL_law) ({ frames := 0, cells := 0, slots := 0, locals := 0 } : Room) (va_Pc [.ref h0, .int p1] (xPre D vwCl (xty K) (wX7 K h0 a0 hs r0) sz)) (va_Qi (fun r (u : (zS)) => post r u) (fun (u : (zS)) t => va_P D vwCl (wX7 K h0 a0 hs u) t.heap) (va_A (wX7 K h0 a0 hs r0) sz)) 0 0 (va_A (wX7 K h0 a0 hs r0) sz) := by
  refine xMet (by decide) rfl (Nat.le_of_ble_eq_true rfl) (fun p e s m args below meth c C hnm hP hD hsz ls hl => ?_)
  have hl : lv_has ls 3 [(0, .ref h0), (1, .int p1)] := hl
  obtain ⟨hx, hb, hr, hml, hown, hts, hlocks, hK, hT⟩ := id C
  subst hsz
  generalize hAe : va_A (wX7 K h0 a0 hs r0) s.heap.size = A at hD ⊢
  have hA : ∀ q : Nat, s.heap.size ≤ q → A q := fun q h => by rw [← hAe]; exact Or.inr h
  have hS : va_S A s.heap s.heap [] := va_S.rf
  have hP : va_P D vwCl (wX7 K h0 a0 hs r0) s.heap := hP
  unfold wp_X7_refuse at h
  refine lv_bipush (v := -2) hx hb dX7_refuse_0 (by decide) ?_
  refine lv_iload_n hx hb dX7_refuse_2 rfl (lv_at hl 1 rfl) ?_
  refine lv_isub hx hb dX7_refuse_3 ?_
  refine lv_topi (fun v1 ev1 => ?_)
  replace h := h v1 ev1
  refine lv_istore_n (lv' := [(2, .int v1), (0, .ref h0), (1, .int p1)]) hx hb dX7_refuse_4 rfl hl (by decide) rfl (fun ls hl => ?_)
  refine lv_iload_n hx hb dX7_refuse_5 rfl (lv_at hl 0 rfl) ?_
  refine lv_if_lt (tgt := 24) hx hb dX7_refuse_6 (by decide) (fun c2 => ?_) (fun c2 => ?_)
  · replace h := And.left h c2
    refine lv_iload_n hx hb dX7_refuse_24 rfl (lv_at hl 2 rfl) ?_
    exact xrw_i C r0 h hP hS dX7_refuse_25
  · replace h := And.right h c2
    refine lv_iload_n hx hb dX7_refuse_9 rfl (lv_at hl 0 rfl) ?_
    refine lv_iconst (v := 5) hx hb dX7_refuse_10 (by decide) ?_
    refine lv_icmp_ge (tgt := 24) hx hb dX7_refuse_11 (by decide) (fun c3 => ?_) (fun c3 => ?_)
    · replace h := And.left h c3
      refine lv_iload_n hx hb dX7_refuse_24 rfl (lv_at hl 2 rfl) ?_
      exact xrw_i C r0 h hP hS dX7_refuse_25
    · replace h := And.right h c3
      refine lv_aload_n hx hb dX7_refuse_14 rfl (lv_at hl 1 rfl) ?_
      refine va_get (D := D) (ci := 7) (v := .ref (a0 12)) (C := RX7) (T := TX7) (N := 13) hx hb hts inlX7 hown hK hP 0 rfl rfl 12 (by decide) (hts (.fieldLink RX7 75 "UnderTheDesks" "refusals" "[I") mw_45) (fun _ h9 => h9) rfl dX7_refuse_15 ?_
      refine lv_iload_n hx hb dX7_refuse_18 rfl (lv_at hl 0 rfl) ?_
      refine lv_dup2_11 hx hb dX7_refuse_19 rfl rfl ?_
      have hin := And.left h
      replace h := And.right h
      refine va_iald hx hb hK hP 2 0 rfl rfl hin dX7_refuse_20 ?_
      refine lv_iconst (v := 1) hx hb dX7_refuse_21 (by decide) ?_
      refine lv_iadd hx hb dX7_refuse_22 ?_
      refine lv_topi (fun v4 ev4 => ?_)
      replace h := h v4 ev4
      have hin := And.left h
      obtain ⟨j5, ej5⟩ : ∃ j : Nat, j = v1.toNatClampNeg := ⟨_, rfl⟩
      replace h := And.right h j5 ej5
      refine xiast hx hb hK hP hD hS 2 0 rfl rfl hin ej5 dX7_refuse_23 (fun H locs hP hD hS => ?_)
      replace hP : va_P D vwCl (wX7 K h0 a0 hs (zA r0 12 j5 v4)) H := hP
      replace hD : va_D A (wX7 K h0 a0 hs (zA r0 12 j5 v4)) := hD
      refine lv_iload_n hx hb dX7_refuse_24 rfl (lv_at hl 2 rfl) ?_
      exact xrw_i C (zA r0 12 j5 v4) h hP hS dX7_refuse_25

def wp_X7_row_26 (p1 : Int32) (p2 : Int32) (p3 : Int32) (post : Int32 → (zS) → (Nat → zS) → Prop) (r0 : zS) (sh : Nat → zS) : Prop :=
  wp_X7_refuse r0 (-2 : Int32) (fun v3 s4 => post v3 s4 sh)
def wp_X7_row (r0 : zS) (sh : Nat → zS) (p1 : Int32) (p2 : Int32) (p3 : Int32) (post : Int32 → (zS) → (Nat → zS) → Prop) : Prop :=
  wp_X7_isShelf p1 (fun v1 => (v1 = 0 → wp_X7_row_26 p1 p2 p3 post r0 sh) ∧ (¬ v1 = 0 → (p2 < 0 → wp_X7_row_26 p1 p2 p3 post r0 sh) ∧ (¬ p2 < 0 → ((4 : Int32) < p2 → wp_X7_row_26 p1 p2 p3 post r0 sh) ∧ (¬ (4 : Int32) < p2 → (p3 < 0 → wp_X7_row_26 p1 p2 p3 post r0 sh) ∧ (¬ p3 < 0 → (p3 ≤ (40 : Int32) → vp_in p1 8 ∧ (∀ k9 : Nat, k9 = p1.toNatClampNeg → wp_X2_holdRow (sh k9) p2 p3 (fun s11 => post (1 : Int32) r0 (va_up sh k9 s11)))) ∧ (¬ p3 ≤ (40 : Int32) → wp_X7_row_26 p1 p2 p3 post r0 sh))))))
set_option maxHeartbeats 4000000 in
set_option maxRecDepth 100000 in
theorem t_X7_row_26 {p : Program} {l : Launch} {e : Env} {s : State} {m : MethodId} {args : Array Value} {below : List Frame} {meth : Method} {c : Code} {D : va_G} {K : Nat → ClassId} {h0 : Nat} {a0 : Nat → Nat} {hs : Nat → Nat} {as : Nat → Nat → Nat} {p1 : Int32} {p2 : Int32} {p3 : Int32} {post : Int32 → (zS) → (Nat → zS) → Prop} {A : Nat → Prop} (C : xC p s m args meth c cX7_row RX7 4 (some .int) D vwCl (xty K)) (hA : ∀ q, s.heap.size ≤ q → A q) : ∀ (r0 : zS) (sh : Nat → zS) (H : Heap) (locs : List Loc) (ls : Array Slot), lv_has ls 4 [(0, .ref h0)] → va_P D vwCl (wX7 K h0 a0 hs r0 ++ (wPl K hs as sh ++ (([] : va_W)))) H → va_D A (wX7 K h0 a0 hs r0 ++ (wPl K hs as sh ++ (([] : va_W)))) → va_S A s.heap H locs → wp_X7_row_26 p1 p2 p3 post r0 sh → W p l e ({ frames := 1, cells := 0, slots := 0, locals := 23 } : Room) s m args below meth c H locs 0 0 (MQ below (va_Qi (fun r (u : (zS) × (Nat → zS)) => post r u.1 u.2) (fun (u : (zS) × (Nat → zS)) t => va_P D vwCl (wX7 K h0 a0 hs u.1 ++ (wPl K hs as u.2 ++ (([] : va_W)))) t.heap) A) args s 0 0 A) (F0 m 26 ls []) := by
  obtain ⟨hx, hb, hr, hml, hown, hts, hlocks, hK, hT⟩ := id C
  intro r0 sh H locs ls hl hP hD hS h
  unfold wp_X7_row_26 at h
  refine lv_aload_n hx hb dX7_row_26 rfl (lv_at hl 0 rfl) ?_
  refine lv_bipush (v := -2) hx hb dX7_row_27 (by decide) ?_
  refine xend_rw_i (wf := fun (u : (zS)) => (wX7 K h0 a0 hs u)) (xRunV (wc := (wX7 K h0 a0 hs r0)) (As := [.int (-2 : Int32)]) (rest := []) C (c_X7_refuse h) k_X7_refuse mw_147 ⟨rfl, rfl⟩ ⟨Nat.le_of_ble_eq_true rfl, Nat.le_of_ble_eq_true rfl⟩ hP hD [0, 1, 2] rfl rfl rfl rfl hl rfl rfl (Nat.le_of_ble_eq_true rfl) dX7_row_29 ⟨Nat.le_refl _, Nat.le_refl _⟩) hP hD hS hA [0, 1, 2] rfl rfl (fun _ => rfl) (fun v3 s4 H locs h hP hD hS => ?_)
  replace hP : va_P D vwCl (wX7 K h0 a0 hs s4 ++ (wPl K hs as sh ++ (([] : va_W)))) H := hP
  replace hD : va_D A (wX7 K h0 a0 hs s4 ++ (wPl K hs as sh ++ (([] : va_W)))) := hD
  exact xrw_i C (s4, sh) h hP hS dX7_row_32
set_option maxHeartbeats 4000000 in
set_option maxRecDepth 100000 in
theorem c_X7_row {l : Launch} {D : va_G} {K : Nat → ClassId} {h0 : Nat} {a0 : Nat → Nat} {hs : Nat → Nat} {r0 : zS} {as : Nat → Nat → Nat} {sh : Nat → zS} {p1 : Int32} {p2 : Int32} {p3 : Int32} {sz : Nat} {post : Int32 → (zS) → (Nat → zS) → Prop}   (h : wp_X7_row r0 sh p1 p2 p3 post) : Met l yX7_row (Cond.code yX7_row cX7_row 4 (some .int) :: wsL_law) ({ frames := 1, cells := 0, slots := 0, locals := 23 } : Room) (va_Pc [.ref h0, .int p1, .int p2, .int p3] (xPre D vwCl (xty K) (wX7 K h0 a0 hs r0 ++ (wPl K hs as sh ++ (([] : va_W)))) sz)) (va_Qi (fun r (u : (zS) × (Nat → zS)) => post r u.1 u.2) (fun (u : (zS) × (Nat → zS)) t => va_P D vwCl (wX7 K h0 a0 hs u.1 ++ (wPl K hs as u.2 ++ (([] : va_W)))) t.heap) (va_A (wX7 K h0 a0 hs r0 ++ (wPl K hs as sh ++ (([] : va_W)))) sz)) 0 0 (va_A (wX7 K h0 a0 hs r0 ++ (wPl K hs as sh ++ (([] : va_W)))) sz) := by
  refine xMet (by decide) rfl (Nat.le_of_ble_eq_true rfl) (fun p e s m args below meth c C hnm hP hD hsz ls hl => ?_)
  have hl : lv_has ls 4 [(0, .ref h0), (1, .int p1), (2, .int p2), (3, .int p3)] := hl
  obtain ⟨hx, hb, hr, hml, hown, hts, hlocks, hK, hT⟩ := id C
  subst hsz
  generalize hAe : va_A (wX7 K h0 a0 hs r0 ++ (wPl K hs as sh ++ (([] : va_W)))) s.heap.size = A at hD ⊢
  have hA : ∀ q : Nat, s.heap.size ≤ q → A q := fun q h => by rw [← hAe]; exact Or.inr h
  have hS : va_S A s.heap s.heap [] := va_S.rf
  have hP : va_P D vwCl (wX7 K h0 a0 hs r0 ++ (wPl K hs as sh ++ (([] : va_W)))) s.heap := hP
  unfold wp_X7_row at h
  refine lv_iload_n hx hb dX7_row_0 rfl (lv_at hl 1 rfl) ?_
  refine xend_ro_i (xRunS (wc := ([] : va_W)) (As := [.int p1]) (rest := []) C (c_X7_isShelf h) k_X7_isShelf mw_144 ⟨rfl, rfl⟩ ⟨Nat.le_of_ble_eq_true rfl, Nat.le_of_ble_eq_true rfl⟩ hP hD [] rfl rfl hl rfl rfl (Nat.le_of_ble_eq_true rfl) dX7_row_1 ⟨Nat.le_refl _, Nat.le_refl _⟩) (fun v1 h => ?_)
  refine lv_if_eq (tgt := 26) hx hb dX7_row_4 (by decide) (fun c2 => ?_) (fun c2 => ?_)
  · replace h := And.left h c2
    exact t_X7_row_26 C hA _ _ _ _ _ (lv_sub hl [0] rfl) hP hD hS h
  · replace h := And.right h c2
    refine lv_iload_n hx hb dX7_row_7 rfl (lv_at hl 2 rfl) ?_
    refine lv_if_lt (tgt := 26) hx hb dX7_row_8 (by decide) (fun c5 => ?_) (fun c5 => ?_)
    · replace h := And.left h c5
      exact t_X7_row_26 C hA _ _ _ _ _ (lv_sub hl [0] rfl) hP hD hS h
    · replace h := And.right h c5
      refine lv_iload_n hx hb dX7_row_11 rfl (lv_at hl 2 rfl) ?_
      refine lv_iconst (v := 4) hx hb dX7_row_12 (by decide) ?_
      refine lv_icmp_gt (tgt := 26) hx hb dX7_row_13 (by decide) (fun c6 => ?_) (fun c6 => ?_)
      · replace h := And.left h c6
        exact t_X7_row_26 C hA _ _ _ _ _ (lv_sub hl [0] rfl) hP hD hS h
      · replace h := And.right h c6
        refine lv_iload_n hx hb dX7_row_16 rfl (lv_at hl 3 rfl) ?_
        refine lv_if_lt (tgt := 26) hx hb dX7_row_17 (by decide) (fun c7 => ?_) (fun c7 => ?_)
        · replace h := And.left h c7
          exact t_X7_row_26 C hA _ _ _ _ _ (lv_sub hl [0] rfl) hP hD hS h
        · replace h := And.right h c7
          refine lv_iload_n hx hb dX7_row_20 rfl (lv_at hl 3 rfl) ?_
          refine lv_bipush (v := 40) hx hb dX7_row_21 (by decide) ?_
          refine lv_icmp_le (tgt := 33) hx hb dX7_row_23 (by decide) (fun c8 => ?_) (fun c8 => ?_)
          · replace h := And.left h c8
            refine lv_aload_n hx hb dX7_row_33 rfl (lv_at hl 0 rfl) ?_
            refine va_get (D := D) (ci := 7) (v := .ref (a0 6)) (C := RX7) (T := TX7) (N := 13) hx hb hts inlX7 hown hK hP 0 rfl rfl 6 (by decide) (hts (.fieldLink RX7 38 "UnderTheDesks" "shelves" "[LUnderTheDesks$Shelf;") mw_26) (fun _ h9 => h9) rfl dX7_row_34 ?_
            refine lv_iload_n hx hb dX7_row_37 rfl (lv_at hl 1 rfl) ?_
            have hin := And.left h
            obtain ⟨k9, ek9⟩ : ∃ j : Nat, j = p1.toNatClampNeg := ⟨_, rfl⟩
            replace h := And.right h k9 ek9
            have hk9 : k9 < 8 := by rw [ek9]; exact Nat.not_le.mp (fun q => hin (Or.inr q))
            refine xaldq hx hb hK hP 1 2 rfl rfl hin ek9 dX7_row_38 ?_
            refine lv_iload_n hx hb dX7_row_39 rfl (lv_at hl 2 rfl) ?_
            refine lv_iload_n hx hb dX7_row_40 rfl (lv_at hl 3 rfl) ?_
            refine xend_rw_v (wf := fun (u : (zS)) => (wX2 K (hs k9) (as k9) u)) (xRunV (wc := (wX2 K (hs k9) (as k9) (sh k9))) (As := [.int p2, .int p3]) (rest := []) C (c_X2_holdRow h) k_X2_holdRow mw_151 ⟨rfl, rfl⟩ ⟨Nat.le_of_ble_eq_true rfl, Nat.le_of_ble_eq_true rfl⟩ hP hD [3 + 2 * k9, 4 + 2 * k9] (wPl_C hk9) (xnd2 _) rfl rfl hl rfl rfl (Nat.le_of_ble_eq_true rfl) dX7_row_41 ⟨Nat.le_refl _, Nat.le_refl _⟩) hP hD hS hA [3 + 2 * k9, 4 + 2 * k9] (wPl_C hk9) (xnd2 _) (fun _ => rfl) (fun s11 H locs h hP hD hS => ?_)
            rw [wPl_set hk9] at hP hD
            replace hP : va_P D vwCl (wX7 K h0 a0 hs r0 ++ (wPl K hs as (va_up sh k9 s11) ++ (([] : va_W)))) H := hP
            replace hD : va_D A (wX7 K h0 a0 hs r0 ++ (wPl K hs as (va_up sh k9 s11) ++ (([] : va_W)))) := hD
            refine lv_iconst (v := 1) hx hb dX7_row_44 (by decide) ?_
            exact xrw_i C (r0, (va_up sh k9 s11)) h hP hS dX7_row_45
          · replace h := And.right h c8
            exact t_X7_row_26 C hA _ _ _ _ _ (lv_sub hl [0] rfl) hP hD hS h

def wp_X7_rowsFault (r0 : zS) (sh : Nat → zS) (p1 : Int32) (p2 : Int32) (post : Int32 → Prop) : Prop :=
  wp_X7_isShelf p1 (fun v1 => (v1 = 0 → post (-2 : Int32) ) ∧ (¬ v1 = 0 → wp_X7_isShelf p2 (fun v3 => (v3 = 0 → post (-2 : Int32) ) ∧ (¬ v3 = 0 → vp_in p1 8 ∧ (∀ k5 : Nat, k5 = p1.toNatClampNeg → wp_X2_holdsPupil (sh k5) (fun v6 => (v6 = 0 → vp_in p2 8 ∧ (∀ k8 : Nat, k8 = p2.toNatClampNeg → wp_X2_holdsPupil (sh k8) (fun v9 => (v9 = 0 → vp_in p1 8 ∧ (∀ k11 : Nat, k11 = p1.toNatClampNeg → wp_X2_holdsRow (sh k11) (fun v12 => (v12 = 0 → post (-4 : Int32) ) ∧ (¬ v12 = 0 → vp_in p2 8 ∧ (∀ k14 : Nat, k14 = p2.toNatClampNeg → wp_X2_holdsRow (sh k14) (fun v15 => (v15 = 0 → post (-4 : Int32) ) ∧ (¬ v15 = 0 → post (0 : Int32) ))))))) ∧ (¬ v9 = 0 → post (-3 : Int32) )))) ∧ (¬ v6 = 0 → post (-3 : Int32) )))))))
set_option maxHeartbeats 4000000 in
set_option maxRecDepth 100000 in
theorem c_X7_rowsFault {l : Launch} {D : va_G} {K : Nat → ClassId} {h0 : Nat} {a0 : Nat → Nat} {hs : Nat → Nat} {r0 : zS} {as : Nat → Nat → Nat} {sh : Nat → zS} {p1 : Int32} {p2 : Int32} {sz : Nat} {post : Int32 → Prop}   (h : wp_X7_rowsFault r0 sh p1 p2 post) : Met l yX7_rowsFault (Cond.code yX7_rowsFault cX7_rowsFault 3 (some .int) :: wsL_law) ({ frames := 1, cells := 0, slots := 0, locals := 20 } : Room) (va_Pc [.ref h0, .int p1, .int p2] (xPre D vwCl (xty K) (wX7 K h0 a0 hs r0 ++ (wPl K hs as sh ++ (([] : va_W)))) sz)) (roI post) 0 0 (fun _ => False) := by
  refine xMet (by decide) rfl (Nat.le_of_ble_eq_true rfl) (fun p e s m args below meth c C hnm hP hD hsz ls hl => ?_)
  have hl : lv_has ls 3 [(0, .ref h0), (1, .int p1), (2, .int p2)] := hl
  obtain ⟨hx, hb, hr, hml, hown, hts, hlocks, hK, hT⟩ := id C
  unfold wp_X7_rowsFault at h
  refine lv_iload_n hx hb dX7_rowsFault_0 rfl (lv_at hl 1 rfl) ?_
  refine xend_ro_i (xRunS (wc := ([] : va_W)) (As := [.int p1]) (rest := []) C (c_X7_isShelf h) k_X7_isShelf mw_144 ⟨rfl, rfl⟩ ⟨Nat.le_of_ble_eq_true rfl, Nat.le_of_ble_eq_true rfl⟩ hP hD [] rfl rfl hl rfl rfl (Nat.le_of_ble_eq_true rfl) dX7_rowsFault_1 ⟨Nat.le_refl _, Nat.le_refl _⟩) (fun v1 h => ?_)
  refine lv_if_eq (tgt := 14) hx hb dX7_rowsFault_4 (by decide) (fun c2 => ?_) (fun c2 => ?_)
  · replace h := And.left h c2
    refine lv_bipush (v := -2) hx hb dX7_rowsFault_14 (by decide) ?_
    exact xro_i C h dX7_rowsFault_16
  · replace h := And.right h c2
    refine lv_iload_n hx hb dX7_rowsFault_7 rfl (lv_at hl 2 rfl) ?_
    refine xend_ro_i (xRunS (wc := ([] : va_W)) (As := [.int p2]) (rest := []) C (c_X7_isShelf h) k_X7_isShelf mw_144 ⟨rfl, rfl⟩ ⟨Nat.le_of_ble_eq_true rfl, Nat.le_of_ble_eq_true rfl⟩ hP hD [] rfl rfl hl rfl rfl (Nat.le_of_ble_eq_true rfl) dX7_rowsFault_8 ⟨Nat.le_refl _, Nat.le_refl _⟩) (fun v3 h => ?_)
    refine lv_if_ne (tgt := 17) hx hb dX7_rowsFault_11 (by decide) (fun c4 => ?_) (fun c4 => ?_)
    · replace h := And.right h c4
      refine lv_aload_n hx hb dX7_rowsFault_17 rfl (lv_at hl 0 rfl) ?_
      refine va_get (D := D) (ci := 7) (v := .ref (a0 6)) (C := RX7) (T := TX7) (N := 13) hx hb hts inlX7 hown hK hP 0 rfl rfl 6 (by decide) (hts (.fieldLink RX7 38 "UnderTheDesks" "shelves" "[LUnderTheDesks$Shelf;") mw_26) (fun _ h9 => h9) rfl dX7_rowsFault_18 ?_
      refine lv_iload_n hx hb dX7_rowsFault_21 rfl (lv_at hl 1 rfl) ?_
      have hin := And.left h
      obtain ⟨k5, ek5⟩ : ∃ j : Nat, j = p1.toNatClampNeg := ⟨_, rfl⟩
      replace h := And.right h k5 ek5
      have hk5 : k5 < 8 := by rw [ek5]; exact Nat.not_le.mp (fun q => hin (Or.inr q))
      refine xaldq hx hb hK hP 1 2 rfl rfl hin ek5 dX7_rowsFault_22 ?_
      refine xend_ro_i (xRunV (wc := (wX2 K (hs k5) (as k5) (sh k5))) (As := []) (rest := []) C (c_X2_holdsPupil h) k_X2_holdsPupil mw_182 ⟨rfl, rfl⟩ ⟨Nat.le_of_ble_eq_true rfl, Nat.le_of_ble_eq_true rfl⟩ hP hD [3 + 2 * k5, 4 + 2 * k5] (wPl_C hk5) (xnd2 _) rfl rfl hl rfl rfl (Nat.le_of_ble_eq_true rfl) dX7_rowsFault_23 ⟨Nat.le_refl _, Nat.le_refl _⟩) (fun v6 h => ?_)
      refine lv_if_ne (tgt := 41) hx hb dX7_rowsFault_26 (by decide) (fun c7 => ?_) (fun c7 => ?_)
      · replace h := And.right h c7
        refine lv_bipush (v := -3) hx hb dX7_rowsFault_41 (by decide) ?_
        exact xro_i C h dX7_rowsFault_43
      · replace h := And.left h c7
        refine lv_aload_n hx hb dX7_rowsFault_29 rfl (lv_at hl 0 rfl) ?_
        refine va_get (D := D) (ci := 7) (v := .ref (a0 6)) (C := RX7) (T := TX7) (N := 13) hx hb hts inlX7 hown hK hP 0 rfl rfl 6 (by decide) (hts (.fieldLink RX7 38 "UnderTheDesks" "shelves" "[LUnderTheDesks$Shelf;") mw_26) (fun _ h9 => h9) rfl dX7_rowsFault_30 ?_
        refine lv_iload_n hx hb dX7_rowsFault_33 rfl (lv_at hl 2 rfl) ?_
        have hin := And.left h
        obtain ⟨k8, ek8⟩ : ∃ j : Nat, j = p2.toNatClampNeg := ⟨_, rfl⟩
        replace h := And.right h k8 ek8
        have hk8 : k8 < 8 := by rw [ek8]; exact Nat.not_le.mp (fun q => hin (Or.inr q))
        refine xaldq hx hb hK hP 1 2 rfl rfl hin ek8 dX7_rowsFault_34 ?_
        refine xend_ro_i (xRunV (wc := (wX2 K (hs k8) (as k8) (sh k8))) (As := []) (rest := []) C (c_X2_holdsPupil h) k_X2_holdsPupil mw_182 ⟨rfl, rfl⟩ ⟨Nat.le_of_ble_eq_true rfl, Nat.le_of_ble_eq_true rfl⟩ hP hD [3 + 2 * k8, 4 + 2 * k8] (wPl_C hk8) (xnd2 _) rfl rfl hl rfl rfl (Nat.le_of_ble_eq_true rfl) dX7_rowsFault_35 ⟨Nat.le_refl _, Nat.le_refl _⟩) (fun v9 h => ?_)
        refine lv_if_eq (tgt := 44) hx hb dX7_rowsFault_38 (by decide) (fun c10 => ?_) (fun c10 => ?_)
        · replace h := And.left h c10
          refine lv_aload_n hx hb dX7_rowsFault_44 rfl (lv_at hl 0 rfl) ?_
          refine va_get (D := D) (ci := 7) (v := .ref (a0 6)) (C := RX7) (T := TX7) (N := 13) hx hb hts inlX7 hown hK hP 0 rfl rfl 6 (by decide) (hts (.fieldLink RX7 38 "UnderTheDesks" "shelves" "[LUnderTheDesks$Shelf;") mw_26) (fun _ h9 => h9) rfl dX7_rowsFault_45 ?_
          refine lv_iload_n hx hb dX7_rowsFault_48 rfl (lv_at hl 1 rfl) ?_
          have hin := And.left h
          obtain ⟨k11, ek11⟩ : ∃ j : Nat, j = p1.toNatClampNeg := ⟨_, rfl⟩
          replace h := And.right h k11 ek11
          have hk11 : k11 < 8 := by rw [ek11]; exact Nat.not_le.mp (fun q => hin (Or.inr q))
          refine xaldq hx hb hK hP 1 2 rfl rfl hin ek11 dX7_rowsFault_49 ?_
          refine xend_ro_i (xRunV (wc := (wX2 K (hs k11) (as k11) (sh k11))) (As := []) (rest := []) C (c_X2_holdsRow h) k_X2_holdsRow mw_186 ⟨rfl, rfl⟩ ⟨Nat.le_of_ble_eq_true rfl, Nat.le_of_ble_eq_true rfl⟩ hP hD [3 + 2 * k11, 4 + 2 * k11] (wPl_C hk11) (xnd2 _) rfl rfl hl rfl rfl (Nat.le_of_ble_eq_true rfl) dX7_rowsFault_50 ⟨Nat.le_refl _, Nat.le_refl _⟩) (fun v12 h => ?_)
          refine lv_if_eq (tgt := 72) hx hb dX7_rowsFault_53 (by decide) (fun c13 => ?_) (fun c13 => ?_)
          · replace h := And.left h c13
            refine lv_bipush (v := -4) hx hb dX7_rowsFault_72 (by decide) ?_
            exact xro_i C h dX7_rowsFault_74
          · replace h := And.right h c13
            refine lv_aload_n hx hb dX7_rowsFault_56 rfl (lv_at hl 0 rfl) ?_
            refine va_get (D := D) (ci := 7) (v := .ref (a0 6)) (C := RX7) (T := TX7) (N := 13) hx hb hts inlX7 hown hK hP 0 rfl rfl 6 (by decide) (hts (.fieldLink RX7 38 "UnderTheDesks" "shelves" "[LUnderTheDesks$Shelf;") mw_26) (fun _ h9 => h9) rfl dX7_rowsFault_57 ?_
            refine lv_iload_n hx hb dX7_rowsFault_60 rfl (lv_at hl 2 rfl) ?_
            have hin := And.left h
            obtain ⟨k14, ek14⟩ : ∃ j : Nat, j = p2.toNatClampNeg := ⟨_, rfl⟩
            replace h := And.right h k14 ek14
            have hk14 : k14 < 8 := by rw [ek14]; exact Nat.not_le.mp (fun q => hin (Or.inr q))
            refine xaldq hx hb hK hP 1 2 rfl rfl hin ek14 dX7_rowsFault_61 ?_
            refine xend_ro_i (xRunV (wc := (wX2 K (hs k14) (as k14) (sh k14))) (As := []) (rest := []) C (c_X2_holdsRow h) k_X2_holdsRow mw_186 ⟨rfl, rfl⟩ ⟨Nat.le_of_ble_eq_true rfl, Nat.le_of_ble_eq_true rfl⟩ hP hD [3 + 2 * k14, 4 + 2 * k14] (wPl_C hk14) (xnd2 _) rfl rfl hl rfl rfl (Nat.le_of_ble_eq_true rfl) dX7_rowsFault_62 ⟨Nat.le_refl _, Nat.le_refl _⟩) (fun v15 h => ?_)
            refine lv_if_eq (tgt := 72) hx hb dX7_rowsFault_65 (by decide) (fun c16 => ?_) (fun c16 => ?_)
            · replace h := And.left h c16
              refine lv_bipush (v := -4) hx hb dX7_rowsFault_72 (by decide) ?_
              exact xro_i C h dX7_rowsFault_74
            · replace h := And.right h c16
              refine lv_iconst (v := 0) hx hb dX7_rowsFault_68 (by decide) ?_
              refine lv_goto (tgt := 74) hx hb dX7_rowsFault_69 (by decide) ?_
              exact xro_i C h dX7_rowsFault_74
        · replace h := And.right h c10
          refine lv_bipush (v := -3) hx hb dX7_rowsFault_41 (by decide) ?_
          exact xro_i C h dX7_rowsFault_43
    · replace h := And.left h c4
      refine lv_bipush (v := -2) hx hb dX7_rowsFault_14 (by decide) ?_
      exact xro_i C h dX7_rowsFault_16

def wp_X7_rowFault (r0 : zS) (sh : Nat → zS) (p1 : Int32) (post : Int32 → Prop) : Prop :=
  wp_X7_rowsFault r0 sh p1 p1 (fun v1 => post v1 )
set_option maxHeartbeats 4000000 in
set_option maxRecDepth 100000 in
theorem c_X7_rowFault {l : Launch} {D : va_G} {K : Nat → ClassId} {h0 : Nat} {a0 : Nat → Nat} {hs : Nat → Nat} {r0 : zS} {as : Nat → Nat → Nat} {sh : Nat → zS} {p1 : Int32} {sz : Nat} {post : Int32 → Prop}   (h : wp_X7_rowFault r0 sh p1 post) : Met l yX7_rowFault (Cond.code yX7_rowFault cX7_rowFault 2 (some .int) :: wsL_law) ({ frames := 2, cells := 0, slots := 0, locals := 42 } : Room) (va_Pc [.ref h0, .int p1] (xPre D vwCl (xty K) (wX7 K h0 a0 hs r0 ++ (wPl K hs as sh ++ (([] : va_W)))) sz)) (roI post) 0 0 (fun _ => False) := by
  refine xMet (by decide) rfl (Nat.le_of_ble_eq_true rfl) (fun p e s m args below meth c C hnm hP hD hsz ls hl => ?_)
  have hl : lv_has ls 2 [(0, .ref h0), (1, .int p1)] := hl
  obtain ⟨hx, hb, hr, hml, hown, hts, hlocks, hK, hT⟩ := id C
  unfold wp_X7_rowFault at h
  refine lv_aload_n hx hb dX7_rowFault_0 rfl (lv_at hl 0 rfl) ?_
  refine lv_iload_n hx hb dX7_rowFault_1 rfl (lv_at hl 1 rfl) ?_
  refine lv_iload_n hx hb dX7_rowFault_2 rfl (lv_at hl 1 rfl) ?_
  refine xend_ro_i (xRunV_id (As := [.int p1, .int p1]) (rest := []) C (c_X7_rowsFault h) k_X7_rowsFault mw_178 ⟨rfl, rfl⟩ ⟨Nat.le_of_ble_eq_true rfl, Nat.le_of_ble_eq_true rfl⟩ hP hD rfl rfl hl rfl rfl (Nat.le_of_ble_eq_true rfl) dX7_rowFault_3 ⟨Nat.le_refl _, Nat.le_refl _⟩) (fun v1 h => ?_)
  exact xro_i C h dX7_rowFault_6

def wp_X7_set_50 (p1 : Int32) (p2 : Int32) (p3 : Int64) (post : Int32 → (zS) → (Nat → zS) → Prop) (r0 : zS) (sh : Nat → zS) : Prop :=
  wp_X7_refuse r0 (-2 : Int32) (fun v6 s7 => post v6 s7 sh)
def wp_X7_set (r0 : zS) (sh : Nat → zS) (p1 : Int32) (p2 : Int32) (p3 : Int64) (post : Int32 → (zS) → (Nat → zS) → Prop) : Prop :=
  wp_X7_isShelf p1 (fun v1 => (v1 = 0 → wp_X7_refuse r0 (-2 : Int32) (fun v15 s16 => post v15 s16 sh)) ∧ (¬ v1 = 0 → wp_X7_rowFault r0 sh p1 (fun v3 => (v3 = 0 → (p2 < 0 → wp_X7_set_50 p1 p2 p3 post r0 sh) ∧ (¬ p2 < 0 → vp_in p1 8 ∧ (∀ k8 : Nat, k8 = p1.toNatClampNeg → (p2 < ((sh k8).1 1) → vp_in p1 8 ∧ (∀ k10 : Nat, k10 = p1.toNatClampNeg → wp_X2_put (sh k10) p2 p3 (fun s12 => post (1 : Int32) r0 (va_up sh k10 s12)))) ∧ (¬ p2 < ((sh k8).1 1) → wp_X7_set_50 p1 p2 p3 post r0 sh)))) ∧ (¬ v3 = 0 → wp_X7_refuse r0 v3 (fun v13 s14 => post v13 s14 sh)))))
set_option maxHeartbeats 4000000 in
set_option maxRecDepth 100000 in
theorem t_X7_set_50 {p : Program} {l : Launch} {e : Env} {s : State} {m : MethodId} {args : Array Value} {below : List Frame} {meth : Method} {c : Code} {D : va_G} {K : Nat → ClassId} {h0 : Nat} {a0 : Nat → Nat} {hs : Nat → Nat} {as : Nat → Nat → Nat} {p1 : Int32} {p2 : Int32} {p3 : Int64} {post : Int32 → (zS) → (Nat → zS) → Prop} {A : Nat → Prop} (C : xC p s m args meth c cX7_set RX7 6 (some .int) D vwCl (xty K)) (hA : ∀ q, s.heap.size ≤ q → A q) : ∀ (r0 : zS) (sh : Nat → zS) (H : Heap) (locs : List Loc) (ls : Array Slot), lv_has ls 6 [(0, .ref h0)] → va_P D vwCl (wX7 K h0 a0 hs r0 ++ (wPl K hs as sh ++ (([] : va_W)))) H → va_D A (wX7 K h0 a0 hs r0 ++ (wPl K hs as sh ++ (([] : va_W)))) → va_S A s.heap H locs → wp_X7_set_50 p1 p2 p3 post r0 sh → W p l e ({ frames := 3, cells := 0, slots := 0, locals := 63 } : Room) s m args below meth c H locs 0 0 (MQ below (va_Qi (fun r (u : (zS) × (Nat → zS)) => post r u.1 u.2) (fun (u : (zS) × (Nat → zS)) t => va_P D vwCl (wX7 K h0 a0 hs u.1 ++ (wPl K hs as u.2 ++ (([] : va_W)))) t.heap) A) args s 0 0 A) (F0 m 50 ls []) := by
  obtain ⟨hx, hb, hr, hml, hown, hts, hlocks, hK, hT⟩ := id C
  intro r0 sh H locs ls hl hP hD hS h
  unfold wp_X7_set_50 at h
  refine lv_aload_n hx hb dX7_set_50 rfl (lv_at hl 0 rfl) ?_
  refine lv_bipush (v := -2) hx hb dX7_set_51 (by decide) ?_
  refine xend_rw_i (wf := fun (u : (zS)) => (wX7 K h0 a0 hs u)) (xRunV (wc := (wX7 K h0 a0 hs r0)) (As := [.int (-2 : Int32)]) (rest := []) C (c_X7_refuse h) k_X7_refuse mw_147 ⟨rfl, rfl⟩ ⟨Nat.le_of_ble_eq_true rfl, Nat.le_of_ble_eq_true rfl⟩ hP hD [0, 1, 2] rfl rfl rfl rfl hl rfl rfl (Nat.le_of_ble_eq_true rfl) dX7_set_53 ⟨Nat.le_refl _, Nat.le_refl _⟩) hP hD hS hA [0, 1, 2] rfl rfl (fun _ => rfl) (fun v6 s7 H locs h hP hD hS => ?_)
  replace hP : va_P D vwCl (wX7 K h0 a0 hs s7 ++ (wPl K hs as sh ++ (([] : va_W)))) H := hP
  replace hD : va_D A (wX7 K h0 a0 hs s7 ++ (wPl K hs as sh ++ (([] : va_W)))) := hD
  exact xrw_i C (s7, sh) h hP hS dX7_set_56
set_option maxHeartbeats 4000000 in
set_option maxRecDepth 100000 in
theorem c_X7_set {l : Launch} {D : va_G} {K : Nat → ClassId} {h0 : Nat} {a0 : Nat → Nat} {hs : Nat → Nat} {r0 : zS} {as : Nat → Nat → Nat} {sh : Nat → zS} {p1 : Int32} {p2 : Int32} {p3 : Int64} {sz : Nat} {post : Int32 → (zS) → (Nat → zS) → Prop}   (h : wp_X7_set r0 sh p1 p2 p3 post) : Met l yX7_set (Cond.code yX7_set cX7_set 6 (some .int) :: wsL_law) ({ frames := 3, cells := 0, slots := 0, locals := 63 } : Room) (va_Pc [.ref h0, .int p1, .int p2, .long p3] (xPre D vwCl (xty K) (wX7 K h0 a0 hs r0 ++ (wPl K hs as sh ++ (([] : va_W)))) sz)) (va_Qi (fun r (u : (zS) × (Nat → zS)) => post r u.1 u.2) (fun (u : (zS) × (Nat → zS)) t => va_P D vwCl (wX7 K h0 a0 hs u.1 ++ (wPl K hs as u.2 ++ (([] : va_W)))) t.heap) (va_A (wX7 K h0 a0 hs r0 ++ (wPl K hs as sh ++ (([] : va_W)))) sz)) 0 0 (va_A (wX7 K h0 a0 hs r0 ++ (wPl K hs as sh ++ (([] : va_W)))) sz) := by
  refine xMet (by decide) rfl (Nat.le_of_ble_eq_true rfl) (fun p e s m args below meth c C hnm hP hD hsz ls hl => ?_)
  have hl : lv_has ls 6 [(0, .ref h0), (1, .int p1), (2, .int p2), (3, .long p3)] := hl
  obtain ⟨hx, hb, hr, hml, hown, hts, hlocks, hK, hT⟩ := id C
  subst hsz
  generalize hAe : va_A (wX7 K h0 a0 hs r0 ++ (wPl K hs as sh ++ (([] : va_W)))) s.heap.size = A at hD ⊢
  have hA : ∀ q : Nat, s.heap.size ≤ q → A q := fun q h => by rw [← hAe]; exact Or.inr h
  have hS : va_S A s.heap s.heap [] := va_S.rf
  have hP : va_P D vwCl (wX7 K h0 a0 hs r0 ++ (wPl K hs as sh ++ (([] : va_W)))) s.heap := hP
  unfold wp_X7_set at h
  refine lv_iload_n hx hb dX7_set_0 rfl (lv_at hl 1 rfl) ?_
  refine xend_ro_i (xRunS (wc := ([] : va_W)) (As := [.int p1]) (rest := []) C (c_X7_isShelf h) k_X7_isShelf mw_144 ⟨rfl, rfl⟩ ⟨Nat.le_of_ble_eq_true rfl, Nat.le_of_ble_eq_true rfl⟩ hP hD [] rfl rfl hl rfl rfl (Nat.le_of_ble_eq_true rfl) dX7_set_1 ⟨Nat.le_refl _, Nat.le_refl _⟩) (fun v1 h => ?_)
  refine lv_if_ne (tgt := 14) hx hb dX7_set_4 (by decide) (fun c2 => ?_) (fun c2 => ?_)
  · replace h := And.right h c2
    refine lv_aload_n hx hb dX7_set_14 rfl (lv_at hl 0 rfl) ?_
    refine lv_iload_n hx hb dX7_set_15 rfl (lv_at hl 1 rfl) ?_
    refine xend_ro_i (xRunV_id (As := [.int p1]) (rest := []) C (c_X7_rowFault h) k_X7_rowFault mw_174 ⟨rfl, rfl⟩ ⟨Nat.le_of_ble_eq_true rfl, Nat.le_of_ble_eq_true rfl⟩ hP hD rfl rfl hl rfl rfl (Nat.le_of_ble_eq_true rfl) dX7_set_16 ⟨Nat.le_refl _, Nat.le_refl _⟩) (fun v3 h => ?_)
    refine lv_istore (lv' := [(5, .int v3), (0, .ref h0), (1, .int p1), (2, .int p2), (3, .long p3)]) hx hb dX7_set_19 hl (by decide) rfl (fun ls hl => ?_)
    refine lv_iload hx hb dX7_set_21 (lv_at hl 0 rfl) ?_
    refine lv_if_eq (tgt := 33) hx hb dX7_set_23 (by decide) (fun c4 => ?_) (fun c4 => ?_)
    · replace h := And.left h c4
      refine lv_iload_n hx hb dX7_set_33 rfl (lv_at hl 3 rfl) ?_
      refine lv_if_lt (tgt := 50) hx hb dX7_set_34 (by decide) (fun c5 => ?_) (fun c5 => ?_)
      · replace h := And.left h c5
        exact t_X7_set_50 C hA _ _ _ _ _ (lv_sub hl [1] rfl) hP hD hS h
      · replace h := And.right h c5
        refine lv_iload_n hx hb dX7_set_37 rfl (lv_at hl 3 rfl) ?_
        refine lv_aload_n hx hb dX7_set_38 rfl (lv_at hl 1 rfl) ?_
        refine va_get (D := D) (ci := 7) (v := .ref (a0 6)) (C := RX7) (T := TX7) (N := 13) hx hb hts inlX7 hown hK hP 0 rfl rfl 6 (by decide) (hts (.fieldLink RX7 38 "UnderTheDesks" "shelves" "[LUnderTheDesks$Shelf;") mw_26) (fun _ h9 => h9) rfl dX7_set_39 ?_
        refine lv_iload_n hx hb dX7_set_42 rfl (lv_at hl 2 rfl) ?_
        have hin := And.left h
        obtain ⟨k8, ek8⟩ : ∃ j : Nat, j = p1.toNatClampNeg := ⟨_, rfl⟩
        replace h := And.right h k8 ek8
        have hk8 : k8 < 8 := by rw [ek8]; exact Nat.not_le.mp (fun q => hin (Or.inr q))
        refine xaldq hx hb hK hP 1 2 rfl rfl hin ek8 dX7_set_43 ?_
        refine va_get (D := D) (ci := 2) (v := .int ((sh k8).1 1)) (C := RX2) (T := TX2) (N := 3) hx hb hts inlX2 hown hK hP (3 + 2 * k8) (wPl_obj hk8) rfl 1 (by decide) (hts (.fieldLink RX7 95 "UnderTheDesks$Shelf" "size" "I") mw_173) (fun _ h9 => h9) rfl dX7_set_44 ?_
        refine lv_icmp_lt (tgt := 57) hx hb dX7_set_47 (by decide) (fun c9 => ?_) (fun c9 => ?_)
        · replace h := And.left h c9
          refine lv_aload_n hx hb dX7_set_57 rfl (lv_at hl 1 rfl) ?_
          refine va_get (D := D) (ci := 7) (v := .ref (a0 6)) (C := RX7) (T := TX7) (N := 13) hx hb hts inlX7 hown hK hP 0 rfl rfl 6 (by decide) (hts (.fieldLink RX7 38 "UnderTheDesks" "shelves" "[LUnderTheDesks$Shelf;") mw_26) (fun _ h9 => h9) rfl dX7_set_58 ?_
          refine lv_iload_n hx hb dX7_set_61 rfl (lv_at hl 2 rfl) ?_
          have hin := And.left h
          obtain ⟨k10, ek10⟩ : ∃ j : Nat, j = p1.toNatClampNeg := ⟨_, rfl⟩
          replace h := And.right h k10 ek10
          have hk10 : k10 < 8 := by rw [ek10]; exact Nat.not_le.mp (fun q => hin (Or.inr q))
          refine xaldq hx hb hK hP 1 2 rfl rfl hin ek10 dX7_set_62 ?_
          refine lv_iload_n hx hb dX7_set_63 rfl (lv_at hl 3 rfl) ?_
          refine lv_lload_n hx hb dX7_set_64 rfl (lv_at hl 4 rfl) ?_
          refine xend_rw_v (wf := fun (u : (zS)) => (wX2 K (hs k10) (as k10) u)) (xRunV (wc := (wX2 K (hs k10) (as k10) (sh k10))) (As := [.int p2, .long p3]) (rest := []) C (c_X2_put h) k_X2_put mw_190 ⟨rfl, rfl⟩ ⟨Nat.le_of_ble_eq_true rfl, Nat.le_of_ble_eq_true rfl⟩ hP hD [3 + 2 * k10, 4 + 2 * k10] (wPl_C hk10) (xnd2 _) rfl rfl hl rfl rfl (Nat.le_of_ble_eq_true rfl) dX7_set_65 ⟨Nat.le_refl _, Nat.le_refl _⟩) hP hD hS hA [3 + 2 * k10, 4 + 2 * k10] (wPl_C hk10) (xnd2 _) (fun _ => rfl) (fun s12 H locs h hP hD hS => ?_)
          rw [wPl_set hk10] at hP hD
          replace hP : va_P D vwCl (wX7 K h0 a0 hs r0 ++ (wPl K hs as (va_up sh k10 s12) ++ (([] : va_W)))) H := hP
          replace hD : va_D A (wX7 K h0 a0 hs r0 ++ (wPl K hs as (va_up sh k10 s12) ++ (([] : va_W)))) := hD
          refine lv_iconst (v := 1) hx hb dX7_set_68 (by decide) ?_
          exact xrw_i C (r0, (va_up sh k10 s12)) h hP hS dX7_set_69
        · replace h := And.right h c9
          exact t_X7_set_50 C hA _ _ _ _ _ (lv_sub hl [1] rfl) hP hD hS h
    · replace h := And.right h c4
      refine lv_aload_n hx hb dX7_set_26 rfl (lv_at hl 1 rfl) ?_
      refine lv_iload hx hb dX7_set_27 (lv_at hl 0 rfl) ?_
      refine xend_rw_i (wf := fun (u : (zS)) => (wX7 K h0 a0 hs u)) (xRunV (wc := (wX7 K h0 a0 hs r0)) (As := [.int v3]) (rest := []) C (c_X7_refuse h) k_X7_refuse mw_147 ⟨rfl, rfl⟩ ⟨Nat.le_of_ble_eq_true rfl, Nat.le_of_ble_eq_true rfl⟩ hP hD [0, 1, 2] rfl rfl rfl rfl hl rfl rfl (Nat.le_of_ble_eq_true rfl) dX7_set_29 ⟨Nat.le_refl _, Nat.le_refl _⟩) hP hD hS hA [0, 1, 2] rfl rfl (fun _ => rfl) (fun v13 s14 H locs h hP hD hS => ?_)
      replace hP : va_P D vwCl (wX7 K h0 a0 hs s14 ++ (wPl K hs as sh ++ (([] : va_W)))) H := hP
      replace hD : va_D A (wX7 K h0 a0 hs s14 ++ (wPl K hs as sh ++ (([] : va_W)))) := hD
      exact xrw_i C (s14, sh) h hP hS dX7_set_32
  · replace h := And.left h c2
    refine lv_aload_n hx hb dX7_set_7 rfl (lv_at hl 0 rfl) ?_
    refine lv_bipush (v := -2) hx hb dX7_set_8 (by decide) ?_
    refine xend_rw_i (wf := fun (u : (zS)) => (wX7 K h0 a0 hs u)) (xRunV (wc := (wX7 K h0 a0 hs r0)) (As := [.int (-2 : Int32)]) (rest := []) C (c_X7_refuse h) k_X7_refuse mw_147 ⟨rfl, rfl⟩ ⟨Nat.le_of_ble_eq_true rfl, Nat.le_of_ble_eq_true rfl⟩ hP hD [0, 1, 2] rfl rfl rfl rfl hl rfl rfl (Nat.le_of_ble_eq_true rfl) dX7_set_10 ⟨Nat.le_refl _, Nat.le_refl _⟩) hP hD hS hA [0, 1, 2] rfl rfl (fun _ => rfl) (fun v15 s16 H locs h hP hD hS => ?_)
    replace hP : va_P D vwCl (wX7 K h0 a0 hs s16 ++ (wPl K hs as sh ++ (([] : va_W)))) H := hP
    replace hD : va_D A (wX7 K h0 a0 hs s16 ++ (wPl K hs as sh ++ (([] : va_W)))) := hD
    exact xrw_i C (s16, sh) h hP hS dX7_set_13

def wp_X7_copy_14 (p1 : Int32) (p2 : Int32) (p3 : Int32) (p4 : Int32) (p5 : Int32) (post : Int32 → (zS) → (Nat → zS) → Prop) (r0 : zS) (sh : Nat → zS) : Prop :=
  wp_X7_refuse r0 (-2 : Int32) (fun v3 s4 => post v3 s4 sh)
def wp_X7_copy_116 (p1 : Int32) (p2 : Int32) (p3 : Int32) (p4 : Int32) (p5 : Int32) (post : Int32 → (zS) → (Nat → zS) → Prop) (r0 : zS) (sh : Nat → zS) : Prop :=
  wp_X7_refuse r0 (-2 : Int32) (fun v15 s16 => post v15 s16 sh)
def wp_X7_copy_73 (p1 : Int32) (p2 : Int32) (p3 : Int32) (p4 : Int32) (p5 : Int32) (post : Int32 → (zS) → (Nat → zS) → Prop) (r0 : zS) (sh : Nat → zS) (x6 : Nat) (x7 : Nat) : Prop :=
  wp_X7_rowsFault r0 sh p1 p2 (fun v11 => (v11 = 0 → wp_X2_hasPlaces (sh x6) p3 p5 (fun v13 => (v13 = 0 → wp_X7_copy_116 p1 p2 p3 p4 p5 post r0 sh) ∧ (¬ v13 = 0 → wp_X2_hasPlaces (sh x7) p4 p5 (fun v17 => (v17 = 0 → wp_X7_copy_116 p1 p2 p3 p4 p5 post r0 sh) ∧ (¬ v17 = 0 → ((¬ p3 < 0 ∧ ¬ p4 < 0 ∧ ¬ p5 < 0) ∧ p3.toNatClampNeg + p5.toNatClampNeg ≤ 40 ∧ p4.toNatClampNeg + p5.toNatClampNeg ≤ 40) ∧ (∀ g19 : Nat → Int64, g19 = va_cpy ((sh x6).2.2 2) ((sh x7).2.2 2) p3.toNatClampNeg p4.toNatClampNeg p5.toNatClampNeg → post p5 r0 (va_up sh x7 (zH (sh x7) 2 g19)))))))) ∧ (¬ v11 = 0 → wp_X7_refuse r0 v11 (fun v20 s21 => post v20 s21 sh)))
def wp_X7_copy (r0 : zS) (sh : Nat → zS) (p1 : Int32) (p2 : Int32) (p3 : Int32) (p4 : Int32) (p5 : Int32) (post : Int32 → (zS) → (Nat → zS) → Prop) : Prop :=
  wp_X7_isShelf p1 (fun v1 => (v1 = 0 → wp_X7_copy_14 p1 p2 p3 p4 p5 post r0 sh) ∧ (¬ v1 = 0 → wp_X7_isShelf p2 (fun v5 => (v5 = 0 → wp_X7_copy_14 p1 p2 p3 p4 p5 post r0 sh) ∧ (¬ v5 = 0 → vp_in p1 8 ∧ (∀ k7 : Nat, k7 = p1.toNatClampNeg → vp_in p2 8 ∧ (∀ k8 : Nat, k8 = p2.toNatClampNeg → wp_X2_holdsRow (sh k7) (fun v9 => (v9 = 0 → wp_X7_copy_73 p1 p2 p3 p4 p5 post r0 sh k7 k8) ∧ (¬ v9 = 0 → wp_X2_holdsRow (sh k8) (fun v22 => (v22 = 0 → wp_X7_copy_73 p1 p2 p3 p4 p5 post r0 sh k7 k8) ∧ (¬ v22 = 0 → (((sh k7).1 0) = ((sh k8).1 0) → wp_X7_copy_73 p1 p2 p3 p4 p5 post r0 sh k7 k8) ∧ (¬ ((sh k7).1 0) = ((sh k8).1 0) → wp_X7_refuse r0 (-3 : Int32) (fun v25 s26 => post v25 s26 sh))))))))))))
set_option maxHeartbeats 4000000 in
set_option maxRecDepth 100000 in
theorem t_X7_copy_14 {p : Program} {l : Launch} {e : Env} {s : State} {m : MethodId} {args : Array Value} {below : List Frame} {meth : Method} {c : Code} {D : va_G} {K : Nat → ClassId} {h0 : Nat} {a0 : Nat → Nat} {hs : Nat → Nat} {as : Nat → Nat → Nat} {p1 : Int32} {p2 : Int32} {p3 : Int32} {p4 : Int32} {p5 : Int32} {post : Int32 → (zS) → (Nat → zS) → Prop} {A : Nat → Prop} (C : xC p s m args meth c cX7_copy RX7 9 (some .int) D vwCl (xty K)) (hA : ∀ q, s.heap.size ≤ q → A q) : ∀ (r0 : zS) (sh : Nat → zS) (H : Heap) (locs : List Loc) (ls : Array Slot), lv_has ls 9 [(0, .ref h0)] → va_P D vwCl (wX7 K h0 a0 hs r0 ++ (wPl K hs as sh ++ (([] : va_W)))) H → va_D A (wX7 K h0 a0 hs r0 ++ (wPl K hs as sh ++ (([] : va_W)))) → va_S A s.heap H locs → wp_X7_copy_14 p1 p2 p3 p4 p5 post r0 sh → W p l e ({ frames := 2, cells := 0, slots := 0, locals := 80 } : Room) s m args below meth c H locs 0 0 (MQ below (va_Qi (fun r (u : (zS) × (Nat → zS)) => post r u.1 u.2) (fun (u : (zS) × (Nat → zS)) t => va_P D vwCl (wX7 K h0 a0 hs u.1 ++ (wPl K hs as u.2 ++ (([] : va_W)))) t.heap) A) args s 0 0 A) (F0 m 14 ls []) := by
  obtain ⟨hx, hb, hr, hml, hown, hts, hlocks, hK, hT⟩ := id C
  intro r0 sh H locs ls hl hP hD hS h
  unfold wp_X7_copy_14 at h
  refine lv_aload_n hx hb dX7_copy_14 rfl (lv_at hl 0 rfl) ?_
  refine lv_bipush (v := -2) hx hb dX7_copy_15 (by decide) ?_
  refine xend_rw_i (wf := fun (u : (zS)) => (wX7 K h0 a0 hs u)) (xRunV (wc := (wX7 K h0 a0 hs r0)) (As := [.int (-2 : Int32)]) (rest := []) C (c_X7_refuse h) k_X7_refuse mw_147 ⟨rfl, rfl⟩ ⟨Nat.le_of_ble_eq_true rfl, Nat.le_of_ble_eq_true rfl⟩ hP hD [0, 1, 2] rfl rfl rfl rfl hl rfl rfl (Nat.le_of_ble_eq_true rfl) dX7_copy_17 ⟨Nat.le_refl _, Nat.le_refl _⟩) hP hD hS hA [0, 1, 2] rfl rfl (fun _ => rfl) (fun v3 s4 H locs h hP hD hS => ?_)
  replace hP : va_P D vwCl (wX7 K h0 a0 hs s4 ++ (wPl K hs as sh ++ (([] : va_W)))) H := hP
  replace hD : va_D A (wX7 K h0 a0 hs s4 ++ (wPl K hs as sh ++ (([] : va_W)))) := hD
  exact xrw_i C (s4, sh) h hP hS dX7_copy_20
set_option maxHeartbeats 4000000 in
set_option maxRecDepth 100000 in
theorem t_X7_copy_116 {p : Program} {l : Launch} {e : Env} {s : State} {m : MethodId} {args : Array Value} {below : List Frame} {meth : Method} {c : Code} {D : va_G} {K : Nat → ClassId} {h0 : Nat} {a0 : Nat → Nat} {hs : Nat → Nat} {as : Nat → Nat → Nat} {p1 : Int32} {p2 : Int32} {p3 : Int32} {p4 : Int32} {p5 : Int32} {post : Int32 → (zS) → (Nat → zS) → Prop} {A : Nat → Prop} (C : xC p s m args meth c cX7_copy RX7 9 (some .int) D vwCl (xty K)) (hA : ∀ q, s.heap.size ≤ q → A q) : ∀ (r0 : zS) (sh : Nat → zS) (H : Heap) (locs : List Loc) (ls : Array Slot), lv_has ls 9 [(0, .ref h0)] → va_P D vwCl (wX7 K h0 a0 hs r0 ++ (wPl K hs as sh ++ (([] : va_W)))) H → va_D A (wX7 K h0 a0 hs r0 ++ (wPl K hs as sh ++ (([] : va_W)))) → va_S A s.heap H locs → wp_X7_copy_116 p1 p2 p3 p4 p5 post r0 sh → W p l e ({ frames := 2, cells := 0, slots := 0, locals := 80 } : Room) s m args below meth c H locs 0 0 (MQ below (va_Qi (fun r (u : (zS) × (Nat → zS)) => post r u.1 u.2) (fun (u : (zS) × (Nat → zS)) t => va_P D vwCl (wX7 K h0 a0 hs u.1 ++ (wPl K hs as u.2 ++ (([] : va_W)))) t.heap) A) args s 0 0 A) (F0 m 116 ls []) := by
  obtain ⟨hx, hb, hr, hml, hown, hts, hlocks, hK, hT⟩ := id C
  intro r0 sh H locs ls hl hP hD hS h
  unfold wp_X7_copy_116 at h
  refine lv_aload_n hx hb dX7_copy_116 rfl (lv_at hl 0 rfl) ?_
  refine lv_bipush (v := -2) hx hb dX7_copy_117 (by decide) ?_
  refine xend_rw_i (wf := fun (u : (zS)) => (wX7 K h0 a0 hs u)) (xRunV (wc := (wX7 K h0 a0 hs r0)) (As := [.int (-2 : Int32)]) (rest := []) C (c_X7_refuse h) k_X7_refuse mw_147 ⟨rfl, rfl⟩ ⟨Nat.le_of_ble_eq_true rfl, Nat.le_of_ble_eq_true rfl⟩ hP hD [0, 1, 2] rfl rfl rfl rfl hl rfl rfl (Nat.le_of_ble_eq_true rfl) dX7_copy_119 ⟨Nat.le_refl _, Nat.le_refl _⟩) hP hD hS hA [0, 1, 2] rfl rfl (fun _ => rfl) (fun v15 s16 H locs h hP hD hS => ?_)
  replace hP : va_P D vwCl (wX7 K h0 a0 hs s16 ++ (wPl K hs as sh ++ (([] : va_W)))) H := hP
  replace hD : va_D A (wX7 K h0 a0 hs s16 ++ (wPl K hs as sh ++ (([] : va_W)))) := hD
  exact xrw_i C (s16, sh) h hP hS dX7_copy_122
set_option maxHeartbeats 4000000 in
set_option maxRecDepth 100000 in
theorem t_X7_copy_73 {p : Program} {l : Launch} {e : Env} {s : State} {m : MethodId} {args : Array Value} {below : List Frame} {meth : Method} {c : Code} {D : va_G} {K : Nat → ClassId} {h0 : Nat} {a0 : Nat → Nat} {hs : Nat → Nat} {as : Nat → Nat → Nat} {p1 : Int32} {p2 : Int32} {p3 : Int32} {p4 : Int32} {p5 : Int32} {post : Int32 → (zS) → (Nat → zS) → Prop} {A : Nat → Prop} (C : xC p s m args meth c cX7_copy RX7 9 (some .int) D vwCl (xty K)) (hA : ∀ q, s.heap.size ≤ q → A q) : ∀ (r0 : zS) (sh : Nat → zS) (x6 : Nat) (x7 : Nat) (H : Heap) (locs : List Loc) (ls : Array Slot), x6 < 8 → x7 < 8 → lv_has ls 9 [(0, .ref h0), (1, .int p1), (2, .int p2), (3, .int p3), (4, .int p4), (5, .int p5), (6, .ref (hs x6)), (7, .ref (hs x7))] → va_P D vwCl (wX7 K h0 a0 hs r0 ++ (wPl K hs as sh ++ (([] : va_W)))) H → va_D A (wX7 K h0 a0 hs r0 ++ (wPl K hs as sh ++ (([] : va_W)))) → va_S A s.heap H locs → wp_X7_copy_73 p1 p2 p3 p4 p5 post r0 sh x6 x7 → W p l e ({ frames := 2, cells := 0, slots := 0, locals := 80 } : Room) s m args below meth c H locs 0 0 (MQ below (va_Qi (fun r (u : (zS) × (Nat → zS)) => post r u.1 u.2) (fun (u : (zS) × (Nat → zS)) t => va_P D vwCl (wX7 K h0 a0 hs u.1 ++ (wPl K hs as u.2 ++ (([] : va_W)))) t.heap) A) args s 0 0 A) (F0 m 73 ls []) := by
  obtain ⟨hx, hb, hr, hml, hown, hts, hlocks, hK, hT⟩ := id C
  intro r0 sh x6 x7 H locs ls hi6 hi7 hl hP hD hS h
  unfold wp_X7_copy_73 at h
  refine lv_aload_n hx hb dX7_copy_73 rfl (lv_at hl 0 rfl) ?_
  refine lv_iload_n hx hb dX7_copy_74 rfl (lv_at hl 1 rfl) ?_
  refine lv_iload_n hx hb dX7_copy_75 rfl (lv_at hl 2 rfl) ?_
  refine xend_ro_i (xRunV_id (As := [.int p1, .int p2]) (rest := []) C (c_X7_rowsFault h) k_X7_rowsFault mw_178 ⟨rfl, rfl⟩ ⟨Nat.le_of_ble_eq_true rfl, Nat.le_of_ble_eq_true rfl⟩ hP hD rfl rfl hl rfl rfl (Nat.le_of_ble_eq_true rfl) dX7_copy_76 ⟨Nat.le_refl _, Nat.le_refl _⟩) (fun v11 h => ?_)
  refine lv_istore (lv' := [(8, .int v11), (0, .ref h0), (1, .int p1), (2, .int p2), (3, .int p3), (4, .int p4), (5, .int p5), (6, .ref (hs x6)), (7, .ref (hs x7))]) hx hb dX7_copy_79 hl (by decide) rfl (fun ls hl => ?_)
  refine lv_iload hx hb dX7_copy_81 (lv_at hl 0 rfl) ?_
  refine lv_if_eq (tgt := 93) hx hb dX7_copy_83 (by decide) (fun c12 => ?_) (fun c12 => ?_)
  · replace h := And.left h c12
    refine lv_aload hx hb dX7_copy_93 (lv_at hl 7 rfl) ?_
    refine lv_iload_n hx hb dX7_copy_95 rfl (lv_at hl 4 rfl) ?_
    refine lv_iload hx hb dX7_copy_96 (lv_at hl 6 rfl) ?_
    refine xend_ro_i (xRunV (wc := (wX2 K (hs x6) (as x6) (sh x6))) (As := [.int p3, .int p5]) (rest := []) C (c_X2_hasPlaces h) k_X2_hasPlaces mw_218 ⟨rfl, rfl⟩ ⟨Nat.le_of_ble_eq_true rfl, Nat.le_of_ble_eq_true rfl⟩ hP hD [3 + 2 * x6, 4 + 2 * x6] (wPl_C hi6) (xnd2 _) rfl rfl hl rfl rfl (Nat.le_of_ble_eq_true rfl) dX7_copy_98 ⟨Nat.le_refl _, Nat.le_refl _⟩) (fun v13 h => ?_)
    refine lv_if_eq (tgt := 116) hx hb dX7_copy_101 (by decide) (fun c14 => ?_) (fun c14 => ?_)
    · replace h := And.left h c14
      exact t_X7_copy_116 C hA _ _ _ _ _ (lv_sub hl [1] rfl) hP hD hS h
    · replace h := And.right h c14
      refine lv_aload hx hb dX7_copy_104 (lv_at hl 8 rfl) ?_
      refine lv_iload hx hb dX7_copy_106 (lv_at hl 5 rfl) ?_
      refine lv_iload hx hb dX7_copy_108 (lv_at hl 6 rfl) ?_
      refine xend_ro_i (xRunV (wc := (wX2 K (hs x7) (as x7) (sh x7))) (As := [.int p4, .int p5]) (rest := []) C (c_X2_hasPlaces h) k_X2_hasPlaces mw_218 ⟨rfl, rfl⟩ ⟨Nat.le_of_ble_eq_true rfl, Nat.le_of_ble_eq_true rfl⟩ hP hD [3 + 2 * x7, 4 + 2 * x7] (wPl_C hi7) (xnd2 _) rfl rfl hl rfl rfl (Nat.le_of_ble_eq_true rfl) dX7_copy_110 ⟨Nat.le_refl _, Nat.le_refl _⟩) (fun v17 h => ?_)
      refine lv_if_ne (tgt := 123) hx hb dX7_copy_113 (by decide) (fun c18 => ?_) (fun c18 => ?_)
      · replace h := And.right h c18
        refine lv_aload hx hb dX7_copy_123 (lv_at hl 7 rfl) ?_
        refine va_getN (D := D) (ci := 2) (v := .ref (as x6 2)) (C := RX2) (T := TX2) (N := 3) hx hb hts inlX2 hown hK hP (3 + 2 * x6) (wPl_obj hi6) rfl 2 (by decide) (va_Nw.use rfl hT.1) (fun _ h9 => h9) rfl dX7_copy_125 ?_
        refine lv_iload_n hx hb dX7_copy_128 rfl (lv_at hl 4 rfl) ?_
        refine lv_aload hx hb dX7_copy_129 (lv_at hl 8 rfl) ?_
        refine va_getN (D := D) (ci := 2) (v := .ref (as x7 2)) (C := RX2) (T := TX2) (N := 3) hx hb hts inlX2 hown hK hP (3 + 2 * x7) (wPl_obj hi7) rfl 2 (by decide) (va_Nw.use rfl hT.1) (fun _ h9 => h9) rfl dX7_copy_131 ?_
        refine lv_iload hx hb dX7_copy_134 (lv_at hl 5 rfl) ?_
        refine lv_iload hx hb dX7_copy_136 (lv_at hl 6 rfl) ?_
        have hcp := And.left h
        replace h := And.right h
        obtain ⟨g19, eg19⟩ : ∃ z : Nat → Int64, z = va_cpy ((sh x6).2.2 2) ((sh x7).2.2 2) p3.toNatClampNeg p4.toNatClampNeg p5.toNatClampNeg := ⟨_, rfl⟩
        replace h := h g19 eg19
        refine xcopyl hx hb (by rw [hml]; exact hl.1.symm) hown (hts _ mw_214) (hts _ mw_215) (hts _ mw_216) (hts _ mw_217) hK hP hD hS (4 + 2 * x6) (4 + 2 * x7) 1 1 (wPl_cel hi6) (wPl_cel hi7) rfl rfl rfl hcp.1.1 hcp.1.2.1 hcp.1.2.2 hcp.2.1 hcp.2.2 (fun i _ => rfl) eg19 (Nat.le_of_ble_eq_true rfl) (Nat.le_of_ble_eq_true rfl) dX7_copy_138 (fun H locs hP hD hS => ?_)
        rw [wPl_cset hi7] at hP hD
        replace hP : va_P D vwCl (wX7 K h0 a0 hs r0 ++ (wPl K hs as (va_up sh x7 (zH (sh x7) 2 g19)) ++ (([] : va_W)))) H := hP
        replace hD : va_D A (wX7 K h0 a0 hs r0 ++ (wPl K hs as (va_up sh x7 (zH (sh x7) 2 g19)) ++ (([] : va_W)))) := hD
        refine lv_iload hx hb dX7_copy_141 (lv_at hl 6 rfl) ?_
        exact xrw_i C (r0, (va_up sh x7 (zH (sh x7) 2 g19))) h hP hS dX7_copy_143
      · replace h := And.left h c18
        exact t_X7_copy_116 C hA _ _ _ _ _ (lv_sub hl [1] rfl) hP hD hS h
  · replace h := And.right h c12
    refine lv_aload_n hx hb dX7_copy_86 rfl (lv_at hl 1 rfl) ?_
    refine lv_iload hx hb dX7_copy_87 (lv_at hl 0 rfl) ?_
    refine xend_rw_i (wf := fun (u : (zS)) => (wX7 K h0 a0 hs u)) (xRunV (wc := (wX7 K h0 a0 hs r0)) (As := [.int v11]) (rest := []) C (c_X7_refuse h) k_X7_refuse mw_147 ⟨rfl, rfl⟩ ⟨Nat.le_of_ble_eq_true rfl, Nat.le_of_ble_eq_true rfl⟩ hP hD [0, 1, 2] rfl rfl rfl rfl hl rfl rfl (Nat.le_of_ble_eq_true rfl) dX7_copy_89 ⟨Nat.le_refl _, Nat.le_refl _⟩) hP hD hS hA [0, 1, 2] rfl rfl (fun _ => rfl) (fun v20 s21 H locs h hP hD hS => ?_)
    replace hP : va_P D vwCl (wX7 K h0 a0 hs s21 ++ (wPl K hs as sh ++ (([] : va_W)))) H := hP
    replace hD : va_D A (wX7 K h0 a0 hs s21 ++ (wPl K hs as sh ++ (([] : va_W)))) := hD
    exact xrw_i C (s21, sh) h hP hS dX7_copy_92
set_option maxHeartbeats 4000000 in
set_option maxRecDepth 100000 in
theorem c_X7_copy {l : Launch} {D : va_G} {K : Nat → ClassId} {h0 : Nat} {a0 : Nat → Nat} {hs : Nat → Nat} {r0 : zS} {as : Nat → Nat → Nat} {sh : Nat → zS} {p1 : Int32} {p2 : Int32} {p3 : Int32} {p4 : Int32} {p5 : Int32} {sz : Nat} {post : Int32 → (zS) → (Nat → zS) → Prop}   (h : wp_X7_copy r0 sh p1 p2 p3 p4 p5 post) : Met l yX7_copy (Cond.code yX7_copy cX7_copy 9 (some .int) :: wsL_law) ({ frames := 2, cells := 0, slots := 0, locals := 80 } : Room) (va_Pc [.ref h0, .int p1, .int p2, .int p3, .int p4, .int p5] (xPre D vwCl (xty K) (wX7 K h0 a0 hs r0 ++ (wPl K hs as sh ++ (([] : va_W)))) sz)) (va_Qi (fun r (u : (zS) × (Nat → zS)) => post r u.1 u.2) (fun (u : (zS) × (Nat → zS)) t => va_P D vwCl (wX7 K h0 a0 hs u.1 ++ (wPl K hs as u.2 ++ (([] : va_W)))) t.heap) (va_A (wX7 K h0 a0 hs r0 ++ (wPl K hs as sh ++ (([] : va_W)))) sz)) 0 0 (va_A (wX7 K h0 a0 hs r0 ++ (wPl K hs as sh ++ (([] : va_W)))) sz) := by
  refine xMet (by decide) rfl (Nat.le_of_ble_eq_true rfl) (fun p e s m args below meth c C hnm hP hD hsz ls hl => ?_)
  have hl : lv_has ls 9 [(0, .ref h0), (1, .int p1), (2, .int p2), (3, .int p3), (4, .int p4), (5, .int p5)] := hl
  obtain ⟨hx, hb, hr, hml, hown, hts, hlocks, hK, hT⟩ := id C
  subst hsz
  generalize hAe : va_A (wX7 K h0 a0 hs r0 ++ (wPl K hs as sh ++ (([] : va_W)))) s.heap.size = A at hD ⊢
  have hA : ∀ q : Nat, s.heap.size ≤ q → A q := fun q h => by rw [← hAe]; exact Or.inr h
  have hS : va_S A s.heap s.heap [] := va_S.rf
  have hP : va_P D vwCl (wX7 K h0 a0 hs r0 ++ (wPl K hs as sh ++ (([] : va_W)))) s.heap := hP
  unfold wp_X7_copy at h
  refine lv_iload_n hx hb dX7_copy_0 rfl (lv_at hl 1 rfl) ?_
  refine xend_ro_i (xRunS (wc := ([] : va_W)) (As := [.int p1]) (rest := []) C (c_X7_isShelf h) k_X7_isShelf mw_144 ⟨rfl, rfl⟩ ⟨Nat.le_of_ble_eq_true rfl, Nat.le_of_ble_eq_true rfl⟩ hP hD [] rfl rfl hl rfl rfl (Nat.le_of_ble_eq_true rfl) dX7_copy_1 ⟨Nat.le_refl _, Nat.le_refl _⟩) (fun v1 h => ?_)
  refine lv_if_eq (tgt := 14) hx hb dX7_copy_4 (by decide) (fun c2 => ?_) (fun c2 => ?_)
  · replace h := And.left h c2
    exact t_X7_copy_14 C hA _ _ _ _ _ (lv_sub hl [0] rfl) hP hD hS h
  · replace h := And.right h c2
    refine lv_iload_n hx hb dX7_copy_7 rfl (lv_at hl 2 rfl) ?_
    refine xend_ro_i (xRunS (wc := ([] : va_W)) (As := [.int p2]) (rest := []) C (c_X7_isShelf h) k_X7_isShelf mw_144 ⟨rfl, rfl⟩ ⟨Nat.le_of_ble_eq_true rfl, Nat.le_of_ble_eq_true rfl⟩ hP hD [] rfl rfl hl rfl rfl (Nat.le_of_ble_eq_true rfl) dX7_copy_8 ⟨Nat.le_refl _, Nat.le_refl _⟩) (fun v5 h => ?_)
    refine lv_if_ne (tgt := 21) hx hb dX7_copy_11 (by decide) (fun c6 => ?_) (fun c6 => ?_)
    · replace h := And.right h c6
      refine lv_aload_n hx hb dX7_copy_21 rfl (lv_at hl 0 rfl) ?_
      refine va_get (D := D) (ci := 7) (v := .ref (a0 6)) (C := RX7) (T := TX7) (N := 13) hx hb hts inlX7 hown hK hP 0 rfl rfl 6 (by decide) (hts (.fieldLink RX7 38 "UnderTheDesks" "shelves" "[LUnderTheDesks$Shelf;") mw_26) (fun _ h9 => h9) rfl dX7_copy_22 ?_
      refine lv_iload_n hx hb dX7_copy_25 rfl (lv_at hl 1 rfl) ?_
      have hin := And.left h
      obtain ⟨k7, ek7⟩ : ∃ j : Nat, j = p1.toNatClampNeg := ⟨_, rfl⟩
      replace h := And.right h k7 ek7
      have hk7 : k7 < 8 := by rw [ek7]; exact Nat.not_le.mp (fun q => hin (Or.inr q))
      refine xaldq hx hb hK hP 1 2 rfl rfl hin ek7 dX7_copy_26 ?_
      refine lv_astore (lv' := [(6, .ref (hs k7)), (0, .ref h0), (1, .int p1), (2, .int p2), (3, .int p3), (4, .int p4), (5, .int p5)]) hx hb dX7_copy_27 hl (by decide) rfl (fun ls hl => ?_)
      refine lv_aload_n hx hb dX7_copy_29 rfl (lv_at hl 1 rfl) ?_
      refine va_get (D := D) (ci := 7) (v := .ref (a0 6)) (C := RX7) (T := TX7) (N := 13) hx hb hts inlX7 hown hK hP 0 rfl rfl 6 (by decide) (hts (.fieldLink RX7 38 "UnderTheDesks" "shelves" "[LUnderTheDesks$Shelf;") mw_26) (fun _ h9 => h9) rfl dX7_copy_30 ?_
      refine lv_iload_n hx hb dX7_copy_33 rfl (lv_at hl 3 rfl) ?_
      have hin := And.left h
      obtain ⟨k8, ek8⟩ : ∃ j : Nat, j = p2.toNatClampNeg := ⟨_, rfl⟩
      replace h := And.right h k8 ek8
      have hk8 : k8 < 8 := by rw [ek8]; exact Nat.not_le.mp (fun q => hin (Or.inr q))
      refine xaldq hx hb hK hP 1 2 rfl rfl hin ek8 dX7_copy_34 ?_
      refine lv_astore (lv' := [(7, .ref (hs k8)), (6, .ref (hs k7)), (0, .ref h0), (1, .int p1), (2, .int p2), (3, .int p3), (4, .int p4), (5, .int p5)]) hx hb dX7_copy_35 hl (by decide) rfl (fun ls hl => ?_)
      refine lv_aload hx hb dX7_copy_37 (lv_at hl 1 rfl) ?_
      refine xend_ro_i (xRunV (wc := (wX2 K (hs k7) (as k7) (sh k7))) (As := []) (rest := []) C (c_X2_holdsRow h) k_X2_holdsRow mw_186 ⟨rfl, rfl⟩ ⟨Nat.le_of_ble_eq_true rfl, Nat.le_of_ble_eq_true rfl⟩ hP hD [3 + 2 * k7, 4 + 2 * k7] (wPl_C hk7) (xnd2 _) rfl rfl hl rfl rfl (Nat.le_of_ble_eq_true rfl) dX7_copy_39 ⟨Nat.le_refl _, Nat.le_refl _⟩) (fun v9 h => ?_)
      refine lv_if_eq (tgt := 73) hx hb dX7_copy_42 (by decide) (fun c10 => ?_) (fun c10 => ?_)
      · replace h := And.left h c10
        exact t_X7_copy_73 C hA _ _ _ _ _ _ _ hk7 hk8 (lv_sub hl [2, 3, 4, 5, 6, 7, 1, 0] rfl) hP hD hS h
      · replace h := And.right h c10
        refine lv_aload hx hb dX7_copy_45 (lv_at hl 0 rfl) ?_
        refine xend_ro_i (xRunV (wc := (wX2 K (hs k8) (as k8) (sh k8))) (As := []) (rest := []) C (c_X2_holdsRow h) k_X2_holdsRow mw_186 ⟨rfl, rfl⟩ ⟨Nat.le_of_ble_eq_true rfl, Nat.le_of_ble_eq_true rfl⟩ hP hD [3 + 2 * k8, 4 + 2 * k8] (wPl_C hk8) (xnd2 _) rfl rfl hl rfl rfl (Nat.le_of_ble_eq_true rfl) dX7_copy_47 ⟨Nat.le_refl _, Nat.le_refl _⟩) (fun v22 h => ?_)
        refine lv_if_eq (tgt := 73) hx hb dX7_copy_50 (by decide) (fun c23 => ?_) (fun c23 => ?_)
        · replace h := And.left h c23
          exact t_X7_copy_73 C hA _ _ _ _ _ _ _ hk7 hk8 (lv_sub hl [2, 3, 4, 5, 6, 7, 1, 0] rfl) hP hD hS h
        · replace h := And.right h c23
          refine lv_aload hx hb dX7_copy_53 (lv_at hl 1 rfl) ?_
          refine va_get (D := D) (ci := 2) (v := .int ((sh k7).1 0)) (C := RX2) (T := TX2) (N := 3) hx hb hts inlX2 hown hK hP (3 + 2 * k7) (wPl_obj hk7) rfl 0 (by decide) (hts (.fieldLink RX7 107 "UnderTheDesks$Shelf" "holding" "I") mw_213) (fun _ h9 => h9) rfl dX7_copy_55 ?_
          refine lv_aload hx hb dX7_copy_58 (lv_at hl 0 rfl) ?_
          refine va_get (D := D) (ci := 2) (v := .int ((sh k8).1 0)) (C := RX2) (T := TX2) (N := 3) hx hb hts inlX2 hown hK hP (3 + 2 * k8) (wPl_obj hk8) rfl 0 (by decide) (hts (.fieldLink RX7 107 "UnderTheDesks$Shelf" "holding" "I") mw_213) (fun _ h9 => h9) rfl dX7_copy_60 ?_
          refine lv_icmp_eq (tgt := 73) hx hb dX7_copy_63 (by decide) (fun c24 => ?_) (fun c24 => ?_)
          · replace h := And.left h c24
            exact t_X7_copy_73 C hA _ _ _ _ _ _ _ hk7 hk8 (lv_sub hl [2, 3, 4, 5, 6, 7, 1, 0] rfl) hP hD hS h
          · replace h := And.right h c24
            refine lv_aload_n hx hb dX7_copy_66 rfl (lv_at hl 2 rfl) ?_
            refine lv_bipush (v := -3) hx hb dX7_copy_67 (by decide) ?_
            refine xend_rw_i (wf := fun (u : (zS)) => (wX7 K h0 a0 hs u)) (xRunV (wc := (wX7 K h0 a0 hs r0)) (As := [.int (-3 : Int32)]) (rest := []) C (c_X7_refuse h) k_X7_refuse mw_147 ⟨rfl, rfl⟩ ⟨Nat.le_of_ble_eq_true rfl, Nat.le_of_ble_eq_true rfl⟩ hP hD [0, 1, 2] rfl rfl rfl rfl hl rfl rfl (Nat.le_of_ble_eq_true rfl) dX7_copy_69 ⟨Nat.le_refl _, Nat.le_refl _⟩) hP hD hS hA [0, 1, 2] rfl rfl (fun _ => rfl) (fun v25 s26 H locs h hP hD hS => ?_)
            replace hP : va_P D vwCl (wX7 K h0 a0 hs s26 ++ (wPl K hs as sh ++ (([] : va_W)))) H := hP
            replace hD : va_D A (wX7 K h0 a0 hs s26 ++ (wPl K hs as sh ++ (([] : va_W)))) := hD
            exact xrw_i C (s26, sh) h hP hS dX7_copy_72
    · replace h := And.left h c6
      exact t_X7_copy_14 C hA _ _ _ _ _ (lv_sub hl [0] rfl) hP hD hS h

def wp_X7_element (r0 : zS) (sh : Nat → zS) (p1 : Int32) (p2 : Int32) (post : Int64 → Prop) : Prop :=
  wp_X7_isShelf p1 (fun v1 => (v1 = 0 → post (0 : Int64) ) ∧ (¬ v1 = 0 → vp_in p1 8 ∧ (∀ k3 : Nat, k3 = p1.toNatClampNeg → wp_X2_holdsRow (sh k3) (fun v4 => (v4 = 0 → post (0 : Int64) ) ∧ (¬ v4 = 0 → vp_in p1 8 ∧ (∀ k6 : Nat, k6 = p1.toNatClampNeg → wp_X2_cell (sh k6) p2 (fun v7 => post v7 )))))))
set_option maxHeartbeats 4000000 in
set_option maxRecDepth 100000 in
theorem c_X7_element {l : Launch} {D : va_G} {K : Nat → ClassId} {h0 : Nat} {a0 : Nat → Nat} {hs : Nat → Nat} {r0 : zS} {as : Nat → Nat → Nat} {sh : Nat → zS} {p1 : Int32} {p2 : Int32} {sz : Nat} {post : Int64 → Prop}   (h : wp_X7_element r0 sh p1 p2 post) : Met l yX7_element (Cond.code yX7_element cX7_element 3 (some .long) :: wsL_law) ({ frames := 1, cells := 0, slots := 0, locals := 21 } : Room) (va_Pc [.ref h0, .int p1, .int p2] (xPre D vwCl (xty K) (wX7 K h0 a0 hs r0 ++ (wPl K hs as sh ++ (([] : va_W)))) sz)) (roL post) 0 0 (fun _ => False) := by
  refine xMet (by decide) rfl (Nat.le_of_ble_eq_true rfl) (fun p e s m args below meth c C hnm hP hD hsz ls hl => ?_)
  have hl : lv_has ls 3 [(0, .ref h0), (1, .int p1), (2, .int p2)] := hl
  obtain ⟨hx, hb, hr, hml, hown, hts, hlocks, hK, hT⟩ := id C
  unfold wp_X7_element at h
  refine lv_iload_n hx hb dX7_element_0 rfl (lv_at hl 1 rfl) ?_
  refine xend_ro_i (xRunS (wc := ([] : va_W)) (As := [.int p1]) (rest := []) C (c_X7_isShelf h) k_X7_isShelf mw_144 ⟨rfl, rfl⟩ ⟨Nat.le_of_ble_eq_true rfl, Nat.le_of_ble_eq_true rfl⟩ hP hD [] rfl rfl hl rfl rfl (Nat.le_of_ble_eq_true rfl) dX7_element_1 ⟨Nat.le_refl _, Nat.le_refl _⟩) (fun v1 h => ?_)
  refine lv_if_eq (tgt := 32) hx hb dX7_element_4 (by decide) (fun c2 => ?_) (fun c2 => ?_)
  · replace h := And.left h c2
    refine lv_lconst (v := 0) hx hb dX7_element_32 (by decide) ?_
    exact xro_l C h dX7_element_33
  · replace h := And.right h c2
    refine lv_aload_n hx hb dX7_element_7 rfl (lv_at hl 0 rfl) ?_
    refine va_get (D := D) (ci := 7) (v := .ref (a0 6)) (C := RX7) (T := TX7) (N := 13) hx hb hts inlX7 hown hK hP 0 rfl rfl 6 (by decide) (hts (.fieldLink RX7 38 "UnderTheDesks" "shelves" "[LUnderTheDesks$Shelf;") mw_26) (fun _ h9 => h9) rfl dX7_element_8 ?_
    refine lv_iload_n hx hb dX7_element_11 rfl (lv_at hl 1 rfl) ?_
    have hin := And.left h
    obtain ⟨k3, ek3⟩ : ∃ j : Nat, j = p1.toNatClampNeg := ⟨_, rfl⟩
    replace h := And.right h k3 ek3
    have hk3 : k3 < 8 := by rw [ek3]; exact Nat.not_le.mp (fun q => hin (Or.inr q))
    refine xaldq hx hb hK hP 1 2 rfl rfl hin ek3 dX7_element_12 ?_
    refine xend_ro_i (xRunV (wc := (wX2 K (hs k3) (as k3) (sh k3))) (As := []) (rest := []) C (c_X2_holdsRow h) k_X2_holdsRow mw_186 ⟨rfl, rfl⟩ ⟨Nat.le_of_ble_eq_true rfl, Nat.le_of_ble_eq_true rfl⟩ hP hD [3 + 2 * k3, 4 + 2 * k3] (wPl_C hk3) (xnd2 _) rfl rfl hl rfl rfl (Nat.le_of_ble_eq_true rfl) dX7_element_13 ⟨Nat.le_refl _, Nat.le_refl _⟩) (fun v4 h => ?_)
    refine lv_if_eq (tgt := 32) hx hb dX7_element_16 (by decide) (fun c5 => ?_) (fun c5 => ?_)
    · replace h := And.left h c5
      refine lv_lconst (v := 0) hx hb dX7_element_32 (by decide) ?_
      exact xro_l C h dX7_element_33
    · replace h := And.right h c5
      refine lv_aload_n hx hb dX7_element_19 rfl (lv_at hl 0 rfl) ?_
      refine va_get (D := D) (ci := 7) (v := .ref (a0 6)) (C := RX7) (T := TX7) (N := 13) hx hb hts inlX7 hown hK hP 0 rfl rfl 6 (by decide) (hts (.fieldLink RX7 38 "UnderTheDesks" "shelves" "[LUnderTheDesks$Shelf;") mw_26) (fun _ h9 => h9) rfl dX7_element_20 ?_
      refine lv_iload_n hx hb dX7_element_23 rfl (lv_at hl 1 rfl) ?_
      have hin := And.left h
      obtain ⟨k6, ek6⟩ : ∃ j : Nat, j = p1.toNatClampNeg := ⟨_, rfl⟩
      replace h := And.right h k6 ek6
      have hk6 : k6 < 8 := by rw [ek6]; exact Nat.not_le.mp (fun q => hin (Or.inr q))
      refine xaldq hx hb hK hP 1 2 rfl rfl hin ek6 dX7_element_24 ?_
      refine lv_iload_n hx hb dX7_element_25 rfl (lv_at hl 2 rfl) ?_
      refine xend_ro_l (xRunV (wc := (wX2 K (hs k6) (as k6) (sh k6))) (As := [.int p2]) (rest := []) C (c_X2_cell h) k_X2_cell mw_230 ⟨rfl, rfl⟩ ⟨Nat.le_of_ble_eq_true rfl, Nat.le_of_ble_eq_true rfl⟩ hP hD [3 + 2 * k6, 4 + 2 * k6] (wPl_C hk6) (xnd2 _) rfl rfl hl rfl rfl (Nat.le_of_ble_eq_true rfl) dX7_element_26 ⟨Nat.le_refl _, Nat.le_refl _⟩) (fun v7 h => ?_)
      refine lv_goto (tgt := 33) hx hb dX7_element_29 (by decide) ?_
      exact xro_l C h dX7_element_33

def wp_X7_holds (r0 : zS) (sh : Nat → zS) (p1 : Int32) (post : Int32 → Prop) : Prop :=
  wp_X7_isShelf p1 (fun v1 => (v1 = 0 → post (-1 : Int32) ) ∧ (¬ v1 = 0 → vp_in p1 8 ∧ (∀ k3 : Nat, k3 = p1.toNatClampNeg → post ((sh k3).1 0) )))
set_option maxHeartbeats 4000000 in
set_option maxRecDepth 100000 in
theorem c_X7_holds {l : Launch} {D : va_G} {K : Nat → ClassId} {h0 : Nat} {a0 : Nat → Nat} {hs : Nat → Nat} {r0 : zS} {as : Nat → Nat → Nat} {sh : Nat → zS} {p1 : Int32} {sz : Nat} {post : Int32 → Prop}   (h : wp_X7_holds r0 sh p1 post) : Met l yX7_holds (Cond.code yX7_holds cX7_holds 2 (some .int) :: wsL_law) ({ frames := 1, cells := 0, slots := 0, locals := 20 } : Room) (va_Pc [.ref h0, .int p1] (xPre D vwCl (xty K) (wX7 K h0 a0 hs r0 ++ (wPl K hs as sh ++ (([] : va_W)))) sz)) (roI post) 0 0 (fun _ => False) := by
  refine xMet (by decide) rfl (Nat.le_of_ble_eq_true rfl) (fun p e s m args below meth c C hnm hP hD hsz ls hl => ?_)
  have hl : lv_has ls 2 [(0, .ref h0), (1, .int p1)] := hl
  obtain ⟨hx, hb, hr, hml, hown, hts, hlocks, hK, hT⟩ := id C
  unfold wp_X7_holds at h
  refine lv_iload_n hx hb dX7_holds_0 rfl (lv_at hl 1 rfl) ?_
  refine xend_ro_i (xRunS (wc := ([] : va_W)) (As := [.int p1]) (rest := []) C (c_X7_isShelf h) k_X7_isShelf mw_144 ⟨rfl, rfl⟩ ⟨Nat.le_of_ble_eq_true rfl, Nat.le_of_ble_eq_true rfl⟩ hP hD [] rfl rfl hl rfl rfl (Nat.le_of_ble_eq_true rfl) dX7_holds_1 ⟨Nat.le_refl _, Nat.le_refl _⟩) (fun v1 h => ?_)
  refine lv_if_eq (tgt := 19) hx hb dX7_holds_4 (by decide) (fun c2 => ?_) (fun c2 => ?_)
  · replace h := And.left h c2
    refine lv_iconst (v := -1) hx hb dX7_holds_19 (by decide) ?_
    exact xro_i C h dX7_holds_20
  · replace h := And.right h c2
    refine lv_aload_n hx hb dX7_holds_7 rfl (lv_at hl 0 rfl) ?_
    refine va_get (D := D) (ci := 7) (v := .ref (a0 6)) (C := RX7) (T := TX7) (N := 13) hx hb hts inlX7 hown hK hP 0 rfl rfl 6 (by decide) (hts (.fieldLink RX7 38 "UnderTheDesks" "shelves" "[LUnderTheDesks$Shelf;") mw_26) (fun _ h9 => h9) rfl dX7_holds_8 ?_
    refine lv_iload_n hx hb dX7_holds_11 rfl (lv_at hl 1 rfl) ?_
    have hin := And.left h
    obtain ⟨k3, ek3⟩ : ∃ j : Nat, j = p1.toNatClampNeg := ⟨_, rfl⟩
    replace h := And.right h k3 ek3
    have hk3 : k3 < 8 := by rw [ek3]; exact Nat.not_le.mp (fun q => hin (Or.inr q))
    refine xaldq hx hb hK hP 1 2 rfl rfl hin ek3 dX7_holds_12 ?_
    refine va_get (D := D) (ci := 2) (v := .int ((sh k3).1 0)) (C := RX2) (T := TX2) (N := 3) hx hb hts inlX2 hown hK hP (3 + 2 * k3) (wPl_obj hk3) rfl 0 (by decide) (hts (.fieldLink RX7 107 "UnderTheDesks$Shelf" "holding" "I") mw_213) (fun _ h9 => h9) rfl dX7_holds_13 ?_
    refine lv_goto (tgt := 20) hx hb dX7_holds_16 (by decide) ?_
    exact xro_i C h dX7_holds_20

def wp_X7_show_23 (r2 : zS) (p1 : Int32) (p2 : Int32) (post : Int32 → (zS) → (Nat → zS) → Prop) (r0 : zS) (sh : Nat → zS) : Prop :=
  wp_X7_refuse r0 (-2 : Int32) (fun v3 s4 => post v3 s4 sh)
def wp_X7_show_30 (r2 : zS) (p1 : Int32) (p2 : Int32) (post : Int32 → (zS) → (Nat → zS) → Prop) (r0 : zS) (sh : Nat → zS) : Prop :=
  vp_in p1 8 ∧ (∀ k6 : Nat, k6 = p1.toNatClampNeg → wp_X2_holdPupil (sh k6) p2 (fun s8 => post (1 : Int32) r0 (va_up sh k6 s8)))
def wp_X7_show (r0 : zS) (sh : Nat → zS) (r2 : zS) (p1 : Int32) (p2 : Int32) (post : Int32 → (zS) → (Nat → zS) → Prop) : Prop :=
  wp_X7_isShelf p1 (fun v1 => (v1 = 0 → wp_X7_show_23 r2 p1 p2 post r0 sh) ∧ (¬ v1 = 0 → (p2 = (-1 : Int32) → wp_X7_show_30 r2 p1 p2 post r0 sh) ∧ (¬ p2 = (-1 : Int32) → wp_X1_has r2 p2 (fun v9 => (v9 = 0 → wp_X7_show_23 r2 p1 p2 post r0 sh) ∧ (¬ v9 = 0 → wp_X7_show_30 r2 p1 p2 post r0 sh)))))
set_option maxHeartbeats 4000000 in
set_option maxRecDepth 100000 in
theorem t_X7_show_23 {p : Program} {l : Launch} {e : Env} {s : State} {m : MethodId} {args : Array Value} {below : List Frame} {meth : Method} {c : Code} {D : va_G} {K : Nat → ClassId} {h0 : Nat} {a0 : Nat → Nat} {hs : Nat → Nat} {as : Nat → Nat → Nat} {a2 : Nat → Nat} {r2 : zS} {p1 : Int32} {p2 : Int32} {post : Int32 → (zS) → (Nat → zS) → Prop} {A : Nat → Prop} (C : xC p s m args meth c cX7_show RX7 3 (some .int) D vwCl (xty K)) (hA : ∀ q, s.heap.size ≤ q → A q) : ∀ (r0 : zS) (sh : Nat → zS) (H : Heap) (locs : List Loc) (ls : Array Slot), lv_has ls 3 [(0, .ref h0)] → va_P D vwCl (wX7 K h0 a0 hs r0 ++ (wPl K hs as sh ++ (wX1 K (a0 0) a2 r2))) H → va_D A (wX7 K h0 a0 hs r0 ++ (wPl K hs as sh ++ (wX1 K (a0 0) a2 r2))) → va_S A s.heap H locs → wp_X7_show_23 r2 p1 p2 post r0 sh → W p l e ({ frames := 1, cells := 0, slots := 0, locals := 22 } : Room) s m args below meth c H locs 0 0 (MQ below (va_Qi (fun r (u : (zS) × (Nat → zS)) => post r u.1 u.2) (fun (u : (zS) × (Nat → zS)) t => va_P D vwCl (wX7 K h0 a0 hs u.1 ++ (wPl K hs as u.2 ++ (wX1 K (a0 0) a2 r2))) t.heap) A) args s 0 0 A) (F0 m 23 ls []) := by
  obtain ⟨hx, hb, hr, hml, hown, hts, hlocks, hK, hT⟩ := id C
  intro r0 sh H locs ls hl hP hD hS h
  unfold wp_X7_show_23 at h
  refine lv_aload_n hx hb dX7_show_23 rfl (lv_at hl 0 rfl) ?_
  refine lv_bipush (v := -2) hx hb dX7_show_24 (by decide) ?_
  refine xend_rw_i (wf := fun (u : (zS)) => (wX7 K h0 a0 hs u)) (xRunV (wc := (wX7 K h0 a0 hs r0)) (As := [.int (-2 : Int32)]) (rest := []) C (c_X7_refuse h) k_X7_refuse mw_147 ⟨rfl, rfl⟩ ⟨Nat.le_of_ble_eq_true rfl, Nat.le_of_ble_eq_true rfl⟩ hP hD [0, 1, 2] rfl rfl rfl rfl hl rfl rfl (Nat.le_of_ble_eq_true rfl) dX7_show_26 ⟨Nat.le_refl _, Nat.le_refl _⟩) hP hD hS hA [0, 1, 2] rfl rfl (fun _ => rfl) (fun v3 s4 H locs h hP hD hS => ?_)
  replace hP : va_P D vwCl (wX7 K h0 a0 hs s4 ++ (wPl K hs as sh ++ (wX1 K (a0 0) a2 r2))) H := hP
  replace hD : va_D A (wX7 K h0 a0 hs s4 ++ (wPl K hs as sh ++ (wX1 K (a0 0) a2 r2))) := hD
  exact xrw_i C (s4, sh) h hP hS dX7_show_29
set_option maxHeartbeats 4000000 in
set_option maxRecDepth 100000 in
theorem t_X7_show_30 {p : Program} {l : Launch} {e : Env} {s : State} {m : MethodId} {args : Array Value} {below : List Frame} {meth : Method} {c : Code} {D : va_G} {K : Nat → ClassId} {h0 : Nat} {a0 : Nat → Nat} {hs : Nat → Nat} {as : Nat → Nat → Nat} {a2 : Nat → Nat} {r2 : zS} {p1 : Int32} {p2 : Int32} {post : Int32 → (zS) → (Nat → zS) → Prop} {A : Nat → Prop} (C : xC p s m args meth c cX7_show RX7 3 (some .int) D vwCl (xty K)) (hA : ∀ q, s.heap.size ≤ q → A q) : ∀ (r0 : zS) (sh : Nat → zS) (H : Heap) (locs : List Loc) (ls : Array Slot), lv_has ls 3 [(0, .ref h0), (1, .int p1), (2, .int p2)] → va_P D vwCl (wX7 K h0 a0 hs r0 ++ (wPl K hs as sh ++ (wX1 K (a0 0) a2 r2))) H → va_D A (wX7 K h0 a0 hs r0 ++ (wPl K hs as sh ++ (wX1 K (a0 0) a2 r2))) → va_S A s.heap H locs → wp_X7_show_30 r2 p1 p2 post r0 sh → W p l e ({ frames := 1, cells := 0, slots := 0, locals := 22 } : Room) s m args below meth c H locs 0 0 (MQ below (va_Qi (fun r (u : (zS) × (Nat → zS)) => post r u.1 u.2) (fun (u : (zS) × (Nat → zS)) t => va_P D vwCl (wX7 K h0 a0 hs u.1 ++ (wPl K hs as u.2 ++ (wX1 K (a0 0) a2 r2))) t.heap) A) args s 0 0 A) (F0 m 30 ls []) := by
  obtain ⟨hx, hb, hr, hml, hown, hts, hlocks, hK, hT⟩ := id C
  intro r0 sh H locs ls hl hP hD hS h
  unfold wp_X7_show_30 at h
  refine lv_aload_n hx hb dX7_show_30 rfl (lv_at hl 0 rfl) ?_
  refine va_get (D := D) (ci := 7) (v := .ref (a0 6)) (C := RX7) (T := TX7) (N := 13) hx hb hts inlX7 hown hK hP 0 rfl rfl 6 (by decide) (hts (.fieldLink RX7 38 "UnderTheDesks" "shelves" "[LUnderTheDesks$Shelf;") mw_26) (fun _ h9 => h9) rfl dX7_show_31 ?_
  refine lv_iload_n hx hb dX7_show_34 rfl (lv_at hl 1 rfl) ?_
  have hin := And.left h
  obtain ⟨k6, ek6⟩ : ∃ j : Nat, j = p1.toNatClampNeg := ⟨_, rfl⟩
  replace h := And.right h k6 ek6
  have hk6 : k6 < 8 := by rw [ek6]; exact Nat.not_le.mp (fun q => hin (Or.inr q))
  refine xaldq hx hb hK hP 1 2 rfl rfl hin ek6 dX7_show_35 ?_
  refine lv_iload_n hx hb dX7_show_36 rfl (lv_at hl 2 rfl) ?_
  refine xend_rw_v (wf := fun (u : (zS)) => (wX2 K (hs k6) (as k6) u)) (xRunV (wc := (wX2 K (hs k6) (as k6) (sh k6))) (As := [.int p2]) (rest := []) C (c_X2_holdPupil h) k_X2_holdPupil mw_254 ⟨rfl, rfl⟩ ⟨Nat.le_of_ble_eq_true rfl, Nat.le_of_ble_eq_true rfl⟩ hP hD [3 + 2 * k6, 4 + 2 * k6] (wPl_C hk6) (xnd2 _) rfl rfl hl rfl rfl (Nat.le_of_ble_eq_true rfl) dX7_show_37 ⟨Nat.le_refl _, Nat.le_refl _⟩) hP hD hS hA [3 + 2 * k6, 4 + 2 * k6] (wPl_C hk6) (xnd2 _) (fun _ => rfl) (fun s8 H locs h hP hD hS => ?_)
  rw [wPl_set hk6] at hP hD
  replace hP : va_P D vwCl (wX7 K h0 a0 hs r0 ++ (wPl K hs as (va_up sh k6 s8) ++ (wX1 K (a0 0) a2 r2))) H := hP
  replace hD : va_D A (wX7 K h0 a0 hs r0 ++ (wPl K hs as (va_up sh k6 s8) ++ (wX1 K (a0 0) a2 r2))) := hD
  refine lv_iconst (v := 1) hx hb dX7_show_40 (by decide) ?_
  exact xrw_i C (r0, (va_up sh k6 s8)) h hP hS dX7_show_41
set_option maxHeartbeats 4000000 in
set_option maxRecDepth 100000 in
theorem c_X7_show {l : Launch} {D : va_G} {K : Nat → ClassId} {h0 : Nat} {a0 : Nat → Nat} {hs : Nat → Nat} {r0 : zS} {as : Nat → Nat → Nat} {sh : Nat → zS} {a2 : Nat → Nat} {r2 : zS} {p1 : Int32} {p2 : Int32} {sz : Nat} {post : Int32 → (zS) → (Nat → zS) → Prop}   (h : wp_X7_show r0 sh r2 p1 p2 post) : Met l yX7_show (Cond.code yX7_show cX7_show 3 (some .int) :: wsL_law) ({ frames := 1, cells := 0, slots := 0, locals := 22 } : Room) (va_Pc [.ref h0, .int p1, .int p2] (xPre D vwCl (xty K) (wX7 K h0 a0 hs r0 ++ (wPl K hs as sh ++ (wX1 K (a0 0) a2 r2))) sz)) (va_Qi (fun r (u : (zS) × (Nat → zS)) => post r u.1 u.2) (fun (u : (zS) × (Nat → zS)) t => va_P D vwCl (wX7 K h0 a0 hs u.1 ++ (wPl K hs as u.2 ++ (wX1 K (a0 0) a2 r2))) t.heap) (va_A (wX7 K h0 a0 hs r0 ++ (wPl K hs as sh ++ (wX1 K (a0 0) a2 r2))) sz)) 0 0 (va_A (wX7 K h0 a0 hs r0 ++ (wPl K hs as sh ++ (wX1 K (a0 0) a2 r2))) sz) := by
  refine xMet (by decide) rfl (Nat.le_of_ble_eq_true rfl) (fun p e s m args below meth c C hnm hP hD hsz ls hl => ?_)
  have hl : lv_has ls 3 [(0, .ref h0), (1, .int p1), (2, .int p2)] := hl
  obtain ⟨hx, hb, hr, hml, hown, hts, hlocks, hK, hT⟩ := id C
  subst hsz
  generalize hAe : va_A (wX7 K h0 a0 hs r0 ++ (wPl K hs as sh ++ (wX1 K (a0 0) a2 r2))) s.heap.size = A at hD ⊢
  have hA : ∀ q : Nat, s.heap.size ≤ q → A q := fun q h => by rw [← hAe]; exact Or.inr h
  have hS : va_S A s.heap s.heap [] := va_S.rf
  have hP : va_P D vwCl (wX7 K h0 a0 hs r0 ++ (wPl K hs as sh ++ (wX1 K (a0 0) a2 r2))) s.heap := hP
  unfold wp_X7_show at h
  refine lv_iload_n hx hb dX7_show_0 rfl (lv_at hl 1 rfl) ?_
  refine xend_ro_i (xRunS (wc := ([] : va_W)) (As := [.int p1]) (rest := []) C (c_X7_isShelf h) k_X7_isShelf mw_144 ⟨rfl, rfl⟩ ⟨Nat.le_of_ble_eq_true rfl, Nat.le_of_ble_eq_true rfl⟩ hP hD [] rfl rfl hl rfl rfl (Nat.le_of_ble_eq_true rfl) dX7_show_1 ⟨Nat.le_refl _, Nat.le_refl _⟩) (fun v1 h => ?_)
  refine lv_if_eq (tgt := 23) hx hb dX7_show_4 (by decide) (fun c2 => ?_) (fun c2 => ?_)
  · replace h := And.left h c2
    exact t_X7_show_23 C hA _ _ _ _ _ (lv_sub hl [0] rfl) hP hD hS h
  · replace h := And.right h c2
    refine lv_iload_n hx hb dX7_show_7 rfl (lv_at hl 2 rfl) ?_
    refine lv_iconst (v := -1) hx hb dX7_show_8 (by decide) ?_
    refine lv_icmp_eq (tgt := 30) hx hb dX7_show_9 (by decide) (fun c5 => ?_) (fun c5 => ?_)
    · replace h := And.left h c5
      exact t_X7_show_30 C hA _ _ _ _ _ (lv_sub hl [0, 1, 2] rfl) hP hD hS h
    · replace h := And.right h c5
      refine lv_aload_n hx hb dX7_show_12 rfl (lv_at hl 0 rfl) ?_
      refine va_get (D := D) (ci := 7) (v := .ref (a0 0)) (C := RX7) (T := TX7) (N := 13) hx hb hts inlX7 hown hK hP 0 rfl rfl 0 (by decide) (hts (.fieldLink RX7 10 "UnderTheDesks" "room" "LUnderTheDesks$Room;") mw_16) (fun _ h9 => h9) rfl dX7_show_13 ?_
      refine lv_iload_n hx hb dX7_show_16 rfl (lv_at hl 2 rfl) ?_
      refine xend_ro_i (xRunV (wc := (wX1 K (a0 0) a2 r2)) (As := [.int p2]) (rest := []) C (c_X1_has h) k_X1_has mw_250 ⟨rfl, rfl⟩ ⟨Nat.le_of_ble_eq_true rfl, Nat.le_of_ble_eq_true rfl⟩ hP hD [19, 20, 21, 22, 23, 24] rfl rfl rfl rfl hl rfl rfl (Nat.le_of_ble_eq_true rfl) dX7_show_17 ⟨Nat.le_refl _, Nat.le_refl _⟩) (fun v9 h => ?_)
      refine lv_if_ne (tgt := 30) hx hb dX7_show_20 (by decide) (fun c10 => ?_) (fun c10 => ?_)
      · replace h := And.right h c10
        exact t_X7_show_30 C hA _ _ _ _ _ (lv_sub hl [0, 1, 2] rfl) hP hD hS h
      · replace h := And.left h c10
        exact t_X7_show_23 C hA _ _ _ _ _ (lv_sub hl [0] rfl) hP hD hS h

def wp_X7_isKind (p0 : Int32) (post : Int32 → Prop) : Prop :=
  (p0 < 0 → post (0 : Int32) ) ∧ (¬ p0 < 0 → ((5 : Int32) < p0 → post (0 : Int32) ) ∧ (¬ (5 : Int32) < p0 → post (1 : Int32) ))
set_option maxHeartbeats 4000000 in
set_option maxRecDepth 100000 in
theorem c_X7_isKind {l : Launch} {D : va_G} {K : Nat → ClassId}  {p0 : Int32} {sz : Nat} {post : Int32 → Prop}   (h : wp_X7_isKind p0 post) : Met l yX7_isKind (Cond.code yX7_isKind cX7_isKind 1 (some .boolean) :: wsL_law) ({ frames := 0, cells := 0, slots := 0, locals := 0 } : Room) (va_Pc [.int p0] (xPre D vwCl (xty K) ([] : va_W) sz)) (roI post) 0 0 (fun _ => False) := by
  refine xMet (by decide) rfl (Nat.le_of_ble_eq_true rfl) (fun p e s m args below meth c C hnm hP hD hsz ls hl => ?_)
  have hl : lv_has ls 1 [(0, .int p0)] := hl
  obtain ⟨hx, hb, hr, hml, hown, hts, hlocks, hK, hT⟩ := id C
  unfold wp_X7_isKind at h
  refine lv_iload_n hx hb dX7_isKind_0 rfl (lv_at hl 0 rfl) ?_
  refine lv_if_lt (tgt := 13) hx hb dX7_isKind_1 (by decide) (fun c1 => ?_) (fun c1 => ?_)
  · replace h := And.left h c1
    refine lv_iconst (v := 0) hx hb dX7_isKind_13 (by decide) ?_
    exact xro_z C rfl h dX7_isKind_14
  · replace h := And.right h c1
    refine lv_iload_n hx hb dX7_isKind_4 rfl (lv_at hl 0 rfl) ?_
    refine lv_iconst (v := 5) hx hb dX7_isKind_5 (by decide) ?_
    refine lv_icmp_gt (tgt := 13) hx hb dX7_isKind_6 (by decide) (fun c2 => ?_) (fun c2 => ?_)
    · replace h := And.left h c2
      refine lv_iconst (v := 0) hx hb dX7_isKind_13 (by decide) ?_
      exact xro_z C rfl h dX7_isKind_14
    · replace h := And.right h c2
      refine lv_iconst (v := 1) hx hb dX7_isKind_9 (by decide) ?_
      refine lv_goto (tgt := 14) hx hb dX7_isKind_10 (by decide) ?_
      exact xro_z C rfl h dX7_isKind_14

def wp_X7_isUnder (p0 : Int32) (p1 : Int32) (post : Int32 → Prop) : Prop :=
  (p0 = p1 → post (1 : Int32) ) ∧ (¬ p0 = p1 → (p1 = 0 → post (1 : Int32) ) ∧ (¬ p1 = 0 → (p1 = (2 : Int32) → wp_X7_reads p0 (fun v4 => (v4 = 0 → post (0 : Int32) ) ∧ (¬ v4 = 0 → post (1 : Int32) ))) ∧ (¬ p1 = (2 : Int32) → post (0 : Int32) )))
set_option maxHeartbeats 4000000 in
set_option maxRecDepth 100000 in
theorem c_X7_isUnder {l : Launch} {D : va_G} {K : Nat → ClassId}  {p0 : Int32} {p1 : Int32} {sz : Nat} {post : Int32 → Prop}   (h : wp_X7_isUnder p0 p1 post) : Met l yX7_isUnder (Cond.code yX7_isUnder cX7_isUnder 2 (some .boolean) :: wsL_law) ({ frames := 1, cells := 0, slots := 0, locals := 20 } : Room) (va_Pc [.int p0, .int p1] (xPre D vwCl (xty K) ([] : va_W) sz)) (roI post) 0 0 (fun _ => False) := by
  refine xMet (by decide) rfl (Nat.le_of_ble_eq_true rfl) (fun p e s m args below meth c C hnm hP hD hsz ls hl => ?_)
  have hl : lv_has ls 2 [(0, .int p0), (1, .int p1)] := hl
  obtain ⟨hx, hb, hr, hml, hown, hts, hlocks, hK, hT⟩ := id C
  unfold wp_X7_isUnder at h
  refine lv_iload_n hx hb dX7_isUnder_0 rfl (lv_at hl 0 rfl) ?_
  refine lv_iload_n hx hb dX7_isUnder_1 rfl (lv_at hl 1 rfl) ?_
  refine lv_icmp_eq (tgt := 21) hx hb dX7_isUnder_2 (by decide) (fun c1 => ?_) (fun c1 => ?_)
  · replace h := And.left h c1
    refine lv_iconst (v := 1) hx hb dX7_isUnder_21 (by decide) ?_
    refine lv_goto (tgt := 26) hx hb dX7_isUnder_22 (by decide) ?_
    exact xro_z C rfl h dX7_isUnder_26
  · replace h := And.right h c1
    refine lv_iload_n hx hb dX7_isUnder_5 rfl (lv_at hl 1 rfl) ?_
    refine lv_if_eq (tgt := 21) hx hb dX7_isUnder_6 (by decide) (fun c2 => ?_) (fun c2 => ?_)
    · replace h := And.left h c2
      refine lv_iconst (v := 1) hx hb dX7_isUnder_21 (by decide) ?_
      refine lv_goto (tgt := 26) hx hb dX7_isUnder_22 (by decide) ?_
      exact xro_z C rfl h dX7_isUnder_26
    · replace h := And.right h c2
      refine lv_iload_n hx hb dX7_isUnder_9 rfl (lv_at hl 1 rfl) ?_
      refine lv_iconst (v := 2) hx hb dX7_isUnder_10 (by decide) ?_
      refine lv_icmp_ne (tgt := 25) hx hb dX7_isUnder_11 (by decide) (fun c3 => ?_) (fun c3 => ?_)
      · replace h := And.right h c3
        refine lv_iconst (v := 0) hx hb dX7_isUnder_25 (by decide) ?_
        exact xro_z C rfl h dX7_isUnder_26
      · replace h := And.left h c3
        refine lv_iload_n hx hb dX7_isUnder_14 rfl (lv_at hl 0 rfl) ?_
        refine xend_ro_i (xRunS (wc := ([] : va_W)) (As := [.int p0]) (rest := []) C (c_X7_reads h) k_X7_reads mw_287 ⟨rfl, rfl⟩ ⟨Nat.le_of_ble_eq_true rfl, Nat.le_of_ble_eq_true rfl⟩ hP hD [] rfl rfl hl rfl rfl (Nat.le_of_ble_eq_true rfl) dX7_isUnder_15 ⟨Nat.le_refl _, Nat.le_refl _⟩) (fun v4 h => ?_)
        refine lv_if_eq (tgt := 25) hx hb dX7_isUnder_18 (by decide) (fun c5 => ?_) (fun c5 => ?_)
        · replace h := And.left h c5
          refine lv_iconst (v := 0) hx hb dX7_isUnder_25 (by decide) ?_
          exact xro_z C rfl h dX7_isUnder_26
        · replace h := And.right h c5
          refine lv_iconst (v := 1) hx hb dX7_isUnder_21 (by decide) ?_
          refine lv_goto (tgt := 26) hx hb dX7_isUnder_22 (by decide) ?_
          exact xro_z C rfl h dX7_isUnder_26

def wp_X7_wordOf (r0 : zS) (r1 : zS) (p1 : Int32) (p2 : Int32) (post : Int32 → Prop) : Prop :=
  (p2 = 1 → wp_X1_plainLossOf r1 p1 (fun v2 => post v2 )) ∧ (p2 = 2 → wp_X1_neighboursOf r1 p1 (fun v3 => post v3 )) ∧ (p2 = 3 → wp_X1_markOf r1 p1 (fun v4 => post v4 )) ∧ (p2 = 4 → wp_X1_plainLossOf r1 p1 (fun v5 => post v5 )) ∧ (p2 = 5 → wp_X1_handOf r1 p1 (fun v6 => post v6 )) ∧ (¬ p2 = 1 → ¬ p2 = 2 → ¬ p2 = 3 → ¬ p2 = 4 → ¬ p2 = 5 → wp_X1_deskOf r1 p1 (fun v7 => post v7 ))
set_option maxHeartbeats 4000000 in
set_option maxRecDepth 100000 in
theorem c_X7_wordOf {l : Launch} {D : va_G} {K : Nat → ClassId} {h0 : Nat} {a0 : Nat → Nat} {hs : Nat → Nat} {r0 : zS} {a1 : Nat → Nat} {r1 : zS} {p1 : Int32} {p2 : Int32} {sz : Nat} {post : Int32 → Prop}   (h : wp_X7_wordOf r0 r1 p1 p2 post) : Met l yX7_wordOf (Cond.code yX7_wordOf cX7_wordOf 3 (some .int) :: wsL_law) ({ frames := 3, cells := 0, slots := 0, locals := 63 } : Room) (va_Pc [.ref h0, .int p1, .int p2] (xPre D vwCl (xty K) (wX7 K h0 a0 hs r0 ++ (wX1 K (a0 0) a1 r1)) sz)) (roI post) 0 0 (fun _ => False) := by
  refine xMet (by decide) rfl (Nat.le_of_ble_eq_true rfl) (fun p e s m args below meth c C hnm hP hD hsz ls hl => ?_)
  have hl : lv_has ls 3 [(0, .ref h0), (1, .int p1), (2, .int p2)] := hl
  obtain ⟨hx, hb, hr, hml, hown, hts, hlocks, hK, hT⟩ := id C
  unfold wp_X7_wordOf at h
  refine lv_iload_n hx hb dX7_wordOf_0 rfl (lv_at hl 2 rfl) ?_
  rcases (Decidable.em (p2 = 1)) with c1 | c1_1
  · have c1T := xsw c1
    replace h := And.left (h) c1
    refine lv_tableIn (tgt := 36) hx hb dX7_wordOf_1 (by rw [c1T]; decide) (by rw [c1T]; decide) (by rw [c1T] <;> rfl) (by decide) ?_
    refine lv_aload_n hx hb dX7_wordOf_36 rfl (lv_at hl 0 rfl) ?_
    refine va_get (D := D) (ci := 7) (v := .ref (a0 0)) (C := RX7) (T := TX7) (N := 13) hx hb hts inlX7 hown hK hP 0 rfl rfl 0 (by decide) (hts (.fieldLink RX7 10 "UnderTheDesks" "room" "LUnderTheDesks$Room;") mw_16) (fun _ h9 => h9) rfl dX7_wordOf_37 ?_
    refine lv_iload_n hx hb dX7_wordOf_40 rfl (lv_at hl 1 rfl) ?_
    refine xend_ro_i (xRunV (wc := (wX1 K (a0 0) a1 r1)) (As := [.int p1]) (rest := []) C (c_X1_plainLossOf h) k_X1_plainLossOf mw_294 ⟨rfl, rfl⟩ ⟨Nat.le_of_ble_eq_true rfl, Nat.le_of_ble_eq_true rfl⟩ hP hD [3, 4, 5, 6, 7, 8] rfl rfl rfl rfl hl rfl rfl (Nat.le_of_ble_eq_true rfl) dX7_wordOf_41 ⟨Nat.le_refl _, Nat.le_refl _⟩) (fun v2 h => ?_)
    exact xro_i C h dX7_wordOf_44
  rcases (Decidable.em (p2 = 2)) with c1 | c1_2
  · have c1T := xsw c1
    replace h := And.left (And.right (h)) c1
    refine lv_tableIn (tgt := 45) hx hb dX7_wordOf_1 (by rw [c1T]; decide) (by rw [c1T]; decide) (by rw [c1T] <;> rfl) (by decide) ?_
    refine lv_aload_n hx hb dX7_wordOf_45 rfl (lv_at hl 0 rfl) ?_
    refine va_get (D := D) (ci := 7) (v := .ref (a0 0)) (C := RX7) (T := TX7) (N := 13) hx hb hts inlX7 hown hK hP 0 rfl rfl 0 (by decide) (hts (.fieldLink RX7 10 "UnderTheDesks" "room" "LUnderTheDesks$Room;") mw_16) (fun _ h9 => h9) rfl dX7_wordOf_46 ?_
    refine lv_iload_n hx hb dX7_wordOf_49 rfl (lv_at hl 1 rfl) ?_
    refine xend_ro_i (xRunV (wc := (wX1 K (a0 0) a1 r1)) (As := [.int p1]) (rest := []) C (c_X1_neighboursOf h) k_X1_neighboursOf mw_298 ⟨rfl, rfl⟩ ⟨Nat.le_of_ble_eq_true rfl, Nat.le_of_ble_eq_true rfl⟩ hP hD [3, 4, 5, 6, 7, 8] rfl rfl rfl rfl hl rfl rfl (Nat.le_of_ble_eq_true rfl) dX7_wordOf_50 ⟨Nat.le_refl _, Nat.le_refl _⟩) (fun v3 h => ?_)
    exact xro_i C h dX7_wordOf_53
  rcases (Decidable.em (p2 = 3)) with c1 | c1_3
  · have c1T := xsw c1
    replace h := And.left (And.right (And.right (h))) c1
    refine lv_tableIn (tgt := 54) hx hb dX7_wordOf_1 (by rw [c1T]; decide) (by rw [c1T]; decide) (by rw [c1T] <;> rfl) (by decide) ?_
    refine lv_aload_n hx hb dX7_wordOf_54 rfl (lv_at hl 0 rfl) ?_
    refine va_get (D := D) (ci := 7) (v := .ref (a0 0)) (C := RX7) (T := TX7) (N := 13) hx hb hts inlX7 hown hK hP 0 rfl rfl 0 (by decide) (hts (.fieldLink RX7 10 "UnderTheDesks" "room" "LUnderTheDesks$Room;") mw_16) (fun _ h9 => h9) rfl dX7_wordOf_55 ?_
    refine lv_iload_n hx hb dX7_wordOf_58 rfl (lv_at hl 1 rfl) ?_
    refine xend_ro_i (xRunV (wc := (wX1 K (a0 0) a1 r1)) (As := [.int p1]) (rest := []) C (c_X1_markOf h) k_X1_markOf mw_313 ⟨rfl, rfl⟩ ⟨Nat.le_of_ble_eq_true rfl, Nat.le_of_ble_eq_true rfl⟩ hP hD [3, 4, 5, 6, 7, 8] rfl rfl rfl rfl hl rfl rfl (Nat.le_of_ble_eq_true rfl) dX7_wordOf_59 ⟨Nat.le_refl _, Nat.le_refl _⟩) (fun v4 h => ?_)
    exact xro_i C h dX7_wordOf_62
  rcases (Decidable.em (p2 = 4)) with c1 | c1_4
  · have c1T := xsw c1
    replace h := And.left (And.right (And.right (And.right (h)))) c1
    refine lv_tableIn (tgt := 36) hx hb dX7_wordOf_1 (by rw [c1T]; decide) (by rw [c1T]; decide) (by rw [c1T] <;> rfl) (by decide) ?_
    refine lv_aload_n hx hb dX7_wordOf_36 rfl (lv_at hl 0 rfl) ?_
    refine va_get (D := D) (ci := 7) (v := .ref (a0 0)) (C := RX7) (T := TX7) (N := 13) hx hb hts inlX7 hown hK hP 0 rfl rfl 0 (by decide) (hts (.fieldLink RX7 10 "UnderTheDesks" "room" "LUnderTheDesks$Room;") mw_16) (fun _ h9 => h9) rfl dX7_wordOf_37 ?_
    refine lv_iload_n hx hb dX7_wordOf_40 rfl (lv_at hl 1 rfl) ?_
    refine xend_ro_i (xRunV (wc := (wX1 K (a0 0) a1 r1)) (As := [.int p1]) (rest := []) C (c_X1_plainLossOf h) k_X1_plainLossOf mw_294 ⟨rfl, rfl⟩ ⟨Nat.le_of_ble_eq_true rfl, Nat.le_of_ble_eq_true rfl⟩ hP hD [3, 4, 5, 6, 7, 8] rfl rfl rfl rfl hl rfl rfl (Nat.le_of_ble_eq_true rfl) dX7_wordOf_41 ⟨Nat.le_refl _, Nat.le_refl _⟩) (fun v5 h => ?_)
    exact xro_i C h dX7_wordOf_44
  rcases (Decidable.em (p2 = 5)) with c1 | c1_5
  · have c1T := xsw c1
    replace h := And.left (And.right (And.right (And.right (And.right (h))))) c1
    refine lv_tableIn (tgt := 63) hx hb dX7_wordOf_1 (by rw [c1T]; decide) (by rw [c1T]; decide) (by rw [c1T] <;> rfl) (by decide) ?_
    refine lv_aload_n hx hb dX7_wordOf_63 rfl (lv_at hl 0 rfl) ?_
    refine va_get (D := D) (ci := 7) (v := .ref (a0 0)) (C := RX7) (T := TX7) (N := 13) hx hb hts inlX7 hown hK hP 0 rfl rfl 0 (by decide) (hts (.fieldLink RX7 10 "UnderTheDesks" "room" "LUnderTheDesks$Room;") mw_16) (fun _ h9 => h9) rfl dX7_wordOf_64 ?_
    refine lv_iload_n hx hb dX7_wordOf_67 rfl (lv_at hl 1 rfl) ?_
    refine xend_ro_i (xRunV (wc := (wX1 K (a0 0) a1 r1)) (As := [.int p1]) (rest := []) C (c_X1_handOf h) k_X1_handOf mw_317 ⟨rfl, rfl⟩ ⟨Nat.le_of_ble_eq_true rfl, Nat.le_of_ble_eq_true rfl⟩ hP hD [3, 4, 5, 6, 7, 8] rfl rfl rfl rfl hl rfl rfl (Nat.le_of_ble_eq_true rfl) dX7_wordOf_68 ⟨Nat.le_refl _, Nat.le_refl _⟩) (fun v6 h => ?_)
    exact xro_i C h dX7_wordOf_71
  replace h := And.right (And.right (And.right (And.right (And.right (h))))) c1_1 c1_2 c1_3 c1_4 c1_5
  have c1N_1 := lv_neT (a := 1) c1_1 rfl
  have c1N_2 := lv_neT (a := 2) c1_2 rfl
  have c1N_3 := lv_neT (a := 3) c1_3 rfl
  have c1N_4 := lv_neT (a := 4) c1_4 rfl
  have c1N_5 := lv_neT (a := 5) c1_5 rfl
  refine lv_tableOut (tgt := 72) hx hb dX7_wordOf_1 (by omega) (by decide) ?_
  refine lv_aload_n hx hb dX7_wordOf_72 rfl (lv_at hl 0 rfl) ?_
  refine va_get (D := D) (ci := 7) (v := .ref (a0 0)) (C := RX7) (T := TX7) (N := 13) hx hb hts inlX7 hown hK hP 0 rfl rfl 0 (by decide) (hts (.fieldLink RX7 10 "UnderTheDesks" "room" "LUnderTheDesks$Room;") mw_16) (fun _ h9 => h9) rfl dX7_wordOf_73 ?_
  refine lv_iload_n hx hb dX7_wordOf_76 rfl (lv_at hl 1 rfl) ?_
  refine xend_ro_i (xRunV (wc := (wX1 K (a0 0) a1 r1)) (As := [.int p1]) (rest := []) C (c_X1_deskOf h) k_X1_deskOf mw_322 ⟨rfl, rfl⟩ ⟨Nat.le_of_ble_eq_true rfl, Nat.le_of_ble_eq_true rfl⟩ hP hD [3, 4, 5, 6, 7, 8] rfl rfl rfl rfl hl rfl rfl (Nat.le_of_ble_eq_true rfl) dX7_wordOf_77 ⟨Nat.le_refl _, Nat.le_refl _⟩) (fun v7 h => ?_)
  exact xro_i C h dX7_wordOf_80

def wp_X7_says_14 (sh : Nat → zS) (r2 : zS) (p1 : Int32) (p2 : Int32) (post : Int32 → (zS) → Prop) (r0 : zS) : Prop :=
  wp_X7_refuse r0 (-2 : Int32) (fun v3 s4 => post v3 s4)
def wp_X7_says (r0 : zS) (sh : Nat → zS) (r2 : zS) (p1 : Int32) (p2 : Int32) (post : Int32 → (zS) → Prop) : Prop :=
  wp_X7_isShelf p1 (fun v1 => (v1 = 0 → wp_X7_says_14 sh r2 p1 p2 post r0) ∧ (¬ v1 = 0 → wp_X7_isKind p2 (fun v5 => (v5 = 0 → wp_X7_says_14 sh r2 p1 p2 post r0) ∧ (¬ v5 = 0 → vp_in p1 8 ∧ (∀ k7 : Nat, k7 = p1.toNatClampNeg → wp_X2_holdsRow (sh k7) (fun v8 => (v8 = 0 → vp_in p1 8 ∧ (∀ k10 : Nat, k10 = p1.toNatClampNeg → wp_X2_holdsPupil (sh k10) (fun v11 => (v11 = 0 → wp_X7_refuse r0 (-4 : Int32) (fun v21 s22 => post v21 s22)) ∧ (¬ v11 = 0 → vp_in p1 8 ∧ (∀ k13 : Nat, k13 = p1.toNatClampNeg → wp_X2_heldPupil (sh k13) (fun v14 => wp_X1_kindOf r2 v14 (fun v15 => wp_X7_isUnder v15 p2 (fun v16 => (v16 = 0 → wp_X7_refuse r0 (-3 : Int32) (fun v19 s20 => post v19 s20)) ∧ (¬ v16 = 0 → wp_X7_wordOf r0 r2 v14 p2 (fun v18 => post v18 r0)))))))))) ∧ (¬ v8 = 0 → wp_X7_refuse r0 (-3 : Int32) (fun v23 s24 => post v23 s24))))))))
set_option maxHeartbeats 4000000 in
set_option maxRecDepth 100000 in
theorem t_X7_says_14 {p : Program} {l : Launch} {e : Env} {s : State} {m : MethodId} {args : Array Value} {below : List Frame} {meth : Method} {c : Code} {D : va_G} {K : Nat → ClassId} {h0 : Nat} {a0 : Nat → Nat} {hs : Nat → Nat} {as : Nat → Nat → Nat} {sh : Nat → zS} {a2 : Nat → Nat} {r2 : zS} {p1 : Int32} {p2 : Int32} {post : Int32 → (zS) → Prop} {A : Nat → Prop} (C : xC p s m args meth c cX7_says RX7 4 (some .int) D vwCl (xty K)) (hA : ∀ q, s.heap.size ≤ q → A q) : ∀ (r0 : zS) (H : Heap) (locs : List Loc) (ls : Array Slot), lv_has ls 4 [(0, .ref h0)] → va_P D vwCl (wX7 K h0 a0 hs r0 ++ (wPl K hs as sh ++ (wX1 K (a0 0) a2 r2))) H → va_D A (wX7 K h0 a0 hs r0 ++ (wPl K hs as sh ++ (wX1 K (a0 0) a2 r2))) → va_S A s.heap H locs → wp_X7_says_14 sh r2 p1 p2 post r0 → W p l e ({ frames := 4, cells := 0, slots := 0, locals := 85 } : Room) s m args below meth c H locs 0 0 (MQ below (va_Qi (fun r (u : (zS)) => post r u) (fun (u : (zS)) t => va_P D vwCl (wX7 K h0 a0 hs u ++ (wPl K hs as sh ++ (wX1 K (a0 0) a2 r2))) t.heap) A) args s 0 0 A) (F0 m 14 ls []) := by
  obtain ⟨hx, hb, hr, hml, hown, hts, hlocks, hK, hT⟩ := id C
  intro r0 H locs ls hl hP hD hS h
  unfold wp_X7_says_14 at h
  refine lv_aload_n hx hb dX7_says_14 rfl (lv_at hl 0 rfl) ?_
  refine lv_bipush (v := -2) hx hb dX7_says_15 (by decide) ?_
  refine xend_rw_i (wf := fun (u : (zS)) => (wX7 K h0 a0 hs u)) (xRunV (wc := (wX7 K h0 a0 hs r0)) (As := [.int (-2 : Int32)]) (rest := []) C (c_X7_refuse h) k_X7_refuse mw_147 ⟨rfl, rfl⟩ ⟨Nat.le_of_ble_eq_true rfl, Nat.le_of_ble_eq_true rfl⟩ hP hD [0, 1, 2] rfl rfl rfl rfl hl rfl rfl (Nat.le_of_ble_eq_true rfl) dX7_says_17 ⟨Nat.le_refl _, Nat.le_refl _⟩) hP hD hS hA [0, 1, 2] rfl rfl (fun _ => rfl) (fun v3 s4 H locs h hP hD hS => ?_)
  replace hP : va_P D vwCl (wX7 K h0 a0 hs s4 ++ (wPl K hs as sh ++ (wX1 K (a0 0) a2 r2))) H := hP
  replace hD : va_D A (wX7 K h0 a0 hs s4 ++ (wPl K hs as sh ++ (wX1 K (a0 0) a2 r2))) := hD
  exact xrw_i C s4 h hP hS dX7_says_20
set_option maxHeartbeats 4000000 in
set_option maxRecDepth 100000 in
theorem c_X7_says {l : Launch} {D : va_G} {K : Nat → ClassId} {h0 : Nat} {a0 : Nat → Nat} {hs : Nat → Nat} {r0 : zS} {as : Nat → Nat → Nat} {sh : Nat → zS} {a2 : Nat → Nat} {r2 : zS} {p1 : Int32} {p2 : Int32} {sz : Nat} {post : Int32 → (zS) → Prop}   (h : wp_X7_says r0 sh r2 p1 p2 post) : Met l yX7_says (Cond.code yX7_says cX7_says 4 (some .int) :: wsL_law) ({ frames := 4, cells := 0, slots := 0, locals := 85 } : Room) (va_Pc [.ref h0, .int p1, .int p2] (xPre D vwCl (xty K) (wX7 K h0 a0 hs r0 ++ (wPl K hs as sh ++ (wX1 K (a0 0) a2 r2))) sz)) (va_Qi (fun r (u : (zS)) => post r u) (fun (u : (zS)) t => va_P D vwCl (wX7 K h0 a0 hs u ++ (wPl K hs as sh ++ (wX1 K (a0 0) a2 r2))) t.heap) (va_A (wX7 K h0 a0 hs r0 ++ (wPl K hs as sh ++ (wX1 K (a0 0) a2 r2))) sz)) 0 0 (va_A (wX7 K h0 a0 hs r0 ++ (wPl K hs as sh ++ (wX1 K (a0 0) a2 r2))) sz) := by
  refine xMet (by decide) rfl (Nat.le_of_ble_eq_true rfl) (fun p e s m args below meth c C hnm hP hD hsz ls hl => ?_)
  have hl : lv_has ls 4 [(0, .ref h0), (1, .int p1), (2, .int p2)] := hl
  obtain ⟨hx, hb, hr, hml, hown, hts, hlocks, hK, hT⟩ := id C
  subst hsz
  generalize hAe : va_A (wX7 K h0 a0 hs r0 ++ (wPl K hs as sh ++ (wX1 K (a0 0) a2 r2))) s.heap.size = A at hD ⊢
  have hA : ∀ q : Nat, s.heap.size ≤ q → A q := fun q h => by rw [← hAe]; exact Or.inr h
  have hS : va_S A s.heap s.heap [] := va_S.rf
  have hP : va_P D vwCl (wX7 K h0 a0 hs r0 ++ (wPl K hs as sh ++ (wX1 K (a0 0) a2 r2))) s.heap := hP
  unfold wp_X7_says at h
  refine lv_iload_n hx hb dX7_says_0 rfl (lv_at hl 1 rfl) ?_
  refine xend_ro_i (xRunS (wc := ([] : va_W)) (As := [.int p1]) (rest := []) C (c_X7_isShelf h) k_X7_isShelf mw_144 ⟨rfl, rfl⟩ ⟨Nat.le_of_ble_eq_true rfl, Nat.le_of_ble_eq_true rfl⟩ hP hD [] rfl rfl hl rfl rfl (Nat.le_of_ble_eq_true rfl) dX7_says_1 ⟨Nat.le_refl _, Nat.le_refl _⟩) (fun v1 h => ?_)
  refine lv_if_eq (tgt := 14) hx hb dX7_says_4 (by decide) (fun c2 => ?_) (fun c2 => ?_)
  · replace h := And.left h c2
    exact t_X7_says_14 C hA _ _ _ _ (lv_sub hl [0] rfl) hP hD hS h
  · replace h := And.right h c2
    refine lv_iload_n hx hb dX7_says_7 rfl (lv_at hl 2 rfl) ?_
    refine xend_ro_i (xRunS (wc := ([] : va_W)) (As := [.int p2]) (rest := []) C (c_X7_isKind h) k_X7_isKind mw_271 ⟨rfl, rfl⟩ ⟨Nat.le_of_ble_eq_true rfl, Nat.le_of_ble_eq_true rfl⟩ hP hD [] rfl rfl hl rfl rfl (Nat.le_of_ble_eq_true rfl) dX7_says_8 ⟨Nat.le_refl _, Nat.le_refl _⟩) (fun v5 h => ?_)
    refine lv_if_ne (tgt := 21) hx hb dX7_says_11 (by decide) (fun c6 => ?_) (fun c6 => ?_)
    · replace h := And.right h c6
      refine lv_aload_n hx hb dX7_says_21 rfl (lv_at hl 0 rfl) ?_
      refine va_get (D := D) (ci := 7) (v := .ref (a0 6)) (C := RX7) (T := TX7) (N := 13) hx hb hts inlX7 hown hK hP 0 rfl rfl 6 (by decide) (hts (.fieldLink RX7 38 "UnderTheDesks" "shelves" "[LUnderTheDesks$Shelf;") mw_26) (fun _ h9 => h9) rfl dX7_says_22 ?_
      refine lv_iload_n hx hb dX7_says_25 rfl (lv_at hl 1 rfl) ?_
      have hin := And.left h
      obtain ⟨k7, ek7⟩ : ∃ j : Nat, j = p1.toNatClampNeg := ⟨_, rfl⟩
      replace h := And.right h k7 ek7
      have hk7 : k7 < 8 := by rw [ek7]; exact Nat.not_le.mp (fun q => hin (Or.inr q))
      refine xaldq hx hb hK hP 1 2 rfl rfl hin ek7 dX7_says_26 ?_
      refine xend_ro_i (xRunV (wc := (wX2 K (hs k7) (as k7) (sh k7))) (As := []) (rest := []) C (c_X2_holdsRow h) k_X2_holdsRow mw_186 ⟨rfl, rfl⟩ ⟨Nat.le_of_ble_eq_true rfl, Nat.le_of_ble_eq_true rfl⟩ hP hD [3 + 2 * k7, 4 + 2 * k7] (wPl_C hk7) (xnd2 _) rfl rfl hl rfl rfl (Nat.le_of_ble_eq_true rfl) dX7_says_27 ⟨Nat.le_refl _, Nat.le_refl _⟩) (fun v8 h => ?_)
      refine lv_if_eq (tgt := 40) hx hb dX7_says_30 (by decide) (fun c9 => ?_) (fun c9 => ?_)
      · replace h := And.left h c9
        refine lv_aload_n hx hb dX7_says_40 rfl (lv_at hl 0 rfl) ?_
        refine va_get (D := D) (ci := 7) (v := .ref (a0 6)) (C := RX7) (T := TX7) (N := 13) hx hb hts inlX7 hown hK hP 0 rfl rfl 6 (by decide) (hts (.fieldLink RX7 38 "UnderTheDesks" "shelves" "[LUnderTheDesks$Shelf;") mw_26) (fun _ h9 => h9) rfl dX7_says_41 ?_
        refine lv_iload_n hx hb dX7_says_44 rfl (lv_at hl 1 rfl) ?_
        have hin := And.left h
        obtain ⟨k10, ek10⟩ : ∃ j : Nat, j = p1.toNatClampNeg := ⟨_, rfl⟩
        replace h := And.right h k10 ek10
        have hk10 : k10 < 8 := by rw [ek10]; exact Nat.not_le.mp (fun q => hin (Or.inr q))
        refine xaldq hx hb hK hP 1 2 rfl rfl hin ek10 dX7_says_45 ?_
        refine xend_ro_i (xRunV (wc := (wX2 K (hs k10) (as k10) (sh k10))) (As := []) (rest := []) C (c_X2_holdsPupil h) k_X2_holdsPupil mw_182 ⟨rfl, rfl⟩ ⟨Nat.le_of_ble_eq_true rfl, Nat.le_of_ble_eq_true rfl⟩ hP hD [3 + 2 * k10, 4 + 2 * k10] (wPl_C hk10) (xnd2 _) rfl rfl hl rfl rfl (Nat.le_of_ble_eq_true rfl) dX7_says_46 ⟨Nat.le_refl _, Nat.le_refl _⟩) (fun v11 h => ?_)
        refine lv_if_ne (tgt := 59) hx hb dX7_says_49 (by decide) (fun c12 => ?_) (fun c12 => ?_)
        · replace h := And.right h c12
          refine lv_aload_n hx hb dX7_says_59 rfl (lv_at hl 0 rfl) ?_
          refine va_get (D := D) (ci := 7) (v := .ref (a0 6)) (C := RX7) (T := TX7) (N := 13) hx hb hts inlX7 hown hK hP 0 rfl rfl 6 (by decide) (hts (.fieldLink RX7 38 "UnderTheDesks" "shelves" "[LUnderTheDesks$Shelf;") mw_26) (fun _ h9 => h9) rfl dX7_says_60 ?_
          refine lv_iload_n hx hb dX7_says_63 rfl (lv_at hl 1 rfl) ?_
          have hin := And.left h
          obtain ⟨k13, ek13⟩ : ∃ j : Nat, j = p1.toNatClampNeg := ⟨_, rfl⟩
          replace h := And.right h k13 ek13
          have hk13 : k13 < 8 := by rw [ek13]; exact Nat.not_le.mp (fun q => hin (Or.inr q))
          refine xaldq hx hb hK hP 1 2 rfl rfl hin ek13 dX7_says_64 ?_
          refine xend_ro_i (xRunV (wc := (wX2 K (hs k13) (as k13) (sh k13))) (As := []) (rest := []) C (c_X2_heldPupil h) k_X2_heldPupil mw_274 ⟨rfl, rfl⟩ ⟨Nat.le_of_ble_eq_true rfl, Nat.le_of_ble_eq_true rfl⟩ hP hD [3 + 2 * k13, 4 + 2 * k13] (wPl_C hk13) (xnd2 _) rfl rfl hl rfl rfl (Nat.le_of_ble_eq_true rfl) dX7_says_65 ⟨Nat.le_refl _, Nat.le_refl _⟩) (fun v14 h => ?_)
          refine lv_istore_n (lv' := [(3, .int v14), (0, .ref h0), (1, .int p1), (2, .int p2)]) hx hb dX7_says_68 rfl hl (by decide) rfl (fun ls hl => ?_)
          refine lv_aload_n hx hb dX7_says_69 rfl (lv_at hl 1 rfl) ?_
          refine va_get (D := D) (ci := 7) (v := .ref (a0 0)) (C := RX7) (T := TX7) (N := 13) hx hb hts inlX7 hown hK hP 0 rfl rfl 0 (by decide) (hts (.fieldLink RX7 10 "UnderTheDesks" "room" "LUnderTheDesks$Room;") mw_16) (fun _ h9 => h9) rfl dX7_says_70 ?_
          refine lv_iload_n hx hb dX7_says_73 rfl (lv_at hl 0 rfl) ?_
          refine xend_ro_i (xRunV (wc := (wX1 K (a0 0) a2 r2)) (As := [.int v14]) (rest := []) C (c_X1_kindOf h) k_X1_kindOf mw_279 ⟨rfl, rfl⟩ ⟨Nat.le_of_ble_eq_true rfl, Nat.le_of_ble_eq_true rfl⟩ hP hD [19, 20, 21, 22, 23, 24] rfl rfl rfl rfl hl rfl rfl (Nat.le_of_ble_eq_true rfl) dX7_says_74 ⟨Nat.le_refl _, Nat.le_refl _⟩) (fun v15 h => ?_)
          refine lv_iload_n hx hb dX7_says_77 rfl (lv_at hl 3 rfl) ?_
          refine xend_ro_i (xRunS (wc := ([] : va_W)) (As := [.int v15, .int p2]) (rest := []) C (c_X7_isUnder h) k_X7_isUnder mw_284 ⟨rfl, rfl⟩ ⟨Nat.le_of_ble_eq_true rfl, Nat.le_of_ble_eq_true rfl⟩ hP hD [] rfl rfl hl rfl rfl (Nat.le_of_ble_eq_true rfl) dX7_says_78 ⟨Nat.le_refl _, Nat.le_refl _⟩) (fun v16 h => ?_)
          refine lv_if_ne (tgt := 91) hx hb dX7_says_81 (by decide) (fun c17 => ?_) (fun c17 => ?_)
          · replace h := And.right h c17
            refine lv_aload_n hx hb dX7_says_91 rfl (lv_at hl 1 rfl) ?_
            refine lv_iload_n hx hb dX7_says_92 rfl (lv_at hl 0 rfl) ?_
            refine lv_iload_n hx hb dX7_says_93 rfl (lv_at hl 3 rfl) ?_
            refine xend_ro_i (xRunV (wc := (wX7 K h0 a0 hs r0 ++ (wX1 K (a0 0) a2 r2))) (As := [.int v14, .int p2]) (rest := []) C (c_X7_wordOf h) k_X7_wordOf mw_290 ⟨rfl, rfl⟩ ⟨Nat.le_of_ble_eq_true rfl, Nat.le_of_ble_eq_true rfl⟩ hP hD [0, 1, 2, 19, 20, 21, 22, 23, 24] rfl rfl rfl rfl hl rfl rfl (Nat.le_of_ble_eq_true rfl) dX7_says_94 ⟨Nat.le_refl _, Nat.le_refl _⟩) (fun v18 h => ?_)
            exact xrw_i C r0 h hP hS dX7_says_97
          · replace h := And.left h c17
            refine lv_aload_n hx hb dX7_says_84 rfl (lv_at hl 1 rfl) ?_
            refine lv_bipush (v := -3) hx hb dX7_says_85 (by decide) ?_
            refine xend_rw_i (wf := fun (u : (zS)) => (wX7 K h0 a0 hs u)) (xRunV (wc := (wX7 K h0 a0 hs r0)) (As := [.int (-3 : Int32)]) (rest := []) C (c_X7_refuse h) k_X7_refuse mw_147 ⟨rfl, rfl⟩ ⟨Nat.le_of_ble_eq_true rfl, Nat.le_of_ble_eq_true rfl⟩ hP hD [0, 1, 2] rfl rfl rfl rfl hl rfl rfl (Nat.le_of_ble_eq_true rfl) dX7_says_87 ⟨Nat.le_refl _, Nat.le_refl _⟩) hP hD hS hA [0, 1, 2] rfl rfl (fun _ => rfl) (fun v19 s20 H locs h hP hD hS => ?_)
            replace hP : va_P D vwCl (wX7 K h0 a0 hs s20 ++ (wPl K hs as sh ++ (wX1 K (a0 0) a2 r2))) H := hP
            replace hD : va_D A (wX7 K h0 a0 hs s20 ++ (wPl K hs as sh ++ (wX1 K (a0 0) a2 r2))) := hD
            exact xrw_i C s20 h hP hS dX7_says_90
        · replace h := And.left h c12
          refine lv_aload_n hx hb dX7_says_52 rfl (lv_at hl 0 rfl) ?_
          refine lv_bipush (v := -4) hx hb dX7_says_53 (by decide) ?_
          refine xend_rw_i (wf := fun (u : (zS)) => (wX7 K h0 a0 hs u)) (xRunV (wc := (wX7 K h0 a0 hs r0)) (As := [.int (-4 : Int32)]) (rest := []) C (c_X7_refuse h) k_X7_refuse mw_147 ⟨rfl, rfl⟩ ⟨Nat.le_of_ble_eq_true rfl, Nat.le_of_ble_eq_true rfl⟩ hP hD [0, 1, 2] rfl rfl rfl rfl hl rfl rfl (Nat.le_of_ble_eq_true rfl) dX7_says_55 ⟨Nat.le_refl _, Nat.le_refl _⟩) hP hD hS hA [0, 1, 2] rfl rfl (fun _ => rfl) (fun v21 s22 H locs h hP hD hS => ?_)
          replace hP : va_P D vwCl (wX7 K h0 a0 hs s22 ++ (wPl K hs as sh ++ (wX1 K (a0 0) a2 r2))) H := hP
          replace hD : va_D A (wX7 K h0 a0 hs s22 ++ (wPl K hs as sh ++ (wX1 K (a0 0) a2 r2))) := hD
          exact xrw_i C s22 h hP hS dX7_says_58
      · replace h := And.right h c9
        refine lv_aload_n hx hb dX7_says_33 rfl (lv_at hl 0 rfl) ?_
        refine lv_bipush (v := -3) hx hb dX7_says_34 (by decide) ?_
        refine xend_rw_i (wf := fun (u : (zS)) => (wX7 K h0 a0 hs u)) (xRunV (wc := (wX7 K h0 a0 hs r0)) (As := [.int (-3 : Int32)]) (rest := []) C (c_X7_refuse h) k_X7_refuse mw_147 ⟨rfl, rfl⟩ ⟨Nat.le_of_ble_eq_true rfl, Nat.le_of_ble_eq_true rfl⟩ hP hD [0, 1, 2] rfl rfl rfl rfl hl rfl rfl (Nat.le_of_ble_eq_true rfl) dX7_says_36 ⟨Nat.le_refl _, Nat.le_refl _⟩) hP hD hS hA [0, 1, 2] rfl rfl (fun _ => rfl) (fun v23 s24 H locs h hP hD hS => ?_)
        replace hP : va_P D vwCl (wX7 K h0 a0 hs s24 ++ (wPl K hs as sh ++ (wX1 K (a0 0) a2 r2))) H := hP
        replace hD : va_D A (wX7 K h0 a0 hs s24 ++ (wPl K hs as sh ++ (wX1 K (a0 0) a2 r2))) := hD
        exact xrw_i C s24 h hP hS dX7_says_39
    · replace h := And.left h c6
      exact t_X7_says_14 C hA _ _ _ _ (lv_sub hl [0] rfl) hP hD hS h

def wp_X7_isRowCount (p0 : Int32) (post : Int32 → Prop) : Prop :=
  (p0 < (2 : Int32) → post (0 : Int32) ) ∧ (¬ p0 < (2 : Int32) → ((4 : Int32) < p0 → post (0 : Int32) ) ∧ (¬ (4 : Int32) < p0 → post (1 : Int32) ))
set_option maxHeartbeats 4000000 in
set_option maxRecDepth 100000 in
theorem c_X7_isRowCount {l : Launch} {D : va_G} {K : Nat → ClassId}  {p0 : Int32} {sz : Nat} {post : Int32 → Prop}   (h : wp_X7_isRowCount p0 post) : Met l yX7_isRowCount (Cond.code yX7_isRowCount cX7_isRowCount 1 (some .boolean) :: wsL_law) ({ frames := 0, cells := 0, slots := 0, locals := 0 } : Room) (va_Pc [.int p0] (xPre D vwCl (xty K) ([] : va_W) sz)) (roI post) 0 0 (fun _ => False) := by
  refine xMet (by decide) rfl (Nat.le_of_ble_eq_true rfl) (fun p e s m args below meth c C hnm hP hD hsz ls hl => ?_)
  have hl : lv_has ls 1 [(0, .int p0)] := hl
  obtain ⟨hx, hb, hr, hml, hown, hts, hlocks, hK, hT⟩ := id C
  unfold wp_X7_isRowCount at h
  refine lv_iload_n hx hb dX7_isRowCount_0 rfl (lv_at hl 0 rfl) ?_
  refine lv_iconst (v := 2) hx hb dX7_isRowCount_1 (by decide) ?_
  refine lv_icmp_lt (tgt := 14) hx hb dX7_isRowCount_2 (by decide) (fun c1 => ?_) (fun c1 => ?_)
  · replace h := And.left h c1
    refine lv_iconst (v := 0) hx hb dX7_isRowCount_14 (by decide) ?_
    exact xro_z C rfl h dX7_isRowCount_15
  · replace h := And.right h c1
    refine lv_iload_n hx hb dX7_isRowCount_5 rfl (lv_at hl 0 rfl) ?_
    refine lv_iconst (v := 4) hx hb dX7_isRowCount_6 (by decide) ?_
    refine lv_icmp_gt (tgt := 14) hx hb dX7_isRowCount_7 (by decide) (fun c2 => ?_) (fun c2 => ?_)
    · replace h := And.left h c2
      refine lv_iconst (v := 0) hx hb dX7_isRowCount_14 (by decide) ?_
      exact xro_z C rfl h dX7_isRowCount_15
    · replace h := And.right h c2
      refine lv_iconst (v := 1) hx hb dX7_isRowCount_10 (by decide) ?_
      refine lv_goto (tgt := 15) hx hb dX7_isRowCount_11 (by decide) ?_
      exact xro_z C rfl h dX7_isRowCount_15

def wp_X7_rows (r0 : zS) (r1 : zS) (p1 : Int32) (post : Int32 → (zS) → (zS) → Prop) : Prop :=
  wp_X7_isRowCount p1 (fun v1 => (v1 = 0 → wp_X7_refuse r0 (-2 : Int32) (fun v7 s8 => post v7 s8 r1)) ∧ (¬ v1 = 0 → ((r1.1 1) ≤ 0 → ∀ v4 : Int32, v4 = (r1.1 0) → post v4 r0 (zI r1 0 p1)) ∧ (¬ (r1.1 1) ≤ 0 → wp_X7_refuse r0 (-5 : Int32) (fun v5 s6 => post v5 s6 r1))))
set_option maxHeartbeats 4000000 in
set_option maxRecDepth 100000 in
theorem c_X7_rows {l : Launch} {D : va_G} {K : Nat → ClassId} {h0 : Nat} {a0 : Nat → Nat} {hs : Nat → Nat} {r0 : zS} {a1 : Nat → Nat} {r1 : zS} {p1 : Int32} {sz : Nat} {post : Int32 → (zS) → (zS) → Prop}   (h : wp_X7_rows r0 r1 p1 post) : Met l yX7_rows (Cond.code yX7_rows cX7_rows 3 (some .int) :: wsL_law) ({ frames := 1, cells := 0, slots := 0, locals := 22 } : Room) (va_Pc [.ref h0, .int p1] (xPre D vwCl (xty K) (wX7 K h0 a0 hs r0 ++ (wX1 K (a0 0) a1 r1)) sz)) (va_Qi (fun r (u : (zS) × (zS)) => post r u.1 u.2) (fun (u : (zS) × (zS)) t => va_P D vwCl (wX7 K h0 a0 hs u.1 ++ (wX1 K (a0 0) a1 u.2)) t.heap) (va_A (wX7 K h0 a0 hs r0 ++ (wX1 K (a0 0) a1 r1)) sz)) 0 0 (va_A (wX7 K h0 a0 hs r0 ++ (wX1 K (a0 0) a1 r1)) sz) := by
  refine xMet (by decide) rfl (Nat.le_of_ble_eq_true rfl) (fun p e s m args below meth c C hnm hP hD hsz ls hl => ?_)
  have hl : lv_has ls 3 [(0, .ref h0), (1, .int p1)] := hl
  obtain ⟨hx, hb, hr, hml, hown, hts, hlocks, hK, hT⟩ := id C
  subst hsz
  generalize hAe : va_A (wX7 K h0 a0 hs r0 ++ (wX1 K (a0 0) a1 r1)) s.heap.size = A at hD ⊢
  have hA : ∀ q : Nat, s.heap.size ≤ q → A q := fun q h => by rw [← hAe]; exact Or.inr h
  have hS : va_S A s.heap s.heap [] := va_S.rf
  have hP : va_P D vwCl (wX7 K h0 a0 hs r0 ++ (wX1 K (a0 0) a1 r1)) s.heap := hP
  unfold wp_X7_rows at h
  refine lv_iload_n hx hb dX7_rows_0 rfl (lv_at hl 1 rfl) ?_
  refine xend_ro_i (xRunS (wc := ([] : va_W)) (As := [.int p1]) (rest := []) C (c_X7_isRowCount h) k_X7_isRowCount mw_362 ⟨rfl, rfl⟩ ⟨Nat.le_of_ble_eq_true rfl, Nat.le_of_ble_eq_true rfl⟩ hP hD [] rfl rfl hl rfl rfl (Nat.le_of_ble_eq_true rfl) dX7_rows_1 ⟨Nat.le_refl _, Nat.le_refl _⟩) (fun v1 h => ?_)
  refine lv_if_ne (tgt := 14) hx hb dX7_rows_4 (by decide) (fun c2 => ?_) (fun c2 => ?_)
  · replace h := And.right h c2
    refine lv_aload_n hx hb dX7_rows_14 rfl (lv_at hl 0 rfl) ?_
    refine va_get (D := D) (ci := 7) (v := .ref (a0 0)) (C := RX7) (T := TX7) (N := 13) hx hb hts inlX7 hown hK hP 0 rfl rfl 0 (by decide) (hts (.fieldLink RX7 10 "UnderTheDesks" "room" "LUnderTheDesks$Room;") mw_16) (fun _ h9 => h9) rfl dX7_rows_15 ?_
    refine va_get (D := D) (ci := 1) (v := .int (r1.1 1)) (C := RX1) (T := TX1) (N := 10) hx hb hts inlX1 hown hK hP 3 rfl rfl 1 (by decide) (hts (.fieldLink RX7 161 "UnderTheDesks$Room" "count" "I") mw_360) (fun _ h9 => h9) rfl dX7_rows_18 ?_
    refine lv_if_le (tgt := 31) hx hb dX7_rows_21 (by decide) (fun c3 => ?_) (fun c3 => ?_)
    · replace h := And.left h c3
      refine lv_aload_n hx hb dX7_rows_31 rfl (lv_at hl 0 rfl) ?_
      refine va_get (D := D) (ci := 7) (v := .ref (a0 0)) (C := RX7) (T := TX7) (N := 13) hx hb hts inlX7 hown hK hP 0 rfl rfl 0 (by decide) (hts (.fieldLink RX7 10 "UnderTheDesks" "room" "LUnderTheDesks$Room;") mw_16) (fun _ h9 => h9) rfl dX7_rows_32 ?_
      refine va_get (D := D) (ci := 1) (v := .int (r1.1 0)) (C := RX1) (T := TX1) (N := 10) hx hb hts inlX1 hown hK hP 3 rfl rfl 0 (by decide) (hts (.fieldLink RX7 164 "UnderTheDesks$Room" "rowCount" "I") mw_361) (fun _ h9 => h9) rfl dX7_rows_35 ?_
      refine lv_topi (fun v4 ev4 => ?_)
      replace h := h v4 ev4
      refine lv_istore_n (lv' := [(2, .int v4), (0, .ref h0), (1, .int p1)]) hx hb dX7_rows_38 rfl hl (by decide) rfl (fun ls hl => ?_)
      refine lv_aload_n hx hb dX7_rows_39 rfl (lv_at hl 1 rfl) ?_
      refine va_get (D := D) (ci := 7) (v := .ref (a0 0)) (C := RX7) (T := TX7) (N := 13) hx hb hts inlX7 hown hK hP 0 rfl rfl 0 (by decide) (hts (.fieldLink RX7 10 "UnderTheDesks" "room" "LUnderTheDesks$Room;") mw_16) (fun _ h9 => h9) rfl dX7_rows_40 ?_
      refine lv_iload_n hx hb dX7_rows_43 rfl (lv_at hl 2 rfl) ?_
      refine va_put (D := D) (ci := 1) (v := .int p1) (ty := .int) (C := RX1) (T := TX1) (N := 10) hx hb hts inlX1 tyX1 tyX1_ok nmX1 hown hK hP hD hS 3 rfl rfl 0 (by decide) (hts (.fieldLink RX7 164 "UnderTheDesks$Room" "rowCount" "I") mw_361) (fun _ h9 => h9) rfl (by decide +kernel) rfl rfl (Nat.le_of_ble_eq_true rfl) dX7_rows_44 (fun H locs hP hD hS => ?_)
      replace hP : va_P D vwCl (wX7 K h0 a0 hs r0 ++ (wX1 K (a0 0) a1 (zI r1 0 p1))) H := hP
      replace hD : va_D A (wX7 K h0 a0 hs r0 ++ (wX1 K (a0 0) a1 (zI r1 0 p1))) := hD
      refine lv_iload_n hx hb dX7_rows_47 rfl (lv_at hl 0 rfl) ?_
      exact xrw_i C (r0, (zI r1 0 p1)) h hP hS dX7_rows_48
    · replace h := And.right h c3
      refine lv_aload_n hx hb dX7_rows_24 rfl (lv_at hl 0 rfl) ?_
      refine lv_bipush (v := -5) hx hb dX7_rows_25 (by decide) ?_
      refine xend_rw_i (wf := fun (u : (zS)) => (wX7 K h0 a0 hs u)) (xRunV (wc := (wX7 K h0 a0 hs r0)) (As := [.int (-5 : Int32)]) (rest := []) C (c_X7_refuse h) k_X7_refuse mw_147 ⟨rfl, rfl⟩ ⟨Nat.le_of_ble_eq_true rfl, Nat.le_of_ble_eq_true rfl⟩ hP hD [0, 1, 2] rfl rfl rfl rfl hl rfl rfl (Nat.le_of_ble_eq_true rfl) dX7_rows_27 ⟨Nat.le_refl _, Nat.le_refl _⟩) hP hD hS hA [0, 1, 2] rfl rfl (fun _ => rfl) (fun v5 s6 H locs h hP hD hS => ?_)
      replace hP : va_P D vwCl (wX7 K h0 a0 hs s6 ++ (wX1 K (a0 0) a1 r1)) H := hP
      replace hD : va_D A (wX7 K h0 a0 hs s6 ++ (wX1 K (a0 0) a1 r1)) := hD
      exact xrw_i C (s6, r1) h hP hS dX7_rows_30
  · replace h := And.left h c2
    refine lv_aload_n hx hb dX7_rows_7 rfl (lv_at hl 0 rfl) ?_
    refine lv_bipush (v := -2) hx hb dX7_rows_8 (by decide) ?_
    refine xend_rw_i (wf := fun (u : (zS)) => (wX7 K h0 a0 hs u)) (xRunV (wc := (wX7 K h0 a0 hs r0)) (As := [.int (-2 : Int32)]) (rest := []) C (c_X7_refuse h) k_X7_refuse mw_147 ⟨rfl, rfl⟩ ⟨Nat.le_of_ble_eq_true rfl, Nat.le_of_ble_eq_true rfl⟩ hP hD [0, 1, 2] rfl rfl rfl rfl hl rfl rfl (Nat.le_of_ble_eq_true rfl) dX7_rows_10 ⟨Nat.le_refl _, Nat.le_refl _⟩) hP hD hS hA [0, 1, 2] rfl rfl (fun _ => rfl) (fun v7 s8 H locs h hP hD hS => ?_)
    replace hP : va_P D vwCl (wX7 K h0 a0 hs s8 ++ (wX1 K (a0 0) a1 r1)) H := hP
    replace hD : va_D A (wX7 K h0 a0 hs s8 ++ (wX1 K (a0 0) a1 r1)) := hD
    exact xrw_i C (s8, r1) h hP hS dX7_rows_13

def wp_X7_isMark (p0 : Int32) (post : Int32 → Prop) : Prop :=
  (p0 < 0 → post (0 : Int32) ) ∧ (¬ p0 < 0 → ((9 : Int32) < p0 → post (0 : Int32) ) ∧ (¬ (9 : Int32) < p0 → post (1 : Int32) ))
set_option maxHeartbeats 4000000 in
set_option maxRecDepth 100000 in
theorem c_X7_isMark {l : Launch} {D : va_G} {K : Nat → ClassId}  {p0 : Int32} {sz : Nat} {post : Int32 → Prop}   (h : wp_X7_isMark p0 post) : Met l yX7_isMark (Cond.code yX7_isMark cX7_isMark 1 (some .boolean) :: wsL_law) ({ frames := 0, cells := 0, slots := 0, locals := 0 } : Room) (va_Pc [.int p0] (xPre D vwCl (xty K) ([] : va_W) sz)) (roI post) 0 0 (fun _ => False) := by
  refine xMet (by decide) rfl (Nat.le_of_ble_eq_true rfl) (fun p e s m args below meth c C hnm hP hD hsz ls hl => ?_)
  have hl : lv_has ls 1 [(0, .int p0)] := hl
  obtain ⟨hx, hb, hr, hml, hown, hts, hlocks, hK, hT⟩ := id C
  unfold wp_X7_isMark at h
  refine lv_iload_n hx hb dX7_isMark_0 rfl (lv_at hl 0 rfl) ?_
  refine lv_if_lt (tgt := 14) hx hb dX7_isMark_1 (by decide) (fun c1 => ?_) (fun c1 => ?_)
  · replace h := And.left h c1
    refine lv_iconst (v := 0) hx hb dX7_isMark_14 (by decide) ?_
    exact xro_z C rfl h dX7_isMark_15
  · replace h := And.right h c1
    refine lv_iload_n hx hb dX7_isMark_4 rfl (lv_at hl 0 rfl) ?_
    refine lv_bipush (v := 9) hx hb dX7_isMark_5 (by decide) ?_
    refine lv_icmp_gt (tgt := 14) hx hb dX7_isMark_7 (by decide) (fun c2 => ?_) (fun c2 => ?_)
    · replace h := And.left h c2
      refine lv_iconst (v := 0) hx hb dX7_isMark_14 (by decide) ?_
      exact xro_z C rfl h dX7_isMark_15
    · replace h := And.right h c2
      refine lv_iconst (v := 1) hx hb dX7_isMark_10 (by decide) ?_
      refine lv_goto (tgt := 15) hx hb dX7_isMark_11 (by decide) ?_
      exact xro_z C rfl h dX7_isMark_15

def wp_X7_pupil_25 (p1 : Int32) (p2 : Int32) (p3 : Int32) (post : Int32 → (zS) → (zS) → Prop) (r0 : zS) (r1 : zS) : Prop :=
  wp_X7_refuse r0 (-2 : Int32) (fun v3 s4 => post v3 s4 r1)
def wp_X7_pupil (r0 : zS) (r1 : zS) (p1 : Int32) (p2 : Int32) (p3 : Int32) (post : Int32 → (zS) → (zS) → Prop) : Prop :=
  wp_X7_isKind p1 (fun v1 => (v1 = 0 → wp_X7_pupil_25 p1 p2 p3 post r0 r1) ∧ (¬ v1 = 0 → wp_X1_hasDesk r1 p2 (fun v5 => (v5 = 0 → wp_X7_pupil_25 p1 p2 p3 post r0 r1) ∧ (¬ v5 = 0 → wp_X7_isMark p3 (fun v7 => (v7 = 0 → wp_X7_pupil_25 p1 p2 p3 post r0 r1) ∧ (¬ v7 = 0 → wp_X1_holderOf r1 p2 (fun v9 => (v9 = (-1 : Int32) → wp_X1_isFull r1 (fun v11 => (v11 = 0 → wp_X1_seat r1 p1 p2 p3 (fun v13 s14 => post v13 r0 s14)) ∧ (¬ v11 = 0 → wp_X7_refuse r0 (-6 : Int32) (fun v15 s16 => post v15 s16 r1)))) ∧ (¬ v9 = (-1 : Int32) → wp_X7_refuse r0 (-5 : Int32) (fun v17 s18 => post v17 s18 r1)))))))))
set_option maxHeartbeats 4000000 in
set_option maxRecDepth 100000 in
theorem t_X7_pupil_25 {p : Program} {l : Launch} {e : Env} {s : State} {m : MethodId} {args : Array Value} {below : List Frame} {meth : Method} {c : Code} {D : va_G} {K : Nat → ClassId} {h0 : Nat} {a0 : Nat → Nat} {hs : Nat → Nat} {a1 : Nat → Nat} {p1 : Int32} {p2 : Int32} {p3 : Int32} {post : Int32 → (zS) → (zS) → Prop} {A : Nat → Prop} (C : xC p s m args meth c cX7_pupil RX7 4 (some .int) D vwCl (xty K)) (hA : ∀ q, s.heap.size ≤ q → A q) : ∀ (r0 : zS) (r1 : zS) (H : Heap) (locs : List Loc) (ls : Array Slot), lv_has ls 4 [(0, .ref h0)] → va_P D vwCl (wX7 K h0 a0 hs r0 ++ (wX1 K (a0 0) a1 r1)) H → va_D A (wX7 K h0 a0 hs r0 ++ (wX1 K (a0 0) a1 r1)) → va_S A s.heap H locs → wp_X7_pupil_25 p1 p2 p3 post r0 r1 → W p l e ({ frames := 4, cells := 0, slots := 0, locals := 147 } : Room) s m args below meth c H locs 0 0 (MQ below (va_Qi (fun r (u : (zS) × (zS)) => post r u.1 u.2) (fun (u : (zS) × (zS)) t => va_P D vwCl (wX7 K h0 a0 hs u.1 ++ (wX1 K (a0 0) a1 u.2)) t.heap) A) args s 0 0 A) (F0 m 25 ls []) := by
  obtain ⟨hx, hb, hr, hml, hown, hts, hlocks, hK, hT⟩ := id C
  intro r0 r1 H locs ls hl hP hD hS h
  unfold wp_X7_pupil_25 at h
  refine lv_aload_n hx hb dX7_pupil_25 rfl (lv_at hl 0 rfl) ?_
  refine lv_bipush (v := -2) hx hb dX7_pupil_26 (by decide) ?_
  refine xend_rw_i (wf := fun (u : (zS)) => (wX7 K h0 a0 hs u)) (xRunV (wc := (wX7 K h0 a0 hs r0)) (As := [.int (-2 : Int32)]) (rest := []) C (c_X7_refuse h) k_X7_refuse mw_147 ⟨rfl, rfl⟩ ⟨Nat.le_of_ble_eq_true rfl, Nat.le_of_ble_eq_true rfl⟩ hP hD [0, 1, 2] rfl rfl rfl rfl hl rfl rfl (Nat.le_of_ble_eq_true rfl) dX7_pupil_28 ⟨Nat.le_refl _, Nat.le_refl _⟩) hP hD hS hA [0, 1, 2] rfl rfl (fun _ => rfl) (fun v3 s4 H locs h hP hD hS => ?_)
  replace hP : va_P D vwCl (wX7 K h0 a0 hs s4 ++ (wX1 K (a0 0) a1 r1)) H := hP
  replace hD : va_D A (wX7 K h0 a0 hs s4 ++ (wX1 K (a0 0) a1 r1)) := hD
  exact xrw_i C (s4, r1) h hP hS dX7_pupil_31
set_option maxHeartbeats 4000000 in
set_option maxRecDepth 100000 in
theorem c_X7_pupil {l : Launch} {D : va_G} {K : Nat → ClassId} {h0 : Nat} {a0 : Nat → Nat} {hs : Nat → Nat} {r0 : zS} {a1 : Nat → Nat} {r1 : zS} {p1 : Int32} {p2 : Int32} {p3 : Int32} {sz : Nat} {post : Int32 → (zS) → (zS) → Prop}   (h : wp_X7_pupil r0 r1 p1 p2 p3 post) : Met l yX7_pupil (Cond.code yX7_pupil cX7_pupil 4 (some .int) :: wsL_law) ({ frames := 4, cells := 0, slots := 0, locals := 147 } : Room) (va_Pc [.ref h0, .int p1, .int p2, .int p3] (xPre D vwCl (xty K) (wX7 K h0 a0 hs r0 ++ (wX1 K (a0 0) a1 r1)) sz)) (va_Qi (fun r (u : (zS) × (zS)) => post r u.1 u.2) (fun (u : (zS) × (zS)) t => va_P D vwCl (wX7 K h0 a0 hs u.1 ++ (wX1 K (a0 0) a1 u.2)) t.heap) (va_A (wX7 K h0 a0 hs r0 ++ (wX1 K (a0 0) a1 r1)) sz)) 0 0 (va_A (wX7 K h0 a0 hs r0 ++ (wX1 K (a0 0) a1 r1)) sz) := by
  refine xMet (by decide) rfl (Nat.le_of_ble_eq_true rfl) (fun p e s m args below meth c C hnm hP hD hsz ls hl => ?_)
  have hl : lv_has ls 4 [(0, .ref h0), (1, .int p1), (2, .int p2), (3, .int p3)] := hl
  obtain ⟨hx, hb, hr, hml, hown, hts, hlocks, hK, hT⟩ := id C
  subst hsz
  generalize hAe : va_A (wX7 K h0 a0 hs r0 ++ (wX1 K (a0 0) a1 r1)) s.heap.size = A at hD ⊢
  have hA : ∀ q : Nat, s.heap.size ≤ q → A q := fun q h => by rw [← hAe]; exact Or.inr h
  have hS : va_S A s.heap s.heap [] := va_S.rf
  have hP : va_P D vwCl (wX7 K h0 a0 hs r0 ++ (wX1 K (a0 0) a1 r1)) s.heap := hP
  unfold wp_X7_pupil at h
  refine lv_iload_n hx hb dX7_pupil_0 rfl (lv_at hl 1 rfl) ?_
  refine xend_ro_i (xRunS (wc := ([] : va_W)) (As := [.int p1]) (rest := []) C (c_X7_isKind h) k_X7_isKind mw_271 ⟨rfl, rfl⟩ ⟨Nat.le_of_ble_eq_true rfl, Nat.le_of_ble_eq_true rfl⟩ hP hD [] rfl rfl hl rfl rfl (Nat.le_of_ble_eq_true rfl) dX7_pupil_1 ⟨Nat.le_refl _, Nat.le_refl _⟩) (fun v1 h => ?_)
  refine lv_if_eq (tgt := 25) hx hb dX7_pupil_4 (by decide) (fun c2 => ?_) (fun c2 => ?_)
  · replace h := And.left h c2
    exact t_X7_pupil_25 C hA _ _ _ _ _ (lv_sub hl [0] rfl) hP hD hS h
  · replace h := And.right h c2
    refine lv_aload_n hx hb dX7_pupil_7 rfl (lv_at hl 0 rfl) ?_
    refine va_get (D := D) (ci := 7) (v := .ref (a0 0)) (C := RX7) (T := TX7) (N := 13) hx hb hts inlX7 hown hK hP 0 rfl rfl 0 (by decide) (hts (.fieldLink RX7 10 "UnderTheDesks" "room" "LUnderTheDesks$Room;") mw_16) (fun _ h9 => h9) rfl dX7_pupil_8 ?_
    refine lv_iload_n hx hb dX7_pupil_11 rfl (lv_at hl 2 rfl) ?_
    refine xend_ro_i (xRunV (wc := (wX1 K (a0 0) a1 r1)) (As := [.int p2]) (rest := []) C (c_X1_hasDesk h) k_X1_hasDesk mw_374 ⟨rfl, rfl⟩ ⟨Nat.le_of_ble_eq_true rfl, Nat.le_of_ble_eq_true rfl⟩ hP hD [3, 4, 5, 6, 7, 8] rfl rfl rfl rfl hl rfl rfl (Nat.le_of_ble_eq_true rfl) dX7_pupil_12 ⟨Nat.le_refl _, Nat.le_refl _⟩) (fun v5 h => ?_)
    refine lv_if_eq (tgt := 25) hx hb dX7_pupil_15 (by decide) (fun c6 => ?_) (fun c6 => ?_)
    · replace h := And.left h c6
      exact t_X7_pupil_25 C hA _ _ _ _ _ (lv_sub hl [0] rfl) hP hD hS h
    · replace h := And.right h c6
      refine lv_iload_n hx hb dX7_pupil_18 rfl (lv_at hl 3 rfl) ?_
      refine xend_ro_i (xRunS (wc := ([] : va_W)) (As := [.int p3]) (rest := []) C (c_X7_isMark h) k_X7_isMark mw_382 ⟨rfl, rfl⟩ ⟨Nat.le_of_ble_eq_true rfl, Nat.le_of_ble_eq_true rfl⟩ hP hD [] rfl rfl hl rfl rfl (Nat.le_of_ble_eq_true rfl) dX7_pupil_19 ⟨Nat.le_refl _, Nat.le_refl _⟩) (fun v7 h => ?_)
      refine lv_if_ne (tgt := 32) hx hb dX7_pupil_22 (by decide) (fun c8 => ?_) (fun c8 => ?_)
      · replace h := And.right h c8
        refine lv_aload_n hx hb dX7_pupil_32 rfl (lv_at hl 0 rfl) ?_
        refine va_get (D := D) (ci := 7) (v := .ref (a0 0)) (C := RX7) (T := TX7) (N := 13) hx hb hts inlX7 hown hK hP 0 rfl rfl 0 (by decide) (hts (.fieldLink RX7 10 "UnderTheDesks" "room" "LUnderTheDesks$Room;") mw_16) (fun _ h9 => h9) rfl dX7_pupil_33 ?_
        refine lv_iload_n hx hb dX7_pupil_36 rfl (lv_at hl 2 rfl) ?_
        refine xend_ro_i (xRunV (wc := (wX1 K (a0 0) a1 r1)) (As := [.int p2]) (rest := []) C (c_X1_holderOf h) k_X1_holderOf mw_385 ⟨rfl, rfl⟩ ⟨Nat.le_of_ble_eq_true rfl, Nat.le_of_ble_eq_true rfl⟩ hP hD [3, 4, 5, 6, 7, 8] rfl rfl rfl rfl hl rfl rfl (Nat.le_of_ble_eq_true rfl) dX7_pupil_37 ⟨Nat.le_refl _, Nat.le_refl _⟩) (fun v9 h => ?_)
        refine lv_iconst (v := -1) hx hb dX7_pupil_40 (by decide) ?_
        refine lv_icmp_eq (tgt := 51) hx hb dX7_pupil_41 (by decide) (fun c10 => ?_) (fun c10 => ?_)
        · replace h := And.left h c10
          refine lv_aload_n hx hb dX7_pupil_51 rfl (lv_at hl 0 rfl) ?_
          refine va_get (D := D) (ci := 7) (v := .ref (a0 0)) (C := RX7) (T := TX7) (N := 13) hx hb hts inlX7 hown hK hP 0 rfl rfl 0 (by decide) (hts (.fieldLink RX7 10 "UnderTheDesks" "room" "LUnderTheDesks$Room;") mw_16) (fun _ h9 => h9) rfl dX7_pupil_52 ?_
          refine xend_ro_i (xRunV (wc := (wX1 K (a0 0) a1 r1)) (As := []) (rest := []) C (c_X1_isFull h) k_X1_isFull mw_389 ⟨rfl, rfl⟩ ⟨Nat.le_of_ble_eq_true rfl, Nat.le_of_ble_eq_true rfl⟩ hP hD [3, 4, 5, 6, 7, 8] rfl rfl rfl rfl hl rfl rfl (Nat.le_of_ble_eq_true rfl) dX7_pupil_55 ⟨Nat.le_refl _, Nat.le_refl _⟩) (fun v11 h => ?_)
          refine lv_if_eq (tgt := 68) hx hb dX7_pupil_58 (by decide) (fun c12 => ?_) (fun c12 => ?_)
          · replace h := And.left h c12
            refine lv_aload_n hx hb dX7_pupil_68 rfl (lv_at hl 0 rfl) ?_
            refine va_get (D := D) (ci := 7) (v := .ref (a0 0)) (C := RX7) (T := TX7) (N := 13) hx hb hts inlX7 hown hK hP 0 rfl rfl 0 (by decide) (hts (.fieldLink RX7 10 "UnderTheDesks" "room" "LUnderTheDesks$Room;") mw_16) (fun _ h9 => h9) rfl dX7_pupil_69 ?_
            refine lv_iload_n hx hb dX7_pupil_72 rfl (lv_at hl 1 rfl) ?_
            refine lv_iload_n hx hb dX7_pupil_73 rfl (lv_at hl 2 rfl) ?_
            refine lv_iload_n hx hb dX7_pupil_74 rfl (lv_at hl 3 rfl) ?_
            refine xend_rw_i (wf := fun (u : (zS)) => (wX1 K (a0 0) a1 u)) (xRunV (wc := (wX1 K (a0 0) a1 r1)) (As := [.int p1, .int p2, .int p3]) (rest := []) C (c_X1_seat h) k_X1_seat mw_393 ⟨rfl, rfl⟩ ⟨Nat.le_of_ble_eq_true rfl, Nat.le_of_ble_eq_true rfl⟩ hP hD [3, 4, 5, 6, 7, 8] rfl rfl rfl rfl hl rfl rfl (Nat.le_of_ble_eq_true rfl) dX7_pupil_75 ⟨Nat.le_refl _, Nat.le_refl _⟩) hP hD hS hA [3, 4, 5, 6, 7, 8] rfl rfl (fun _ => rfl) (fun v13 s14 H locs h hP hD hS => ?_)
            replace hP : va_P D vwCl (wX7 K h0 a0 hs r0 ++ (wX1 K (a0 0) a1 s14)) H := hP
            replace hD : va_D A (wX7 K h0 a0 hs r0 ++ (wX1 K (a0 0) a1 s14)) := hD
            exact xrw_i C (r0, s14) h hP hS dX7_pupil_78
          · replace h := And.right h c12
            refine lv_aload_n hx hb dX7_pupil_61 rfl (lv_at hl 0 rfl) ?_
            refine lv_bipush (v := -6) hx hb dX7_pupil_62 (by decide) ?_
            refine xend_rw_i (wf := fun (u : (zS)) => (wX7 K h0 a0 hs u)) (xRunV (wc := (wX7 K h0 a0 hs r0)) (As := [.int (-6 : Int32)]) (rest := []) C (c_X7_refuse h) k_X7_refuse mw_147 ⟨rfl, rfl⟩ ⟨Nat.le_of_ble_eq_true rfl, Nat.le_of_ble_eq_true rfl⟩ hP hD [0, 1, 2] rfl rfl rfl rfl hl rfl rfl (Nat.le_of_ble_eq_true rfl) dX7_pupil_64 ⟨Nat.le_refl _, Nat.le_refl _⟩) hP hD hS hA [0, 1, 2] rfl rfl (fun _ => rfl) (fun v15 s16 H locs h hP hD hS => ?_)
            replace hP : va_P D vwCl (wX7 K h0 a0 hs s16 ++ (wX1 K (a0 0) a1 r1)) H := hP
            replace hD : va_D A (wX7 K h0 a0 hs s16 ++ (wX1 K (a0 0) a1 r1)) := hD
            exact xrw_i C (s16, r1) h hP hS dX7_pupil_67
        · replace h := And.right h c10
          refine lv_aload_n hx hb dX7_pupil_44 rfl (lv_at hl 0 rfl) ?_
          refine lv_bipush (v := -5) hx hb dX7_pupil_45 (by decide) ?_
          refine xend_rw_i (wf := fun (u : (zS)) => (wX7 K h0 a0 hs u)) (xRunV (wc := (wX7 K h0 a0 hs r0)) (As := [.int (-5 : Int32)]) (rest := []) C (c_X7_refuse h) k_X7_refuse mw_147 ⟨rfl, rfl⟩ ⟨Nat.le_of_ble_eq_true rfl, Nat.le_of_ble_eq_true rfl⟩ hP hD [0, 1, 2] rfl rfl rfl rfl hl rfl rfl (Nat.le_of_ble_eq_true rfl) dX7_pupil_47 ⟨Nat.le_refl _, Nat.le_refl _⟩) hP hD hS hA [0, 1, 2] rfl rfl (fun _ => rfl) (fun v17 s18 H locs h hP hD hS => ?_)
          replace hP : va_P D vwCl (wX7 K h0 a0 hs s18 ++ (wX1 K (a0 0) a1 r1)) H := hP
          replace hD : va_D A (wX7 K h0 a0 hs s18 ++ (wX1 K (a0 0) a1 r1)) := hD
          exact xrw_i C (s18, r1) h hP hS dX7_pupil_50
      · replace h := And.left h c8
        exact t_X7_pupil_25 C hA _ _ _ _ _ (lv_sub hl [0] rfl) hP hD hS h

def wp_X7_isPair (r0 : zS) (r1 : zS) (p1 : Int32) (p2 : Int32) (post : Int32 → Prop) : Prop :=
  wp_X1_has r1 p1 (fun v1 => (v1 = 0 → post (0 : Int32) ) ∧ (¬ v1 = 0 → wp_X1_has r1 p2 (fun v3 => (v3 = 0 → post (0 : Int32) ) ∧ (¬ v3 = 0 → (p1 = p2 → post (0 : Int32) ) ∧ (¬ p1 = p2 → post (1 : Int32) )))))
set_option maxHeartbeats 4000000 in
set_option maxRecDepth 100000 in
theorem c_X7_isPair {l : Launch} {D : va_G} {K : Nat → ClassId} {h0 : Nat} {a0 : Nat → Nat} {hs : Nat → Nat} {r0 : zS} {a1 : Nat → Nat} {r1 : zS} {p1 : Int32} {p2 : Int32} {sz : Nat} {post : Int32 → Prop}   (h : wp_X7_isPair r0 r1 p1 p2 post) : Met l yX7_isPair (Cond.code yX7_isPair cX7_isPair 3 (some .boolean) :: wsL_law) ({ frames := 1, cells := 0, slots := 0, locals := 21 } : Room) (va_Pc [.ref h0, .int p1, .int p2] (xPre D vwCl (xty K) (wX7 K h0 a0 hs r0 ++ (wX1 K (a0 0) a1 r1)) sz)) (roI post) 0 0 (fun _ => False) := by
  refine xMet (by decide) rfl (Nat.le_of_ble_eq_true rfl) (fun p e s m args below meth c C hnm hP hD hsz ls hl => ?_)
  have hl : lv_has ls 3 [(0, .ref h0), (1, .int p1), (2, .int p2)] := hl
  obtain ⟨hx, hb, hr, hml, hown, hts, hlocks, hK, hT⟩ := id C
  unfold wp_X7_isPair at h
  refine lv_aload_n hx hb dX7_isPair_0 rfl (lv_at hl 0 rfl) ?_
  refine va_get (D := D) (ci := 7) (v := .ref (a0 0)) (C := RX7) (T := TX7) (N := 13) hx hb hts inlX7 hown hK hP 0 rfl rfl 0 (by decide) (hts (.fieldLink RX7 10 "UnderTheDesks" "room" "LUnderTheDesks$Room;") mw_16) (fun _ h9 => h9) rfl dX7_isPair_1 ?_
  refine lv_iload_n hx hb dX7_isPair_4 rfl (lv_at hl 1 rfl) ?_
  refine xend_ro_i (xRunV (wc := (wX1 K (a0 0) a1 r1)) (As := [.int p1]) (rest := []) C (c_X1_has h) k_X1_has mw_250 ⟨rfl, rfl⟩ ⟨Nat.le_of_ble_eq_true rfl, Nat.le_of_ble_eq_true rfl⟩ hP hD [3, 4, 5, 6, 7, 8] rfl rfl rfl rfl hl rfl rfl (Nat.le_of_ble_eq_true rfl) dX7_isPair_5 ⟨Nat.le_refl _, Nat.le_refl _⟩) (fun v1 h => ?_)
  refine lv_if_eq (tgt := 31) hx hb dX7_isPair_8 (by decide) (fun c2 => ?_) (fun c2 => ?_)
  · replace h := And.left h c2
    refine lv_iconst (v := 0) hx hb dX7_isPair_31 (by decide) ?_
    exact xro_z C rfl h dX7_isPair_32
  · replace h := And.right h c2
    refine lv_aload_n hx hb dX7_isPair_11 rfl (lv_at hl 0 rfl) ?_
    refine va_get (D := D) (ci := 7) (v := .ref (a0 0)) (C := RX7) (T := TX7) (N := 13) hx hb hts inlX7 hown hK hP 0 rfl rfl 0 (by decide) (hts (.fieldLink RX7 10 "UnderTheDesks" "room" "LUnderTheDesks$Room;") mw_16) (fun _ h9 => h9) rfl dX7_isPair_12 ?_
    refine lv_iload_n hx hb dX7_isPair_15 rfl (lv_at hl 2 rfl) ?_
    refine xend_ro_i (xRunV (wc := (wX1 K (a0 0) a1 r1)) (As := [.int p2]) (rest := []) C (c_X1_has h) k_X1_has mw_250 ⟨rfl, rfl⟩ ⟨Nat.le_of_ble_eq_true rfl, Nat.le_of_ble_eq_true rfl⟩ hP hD [3, 4, 5, 6, 7, 8] rfl rfl rfl rfl hl rfl rfl (Nat.le_of_ble_eq_true rfl) dX7_isPair_16 ⟨Nat.le_refl _, Nat.le_refl _⟩) (fun v3 h => ?_)
    refine lv_if_eq (tgt := 31) hx hb dX7_isPair_19 (by decide) (fun c4 => ?_) (fun c4 => ?_)
    · replace h := And.left h c4
      refine lv_iconst (v := 0) hx hb dX7_isPair_31 (by decide) ?_
      exact xro_z C rfl h dX7_isPair_32
    · replace h := And.right h c4
      refine lv_iload_n hx hb dX7_isPair_22 rfl (lv_at hl 1 rfl) ?_
      refine lv_iload_n hx hb dX7_isPair_23 rfl (lv_at hl 2 rfl) ?_
      refine lv_icmp_eq (tgt := 31) hx hb dX7_isPair_24 (by decide) (fun c5 => ?_) (fun c5 => ?_)
      · replace h := And.left h c5
        refine lv_iconst (v := 0) hx hb dX7_isPair_31 (by decide) ?_
        exact xro_z C rfl h dX7_isPair_32
      · replace h := And.right h c5
        refine lv_iconst (v := 1) hx hb dX7_isPair_27 (by decide) ?_
        refine lv_goto (tgt := 32) hx hb dX7_isPair_28 (by decide) ?_
        exact xro_z C rfl h dX7_isPair_32

def wp_X7_bar (r0 : zS) (r1 : zS) (p1 : Int32) (p2 : Int32) (p3 : Int32) (post : Int32 → (zS) → (zS) → Prop) : Prop :=
  wp_X7_isPair r0 r1 p1 p2 (fun v1 => (v1 = 0 → wp_X7_refuse r0 (-2 : Int32) (fun v7 s8 => post v7 s8 r1)) ∧ (¬ v1 = 0 → wp_X1_areBarred r1 p1 p2 (fun v3 => (v3 = p3 → post (0 : Int32) r0 r1) ∧ (¬ v3 = p3 → wp_X1_setBarred r1 p1 p2 p3 (fun s6 => post (1 : Int32) r0 s6)))))
set_option maxHeartbeats 4000000 in
set_option maxRecDepth 100000 in
theorem c_X7_bar {l : Launch} {D : va_G} {K : Nat → ClassId} {h0 : Nat} {a0 : Nat → Nat} {hs : Nat → Nat} {r0 : zS} {a1 : Nat → Nat} {r1 : zS} {p1 : Int32} {p2 : Int32} {p3 : Int32} {sz : Nat} {post : Int32 → (zS) → (zS) → Prop}   (h : wp_X7_bar r0 r1 p1 p2 p3 post) : Met l yX7_bar (Cond.code yX7_bar cX7_bar 4 (some .int) :: wsL_law) ({ frames := 4, cells := 0, slots := 0, locals := 146 } : Room) (va_Pc [.ref h0, .int p1, .int p2, .int p3] (xPre D vwCl (xty K) (wX7 K h0 a0 hs r0 ++ (wX1 K (a0 0) a1 r1)) sz)) (va_Qi (fun r (u : (zS) × (zS)) => post r u.1 u.2) (fun (u : (zS) × (zS)) t => va_P D vwCl (wX7 K h0 a0 hs u.1 ++ (wX1 K (a0 0) a1 u.2)) t.heap) (va_A (wX7 K h0 a0 hs r0 ++ (wX1 K (a0 0) a1 r1)) sz)) 0 0 (va_A (wX7 K h0 a0 hs r0 ++ (wX1 K (a0 0) a1 r1)) sz) := by
  refine xMet (by decide) rfl (Nat.le_of_ble_eq_true rfl) (fun p e s m args below meth c C hnm hP hD hsz ls hl => ?_)
  have hl : lv_has ls 4 [(0, .ref h0), (1, .int p1), (2, .int p2), (3, .int p3)] := hl
  obtain ⟨hx, hb, hr, hml, hown, hts, hlocks, hK, hT⟩ := id C
  subst hsz
  generalize hAe : va_A (wX7 K h0 a0 hs r0 ++ (wX1 K (a0 0) a1 r1)) s.heap.size = A at hD ⊢
  have hA : ∀ q : Nat, s.heap.size ≤ q → A q := fun q h => by rw [← hAe]; exact Or.inr h
  have hS : va_S A s.heap s.heap [] := va_S.rf
  have hP : va_P D vwCl (wX7 K h0 a0 hs r0 ++ (wX1 K (a0 0) a1 r1)) s.heap := hP
  unfold wp_X7_bar at h
  refine lv_aload_n hx hb dX7_bar_0 rfl (lv_at hl 0 rfl) ?_
  refine lv_iload_n hx hb dX7_bar_1 rfl (lv_at hl 1 rfl) ?_
  refine lv_iload_n hx hb dX7_bar_2 rfl (lv_at hl 2 rfl) ?_
  refine xend_ro_i (xRunV_id (As := [.int p1, .int p2]) (rest := []) C (c_X7_isPair h) k_X7_isPair mw_429 ⟨rfl, rfl⟩ ⟨Nat.le_of_ble_eq_true rfl, Nat.le_of_ble_eq_true rfl⟩ hP hD rfl rfl hl rfl rfl (Nat.le_of_ble_eq_true rfl) dX7_bar_3 ⟨Nat.le_refl _, Nat.le_refl _⟩) (fun v1 h => ?_)
  refine lv_if_ne (tgt := 16) hx hb dX7_bar_6 (by decide) (fun c2 => ?_) (fun c2 => ?_)
  · replace h := And.right h c2
    refine lv_aload_n hx hb dX7_bar_16 rfl (lv_at hl 0 rfl) ?_
    refine va_get (D := D) (ci := 7) (v := .ref (a0 0)) (C := RX7) (T := TX7) (N := 13) hx hb hts inlX7 hown hK hP 0 rfl rfl 0 (by decide) (hts (.fieldLink RX7 10 "UnderTheDesks" "room" "LUnderTheDesks$Room;") mw_16) (fun _ h9 => h9) rfl dX7_bar_17 ?_
    refine lv_iload_n hx hb dX7_bar_20 rfl (lv_at hl 1 rfl) ?_
    refine lv_iload_n hx hb dX7_bar_21 rfl (lv_at hl 2 rfl) ?_
    refine xend_ro_i (xRunV (wc := (wX1 K (a0 0) a1 r1)) (As := [.int p1, .int p2]) (rest := []) C (c_X1_areBarred h) k_X1_areBarred mw_433 ⟨rfl, rfl⟩ ⟨Nat.le_of_ble_eq_true rfl, Nat.le_of_ble_eq_true rfl⟩ hP hD [3, 4, 5, 6, 7, 8] rfl rfl rfl rfl hl rfl rfl (Nat.le_of_ble_eq_true rfl) dX7_bar_22 ⟨Nat.le_refl _, Nat.le_refl _⟩) (fun v3 h => ?_)
    refine lv_iload_n hx hb dX7_bar_25 rfl (lv_at hl 3 rfl) ?_
    refine lv_icmp_ne (tgt := 31) hx hb dX7_bar_26 (by decide) (fun c4 => ?_) (fun c4 => ?_)
    · replace h := And.right h c4
      refine lv_aload_n hx hb dX7_bar_31 rfl (lv_at hl 0 rfl) ?_
      refine va_get (D := D) (ci := 7) (v := .ref (a0 0)) (C := RX7) (T := TX7) (N := 13) hx hb hts inlX7 hown hK hP 0 rfl rfl 0 (by decide) (hts (.fieldLink RX7 10 "UnderTheDesks" "room" "LUnderTheDesks$Room;") mw_16) (fun _ h9 => h9) rfl dX7_bar_32 ?_
      refine lv_iload_n hx hb dX7_bar_35 rfl (lv_at hl 1 rfl) ?_
      refine lv_iload_n hx hb dX7_bar_36 rfl (lv_at hl 2 rfl) ?_
      refine lv_iload_n hx hb dX7_bar_37 rfl (lv_at hl 3 rfl) ?_
      refine xend_rw_v (wf := fun (u : (zS)) => (wX1 K (a0 0) a1 u)) (xRunV (wc := (wX1 K (a0 0) a1 r1)) (As := [.int p1, .int p2, .int p3]) (rest := []) C (c_X1_setBarred h) k_X1_setBarred mw_441 ⟨rfl, rfl⟩ ⟨Nat.le_of_ble_eq_true rfl, Nat.le_of_ble_eq_true rfl⟩ hP hD [3, 4, 5, 6, 7, 8] rfl rfl rfl rfl hl rfl rfl (Nat.le_of_ble_eq_true rfl) dX7_bar_38 ⟨Nat.le_refl _, Nat.le_refl _⟩) hP hD hS hA [3, 4, 5, 6, 7, 8] rfl rfl (fun _ => rfl) (fun s6 H locs h hP hD hS => ?_)
      replace hP : va_P D vwCl (wX7 K h0 a0 hs r0 ++ (wX1 K (a0 0) a1 s6)) H := hP
      replace hD : va_D A (wX7 K h0 a0 hs r0 ++ (wX1 K (a0 0) a1 s6)) := hD
      refine lv_iconst (v := 1) hx hb dX7_bar_41 (by decide) ?_
      exact xrw_i C (r0, s6) h hP hS dX7_bar_42
    · replace h := And.left h c4
      refine lv_iconst (v := 0) hx hb dX7_bar_29 (by decide) ?_
      exact xrw_i C (r0, r1) h hP hS dX7_bar_30
  · replace h := And.left h c2
    refine lv_aload_n hx hb dX7_bar_9 rfl (lv_at hl 0 rfl) ?_
    refine lv_bipush (v := -2) hx hb dX7_bar_10 (by decide) ?_
    refine xend_rw_i (wf := fun (u : (zS)) => (wX7 K h0 a0 hs u)) (xRunV (wc := (wX7 K h0 a0 hs r0)) (As := [.int (-2 : Int32)]) (rest := []) C (c_X7_refuse h) k_X7_refuse mw_147 ⟨rfl, rfl⟩ ⟨Nat.le_of_ble_eq_true rfl, Nat.le_of_ble_eq_true rfl⟩ hP hD [0, 1, 2] rfl rfl rfl rfl hl rfl rfl (Nat.le_of_ble_eq_true rfl) dX7_bar_12 ⟨Nat.le_refl _, Nat.le_refl _⟩) hP hD hS hA [0, 1, 2] rfl rfl (fun _ => rfl) (fun v7 s8 H locs h hP hD hS => ?_)
    replace hP : va_P D vwCl (wX7 K h0 a0 hs s8 ++ (wX1 K (a0 0) a1 r1)) H := hP
    replace hD : va_D A (wX7 K h0 a0 hs s8 ++ (wX1 K (a0 0) a1 r1)) := hD
    exact xrw_i C (s8, r1) h hP hS dX7_bar_15

def wp_X7_move_22 (p1 : Int32) (p2 : Int32) (post : Int32 → (zS) → (zS) → Prop) (r0 : zS) (r1 : zS) : Prop :=
  wp_X7_refuse r0 (-2 : Int32) (fun v3 s4 => post v3 s4 r1)
def wp_X7_move (r0 : zS) (r1 : zS) (p1 : Int32) (p2 : Int32) (post : Int32 → (zS) → (zS) → Prop) : Prop :=
  wp_X1_has r1 p1 (fun v1 => (v1 = 0 → wp_X7_move_22 p1 p2 post r0 r1) ∧ (¬ v1 = 0 → wp_X1_hasDesk r1 p2 (fun v5 => (v5 = 0 → wp_X7_move_22 p1 p2 post r0 r1) ∧ (¬ v5 = 0 → wp_X1_holderOf r1 p2 (fun v7 => (v7 = (-1 : Int32) → wp_X1_deskOf r1 p1 (fun v9 => wp_X1_reseat r1 p1 p2 (fun s11 => post v9 r0 s11))) ∧ (¬ v7 = (-1 : Int32) → wp_X7_refuse r0 (-5 : Int32) (fun v12 s13 => post v12 s13 r1)))))))
set_option maxHeartbeats 4000000 in
set_option maxRecDepth 100000 in
theorem t_X7_move_22 {p : Program} {l : Launch} {e : Env} {s : State} {m : MethodId} {args : Array Value} {below : List Frame} {meth : Method} {c : Code} {D : va_G} {K : Nat → ClassId} {h0 : Nat} {a0 : Nat → Nat} {hs : Nat → Nat} {a1 : Nat → Nat} {p1 : Int32} {p2 : Int32} {post : Int32 → (zS) → (zS) → Prop} {A : Nat → Prop} (C : xC p s m args meth c cX7_move RX7 4 (some .int) D vwCl (xty K)) (hA : ∀ q, s.heap.size ≤ q → A q) : ∀ (r0 : zS) (r1 : zS) (H : Heap) (locs : List Loc) (ls : Array Slot), lv_has ls 4 [(0, .ref h0)] → va_P D vwCl (wX7 K h0 a0 hs r0 ++ (wX1 K (a0 0) a1 r1)) H → va_D A (wX7 K h0 a0 hs r0 ++ (wX1 K (a0 0) a1 r1)) → va_S A s.heap H locs → wp_X7_move_22 p1 p2 post r0 r1 → W p l e ({ frames := 4, cells := 0, slots := 0, locals := 145 } : Room) s m args below meth c H locs 0 0 (MQ below (va_Qi (fun r (u : (zS) × (zS)) => post r u.1 u.2) (fun (u : (zS) × (zS)) t => va_P D vwCl (wX7 K h0 a0 hs u.1 ++ (wX1 K (a0 0) a1 u.2)) t.heap) A) args s 0 0 A) (F0 m 22 ls []) := by
  obtain ⟨hx, hb, hr, hml, hown, hts, hlocks, hK, hT⟩ := id C
  intro r0 r1 H locs ls hl hP hD hS h
  unfold wp_X7_move_22 at h
  refine lv_aload_n hx hb dX7_move_22 rfl (lv_at hl 0 rfl) ?_
  refine lv_bipush (v := -2) hx hb dX7_move_23 (by decide) ?_
  refine xend_rw_i (wf := fun (u : (zS)) => (wX7 K h0 a0 hs u)) (xRunV (wc := (wX7 K h0 a0 hs r0)) (As := [.int (-2 : Int32)]) (rest := []) C (c_X7_refuse h) k_X7_refuse mw_147 ⟨rfl, rfl⟩ ⟨Nat.le_of_ble_eq_true rfl, Nat.le_of_ble_eq_true rfl⟩ hP hD [0, 1, 2] rfl rfl rfl rfl hl rfl rfl (Nat.le_of_ble_eq_true rfl) dX7_move_25 ⟨Nat.le_refl _, Nat.le_refl _⟩) hP hD hS hA [0, 1, 2] rfl rfl (fun _ => rfl) (fun v3 s4 H locs h hP hD hS => ?_)
  replace hP : va_P D vwCl (wX7 K h0 a0 hs s4 ++ (wX1 K (a0 0) a1 r1)) H := hP
  replace hD : va_D A (wX7 K h0 a0 hs s4 ++ (wX1 K (a0 0) a1 r1)) := hD
  exact xrw_i C (s4, r1) h hP hS dX7_move_28
set_option maxHeartbeats 4000000 in
set_option maxRecDepth 100000 in
theorem c_X7_move {l : Launch} {D : va_G} {K : Nat → ClassId} {h0 : Nat} {a0 : Nat → Nat} {hs : Nat → Nat} {r0 : zS} {a1 : Nat → Nat} {r1 : zS} {p1 : Int32} {p2 : Int32} {sz : Nat} {post : Int32 → (zS) → (zS) → Prop}   (h : wp_X7_move r0 r1 p1 p2 post) : Met l yX7_move (Cond.code yX7_move cX7_move 4 (some .int) :: wsL_law) ({ frames := 4, cells := 0, slots := 0, locals := 145 } : Room) (va_Pc [.ref h0, .int p1, .int p2] (xPre D vwCl (xty K) (wX7 K h0 a0 hs r0 ++ (wX1 K (a0 0) a1 r1)) sz)) (va_Qi (fun r (u : (zS) × (zS)) => post r u.1 u.2) (fun (u : (zS) × (zS)) t => va_P D vwCl (wX7 K h0 a0 hs u.1 ++ (wX1 K (a0 0) a1 u.2)) t.heap) (va_A (wX7 K h0 a0 hs r0 ++ (wX1 K (a0 0) a1 r1)) sz)) 0 0 (va_A (wX7 K h0 a0 hs r0 ++ (wX1 K (a0 0) a1 r1)) sz) := by
  refine xMet (by decide) rfl (Nat.le_of_ble_eq_true rfl) (fun p e s m args below meth c C hnm hP hD hsz ls hl => ?_)
  have hl : lv_has ls 4 [(0, .ref h0), (1, .int p1), (2, .int p2)] := hl
  obtain ⟨hx, hb, hr, hml, hown, hts, hlocks, hK, hT⟩ := id C
  subst hsz
  generalize hAe : va_A (wX7 K h0 a0 hs r0 ++ (wX1 K (a0 0) a1 r1)) s.heap.size = A at hD ⊢
  have hA : ∀ q : Nat, s.heap.size ≤ q → A q := fun q h => by rw [← hAe]; exact Or.inr h
  have hS : va_S A s.heap s.heap [] := va_S.rf
  have hP : va_P D vwCl (wX7 K h0 a0 hs r0 ++ (wX1 K (a0 0) a1 r1)) s.heap := hP
  unfold wp_X7_move at h
  refine lv_aload_n hx hb dX7_move_0 rfl (lv_at hl 0 rfl) ?_
  refine va_get (D := D) (ci := 7) (v := .ref (a0 0)) (C := RX7) (T := TX7) (N := 13) hx hb hts inlX7 hown hK hP 0 rfl rfl 0 (by decide) (hts (.fieldLink RX7 10 "UnderTheDesks" "room" "LUnderTheDesks$Room;") mw_16) (fun _ h9 => h9) rfl dX7_move_1 ?_
  refine lv_iload_n hx hb dX7_move_4 rfl (lv_at hl 1 rfl) ?_
  refine xend_ro_i (xRunV (wc := (wX1 K (a0 0) a1 r1)) (As := [.int p1]) (rest := []) C (c_X1_has h) k_X1_has mw_250 ⟨rfl, rfl⟩ ⟨Nat.le_of_ble_eq_true rfl, Nat.le_of_ble_eq_true rfl⟩ hP hD [3, 4, 5, 6, 7, 8] rfl rfl rfl rfl hl rfl rfl (Nat.le_of_ble_eq_true rfl) dX7_move_5 ⟨Nat.le_refl _, Nat.le_refl _⟩) (fun v1 h => ?_)
  refine lv_if_eq (tgt := 22) hx hb dX7_move_8 (by decide) (fun c2 => ?_) (fun c2 => ?_)
  · replace h := And.left h c2
    exact t_X7_move_22 C hA _ _ _ _ _ (lv_sub hl [0] rfl) hP hD hS h
  · replace h := And.right h c2
    refine lv_aload_n hx hb dX7_move_11 rfl (lv_at hl 0 rfl) ?_
    refine va_get (D := D) (ci := 7) (v := .ref (a0 0)) (C := RX7) (T := TX7) (N := 13) hx hb hts inlX7 hown hK hP 0 rfl rfl 0 (by decide) (hts (.fieldLink RX7 10 "UnderTheDesks" "room" "LUnderTheDesks$Room;") mw_16) (fun _ h9 => h9) rfl dX7_move_12 ?_
    refine lv_iload_n hx hb dX7_move_15 rfl (lv_at hl 2 rfl) ?_
    refine xend_ro_i (xRunV (wc := (wX1 K (a0 0) a1 r1)) (As := [.int p2]) (rest := []) C (c_X1_hasDesk h) k_X1_hasDesk mw_374 ⟨rfl, rfl⟩ ⟨Nat.le_of_ble_eq_true rfl, Nat.le_of_ble_eq_true rfl⟩ hP hD [3, 4, 5, 6, 7, 8] rfl rfl rfl rfl hl rfl rfl (Nat.le_of_ble_eq_true rfl) dX7_move_16 ⟨Nat.le_refl _, Nat.le_refl _⟩) (fun v5 h => ?_)
    refine lv_if_ne (tgt := 29) hx hb dX7_move_19 (by decide) (fun c6 => ?_) (fun c6 => ?_)
    · replace h := And.right h c6
      refine lv_aload_n hx hb dX7_move_29 rfl (lv_at hl 0 rfl) ?_
      refine va_get (D := D) (ci := 7) (v := .ref (a0 0)) (C := RX7) (T := TX7) (N := 13) hx hb hts inlX7 hown hK hP 0 rfl rfl 0 (by decide) (hts (.fieldLink RX7 10 "UnderTheDesks" "room" "LUnderTheDesks$Room;") mw_16) (fun _ h9 => h9) rfl dX7_move_30 ?_
      refine lv_iload_n hx hb dX7_move_33 rfl (lv_at hl 2 rfl) ?_
      refine xend_ro_i (xRunV (wc := (wX1 K (a0 0) a1 r1)) (As := [.int p2]) (rest := []) C (c_X1_holderOf h) k_X1_holderOf mw_385 ⟨rfl, rfl⟩ ⟨Nat.le_of_ble_eq_true rfl, Nat.le_of_ble_eq_true rfl⟩ hP hD [3, 4, 5, 6, 7, 8] rfl rfl rfl rfl hl rfl rfl (Nat.le_of_ble_eq_true rfl) dX7_move_34 ⟨Nat.le_refl _, Nat.le_refl _⟩) (fun v7 h => ?_)
      refine lv_iconst (v := -1) hx hb dX7_move_37 (by decide) ?_
      refine lv_icmp_eq (tgt := 48) hx hb dX7_move_38 (by decide) (fun c8 => ?_) (fun c8 => ?_)
      · replace h := And.left h c8
        refine lv_aload_n hx hb dX7_move_48 rfl (lv_at hl 0 rfl) ?_
        refine va_get (D := D) (ci := 7) (v := .ref (a0 0)) (C := RX7) (T := TX7) (N := 13) hx hb hts inlX7 hown hK hP 0 rfl rfl 0 (by decide) (hts (.fieldLink RX7 10 "UnderTheDesks" "room" "LUnderTheDesks$Room;") mw_16) (fun _ h9 => h9) rfl dX7_move_49 ?_
        refine lv_iload_n hx hb dX7_move_52 rfl (lv_at hl 1 rfl) ?_
        refine xend_ro_i (xRunV (wc := (wX1 K (a0 0) a1 r1)) (As := [.int p1]) (rest := []) C (c_X1_deskOf h) k_X1_deskOf mw_322 ⟨rfl, rfl⟩ ⟨Nat.le_of_ble_eq_true rfl, Nat.le_of_ble_eq_true rfl⟩ hP hD [3, 4, 5, 6, 7, 8] rfl rfl rfl rfl hl rfl rfl (Nat.le_of_ble_eq_true rfl) dX7_move_53 ⟨Nat.le_refl _, Nat.le_refl _⟩) (fun v9 h => ?_)
        refine lv_istore_n (lv' := [(3, .int v9), (0, .ref h0), (1, .int p1), (2, .int p2)]) hx hb dX7_move_56 rfl hl (by decide) rfl (fun ls hl => ?_)
        refine lv_aload_n hx hb dX7_move_57 rfl (lv_at hl 1 rfl) ?_
        refine va_get (D := D) (ci := 7) (v := .ref (a0 0)) (C := RX7) (T := TX7) (N := 13) hx hb hts inlX7 hown hK hP 0 rfl rfl 0 (by decide) (hts (.fieldLink RX7 10 "UnderTheDesks" "room" "LUnderTheDesks$Room;") mw_16) (fun _ h9 => h9) rfl dX7_move_58 ?_
        refine lv_iload_n hx hb dX7_move_61 rfl (lv_at hl 2 rfl) ?_
        refine lv_iload_n hx hb dX7_move_62 rfl (lv_at hl 3 rfl) ?_
        refine xend_rw_v (wf := fun (u : (zS)) => (wX1 K (a0 0) a1 u)) (xRunV (wc := (wX1 K (a0 0) a1 r1)) (As := [.int p1, .int p2]) (rest := []) C (c_X1_reseat h) k_X1_reseat mw_461 ⟨rfl, rfl⟩ ⟨Nat.le_of_ble_eq_true rfl, Nat.le_of_ble_eq_true rfl⟩ hP hD [3, 4, 5, 6, 7, 8] rfl rfl rfl rfl hl rfl rfl (Nat.le_of_ble_eq_true rfl) dX7_move_63 ⟨Nat.le_refl _, Nat.le_refl _⟩) hP hD hS hA [3, 4, 5, 6, 7, 8] rfl rfl (fun _ => rfl) (fun s11 H locs h hP hD hS => ?_)
        replace hP : va_P D vwCl (wX7 K h0 a0 hs r0 ++ (wX1 K (a0 0) a1 s11)) H := hP
        replace hD : va_D A (wX7 K h0 a0 hs r0 ++ (wX1 K (a0 0) a1 s11)) := hD
        refine lv_iload_n hx hb dX7_move_66 rfl (lv_at hl 0 rfl) ?_
        exact xrw_i C (r0, s11) h hP hS dX7_move_67
      · replace h := And.right h c8
        refine lv_aload_n hx hb dX7_move_41 rfl (lv_at hl 0 rfl) ?_
        refine lv_bipush (v := -5) hx hb dX7_move_42 (by decide) ?_
        refine xend_rw_i (wf := fun (u : (zS)) => (wX7 K h0 a0 hs u)) (xRunV (wc := (wX7 K h0 a0 hs r0)) (As := [.int (-5 : Int32)]) (rest := []) C (c_X7_refuse h) k_X7_refuse mw_147 ⟨rfl, rfl⟩ ⟨Nat.le_of_ble_eq_true rfl, Nat.le_of_ble_eq_true rfl⟩ hP hD [0, 1, 2] rfl rfl rfl rfl hl rfl rfl (Nat.le_of_ble_eq_true rfl) dX7_move_44 ⟨Nat.le_refl _, Nat.le_refl _⟩) hP hD hS hA [0, 1, 2] rfl rfl (fun _ => rfl) (fun v12 s13 H locs h hP hD hS => ?_)
        replace hP : va_P D vwCl (wX7 K h0 a0 hs s13 ++ (wX1 K (a0 0) a1 r1)) H := hP
        replace hD : va_D A (wX7 K h0 a0 hs s13 ++ (wX1 K (a0 0) a1 r1)) := hD
        exact xrw_i C (s13, r1) h hP hS dX7_move_47
    · replace h := And.left h c6
      exact t_X7_move_22 C hA _ _ _ _ _ (lv_sub hl [0] rfl) hP hD hS h

def wp_X7_master_126 (p1 : Int32) (p2 : Int32) (post : Int32 → (zS) → (zS) → Prop) (r0 : zS) (r1 : zS) : Prop :=
  wp_X7_refuse r0 (-2 : Int32) (fun v4 s5 => post v4 s5 r1)
def wp_X7_master_91 (p1 : Int32) (p2 : Int32) (post : Int32 → (zS) → (zS) → Prop) (r0 : zS) (r1 : zS) : Prop :=
  (p1 = (2 : Int32) → (p2 < 0 → wp_X7_master_126 p1 p2 post r0 r1) ∧ (¬ p2 < 0 → ((1000 : Int32) < p2 → wp_X7_master_126 p1 p2 post r0 r1) ∧ (¬ (1000 : Int32) < p2 → ∀ v8 : Int32, v8 = (r1.1 4) → post v8 r0 (zI r1 4 p2)))) ∧ (¬ p1 = (2 : Int32) → wp_X7_master_126 p1 p2 post r0 r1)
def wp_X7_master_52 (p1 : Int32) (p2 : Int32) (post : Int32 → (zS) → (zS) → Prop) (r0 : zS) (r1 : zS) : Prop :=
  (p1 = (1 : Int32) → (p2 < 0 → wp_X7_master_91 p1 p2 post r0 r1) ∧ (¬ p2 < 0 → ((r1.1 2) < p2 → wp_X7_master_91 p1 p2 post r0 r1) ∧ (¬ (r1.1 2) < p2 → ∀ v11 : Int32, v11 = (r1.1 3) → post v11 r0 (zI r1 3 p2)))) ∧ (¬ p1 = (1 : Int32) → wp_X7_master_91 p1 p2 post r0 r1)
def wp_X7_master (r0 : zS) (r1 : zS) (p1 : Int32) (p2 : Int32) (post : Int32 → (zS) → (zS) → Prop) : Prop :=
  (p1 = 0 → (p2 < (1 : Int32) → wp_X7_master_52 p1 p2 post r0 r1) ∧ (¬ p2 < (1 : Int32) → ((20 : Int32) < p2 → wp_X7_master_52 p1 p2 post r0 r1) ∧ (¬ (20 : Int32) < p2 → ∀ v14 : Int32, v14 = (r1.1 2) → ∀ v15 : Int32, v15 = (if p2 < ((zI r1 2 p2).1 3) then p2 else ((zI r1 2 p2).1 3)) → post v14 r0 (zI (zI r1 2 p2) 3 v15)))) ∧ (¬ p1 = 0 → wp_X7_master_52 p1 p2 post r0 r1)
set_option maxHeartbeats 4000000 in
set_option maxRecDepth 100000 in
theorem t_X7_master_126 {p : Program} {l : Launch} {e : Env} {s : State} {m : MethodId} {args : Array Value} {below : List Frame} {meth : Method} {c : Code} {D : va_G} {K : Nat → ClassId} {h0 : Nat} {a0 : Nat → Nat} {hs : Nat → Nat} {a1 : Nat → Nat} {p1 : Int32} {p2 : Int32} {post : Int32 → (zS) → (zS) → Prop} {A : Nat → Prop} (C : xC p s m args meth c cX7_master RX7 4 (some .int) D vwCl (xty K)) (hA : ∀ q, s.heap.size ≤ q → A q) : ∀ (r0 : zS) (r1 : zS) (H : Heap) (locs : List Loc) (ls : Array Slot), lv_has ls 4 [(0, .ref h0)] → va_P D vwCl (wX7 K h0 a0 hs r0 ++ (wX1 K (a0 0) a1 r1)) H → va_D A (wX7 K h0 a0 hs r0 ++ (wX1 K (a0 0) a1 r1)) → va_S A s.heap H locs → wp_X7_master_126 p1 p2 post r0 r1 → W p l e ({ frames := 1, cells := 0, slots := 0, locals := 80 } : Room) s m args below meth c H locs 0 0 (MQ below (va_Qi (fun r (u : (zS) × (zS)) => post r u.1 u.2) (fun (u : (zS) × (zS)) t => va_P D vwCl (wX7 K h0 a0 hs u.1 ++ (wX1 K (a0 0) a1 u.2)) t.heap) A) args s 0 0 A) (F0 m 126 ls []) := by
  obtain ⟨hx, hb, hr, hml, hown, hts, hlocks, hK, hT⟩ := id C
  intro r0 r1 H locs ls hl hP hD hS h
  unfold wp_X7_master_126 at h
  refine lv_aload_n hx hb dX7_master_126 rfl (lv_at hl 0 rfl) ?_
  refine lv_bipush (v := -2) hx hb dX7_master_127 (by decide) ?_
  refine xend_rw_i (wf := fun (u : (zS)) => (wX7 K h0 a0 hs u)) (xRunV (wc := (wX7 K h0 a0 hs r0)) (As := [.int (-2 : Int32)]) (rest := []) C (c_X7_refuse h) k_X7_refuse mw_147 ⟨rfl, rfl⟩ ⟨Nat.le_of_ble_eq_true rfl, Nat.le_of_ble_eq_true rfl⟩ hP hD [0, 1, 2] rfl rfl rfl rfl hl rfl rfl (Nat.le_of_ble_eq_true rfl) dX7_master_129 ⟨Nat.le_refl _, Nat.le_refl _⟩) hP hD hS hA [0, 1, 2] rfl rfl (fun _ => rfl) (fun v4 s5 H locs h hP hD hS => ?_)
  replace hP : va_P D vwCl (wX7 K h0 a0 hs s5 ++ (wX1 K (a0 0) a1 r1)) H := hP
  replace hD : va_D A (wX7 K h0 a0 hs s5 ++ (wX1 K (a0 0) a1 r1)) := hD
  refine lv_istore_n (lv' := [(3, .int v4), (0, .ref h0)]) hx hb dX7_master_132 rfl hl (by decide) rfl (fun ls hl => ?_)
  refine lv_iload_n hx hb dX7_master_133 rfl (lv_at hl 0 rfl) ?_
  exact xrw_i C (s5, r1) h hP hS dX7_master_134
set_option maxHeartbeats 4000000 in
set_option maxRecDepth 100000 in
theorem t_X7_master_91 {p : Program} {l : Launch} {e : Env} {s : State} {m : MethodId} {args : Array Value} {below : List Frame} {meth : Method} {c : Code} {D : va_G} {K : Nat → ClassId} {h0 : Nat} {a0 : Nat → Nat} {hs : Nat → Nat} {a1 : Nat → Nat} {p1 : Int32} {p2 : Int32} {post : Int32 → (zS) → (zS) → Prop} {A : Nat → Prop} (C : xC p s m args meth c cX7_master RX7 4 (some .int) D vwCl (xty K)) (hA : ∀ q, s.heap.size ≤ q → A q) : ∀ (r0 : zS) (r1 : zS) (H : Heap) (locs : List Loc) (ls : Array Slot), lv_has ls 4 [(0, .ref h0), (1, .int p1), (2, .int p2)] → va_P D vwCl (wX7 K h0 a0 hs r0 ++ (wX1 K (a0 0) a1 r1)) H → va_D A (wX7 K h0 a0 hs r0 ++ (wX1 K (a0 0) a1 r1)) → va_S A s.heap H locs → wp_X7_master_91 p1 p2 post r0 r1 → W p l e ({ frames := 1, cells := 0, slots := 0, locals := 80 } : Room) s m args below meth c H locs 0 0 (MQ below (va_Qi (fun r (u : (zS) × (zS)) => post r u.1 u.2) (fun (u : (zS) × (zS)) t => va_P D vwCl (wX7 K h0 a0 hs u.1 ++ (wX1 K (a0 0) a1 u.2)) t.heap) A) args s 0 0 A) (F0 m 91 ls []) := by
  obtain ⟨hx, hb, hr, hml, hown, hts, hlocks, hK, hT⟩ := id C
  intro r0 r1 H locs ls hl hP hD hS h
  unfold wp_X7_master_91 at h
  refine lv_iload_n hx hb dX7_master_91 rfl (lv_at hl 1 rfl) ?_
  refine lv_iconst (v := 2) hx hb dX7_master_92 (by decide) ?_
  refine lv_icmp_ne (tgt := 126) hx hb dX7_master_93 (by decide) (fun c3 => ?_) (fun c3 => ?_)
  · replace h := And.right h c3
    exact t_X7_master_126 C hA _ _ _ _ _ (lv_sub hl [0] rfl) hP hD hS h
  · replace h := And.left h c3
    refine lv_iload_n hx hb dX7_master_96 rfl (lv_at hl 2 rfl) ?_
    refine lv_if_lt (tgt := 126) hx hb dX7_master_97 (by decide) (fun c6 => ?_) (fun c6 => ?_)
    · replace h := And.left h c6
      exact t_X7_master_126 C hA _ _ _ _ _ (lv_sub hl [0] rfl) hP hD hS h
    · replace h := And.right h c6
      refine lv_iload_n hx hb dX7_master_100 rfl (lv_at hl 2 rfl) ?_
      refine lv_sipush (v := 1000) hx hb dX7_master_101 (by decide) ?_
      refine lv_icmp_gt (tgt := 126) hx hb dX7_master_104 (by decide) (fun c7 => ?_) (fun c7 => ?_)
      · replace h := And.left h c7
        exact t_X7_master_126 C hA _ _ _ _ _ (lv_sub hl [0] rfl) hP hD hS h
      · replace h := And.right h c7
        refine lv_aload_n hx hb dX7_master_107 rfl (lv_at hl 0 rfl) ?_
        refine va_get (D := D) (ci := 7) (v := .ref (a0 0)) (C := RX7) (T := TX7) (N := 13) hx hb hts inlX7 hown hK hP 0 rfl rfl 0 (by decide) (hts (.fieldLink RX7 10 "UnderTheDesks" "room" "LUnderTheDesks$Room;") mw_16) (fun _ h9 => h9) rfl dX7_master_108 ?_
        refine va_get (D := D) (ci := 1) (v := .int (r1.1 4)) (C := RX1) (T := TX1) (N := 10) hx hb hts inlX1 hown hK hP 3 rfl rfl 4 (by decide) (hts (.fieldLink RX7 210 "UnderTheDesks$Room" "eye" "I") mw_478) (fun _ h9 => h9) rfl dX7_master_111 ?_
        refine lv_topi (fun v8 ev8 => ?_)
        replace h := h v8 ev8
        refine lv_istore_n (lv' := [(3, .int v8), (0, .ref h0), (1, .int p1), (2, .int p2)]) hx hb dX7_master_114 rfl hl (by decide) rfl (fun ls hl => ?_)
        refine lv_aload_n hx hb dX7_master_115 rfl (lv_at hl 1 rfl) ?_
        refine va_get (D := D) (ci := 7) (v := .ref (a0 0)) (C := RX7) (T := TX7) (N := 13) hx hb hts inlX7 hown hK hP 0 rfl rfl 0 (by decide) (hts (.fieldLink RX7 10 "UnderTheDesks" "room" "LUnderTheDesks$Room;") mw_16) (fun _ h9 => h9) rfl dX7_master_116 ?_
        refine lv_iload_n hx hb dX7_master_119 rfl (lv_at hl 3 rfl) ?_
        refine va_put (D := D) (ci := 1) (v := .int p2) (ty := .int) (C := RX1) (T := TX1) (N := 10) hx hb hts inlX1 tyX1 tyX1_ok nmX1 hown hK hP hD hS 3 rfl rfl 4 (by decide) (hts (.fieldLink RX7 210 "UnderTheDesks$Room" "eye" "I") mw_478) (fun _ h9 => h9) rfl (by decide +kernel) rfl rfl (Nat.le_of_ble_eq_true rfl) dX7_master_120 (fun H locs hP hD hS => ?_)
        replace hP : va_P D vwCl (wX7 K h0 a0 hs r0 ++ (wX1 K (a0 0) a1 (zI r1 4 p2))) H := hP
        replace hD : va_D A (wX7 K h0 a0 hs r0 ++ (wX1 K (a0 0) a1 (zI r1 4 p2))) := hD
        refine lv_goto (tgt := 133) hx hb dX7_master_123 (by decide) ?_
        refine lv_iload_n hx hb dX7_master_133 rfl (lv_at hl 0 rfl) ?_
        exact xrw_i C (r0, (zI r1 4 p2)) h hP hS dX7_master_134
set_option maxHeartbeats 4000000 in
set_option maxRecDepth 100000 in
theorem t_X7_master_52 {p : Program} {l : Launch} {e : Env} {s : State} {m : MethodId} {args : Array Value} {below : List Frame} {meth : Method} {c : Code} {D : va_G} {K : Nat → ClassId} {h0 : Nat} {a0 : Nat → Nat} {hs : Nat → Nat} {a1 : Nat → Nat} {p1 : Int32} {p2 : Int32} {post : Int32 → (zS) → (zS) → Prop} {A : Nat → Prop} (C : xC p s m args meth c cX7_master RX7 4 (some .int) D vwCl (xty K)) (hA : ∀ q, s.heap.size ≤ q → A q) : ∀ (r0 : zS) (r1 : zS) (H : Heap) (locs : List Loc) (ls : Array Slot), lv_has ls 4 [(0, .ref h0), (1, .int p1), (2, .int p2)] → va_P D vwCl (wX7 K h0 a0 hs r0 ++ (wX1 K (a0 0) a1 r1)) H → va_D A (wX7 K h0 a0 hs r0 ++ (wX1 K (a0 0) a1 r1)) → va_S A s.heap H locs → wp_X7_master_52 p1 p2 post r0 r1 → W p l e ({ frames := 1, cells := 0, slots := 0, locals := 80 } : Room) s m args below meth c H locs 0 0 (MQ below (va_Qi (fun r (u : (zS) × (zS)) => post r u.1 u.2) (fun (u : (zS) × (zS)) t => va_P D vwCl (wX7 K h0 a0 hs u.1 ++ (wX1 K (a0 0) a1 u.2)) t.heap) A) args s 0 0 A) (F0 m 52 ls []) := by
  obtain ⟨hx, hb, hr, hml, hown, hts, hlocks, hK, hT⟩ := id C
  intro r0 r1 H locs ls hl hP hD hS h
  unfold wp_X7_master_52 at h
  refine lv_iload_n hx hb dX7_master_52 rfl (lv_at hl 1 rfl) ?_
  refine lv_iconst (v := 1) hx hb dX7_master_53 (by decide) ?_
  refine lv_icmp_ne (tgt := 91) hx hb dX7_master_54 (by decide) (fun c2 => ?_) (fun c2 => ?_)
  · replace h := And.right h c2
    exact t_X7_master_91 C hA _ _ _ _ _ (lv_sub hl [0, 1, 2] rfl) hP hD hS h
  · replace h := And.left h c2
    refine lv_iload_n hx hb dX7_master_57 rfl (lv_at hl 2 rfl) ?_
    refine lv_if_lt (tgt := 91) hx hb dX7_master_58 (by decide) (fun c9 => ?_) (fun c9 => ?_)
    · replace h := And.left h c9
      exact t_X7_master_91 C hA _ _ _ _ _ (lv_sub hl [0, 1, 2] rfl) hP hD hS h
    · replace h := And.right h c9
      refine lv_iload_n hx hb dX7_master_61 rfl (lv_at hl 2 rfl) ?_
      refine lv_aload_n hx hb dX7_master_62 rfl (lv_at hl 0 rfl) ?_
      refine va_get (D := D) (ci := 7) (v := .ref (a0 0)) (C := RX7) (T := TX7) (N := 13) hx hb hts inlX7 hown hK hP 0 rfl rfl 0 (by decide) (hts (.fieldLink RX7 10 "UnderTheDesks" "room" "LUnderTheDesks$Room;") mw_16) (fun _ h9 => h9) rfl dX7_master_63 ?_
      refine va_get (D := D) (ci := 1) (v := .int (r1.1 2)) (C := RX1) (T := TX1) (N := 10) hx hb hts inlX1 hown hK hP 3 rfl rfl 2 (by decide) (hts (.fieldLink RX7 199 "UnderTheDesks$Room" "term" "I") mw_473) (fun _ h9 => h9) rfl dX7_master_66 ?_
      refine lv_icmp_gt (tgt := 91) hx hb dX7_master_69 (by decide) (fun c10 => ?_) (fun c10 => ?_)
      · replace h := And.left h c10
        exact t_X7_master_91 C hA _ _ _ _ _ (lv_sub hl [0, 1, 2] rfl) hP hD hS h
      · replace h := And.right h c10
        refine lv_aload_n hx hb dX7_master_72 rfl (lv_at hl 0 rfl) ?_
        refine va_get (D := D) (ci := 7) (v := .ref (a0 0)) (C := RX7) (T := TX7) (N := 13) hx hb hts inlX7 hown hK hP 0 rfl rfl 0 (by decide) (hts (.fieldLink RX7 10 "UnderTheDesks" "room" "LUnderTheDesks$Room;") mw_16) (fun _ h9 => h9) rfl dX7_master_73 ?_
        refine va_get (D := D) (ci := 1) (v := .int (r1.1 3)) (C := RX1) (T := TX1) (N := 10) hx hb hts inlX1 hown hK hP 3 rfl rfl 3 (by decide) (hts (.fieldLink RX7 202 "UnderTheDesks$Room" "turned" "I") mw_474) (fun _ h9 => h9) rfl dX7_master_76 ?_
        refine lv_topi (fun v11 ev11 => ?_)
        replace h := h v11 ev11
        refine lv_istore_n (lv' := [(3, .int v11), (0, .ref h0), (1, .int p1), (2, .int p2)]) hx hb dX7_master_79 rfl hl (by decide) rfl (fun ls hl => ?_)
        refine lv_aload_n hx hb dX7_master_80 rfl (lv_at hl 1 rfl) ?_
        refine va_get (D := D) (ci := 7) (v := .ref (a0 0)) (C := RX7) (T := TX7) (N := 13) hx hb hts inlX7 hown hK hP 0 rfl rfl 0 (by decide) (hts (.fieldLink RX7 10 "UnderTheDesks" "room" "LUnderTheDesks$Room;") mw_16) (fun _ h9 => h9) rfl dX7_master_81 ?_
        refine lv_iload_n hx hb dX7_master_84 rfl (lv_at hl 3 rfl) ?_
        refine va_put (D := D) (ci := 1) (v := .int p2) (ty := .int) (C := RX1) (T := TX1) (N := 10) hx hb hts inlX1 tyX1 tyX1_ok nmX1 hown hK hP hD hS 3 rfl rfl 3 (by decide) (hts (.fieldLink RX7 202 "UnderTheDesks$Room" "turned" "I") mw_474) (fun _ h9 => h9) rfl (by decide +kernel) rfl rfl (Nat.le_of_ble_eq_true rfl) dX7_master_85 (fun H locs hP hD hS => ?_)
        replace hP : va_P D vwCl (wX7 K h0 a0 hs r0 ++ (wX1 K (a0 0) a1 (zI r1 3 p2))) H := hP
        replace hD : va_D A (wX7 K h0 a0 hs r0 ++ (wX1 K (a0 0) a1 (zI r1 3 p2))) := hD
        refine lv_goto (tgt := 133) hx hb dX7_master_88 (by decide) ?_
        refine lv_iload_n hx hb dX7_master_133 rfl (lv_at hl 0 rfl) ?_
        exact xrw_i C (r0, (zI r1 3 p2)) h hP hS dX7_master_134
set_option maxHeartbeats 4000000 in
set_option maxRecDepth 100000 in
theorem c_X7_master {l : Launch} {D : va_G} {K : Nat → ClassId} {h0 : Nat} {a0 : Nat → Nat} {hs : Nat → Nat} {r0 : zS} {a1 : Nat → Nat} {r1 : zS} {p1 : Int32} {p2 : Int32} {sz : Nat} {post : Int32 → (zS) → (zS) → Prop}   (h : wp_X7_master r0 r1 p1 p2 post) : Met l yX7_master (Cond.code yX7_master cX7_master 4 (some .int) :: wsL_law) ({ frames := 1, cells := 0, slots := 0, locals := 80 } : Room) (va_Pc [.ref h0, .int p1, .int p2] (xPre D vwCl (xty K) (wX7 K h0 a0 hs r0 ++ (wX1 K (a0 0) a1 r1)) sz)) (va_Qi (fun r (u : (zS) × (zS)) => post r u.1 u.2) (fun (u : (zS) × (zS)) t => va_P D vwCl (wX7 K h0 a0 hs u.1 ++ (wX1 K (a0 0) a1 u.2)) t.heap) (va_A (wX7 K h0 a0 hs r0 ++ (wX1 K (a0 0) a1 r1)) sz)) 0 0 (va_A (wX7 K h0 a0 hs r0 ++ (wX1 K (a0 0) a1 r1)) sz) := by
  refine xMet (by decide) rfl (Nat.le_of_ble_eq_true rfl) (fun p e s m args below meth c C hnm hP hD hsz ls hl => ?_)
  have hl : lv_has ls 4 [(0, .ref h0), (1, .int p1), (2, .int p2)] := hl
  obtain ⟨hx, hb, hr, hml, hown, hts, hlocks, hK, hT⟩ := id C
  subst hsz
  generalize hAe : va_A (wX7 K h0 a0 hs r0 ++ (wX1 K (a0 0) a1 r1)) s.heap.size = A at hD ⊢
  have hA : ∀ q : Nat, s.heap.size ≤ q → A q := fun q h => by rw [← hAe]; exact Or.inr h
  have hS : va_S A s.heap s.heap [] := va_S.rf
  have hP : va_P D vwCl (wX7 K h0 a0 hs r0 ++ (wX1 K (a0 0) a1 r1)) s.heap := hP
  unfold wp_X7_master at h
  refine lv_iload_n hx hb dX7_master_0 rfl (lv_at hl 1 rfl) ?_
  refine lv_if_ne (tgt := 52) hx hb dX7_master_1 (by decide) (fun c1 => ?_) (fun c1 => ?_)
  · replace h := And.right h c1
    exact t_X7_master_52 C hA _ _ _ _ _ (lv_sub hl [0, 1, 2] rfl) hP hD hS h
  · replace h := And.left h c1
    refine lv_iload_n hx hb dX7_master_4 rfl (lv_at hl 2 rfl) ?_
    refine lv_iconst (v := 1) hx hb dX7_master_5 (by decide) ?_
    refine lv_icmp_lt (tgt := 52) hx hb dX7_master_6 (by decide) (fun c12 => ?_) (fun c12 => ?_)
    · replace h := And.left h c12
      exact t_X7_master_52 C hA _ _ _ _ _ (lv_sub hl [0, 1, 2] rfl) hP hD hS h
    · replace h := And.right h c12
      refine lv_iload_n hx hb dX7_master_9 rfl (lv_at hl 2 rfl) ?_
      refine lv_bipush (v := 20) hx hb dX7_master_10 (by decide) ?_
      refine lv_icmp_gt (tgt := 52) hx hb dX7_master_12 (by decide) (fun c13 => ?_) (fun c13 => ?_)
      · replace h := And.left h c13
        exact t_X7_master_52 C hA _ _ _ _ _ (lv_sub hl [0, 1, 2] rfl) hP hD hS h
      · replace h := And.right h c13
        refine lv_aload_n hx hb dX7_master_15 rfl (lv_at hl 0 rfl) ?_
        refine va_get (D := D) (ci := 7) (v := .ref (a0 0)) (C := RX7) (T := TX7) (N := 13) hx hb hts inlX7 hown hK hP 0 rfl rfl 0 (by decide) (hts (.fieldLink RX7 10 "UnderTheDesks" "room" "LUnderTheDesks$Room;") mw_16) (fun _ h9 => h9) rfl dX7_master_16 ?_
        refine va_get (D := D) (ci := 1) (v := .int (r1.1 2)) (C := RX1) (T := TX1) (N := 10) hx hb hts inlX1 hown hK hP 3 rfl rfl 2 (by decide) (hts (.fieldLink RX7 199 "UnderTheDesks$Room" "term" "I") mw_473) (fun _ h9 => h9) rfl dX7_master_19 ?_
        refine lv_topi (fun v14 ev14 => ?_)
        replace h := h v14 ev14
        refine lv_istore_n (lv' := [(3, .int v14), (0, .ref h0), (1, .int p1), (2, .int p2)]) hx hb dX7_master_22 rfl hl (by decide) rfl (fun ls hl => ?_)
        refine lv_aload_n hx hb dX7_master_23 rfl (lv_at hl 1 rfl) ?_
        refine va_get (D := D) (ci := 7) (v := .ref (a0 0)) (C := RX7) (T := TX7) (N := 13) hx hb hts inlX7 hown hK hP 0 rfl rfl 0 (by decide) (hts (.fieldLink RX7 10 "UnderTheDesks" "room" "LUnderTheDesks$Room;") mw_16) (fun _ h9 => h9) rfl dX7_master_24 ?_
        refine lv_iload_n hx hb dX7_master_27 rfl (lv_at hl 3 rfl) ?_
        refine va_put (D := D) (ci := 1) (v := .int p2) (ty := .int) (C := RX1) (T := TX1) (N := 10) hx hb hts inlX1 tyX1 tyX1_ok nmX1 hown hK hP hD hS 3 rfl rfl 2 (by decide) (hts (.fieldLink RX7 199 "UnderTheDesks$Room" "term" "I") mw_473) (fun _ h9 => h9) rfl (by decide +kernel) rfl rfl (Nat.le_of_ble_eq_true rfl) dX7_master_28 (fun H locs hP hD hS => ?_)
        replace hP : va_P D vwCl (wX7 K h0 a0 hs r0 ++ (wX1 K (a0 0) a1 (zI r1 2 p2))) H := hP
        replace hD : va_D A (wX7 K h0 a0 hs r0 ++ (wX1 K (a0 0) a1 (zI r1 2 p2))) := hD
        refine lv_aload_n hx hb dX7_master_31 rfl (lv_at hl 1 rfl) ?_
        refine va_get (D := D) (ci := 7) (v := .ref (a0 0)) (C := RX7) (T := TX7) (N := 13) hx hb hts inlX7 hown hK hP 0 rfl rfl 0 (by decide) (hts (.fieldLink RX7 10 "UnderTheDesks" "room" "LUnderTheDesks$Room;") mw_16) (fun _ h9 => h9) rfl dX7_master_32 ?_
        refine lv_aload_n hx hb dX7_master_35 rfl (lv_at hl 1 rfl) ?_
        refine va_get (D := D) (ci := 7) (v := .ref (a0 0)) (C := RX7) (T := TX7) (N := 13) hx hb hts inlX7 hown hK hP 0 rfl rfl 0 (by decide) (hts (.fieldLink RX7 10 "UnderTheDesks" "room" "LUnderTheDesks$Room;") mw_16) (fun _ h9 => h9) rfl dX7_master_36 ?_
        refine va_get (D := D) (ci := 1) (v := .int ((zI r1 2 p2).1 3)) (C := RX1) (T := TX1) (N := 10) hx hb hts inlX1 hown hK hP 3 rfl rfl 3 (by decide) (hts (.fieldLink RX7 202 "UnderTheDesks$Room" "turned" "I") mw_474) (fun _ h9 => h9) rfl dX7_master_39 ?_
        refine lv_iload_n hx hb dX7_master_42 rfl (lv_at hl 3 rfl) ?_
        refine va_mmin hx hb (by rw [hml]; exact hl.1.symm) hown (hts _ mw_475) (hts _ mw_476) (hts _ mw_406) (hts _ mw_477) (Nat.le_of_ble_eq_true rfl) (Nat.le_of_ble_eq_true rfl) (Nat.le_of_ble_eq_true rfl) (Nat.le_of_ble_eq_true rfl) dX7_master_43 ?_
        refine lv_topi (fun v15 ev15 => ?_)
        replace h := h v15 ev15
        refine va_put (D := D) (ci := 1) (v := .int v15) (ty := .int) (C := RX1) (T := TX1) (N := 10) hx hb hts inlX1 tyX1 tyX1_ok nmX1 hown hK hP hD hS 3 rfl rfl 3 (by decide) (hts (.fieldLink RX7 202 "UnderTheDesks$Room" "turned" "I") mw_474) (fun _ h9 => h9) rfl (by decide +kernel) rfl rfl (Nat.le_of_ble_eq_true rfl) dX7_master_46 (fun H locs hP hD hS => ?_)
        replace hP : va_P D vwCl (wX7 K h0 a0 hs r0 ++ (wX1 K (a0 0) a1 (zI (zI r1 2 p2) 3 v15))) H := hP
        replace hD : va_D A (wX7 K h0 a0 hs r0 ++ (wX1 K (a0 0) a1 (zI (zI r1 2 p2) 3 v15))) := hD
        refine lv_goto (tgt := 133) hx hb dX7_master_49 (by decide) ?_
        refine lv_iload_n hx hb dX7_master_133 rfl (lv_at hl 0 rfl) ?_
        exact xrw_i C (r0, (zI (zI r1 2 p2) 3 v15)) h hP hS dX7_master_134

def wp_X7_feed_11 (p1 : Int32) (post : Int32 → (zS) → (zS) → Prop) (r0 : zS) (r1 : zS) : Prop :=
  wp_X7_refuse r0 (-2 : Int32) (fun v2 s3 => post v2 s3 r1)
def wp_X7_feed (r0 : zS) (r1 : zS) (p1 : Int32) (post : Int32 → (zS) → (zS) → Prop) : Prop :=
  (p1 < 0 → wp_X7_feed_11 p1 post r0 r1) ∧ (¬ p1 < 0 → (p1 ≤ (255 : Int32) → wp_X3_add r1 p1 (fun v5 s6 => (v5 = 0 → wp_X7_refuse r0 (-6 : Int32) (fun v8 s9 => post v8 s9 s6)) ∧ (¬ v5 = 0 → post (s6.1 0) r0 s6))) ∧ (¬ p1 ≤ (255 : Int32) → wp_X7_feed_11 p1 post r0 r1))
set_option maxHeartbeats 4000000 in
set_option maxRecDepth 100000 in
theorem t_X7_feed_11 {p : Program} {l : Launch} {e : Env} {s : State} {m : MethodId} {args : Array Value} {below : List Frame} {meth : Method} {c : Code} {D : va_G} {K : Nat → ClassId} {h0 : Nat} {a0 : Nat → Nat} {hs : Nat → Nat} {a1 : Nat → Nat} {p1 : Int32} {post : Int32 → (zS) → (zS) → Prop} {A : Nat → Prop} (C : xC p s m args meth c cX7_feed RX7 2 (some .int) D vwCl (xty K)) (hA : ∀ q, s.heap.size ≤ q → A q) : ∀ (r0 : zS) (r1 : zS) (H : Heap) (locs : List Loc) (ls : Array Slot), lv_has ls 2 [(0, .ref h0)] → va_P D vwCl (wX7 K h0 a0 hs r0 ++ (wX3 K (a0 7) a1 r1)) H → va_D A (wX7 K h0 a0 hs r0 ++ (wX3 K (a0 7) a1 r1)) → va_S A s.heap H locs → wp_X7_feed_11 p1 post r0 r1 → W p l e ({ frames := 1, cells := 0, slots := 0, locals := 22 } : Room) s m args below meth c H locs 0 0 (MQ below (va_Qi (fun r (u : (zS) × (zS)) => post r u.1 u.2) (fun (u : (zS) × (zS)) t => va_P D vwCl (wX7 K h0 a0 hs u.1 ++ (wX3 K (a0 7) a1 u.2)) t.heap) A) args s 0 0 A) (F0 m 11 ls []) := by
  obtain ⟨hx, hb, hr, hml, hown, hts, hlocks, hK, hT⟩ := id C
  intro r0 r1 H locs ls hl hP hD hS h
  unfold wp_X7_feed_11 at h
  refine lv_aload_n hx hb dX7_feed_11 rfl (lv_at hl 0 rfl) ?_
  refine lv_bipush (v := -2) hx hb dX7_feed_12 (by decide) ?_
  refine xend_rw_i (wf := fun (u : (zS)) => (wX7 K h0 a0 hs u)) (xRunV (wc := (wX7 K h0 a0 hs r0)) (As := [.int (-2 : Int32)]) (rest := []) C (c_X7_refuse h) k_X7_refuse mw_147 ⟨rfl, rfl⟩ ⟨Nat.le_of_ble_eq_true rfl, Nat.le_of_ble_eq_true rfl⟩ hP hD [0, 1, 2] rfl rfl rfl rfl hl rfl rfl (Nat.le_of_ble_eq_true rfl) dX7_feed_14 ⟨Nat.le_refl _, Nat.le_refl _⟩) hP hD hS hA [0, 1, 2] rfl rfl (fun _ => rfl) (fun v2 s3 H locs h hP hD hS => ?_)
  replace hP : va_P D vwCl (wX7 K h0 a0 hs s3 ++ (wX3 K (a0 7) a1 r1)) H := hP
  replace hD : va_D A (wX7 K h0 a0 hs s3 ++ (wX3 K (a0 7) a1 r1)) := hD
  exact xrw_i C (s3, r1) h hP hS dX7_feed_17
set_option maxHeartbeats 4000000 in
set_option maxRecDepth 100000 in
theorem c_X7_feed {l : Launch} {D : va_G} {K : Nat → ClassId} {h0 : Nat} {a0 : Nat → Nat} {hs : Nat → Nat} {r0 : zS} {a1 : Nat → Nat} {r1 : zS} {p1 : Int32} {sz : Nat} {post : Int32 → (zS) → (zS) → Prop}   (h : wp_X7_feed r0 r1 p1 post) : Met l yX7_feed (Cond.code yX7_feed cX7_feed 2 (some .int) :: wsL_law) ({ frames := 1, cells := 0, slots := 0, locals := 22 } : Room) (va_Pc [.ref h0, .int p1] (xPre D vwCl (xty K) (wX7 K h0 a0 hs r0 ++ (wX3 K (a0 7) a1 r1)) sz)) (va_Qi (fun r (u : (zS) × (zS)) => post r u.1 u.2) (fun (u : (zS) × (zS)) t => va_P D vwCl (wX7 K h0 a0 hs u.1 ++ (wX3 K (a0 7) a1 u.2)) t.heap) (va_A (wX7 K h0 a0 hs r0 ++ (wX3 K (a0 7) a1 r1)) sz)) 0 0 (va_A (wX7 K h0 a0 hs r0 ++ (wX3 K (a0 7) a1 r1)) sz) := by
  refine xMet (by decide) rfl (Nat.le_of_ble_eq_true rfl) (fun p e s m args below meth c C hnm hP hD hsz ls hl => ?_)
  have hl : lv_has ls 2 [(0, .ref h0), (1, .int p1)] := hl
  obtain ⟨hx, hb, hr, hml, hown, hts, hlocks, hK, hT⟩ := id C
  subst hsz
  generalize hAe : va_A (wX7 K h0 a0 hs r0 ++ (wX3 K (a0 7) a1 r1)) s.heap.size = A at hD ⊢
  have hA : ∀ q : Nat, s.heap.size ≤ q → A q := fun q h => by rw [← hAe]; exact Or.inr h
  have hS : va_S A s.heap s.heap [] := va_S.rf
  have hP : va_P D vwCl (wX7 K h0 a0 hs r0 ++ (wX3 K (a0 7) a1 r1)) s.heap := hP
  unfold wp_X7_feed at h
  refine lv_iload_n hx hb dX7_feed_0 rfl (lv_at hl 1 rfl) ?_
  refine lv_if_lt (tgt := 11) hx hb dX7_feed_1 (by decide) (fun c1 => ?_) (fun c1 => ?_)
  · replace h := And.left h c1
    exact t_X7_feed_11 C hA _ _ _ _ _ (lv_sub hl [0] rfl) hP hD hS h
  · replace h := And.right h c1
    refine lv_iload_n hx hb dX7_feed_4 rfl (lv_at hl 1 rfl) ?_
    refine lv_sipush (v := 255) hx hb dX7_feed_5 (by decide) ?_
    refine lv_icmp_le (tgt := 18) hx hb dX7_feed_8 (by decide) (fun c4 => ?_) (fun c4 => ?_)
    · replace h := And.left h c4
      refine lv_aload_n hx hb dX7_feed_18 rfl (lv_at hl 0 rfl) ?_
      refine va_get (D := D) (ci := 7) (v := .ref (a0 7)) (C := RX7) (T := TX7) (N := 13) hx hb hts inlX7 hown hK hP 0 rfl rfl 7 (by decide) (hts (.fieldLink RX7 45 "UnderTheDesks" "tape" "LUnderTheDesks$Tape;") mw_30) (fun _ h9 => h9) rfl dX7_feed_19 ?_
      refine lv_iload_n hx hb dX7_feed_22 rfl (lv_at hl 1 rfl) ?_
      refine xend_rw_i (wf := fun (u : (zS)) => (wX3 K (a0 7) a1 u)) (xRunV (wc := (wX3 K (a0 7) a1 r1)) (As := [.int p1]) (rest := []) C (c_X3_add h) k_X3_add mw_494 ⟨rfl, rfl⟩ ⟨Nat.le_of_ble_eq_true rfl, Nat.le_of_ble_eq_true rfl⟩ hP hD [3, 4] rfl rfl rfl rfl hl rfl rfl (Nat.le_of_ble_eq_true rfl) dX7_feed_23 ⟨Nat.le_refl _, Nat.le_refl _⟩) hP hD hS hA [3, 4] rfl rfl (fun _ => rfl) (fun v5 s6 H locs h hP hD hS => ?_)
      replace hP : va_P D vwCl (wX7 K h0 a0 hs r0 ++ (wX3 K (a0 7) a1 s6)) H := hP
      replace hD : va_D A (wX7 K h0 a0 hs r0 ++ (wX3 K (a0 7) a1 s6)) := hD
      refine lv_if_ne (tgt := 36) hx hb dX7_feed_26 (by decide) (fun c7 => ?_) (fun c7 => ?_)
      · replace h := And.right h c7
        refine lv_aload_n hx hb dX7_feed_36 rfl (lv_at hl 0 rfl) ?_
        refine va_get (D := D) (ci := 7) (v := .ref (a0 7)) (C := RX7) (T := TX7) (N := 13) hx hb hts inlX7 hown hK hP 0 rfl rfl 7 (by decide) (hts (.fieldLink RX7 45 "UnderTheDesks" "tape" "LUnderTheDesks$Tape;") mw_30) (fun _ h9 => h9) rfl dX7_feed_37 ?_
        refine va_get (D := D) (ci := 3) (v := .int (s6.1 0)) (C := RX3) (T := TX3) (N := 2) hx hb hts inlX3 hown hK hP 3 rfl rfl 0 (by decide) (hts (.fieldLink RX7 216 "UnderTheDesks$Tape" "size" "I") mw_493) (fun _ h9 => h9) rfl dX7_feed_40 ?_
        exact xrw_i C (r0, s6) h hP hS dX7_feed_43
      · replace h := And.left h c7
        refine lv_aload_n hx hb dX7_feed_29 rfl (lv_at hl 0 rfl) ?_
        refine lv_bipush (v := -6) hx hb dX7_feed_30 (by decide) ?_
        refine xend_rw_i (wf := fun (u : (zS)) => (wX7 K h0 a0 hs u)) (xRunV (wc := (wX7 K h0 a0 hs r0)) (As := [.int (-6 : Int32)]) (rest := []) C (c_X7_refuse h) k_X7_refuse mw_147 ⟨rfl, rfl⟩ ⟨Nat.le_of_ble_eq_true rfl, Nat.le_of_ble_eq_true rfl⟩ hP hD [0, 1, 2] rfl rfl rfl rfl hl rfl rfl (Nat.le_of_ble_eq_true rfl) dX7_feed_32 ⟨Nat.le_refl _, Nat.le_refl _⟩) hP hD hS hA [0, 1, 2] rfl rfl (fun _ => rfl) (fun v8 s9 H locs h hP hD hS => ?_)
        replace hP : va_P D vwCl (wX7 K h0 a0 hs s9 ++ (wX3 K (a0 7) a1 s6)) H := hP
        replace hD : va_D A (wX7 K h0 a0 hs s9 ++ (wX3 K (a0 7) a1 s6)) := hD
        exact xrw_i C (s9, s6) h hP hS dX7_feed_35
    · replace h := And.right h c4
      exact t_X7_feed_11 C hA _ _ _ _ _ (lv_sub hl [0] rfl) hP hD hS h

def wp_X7_wipe (r0 : zS) (r1 : zS) (post : Int32 → (zS) → Prop) : Prop :=
  ∀ v1 : Int32, v1 = (r1.1 0) → post v1 (zI r1 0 (0 : Int32))
set_option maxHeartbeats 4000000 in
set_option maxRecDepth 100000 in
theorem c_X7_wipe {l : Launch} {D : va_G} {K : Nat → ClassId} {h0 : Nat} {a0 : Nat → Nat} {hs : Nat → Nat} {r0 : zS} {a1 : Nat → Nat} {r1 : zS}  {sz : Nat} {post : Int32 → (zS) → Prop}   (h : wp_X7_wipe r0 r1 post) : Met l yX7_wipe (Cond.code yX7_wipe cX7_wipe 2 (some .int) :: wsL_law) ({ frames := 0, cells := 0, slots := 0, locals := 0 } : Room) (va_Pc [.ref h0] (xPre D vwCl (xty K) (wX7 K h0 a0 hs r0 ++ (wX3 K (a0 7) a1 r1)) sz)) (va_Qi (fun r (u : (zS)) => post r u) (fun (u : (zS)) t => va_P D vwCl (wX7 K h0 a0 hs r0 ++ (wX3 K (a0 7) a1 u)) t.heap) (va_A (wX7 K h0 a0 hs r0 ++ (wX3 K (a0 7) a1 r1)) sz)) 0 0 (va_A (wX7 K h0 a0 hs r0 ++ (wX3 K (a0 7) a1 r1)) sz) := by
  refine xMet (by decide) rfl (Nat.le_of_ble_eq_true rfl) (fun p e s m args below meth c C hnm hP hD hsz ls hl => ?_)
  have hl : lv_has ls 2 [(0, .ref h0)] := hl
  obtain ⟨hx, hb, hr, hml, hown, hts, hlocks, hK, hT⟩ := id C
  subst hsz
  generalize hAe : va_A (wX7 K h0 a0 hs r0 ++ (wX3 K (a0 7) a1 r1)) s.heap.size = A at hD ⊢
  have hA : ∀ q : Nat, s.heap.size ≤ q → A q := fun q h => by rw [← hAe]; exact Or.inr h
  have hS : va_S A s.heap s.heap [] := va_S.rf
  have hP : va_P D vwCl (wX7 K h0 a0 hs r0 ++ (wX3 K (a0 7) a1 r1)) s.heap := hP
  unfold wp_X7_wipe at h
  refine lv_aload_n hx hb dX7_wipe_0 rfl (lv_at hl 0 rfl) ?_
  refine va_get (D := D) (ci := 7) (v := .ref (a0 7)) (C := RX7) (T := TX7) (N := 13) hx hb hts inlX7 hown hK hP 0 rfl rfl 7 (by decide) (hts (.fieldLink RX7 45 "UnderTheDesks" "tape" "LUnderTheDesks$Tape;") mw_30) (fun _ h9 => h9) rfl dX7_wipe_1 ?_
  refine va_get (D := D) (ci := 3) (v := .int (r1.1 0)) (C := RX3) (T := TX3) (N := 2) hx hb hts inlX3 hown hK hP 3 rfl rfl 0 (by decide) (hts (.fieldLink RX7 216 "UnderTheDesks$Tape" "size" "I") mw_493) (fun _ h9 => h9) rfl dX7_wipe_4 ?_
  refine lv_topi (fun v1 ev1 => ?_)
  replace h := h v1 ev1
  refine lv_istore_n (lv' := [(1, .int v1), (0, .ref h0)]) hx hb dX7_wipe_7 rfl hl (by decide) rfl (fun ls hl => ?_)
  refine lv_aload_n hx hb dX7_wipe_8 rfl (lv_at hl 1 rfl) ?_
  refine va_get (D := D) (ci := 7) (v := .ref (a0 7)) (C := RX7) (T := TX7) (N := 13) hx hb hts inlX7 hown hK hP 0 rfl rfl 7 (by decide) (hts (.fieldLink RX7 45 "UnderTheDesks" "tape" "LUnderTheDesks$Tape;") mw_30) (fun _ h9 => h9) rfl dX7_wipe_9 ?_
  refine lv_iconst (v := 0) hx hb dX7_wipe_12 (by decide) ?_
  refine va_put (D := D) (ci := 3) (v := .int (0 : Int32)) (ty := .int) (C := RX3) (T := TX3) (N := 2) hx hb hts inlX3 tyX3 tyX3_ok nmX3 hown hK hP hD hS 3 rfl rfl 0 (by decide) (hts (.fieldLink RX7 216 "UnderTheDesks$Tape" "size" "I") mw_493) (fun _ h9 => h9) rfl (by decide +kernel) rfl rfl (Nat.le_of_ble_eq_true rfl) dX7_wipe_13 (fun H locs hP hD hS => ?_)
  replace hP : va_P D vwCl (wX7 K h0 a0 hs r0 ++ (wX3 K (a0 7) a1 (zI r1 0 (0 : Int32)))) H := hP
  replace hD : va_D A (wX7 K h0 a0 hs r0 ++ (wX3 K (a0 7) a1 (zI r1 0 (0 : Int32)))) := hD
  refine lv_iload_n hx hb dX7_wipe_16 rfl (lv_at hl 0 rfl) ?_
  exact xrw_i C (zI r1 0 (0 : Int32)) h hP hS dX7_wipe_17

def wp_X7_school (r0 : zS) (r1 : zS) (r2 : zS) (r3 : zS) (r4 : zS) (post : Int32 → (zS) → (zS) → (zS) → (zS) → (zS) → Prop) : Prop :=
  wp_X1_takeOver r1 r2 (fun s2 => wp_X0_read r3 r4 s2 (fun v3 s4 s5 => ∀ v7 : Int32, v7 = (s4.1 2) → (v3 = (-1 : Int32) → wp_X7_refuse r0 (-2 : Int32) (fun v11 s12 => post ((-20 : Int32) - v7) s12 s5 r2 s4 (zI r4 0 (0 : Int32)))) ∧ (¬ v3 = (-1 : Int32) → wp_X1_takeOver r2 s5 (fun s10 => post v3 r0 s5 s10 s4 (zI r4 0 (0 : Int32))))))
set_option maxHeartbeats 4000000 in
set_option maxRecDepth 100000 in
theorem c_X7_school {l : Launch} {D : va_G} {K : Nat → ClassId} {h0 : Nat} {a0 : Nat → Nat} {hs : Nat → Nat} {r0 : zS} {a1 : Nat → Nat} {r1 : zS} {a2 : Nat → Nat} {r2 : zS}  {r3 : zS} {a4 : Nat → Nat} {r4 : zS}  {adK adV : Nat → Nat} {sz : Nat} {post : Int32 → (zS) → (zS) → (zS) → (zS) → (zS) → Prop}   (h : wp_X7_school r0 r1 r2 r3 r4 post) : Met l yX7_school (Cond.code yX7_school cX7_school 3 (some .int) :: wsL_law) ({ frames := 7, cells := 0, slots := 0, locals := 211 } : Room) (va_Pc [.ref h0] (xPreE D vwCl (xty K) (wX7 K h0 a0 hs r0 ++ (wX1 K (a0 1) a1 r1 ++ (wX1 K (a0 0) a2 r2 ++ (wX0 K (a0 8) (xls a0) r3 ++ (wX3 K (a0 7) a4 r4))))) sz adK adV)) (va_Qi (fun r (u : (zS) × (zS) × (zS) × (zS) × (zS)) => post r u.1 u.2.1 u.2.2.1 u.2.2.2.1 u.2.2.2.2) (fun (u : (zS) × (zS) × (zS) × (zS) × (zS)) t => va_P D vwCl (wX7 K h0 a0 hs u.1 ++ (wX1 K (a0 1) a1 u.2.1 ++ (wX1 K (a0 0) a2 u.2.2.1 ++ (wX0 K (a0 8) (xls a0) u.2.2.2.1 ++ (wX3 K (a0 7) a4 u.2.2.2.2))))) t.heap) (va_A (wX7 K h0 a0 hs r0 ++ (wX1 K (a0 1) a1 r1 ++ (wX1 K (a0 0) a2 r2 ++ (wX0 K (a0 8) (xls a0) r3 ++ (wX3 K (a0 7) a4 r4))))) sz)) 0 0 (va_A (wX7 K h0 a0 hs r0 ++ (wX1 K (a0 1) a1 r1 ++ (wX1 K (a0 0) a2 r2 ++ (wX0 K (a0 8) (xls a0) r3 ++ (wX3 K (a0 7) a4 r4))))) sz) := by
  refine xMetE (by decide) rfl (Nat.le_of_ble_eq_true rfl) (fun p e s m args below meth c C hnm hP hD hsz ls hl hE => ?_)
  have hl : lv_has ls 3 [(0, .ref h0)] := hl
  obtain ⟨hx, hb, hr, hml, hown, hts, hlocks, hK, hT⟩ := id C
  subst hsz
  generalize hAe : va_A (wX7 K h0 a0 hs r0 ++ (wX1 K (a0 1) a1 r1 ++ (wX1 K (a0 0) a2 r2 ++ (wX0 K (a0 8) (xls a0) r3 ++ (wX3 K (a0 7) a4 r4))))) s.heap.size = A at hD hE ⊢
  have hA : ∀ q : Nat, s.heap.size ≤ q → A q := fun q h => by rw [← hAe]; exact Or.inr h
  have hS : va_S A s.heap s.heap [] := va_S.rf
  have hP : va_P D vwCl (wX7 K h0 a0 hs r0 ++ (wX1 K (a0 1) a1 r1 ++ (wX1 K (a0 0) a2 r2 ++ (wX0 K (a0 8) (xls a0) r3 ++ (wX3 K (a0 7) a4 r4))))) s.heap := hP
  unfold wp_X7_school at h
  refine lv_aload_n hx hb dX7_school_0 rfl (lv_at hl 0 rfl) ?_
  refine va_get (D := D) (ci := 7) (v := .ref (a0 1)) (C := RX7) (T := TX7) (N := 13) hx hb hts inlX7 hown hK hP 0 rfl rfl 1 (by decide) (hts (.fieldLink RX7 16 "UnderTheDesks" "trial" "LUnderTheDesks$Room;") mw_17) (fun _ h9 => h9) rfl dX7_school_1 ?_
  refine lv_aload_n hx hb dX7_school_4 rfl (lv_at hl 0 rfl) ?_
  refine va_get (D := D) (ci := 7) (v := .ref (a0 0)) (C := RX7) (T := TX7) (N := 13) hx hb hts inlX7 hown hK hP 0 rfl rfl 0 (by decide) (hts (.fieldLink RX7 10 "UnderTheDesks" "room" "LUnderTheDesks$Room;") mw_16) (fun _ h9 => h9) rfl dX7_school_5 ?_
  refine xend_rw_v (wf := fun (u : (zS)) => (wX1 K (a0 1) a1 u ++ (wX1 K (a0 0) a2 r2))) (xRunV (wc := (wX1 K (a0 1) a1 r1 ++ (wX1 K (a0 0) a2 r2))) (As := [.ref (a0 0)]) (rest := []) C (c_X1_takeOver h) k_X1_takeOver mw_517 ⟨rfl, rfl⟩ ⟨Nat.le_of_ble_eq_true rfl, Nat.le_of_ble_eq_true rfl⟩ hP hD [3, 4, 5, 6, 7, 8, 9, 10, 11, 12, 13, 14] rfl rfl rfl rfl hl rfl rfl (Nat.le_of_ble_eq_true rfl) dX7_school_8 ⟨Nat.le_refl _, Nat.le_refl _⟩) hP hD hS hA [3, 4, 5, 6, 7, 8, 9, 10, 11, 12, 13, 14] rfl rfl (fun _ => rfl) (fun s2 H locs h hP hD hS => ?_)
  replace hP : va_P D vwCl (wX7 K h0 a0 hs r0 ++ (wX1 K (a0 1) a1 s2 ++ (wX1 K (a0 0) a2 r2 ++ (wX0 K (a0 8) (xls a0) r3 ++ (wX3 K (a0 7) a4 r4))))) H := hP
  replace hD : va_D A (wX7 K h0 a0 hs r0 ++ (wX1 K (a0 1) a1 s2 ++ (wX1 K (a0 0) a2 r2 ++ (wX0 K (a0 8) (xls a0) r3 ++ (wX3 K (a0 7) a4 r4))))) := hD
  refine lv_aload_n hx hb dX7_school_11 rfl (lv_at hl 0 rfl) ?_
  refine va_get (D := D) (ci := 7) (v := .ref (a0 8)) (C := RX7) (T := TX7) (N := 13) hx hb hts inlX7 hown hK hP 0 rfl rfl 8 (by decide) (hts (.fieldLink RX7 54 "UnderTheDesks" "lesson" "LUnderTheDesks$Lesson;") mw_34) (fun _ h9 => h9) rfl dX7_school_12 ?_
  refine xend_rw_i (wf := fun (u : (zS) × (zS)) => (wX0 K (a0 8) (xls a0) u.1 ++ (wX3 K (a0 7) a4 r4 ++ (wX1 K (a0 1) a1 u.2)))) (xRunVE (wc := (wX0 K (a0 8) (xls a0) r3 ++ (wX3 K (a0 7) a4 r4 ++ (wX1 K (a0 1) a1 s2)))) (As := []) (rest := []) C hE hS hA (c_X0_read h) k_X0_read mw_522 ⟨rfl, rfl⟩ ⟨Nat.le_of_ble_eq_true rfl, Nat.le_of_ble_eq_true rfl⟩ hP hD [15, 16, 17, 3, 4, 5, 6, 7, 8] rfl rfl (fun hw => va_recv hK hw (ci := 0) (q0 := 0) rfl rfl) hl rfl rfl (Nat.le_of_ble_eq_true rfl) dX7_school_15 ⟨Nat.le_refl _, Nat.le_refl _⟩) hP hD hS hA [15, 16, 17, 3, 4, 5, 6, 7, 8] rfl rfl (fun _ => rfl) (fun v3 u6 H locs h hP hD hS => ?_)
  obtain ⟨s4, s5⟩ := u6
  replace hP : va_P D vwCl (wX7 K h0 a0 hs r0 ++ (wX1 K (a0 1) a1 s5 ++ (wX1 K (a0 0) a2 r2 ++ (wX0 K (a0 8) (xls a0) s4 ++ (wX3 K (a0 7) a4 r4))))) H := hP
  replace hD : va_D A (wX7 K h0 a0 hs r0 ++ (wX1 K (a0 1) a1 s5 ++ (wX1 K (a0 0) a2 r2 ++ (wX0 K (a0 8) (xls a0) s4 ++ (wX3 K (a0 7) a4 r4))))) := hD
  refine lv_istore_n (lv' := [(1, .int v3), (0, .ref h0)]) hx hb dX7_school_18 rfl hl (by decide) rfl (fun ls hl => ?_)
  refine lv_aload_n hx hb dX7_school_19 rfl (lv_at hl 1 rfl) ?_
  refine va_get (D := D) (ci := 7) (v := .ref (a0 8)) (C := RX7) (T := TX7) (N := 13) hx hb hts inlX7 hown hK hP 0 rfl rfl 8 (by decide) (hts (.fieldLink RX7 54 "UnderTheDesks" "lesson" "LUnderTheDesks$Lesson;") mw_34) (fun _ h9 => h9) rfl dX7_school_20 ?_
  refine va_get (D := D) (ci := 0) (v := .int (s4.1 2)) (C := RX0) (T := TX0) (N := 5) hx hb hts inlX0 hown hK hP 15 rfl rfl 2 (by decide) (hts (.fieldLink RX7 224 "UnderTheDesks$Lesson" "start" "I") mw_516) (fun _ h9 => h9) rfl dX7_school_23 ?_
  refine lv_topi (fun v7 ev7 => ?_)
  replace h := h v7 ev7
  refine lv_istore_n (lv' := [(2, .int v7), (1, .int v3), (0, .ref h0)]) hx hb dX7_school_26 rfl hl (by decide) rfl (fun ls hl => ?_)
  refine lv_aload_n hx hb dX7_school_27 rfl (lv_at hl 2 rfl) ?_
  refine va_get (D := D) (ci := 7) (v := .ref (a0 7)) (C := RX7) (T := TX7) (N := 13) hx hb hts inlX7 hown hK hP 0 rfl rfl 7 (by decide) (hts (.fieldLink RX7 45 "UnderTheDesks" "tape" "LUnderTheDesks$Tape;") mw_30) (fun _ h9 => h9) rfl dX7_school_28 ?_
  refine lv_iconst (v := 0) hx hb dX7_school_31 (by decide) ?_
  refine va_put (D := D) (ci := 3) (v := .int (0 : Int32)) (ty := .int) (C := RX3) (T := TX3) (N := 2) hx hb hts inlX3 tyX3 tyX3_ok nmX3 hown hK hP hD hS 16 rfl rfl 0 (by decide) (hts (.fieldLink RX7 216 "UnderTheDesks$Tape" "size" "I") mw_493) (fun _ h9 => h9) rfl (by decide +kernel) rfl rfl (Nat.le_of_ble_eq_true rfl) dX7_school_32 (fun H locs hP hD hS => ?_)
  replace hP : va_P D vwCl (wX7 K h0 a0 hs r0 ++ (wX1 K (a0 1) a1 s5 ++ (wX1 K (a0 0) a2 r2 ++ (wX0 K (a0 8) (xls a0) s4 ++ (wX3 K (a0 7) a4 (zI r4 0 (0 : Int32))))))) H := hP
  replace hD : va_D A (wX7 K h0 a0 hs r0 ++ (wX1 K (a0 1) a1 s5 ++ (wX1 K (a0 0) a2 r2 ++ (wX0 K (a0 8) (xls a0) s4 ++ (wX3 K (a0 7) a4 (zI r4 0 (0 : Int32))))))) := hD
  refine lv_iload_n hx hb dX7_school_35 rfl (lv_at hl 1 rfl) ?_
  refine lv_iconst (v := -1) hx hb dX7_school_36 (by decide) ?_
  refine lv_icmp_ne (tgt := 52) hx hb dX7_school_37 (by decide) (fun c8 => ?_) (fun c8 => ?_)
  · replace h := And.right h c8
    refine lv_aload_n hx hb dX7_school_52 rfl (lv_at hl 2 rfl) ?_
    refine va_get (D := D) (ci := 7) (v := .ref (a0 0)) (C := RX7) (T := TX7) (N := 13) hx hb hts inlX7 hown hK hP 0 rfl rfl 0 (by decide) (hts (.fieldLink RX7 10 "UnderTheDesks" "room" "LUnderTheDesks$Room;") mw_16) (fun _ h9 => h9) rfl dX7_school_53 ?_
    refine lv_aload_n hx hb dX7_school_56 rfl (lv_at hl 2 rfl) ?_
    refine va_get (D := D) (ci := 7) (v := .ref (a0 1)) (C := RX7) (T := TX7) (N := 13) hx hb hts inlX7 hown hK hP 0 rfl rfl 1 (by decide) (hts (.fieldLink RX7 16 "UnderTheDesks" "trial" "LUnderTheDesks$Room;") mw_17) (fun _ h9 => h9) rfl dX7_school_57 ?_
    refine xend_rw_v (wf := fun (u : (zS)) => (wX1 K (a0 0) a2 u ++ (wX1 K (a0 1) a1 s5))) (xRunV (wc := (wX1 K (a0 0) a2 r2 ++ (wX1 K (a0 1) a1 s5))) (As := [.ref (a0 1)]) (rest := []) C (c_X1_takeOver h) k_X1_takeOver mw_517 ⟨rfl, rfl⟩ ⟨Nat.le_of_ble_eq_true rfl, Nat.le_of_ble_eq_true rfl⟩ hP hD [9, 10, 11, 12, 13, 14, 3, 4, 5, 6, 7, 8] rfl rfl rfl rfl hl rfl rfl (Nat.le_of_ble_eq_true rfl) dX7_school_60 ⟨Nat.le_refl _, Nat.le_refl _⟩) hP hD hS hA [9, 10, 11, 12, 13, 14, 3, 4, 5, 6, 7, 8] rfl rfl (fun _ => rfl) (fun s10 H locs h hP hD hS => ?_)
    replace hP : va_P D vwCl (wX7 K h0 a0 hs r0 ++ (wX1 K (a0 1) a1 s5 ++ (wX1 K (a0 0) a2 s10 ++ (wX0 K (a0 8) (xls a0) s4 ++ (wX3 K (a0 7) a4 (zI r4 0 (0 : Int32))))))) H := hP
    replace hD : va_D A (wX7 K h0 a0 hs r0 ++ (wX1 K (a0 1) a1 s5 ++ (wX1 K (a0 0) a2 s10 ++ (wX0 K (a0 8) (xls a0) s4 ++ (wX3 K (a0 7) a4 (zI r4 0 (0 : Int32))))))) := hD
    refine lv_iload_n hx hb dX7_school_63 rfl (lv_at hl 1 rfl) ?_
    exact xrw_i C (r0, s5, s10, s4, (zI r4 0 (0 : Int32))) h hP hS dX7_school_64
  · replace h := And.left h c8
    refine lv_aload_n hx hb dX7_school_40 rfl (lv_at hl 2 rfl) ?_
    refine lv_bipush (v := -2) hx hb dX7_school_41 (by decide) ?_
    refine xend_rw_i (wf := fun (u : (zS)) => (wX7 K h0 a0 hs u)) (xRunV (wc := (wX7 K h0 a0 hs r0)) (As := [.int (-2 : Int32)]) (rest := []) C (c_X7_refuse h) k_X7_refuse mw_147 ⟨rfl, rfl⟩ ⟨Nat.le_of_ble_eq_true rfl, Nat.le_of_ble_eq_true rfl⟩ hP hD [0, 1, 2] rfl rfl rfl rfl hl rfl rfl (Nat.le_of_ble_eq_true rfl) dX7_school_43 ⟨Nat.le_refl _, Nat.le_refl _⟩) hP hD hS hA [0, 1, 2] rfl rfl (fun _ => rfl) (fun v11 s12 H locs h hP hD hS => ?_)
    replace hP : va_P D vwCl (wX7 K h0 a0 hs s12 ++ (wX1 K (a0 1) a1 s5 ++ (wX1 K (a0 0) a2 r2 ++ (wX0 K (a0 8) (xls a0) s4 ++ (wX3 K (a0 7) a4 (zI r4 0 (0 : Int32))))))) H := hP
    replace hD : va_D A (wX7 K h0 a0 hs s12 ++ (wX1 K (a0 1) a1 s5 ++ (wX1 K (a0 0) a2 r2 ++ (wX0 K (a0 8) (xls a0) s4 ++ (wX3 K (a0 7) a4 (zI r4 0 (0 : Int32))))))) := hD
    refine lv_pop hx hb dX7_school_46 rfl ?_
    refine lv_bipush (v := -20) hx hb dX7_school_47 (by decide) ?_
    refine lv_iload_n hx hb dX7_school_49 rfl (lv_at hl 0 rfl) ?_
    refine lv_isub hx hb dX7_school_50 ?_
    exact xrw_i C (s12, s5, r2, s4, (zI r4 0 (0 : Int32))) h hP hS dX7_school_51

def wp_X7_pupilOf (r0 : zS) (r1 : zS) (p1 : Int32) (p2 : Int32) (post : Int32 → (zS) → Prop) : Prop :=
  wp_X1_has r1 p1 (fun v1 => (v1 = 0 → wp_X7_refuse r0 (-2 : Int32) (fun v11 s12 => post v11 s12)) ∧ (¬ v1 = 0 → (p2 = 0 → wp_X1_kindOf r1 p1 (fun v4 => post v4 r0)) ∧ (p2 = 1 → wp_X1_deskOf r1 p1 (fun v5 => post v5 r0)) ∧ (p2 = 2 → wp_X1_markOf r1 p1 (fun v6 => post v6 r0)) ∧ (p2 = 3 → wp_X1_nearOf r1 p1 (fun v7 => post v7 r0)) ∧ (p2 = 4 → wp_X1_barredOf r1 p1 (fun v8 => post v8 r0)) ∧ (¬ p2 = 0 → ¬ p2 = 1 → ¬ p2 = 2 → ¬ p2 = 3 → ¬ p2 = 4 → wp_X7_refuse r0 (-2 : Int32) (fun v9 s10 => post v9 s10))))
set_option maxHeartbeats 4000000 in
set_option maxRecDepth 100000 in
theorem c_X7_pupilOf {l : Launch} {D : va_G} {K : Nat → ClassId} {h0 : Nat} {a0 : Nat → Nat} {hs : Nat → Nat} {r0 : zS} {a1 : Nat → Nat} {r1 : zS} {p1 : Int32} {p2 : Int32} {sz : Nat} {post : Int32 → (zS) → Prop}   (h : wp_X7_pupilOf r0 r1 p1 p2 post) : Met l yX7_pupilOf (Cond.code yX7_pupilOf cX7_pupilOf 3 (some .int) :: wsL_law) ({ frames := 2, cells := 0, slots := 0, locals := 42 } : Room) (va_Pc [.ref h0, .int p1, .int p2] (xPre D vwCl (xty K) (wX7 K h0 a0 hs r0 ++ (wX1 K (a0 0) a1 r1)) sz)) (va_Qi (fun r (u : (zS)) => post r u) (fun (u : (zS)) t => va_P D vwCl (wX7 K h0 a0 hs u ++ (wX1 K (a0 0) a1 r1)) t.heap) (va_A (wX7 K h0 a0 hs r0 ++ (wX1 K (a0 0) a1 r1)) sz)) 0 0 (va_A (wX7 K h0 a0 hs r0 ++ (wX1 K (a0 0) a1 r1)) sz) := by
  refine xMet (by decide) rfl (Nat.le_of_ble_eq_true rfl) (fun p e s m args below meth c C hnm hP hD hsz ls hl => ?_)
  have hl : lv_has ls 3 [(0, .ref h0), (1, .int p1), (2, .int p2)] := hl
  obtain ⟨hx, hb, hr, hml, hown, hts, hlocks, hK, hT⟩ := id C
  subst hsz
  generalize hAe : va_A (wX7 K h0 a0 hs r0 ++ (wX1 K (a0 0) a1 r1)) s.heap.size = A at hD ⊢
  have hA : ∀ q : Nat, s.heap.size ≤ q → A q := fun q h => by rw [← hAe]; exact Or.inr h
  have hS : va_S A s.heap s.heap [] := va_S.rf
  have hP : va_P D vwCl (wX7 K h0 a0 hs r0 ++ (wX1 K (a0 0) a1 r1)) s.heap := hP
  unfold wp_X7_pupilOf at h
  refine lv_aload_n hx hb dX7_pupilOf_0 rfl (lv_at hl 0 rfl) ?_
  refine va_get (D := D) (ci := 7) (v := .ref (a0 0)) (C := RX7) (T := TX7) (N := 13) hx hb hts inlX7 hown hK hP 0 rfl rfl 0 (by decide) (hts (.fieldLink RX7 10 "UnderTheDesks" "room" "LUnderTheDesks$Room;") mw_16) (fun _ h9 => h9) rfl dX7_pupilOf_1 ?_
  refine lv_iload_n hx hb dX7_pupilOf_4 rfl (lv_at hl 1 rfl) ?_
  refine xend_ro_i (xRunV (wc := (wX1 K (a0 0) a1 r1)) (As := [.int p1]) (rest := []) C (c_X1_has h) k_X1_has mw_250 ⟨rfl, rfl⟩ ⟨Nat.le_of_ble_eq_true rfl, Nat.le_of_ble_eq_true rfl⟩ hP hD [3, 4, 5, 6, 7, 8] rfl rfl rfl rfl hl rfl rfl (Nat.le_of_ble_eq_true rfl) dX7_pupilOf_5 ⟨Nat.le_refl _, Nat.le_refl _⟩) (fun v1 h => ?_)
  refine lv_if_ne (tgt := 18) hx hb dX7_pupilOf_8 (by decide) (fun c2 => ?_) (fun c2 => ?_)
  · replace h := And.right h c2
    refine lv_iload_n hx hb dX7_pupilOf_18 rfl (lv_at hl 2 rfl) ?_
    rcases (Decidable.em (p2 = 0)) with c3 | c3_0
    · have c3T := xsw c3
      replace h := And.left (h) c3
      refine lv_tableIn (tgt := 52) hx hb dX7_pupilOf_19 (by rw [c3T]; decide) (by rw [c3T]; decide) (by rw [c3T] <;> rfl) (by decide) ?_
      refine lv_aload_n hx hb dX7_pupilOf_52 rfl (lv_at hl 0 rfl) ?_
      refine va_get (D := D) (ci := 7) (v := .ref (a0 0)) (C := RX7) (T := TX7) (N := 13) hx hb hts inlX7 hown hK hP 0 rfl rfl 0 (by decide) (hts (.fieldLink RX7 10 "UnderTheDesks" "room" "LUnderTheDesks$Room;") mw_16) (fun _ h9 => h9) rfl dX7_pupilOf_53 ?_
      refine lv_iload_n hx hb dX7_pupilOf_56 rfl (lv_at hl 1 rfl) ?_
      refine xend_ro_i (xRunV (wc := (wX1 K (a0 0) a1 r1)) (As := [.int p1]) (rest := []) C (c_X1_kindOf h) k_X1_kindOf mw_279 ⟨rfl, rfl⟩ ⟨Nat.le_of_ble_eq_true rfl, Nat.le_of_ble_eq_true rfl⟩ hP hD [3, 4, 5, 6, 7, 8] rfl rfl rfl rfl hl rfl rfl (Nat.le_of_ble_eq_true rfl) dX7_pupilOf_57 ⟨Nat.le_refl _, Nat.le_refl _⟩) (fun v4 h => ?_)
      exact xrw_i C r0 h hP hS dX7_pupilOf_60
    rcases (Decidable.em (p2 = 1)) with c3 | c3_1
    · have c3T := xsw c3
      replace h := And.left (And.right (h)) c3
      refine lv_tableIn (tgt := 61) hx hb dX7_pupilOf_19 (by rw [c3T]; decide) (by rw [c3T]; decide) (by rw [c3T] <;> rfl) (by decide) ?_
      refine lv_aload_n hx hb dX7_pupilOf_61 rfl (lv_at hl 0 rfl) ?_
      refine va_get (D := D) (ci := 7) (v := .ref (a0 0)) (C := RX7) (T := TX7) (N := 13) hx hb hts inlX7 hown hK hP 0 rfl rfl 0 (by decide) (hts (.fieldLink RX7 10 "UnderTheDesks" "room" "LUnderTheDesks$Room;") mw_16) (fun _ h9 => h9) rfl dX7_pupilOf_62 ?_
      refine lv_iload_n hx hb dX7_pupilOf_65 rfl (lv_at hl 1 rfl) ?_
      refine xend_ro_i (xRunV (wc := (wX1 K (a0 0) a1 r1)) (As := [.int p1]) (rest := []) C (c_X1_deskOf h) k_X1_deskOf mw_322 ⟨rfl, rfl⟩ ⟨Nat.le_of_ble_eq_true rfl, Nat.le_of_ble_eq_true rfl⟩ hP hD [3, 4, 5, 6, 7, 8] rfl rfl rfl rfl hl rfl rfl (Nat.le_of_ble_eq_true rfl) dX7_pupilOf_66 ⟨Nat.le_refl _, Nat.le_refl _⟩) (fun v5 h => ?_)
      exact xrw_i C r0 h hP hS dX7_pupilOf_69
    rcases (Decidable.em (p2 = 2)) with c3 | c3_2
    · have c3T := xsw c3
      replace h := And.left (And.right (And.right (h))) c3
      refine lv_tableIn (tgt := 70) hx hb dX7_pupilOf_19 (by rw [c3T]; decide) (by rw [c3T]; decide) (by rw [c3T] <;> rfl) (by decide) ?_
      refine lv_aload_n hx hb dX7_pupilOf_70 rfl (lv_at hl 0 rfl) ?_
      refine va_get (D := D) (ci := 7) (v := .ref (a0 0)) (C := RX7) (T := TX7) (N := 13) hx hb hts inlX7 hown hK hP 0 rfl rfl 0 (by decide) (hts (.fieldLink RX7 10 "UnderTheDesks" "room" "LUnderTheDesks$Room;") mw_16) (fun _ h9 => h9) rfl dX7_pupilOf_71 ?_
      refine lv_iload_n hx hb dX7_pupilOf_74 rfl (lv_at hl 1 rfl) ?_
      refine xend_ro_i (xRunV (wc := (wX1 K (a0 0) a1 r1)) (As := [.int p1]) (rest := []) C (c_X1_markOf h) k_X1_markOf mw_313 ⟨rfl, rfl⟩ ⟨Nat.le_of_ble_eq_true rfl, Nat.le_of_ble_eq_true rfl⟩ hP hD [3, 4, 5, 6, 7, 8] rfl rfl rfl rfl hl rfl rfl (Nat.le_of_ble_eq_true rfl) dX7_pupilOf_75 ⟨Nat.le_refl _, Nat.le_refl _⟩) (fun v6 h => ?_)
      exact xrw_i C r0 h hP hS dX7_pupilOf_78
    rcases (Decidable.em (p2 = 3)) with c3 | c3_3
    · have c3T := xsw c3
      replace h := And.left (And.right (And.right (And.right (h)))) c3
      refine lv_tableIn (tgt := 79) hx hb dX7_pupilOf_19 (by rw [c3T]; decide) (by rw [c3T]; decide) (by rw [c3T] <;> rfl) (by decide) ?_
      refine lv_aload_n hx hb dX7_pupilOf_79 rfl (lv_at hl 0 rfl) ?_
      refine va_get (D := D) (ci := 7) (v := .ref (a0 0)) (C := RX7) (T := TX7) (N := 13) hx hb hts inlX7 hown hK hP 0 rfl rfl 0 (by decide) (hts (.fieldLink RX7 10 "UnderTheDesks" "room" "LUnderTheDesks$Room;") mw_16) (fun _ h9 => h9) rfl dX7_pupilOf_80 ?_
      refine lv_iload_n hx hb dX7_pupilOf_83 rfl (lv_at hl 1 rfl) ?_
      refine xend_ro_i (xRunV (wc := (wX1 K (a0 0) a1 r1)) (As := [.int p1]) (rest := []) C (c_X1_nearOf h) k_X1_nearOf mw_707 ⟨rfl, rfl⟩ ⟨Nat.le_of_ble_eq_true rfl, Nat.le_of_ble_eq_true rfl⟩ hP hD [3, 4, 5, 6, 7, 8] rfl rfl rfl rfl hl rfl rfl (Nat.le_of_ble_eq_true rfl) dX7_pupilOf_84 ⟨Nat.le_refl _, Nat.le_refl _⟩) (fun v7 h => ?_)
      exact xrw_i C r0 h hP hS dX7_pupilOf_87
    rcases (Decidable.em (p2 = 4)) with c3 | c3_4
    · have c3T := xsw c3
      replace h := And.left (And.right (And.right (And.right (And.right (h))))) c3
      refine lv_tableIn (tgt := 88) hx hb dX7_pupilOf_19 (by rw [c3T]; decide) (by rw [c3T]; decide) (by rw [c3T] <;> rfl) (by decide) ?_
      refine lv_aload_n hx hb dX7_pupilOf_88 rfl (lv_at hl 0 rfl) ?_
      refine va_get (D := D) (ci := 7) (v := .ref (a0 0)) (C := RX7) (T := TX7) (N := 13) hx hb hts inlX7 hown hK hP 0 rfl rfl 0 (by decide) (hts (.fieldLink RX7 10 "UnderTheDesks" "room" "LUnderTheDesks$Room;") mw_16) (fun _ h9 => h9) rfl dX7_pupilOf_89 ?_
      refine lv_iload_n hx hb dX7_pupilOf_92 rfl (lv_at hl 1 rfl) ?_
      refine xend_ro_i (xRunV (wc := (wX1 K (a0 0) a1 r1)) (As := [.int p1]) (rest := []) C (c_X1_barredOf h) k_X1_barredOf mw_708 ⟨rfl, rfl⟩ ⟨Nat.le_of_ble_eq_true rfl, Nat.le_of_ble_eq_true rfl⟩ hP hD [3, 4, 5, 6, 7, 8] rfl rfl rfl rfl hl rfl rfl (Nat.le_of_ble_eq_true rfl) dX7_pupilOf_93 ⟨Nat.le_refl _, Nat.le_refl _⟩) (fun v8 h => ?_)
      exact xrw_i C r0 h hP hS dX7_pupilOf_96
    replace h := And.right (And.right (And.right (And.right (And.right (h))))) c3_0 c3_1 c3_2 c3_3 c3_4
    have c3N_0 := lv_neT (a := 0) c3_0 rfl
    have c3N_1 := lv_neT (a := 1) c3_1 rfl
    have c3N_2 := lv_neT (a := 2) c3_2 rfl
    have c3N_3 := lv_neT (a := 3) c3_3 rfl
    have c3N_4 := lv_neT (a := 4) c3_4 rfl
    refine lv_tableOut (tgt := 97) hx hb dX7_pupilOf_19 (by omega) (by decide) ?_
    refine lv_aload_n hx hb dX7_pupilOf_97 rfl (lv_at hl 0 rfl) ?_
    refine lv_bipush (v := -2) hx hb dX7_pupilOf_98 (by decide) ?_
    refine xend_rw_i (wf := fun (u : (zS)) => (wX7 K h0 a0 hs u)) (xRunV (wc := (wX7 K h0 a0 hs r0)) (As := [.int (-2 : Int32)]) (rest := []) C (c_X7_refuse h) k_X7_refuse mw_147 ⟨rfl, rfl⟩ ⟨Nat.le_of_ble_eq_true rfl, Nat.le_of_ble_eq_true rfl⟩ hP hD [0, 1, 2] rfl rfl rfl rfl hl rfl rfl (Nat.le_of_ble_eq_true rfl) dX7_pupilOf_100 ⟨Nat.le_refl _, Nat.le_refl _⟩) hP hD hS hA [0, 1, 2] rfl rfl (fun _ => rfl) (fun v9 s10 H locs h hP hD hS => ?_)
    replace hP : va_P D vwCl (wX7 K h0 a0 hs s10 ++ (wX1 K (a0 0) a1 r1)) H := hP
    replace hD : va_D A (wX7 K h0 a0 hs s10 ++ (wX1 K (a0 0) a1 r1)) := hD
    exact xrw_i C s10 h hP hS dX7_pupilOf_103
  · replace h := And.left h c2
    refine lv_aload_n hx hb dX7_pupilOf_11 rfl (lv_at hl 0 rfl) ?_
    refine lv_bipush (v := -2) hx hb dX7_pupilOf_12 (by decide) ?_
    refine xend_rw_i (wf := fun (u : (zS)) => (wX7 K h0 a0 hs u)) (xRunV (wc := (wX7 K h0 a0 hs r0)) (As := [.int (-2 : Int32)]) (rest := []) C (c_X7_refuse h) k_X7_refuse mw_147 ⟨rfl, rfl⟩ ⟨Nat.le_of_ble_eq_true rfl, Nat.le_of_ble_eq_true rfl⟩ hP hD [0, 1, 2] rfl rfl rfl rfl hl rfl rfl (Nat.le_of_ble_eq_true rfl) dX7_pupilOf_14 ⟨Nat.le_refl _, Nat.le_refl _⟩) hP hD hS hA [0, 1, 2] rfl rfl (fun _ => rfl) (fun v11 s12 H locs h hP hD hS => ?_)
    replace hP : va_P D vwCl (wX7 K h0 a0 hs s12 ++ (wX1 K (a0 0) a1 r1)) H := hP
    replace hD : va_D A (wX7 K h0 a0 hs s12 ++ (wX1 K (a0 0) a1 r1)) := hD
    exact xrw_i C s12 h hP hS dX7_pupilOf_17

def wp_X7_at (r0 : zS) (r1 : zS) (p1 : Int32) (post : Int32 → (zS) → Prop) : Prop :=
  wp_X1_hasDesk r1 p1 (fun v1 => (v1 = 0 → wp_X7_refuse r0 (-2 : Int32) (fun v3 s4 => post v3 s4)) ∧ (¬ v1 = 0 → wp_X1_holderOf r1 p1 (fun v5 => post v5 r0)))
set_option maxHeartbeats 4000000 in
set_option maxRecDepth 100000 in
theorem c_X7_at {l : Launch} {D : va_G} {K : Nat → ClassId} {h0 : Nat} {a0 : Nat → Nat} {hs : Nat → Nat} {r0 : zS} {a1 : Nat → Nat} {r1 : zS} {p1 : Int32} {sz : Nat} {post : Int32 → (zS) → Prop}   (h : wp_X7_at r0 r1 p1 post) : Met l yX7_at (Cond.code yX7_at cX7_at 2 (some .int) :: wsL_law) ({ frames := 2, cells := 0, slots := 0, locals := 41 } : Room) (va_Pc [.ref h0, .int p1] (xPre D vwCl (xty K) (wX7 K h0 a0 hs r0 ++ (wX1 K (a0 0) a1 r1)) sz)) (va_Qi (fun r (u : (zS)) => post r u) (fun (u : (zS)) t => va_P D vwCl (wX7 K h0 a0 hs u ++ (wX1 K (a0 0) a1 r1)) t.heap) (va_A (wX7 K h0 a0 hs r0 ++ (wX1 K (a0 0) a1 r1)) sz)) 0 0 (va_A (wX7 K h0 a0 hs r0 ++ (wX1 K (a0 0) a1 r1)) sz) := by
  refine xMet (by decide) rfl (Nat.le_of_ble_eq_true rfl) (fun p e s m args below meth c C hnm hP hD hsz ls hl => ?_)
  have hl : lv_has ls 2 [(0, .ref h0), (1, .int p1)] := hl
  obtain ⟨hx, hb, hr, hml, hown, hts, hlocks, hK, hT⟩ := id C
  subst hsz
  generalize hAe : va_A (wX7 K h0 a0 hs r0 ++ (wX1 K (a0 0) a1 r1)) s.heap.size = A at hD ⊢
  have hA : ∀ q : Nat, s.heap.size ≤ q → A q := fun q h => by rw [← hAe]; exact Or.inr h
  have hS : va_S A s.heap s.heap [] := va_S.rf
  have hP : va_P D vwCl (wX7 K h0 a0 hs r0 ++ (wX1 K (a0 0) a1 r1)) s.heap := hP
  unfold wp_X7_at at h
  refine lv_aload_n hx hb dX7_at_0 rfl (lv_at hl 0 rfl) ?_
  refine va_get (D := D) (ci := 7) (v := .ref (a0 0)) (C := RX7) (T := TX7) (N := 13) hx hb hts inlX7 hown hK hP 0 rfl rfl 0 (by decide) (hts (.fieldLink RX7 10 "UnderTheDesks" "room" "LUnderTheDesks$Room;") mw_16) (fun _ h9 => h9) rfl dX7_at_1 ?_
  refine lv_iload_n hx hb dX7_at_4 rfl (lv_at hl 1 rfl) ?_
  refine xend_ro_i (xRunV (wc := (wX1 K (a0 0) a1 r1)) (As := [.int p1]) (rest := []) C (c_X1_hasDesk h) k_X1_hasDesk mw_374 ⟨rfl, rfl⟩ ⟨Nat.le_of_ble_eq_true rfl, Nat.le_of_ble_eq_true rfl⟩ hP hD [3, 4, 5, 6, 7, 8] rfl rfl rfl rfl hl rfl rfl (Nat.le_of_ble_eq_true rfl) dX7_at_5 ⟨Nat.le_refl _, Nat.le_refl _⟩) (fun v1 h => ?_)
  refine lv_if_eq (tgt := 22) hx hb dX7_at_8 (by decide) (fun c2 => ?_) (fun c2 => ?_)
  · replace h := And.left h c2
    refine lv_aload_n hx hb dX7_at_22 rfl (lv_at hl 0 rfl) ?_
    refine lv_bipush (v := -2) hx hb dX7_at_23 (by decide) ?_
    refine xend_rw_i (wf := fun (u : (zS)) => (wX7 K h0 a0 hs u)) (xRunV (wc := (wX7 K h0 a0 hs r0)) (As := [.int (-2 : Int32)]) (rest := []) C (c_X7_refuse h) k_X7_refuse mw_147 ⟨rfl, rfl⟩ ⟨Nat.le_of_ble_eq_true rfl, Nat.le_of_ble_eq_true rfl⟩ hP hD [0, 1, 2] rfl rfl rfl rfl hl rfl rfl (Nat.le_of_ble_eq_true rfl) dX7_at_25 ⟨Nat.le_refl _, Nat.le_refl _⟩) hP hD hS hA [0, 1, 2] rfl rfl (fun _ => rfl) (fun v3 s4 H locs h hP hD hS => ?_)
    replace hP : va_P D vwCl (wX7 K h0 a0 hs s4 ++ (wX1 K (a0 0) a1 r1)) H := hP
    replace hD : va_D A (wX7 K h0 a0 hs s4 ++ (wX1 K (a0 0) a1 r1)) := hD
    exact xrw_i C s4 h hP hS dX7_at_28
  · replace h := And.right h c2
    refine lv_aload_n hx hb dX7_at_11 rfl (lv_at hl 0 rfl) ?_
    refine va_get (D := D) (ci := 7) (v := .ref (a0 0)) (C := RX7) (T := TX7) (N := 13) hx hb hts inlX7 hown hK hP 0 rfl rfl 0 (by decide) (hts (.fieldLink RX7 10 "UnderTheDesks" "room" "LUnderTheDesks$Room;") mw_16) (fun _ h9 => h9) rfl dX7_at_12 ?_
    refine lv_iload_n hx hb dX7_at_15 rfl (lv_at hl 1 rfl) ?_
    refine xend_ro_i (xRunV (wc := (wX1 K (a0 0) a1 r1)) (As := [.int p1]) (rest := []) C (c_X1_holderOf h) k_X1_holderOf mw_385 ⟨rfl, rfl⟩ ⟨Nat.le_of_ble_eq_true rfl, Nat.le_of_ble_eq_true rfl⟩ hP hD [3, 4, 5, 6, 7, 8] rfl rfl rfl rfl hl rfl rfl (Nat.le_of_ble_eq_true rfl) dX7_at_16 ⟨Nat.le_refl _, Nat.le_refl _⟩) (fun v5 h => ?_)
    refine lv_goto (tgt := 28) hx hb dX7_at_19 (by decide) ?_
    exact xrw_i C r0 h hP hS dX7_at_28

def wp_X7_isSecond (p0 : Int32) (post : Int32 → Prop) : Prop :=
  (p0 < 0 → post (0 : Int32) ) ∧ (¬ p0 < 0 → ((9999 : Int32) < p0 → post (0 : Int32) ) ∧ (¬ (9999 : Int32) < p0 → post (1 : Int32) ))
set_option maxHeartbeats 4000000 in
set_option maxRecDepth 100000 in
theorem c_X7_isSecond {l : Launch} {D : va_G} {K : Nat → ClassId}  {p0 : Int32} {sz : Nat} {post : Int32 → Prop}   (h : wp_X7_isSecond p0 post) : Met l yX7_isSecond (Cond.code yX7_isSecond cX7_isSecond 1 (some .boolean) :: wsL_law) ({ frames := 0, cells := 0, slots := 0, locals := 0 } : Room) (va_Pc [.int p0] (xPre D vwCl (xty K) ([] : va_W) sz)) (roI post) 0 0 (fun _ => False) := by
  refine xMet (by decide) rfl (Nat.le_of_ble_eq_true rfl) (fun p e s m args below meth c C hnm hP hD hsz ls hl => ?_)
  have hl : lv_has ls 1 [(0, .int p0)] := hl
  obtain ⟨hx, hb, hr, hml, hown, hts, hlocks, hK, hT⟩ := id C
  unfold wp_X7_isSecond at h
  refine lv_iload_n hx hb dX7_isSecond_0 rfl (lv_at hl 0 rfl) ?_
  refine lv_if_lt (tgt := 15) hx hb dX7_isSecond_1 (by decide) (fun c1 => ?_) (fun c1 => ?_)
  · replace h := And.left h c1
    refine lv_iconst (v := 0) hx hb dX7_isSecond_15 (by decide) ?_
    exact xro_z C rfl h dX7_isSecond_16
  · replace h := And.right h c1
    refine lv_iload_n hx hb dX7_isSecond_4 rfl (lv_at hl 0 rfl) ?_
    refine lv_sipush (v := 9999) hx hb dX7_isSecond_5 (by decide) ?_
    refine lv_icmp_gt (tgt := 15) hx hb dX7_isSecond_8 (by decide) (fun c2 => ?_) (fun c2 => ?_)
    · replace h := And.left h c2
      refine lv_iconst (v := 0) hx hb dX7_isSecond_15 (by decide) ?_
      exact xro_z C rfl h dX7_isSecond_16
    · replace h := And.right h c2
      refine lv_iconst (v := 1) hx hb dX7_isSecond_11 (by decide) ?_
      refine lv_goto (tgt := 16) hx hb dX7_isSecond_12 (by decide) ?_
      exact xro_z C rfl h dX7_isSecond_16

def wp_X7_loss_18 (r1 : zS) (p1 : Int32) (p2 : Int32) (post : Int32 → (zS) → Prop) (r0 : zS) : Prop :=
  wp_X7_refuse r0 (-2 : Int32) (fun v3 s4 => post v3 s4)
def wp_X7_loss (r0 : zS) (r1 : zS) (p1 : Int32) (p2 : Int32) (post : Int32 → (zS) → Prop) : Prop :=
  wp_X1_has r1 p1 (fun v1 => (v1 = 0 → wp_X7_loss_18 r1 p1 p2 post r0) ∧ (¬ v1 = 0 → wp_X7_isSecond p2 (fun v5 => (v5 = 0 → wp_X7_loss_18 r1 p1 p2 post r0) ∧ (¬ v5 = 0 → wp_X1_lossOf r1 p1 (0 : Int32) p2 (fun v7 => post v7 r0)))))
set_option maxHeartbeats 4000000 in
set_option maxRecDepth 100000 in
theorem t_X7_loss_18 {p : Program} {l : Launch} {e : Env} {s : State} {m : MethodId} {args : Array Value} {below : List Frame} {meth : Method} {c : Code} {D : va_G} {K : Nat → ClassId} {h0 : Nat} {a0 : Nat → Nat} {hs : Nat → Nat} {a1 : Nat → Nat} {r1 : zS} {p1 : Int32} {p2 : Int32} {post : Int32 → (zS) → Prop} {A : Nat → Prop} (C : xC p s m args meth c cX7_loss RX7 3 (some .int) D vwCl (xty K)) (hA : ∀ q, s.heap.size ≤ q → A q) : ∀ (r0 : zS) (H : Heap) (locs : List Loc) (ls : Array Slot), lv_has ls 3 [(0, .ref h0)] → va_P D vwCl (wX7 K h0 a0 hs r0 ++ (wX1 K (a0 0) a1 r1)) H → va_D A (wX7 K h0 a0 hs r0 ++ (wX1 K (a0 0) a1 r1)) → va_S A s.heap H locs → wp_X7_loss_18 r1 p1 p2 post r0 → W p l e ({ frames := 3, cells := 0, slots := 0, locals := 104 } : Room) s m args below meth c H locs 0 0 (MQ below (va_Qi (fun r (u : (zS)) => post r u) (fun (u : (zS)) t => va_P D vwCl (wX7 K h0 a0 hs u ++ (wX1 K (a0 0) a1 r1)) t.heap) A) args s 0 0 A) (F0 m 18 ls []) := by
  obtain ⟨hx, hb, hr, hml, hown, hts, hlocks, hK, hT⟩ := id C
  intro r0 H locs ls hl hP hD hS h
  unfold wp_X7_loss_18 at h
  refine lv_aload_n hx hb dX7_loss_18 rfl (lv_at hl 0 rfl) ?_
  refine lv_bipush (v := -2) hx hb dX7_loss_19 (by decide) ?_
  refine xend_rw_i (wf := fun (u : (zS)) => (wX7 K h0 a0 hs u)) (xRunV (wc := (wX7 K h0 a0 hs r0)) (As := [.int (-2 : Int32)]) (rest := []) C (c_X7_refuse h) k_X7_refuse mw_147 ⟨rfl, rfl⟩ ⟨Nat.le_of_ble_eq_true rfl, Nat.le_of_ble_eq_true rfl⟩ hP hD [0, 1, 2] rfl rfl rfl rfl hl rfl rfl (Nat.le_of_ble_eq_true rfl) dX7_loss_21 ⟨Nat.le_refl _, Nat.le_refl _⟩) hP hD hS hA [0, 1, 2] rfl rfl (fun _ => rfl) (fun v3 s4 H locs h hP hD hS => ?_)
  replace hP : va_P D vwCl (wX7 K h0 a0 hs s4 ++ (wX1 K (a0 0) a1 r1)) H := hP
  replace hD : va_D A (wX7 K h0 a0 hs s4 ++ (wX1 K (a0 0) a1 r1)) := hD
  exact xrw_i C s4 h hP hS dX7_loss_24
set_option maxHeartbeats 4000000 in
set_option maxRecDepth 100000 in
theorem c_X7_loss {l : Launch} {D : va_G} {K : Nat → ClassId} {h0 : Nat} {a0 : Nat → Nat} {hs : Nat → Nat} {r0 : zS} {a1 : Nat → Nat} {r1 : zS} {p1 : Int32} {p2 : Int32} {sz : Nat} {post : Int32 → (zS) → Prop}   (h : wp_X7_loss r0 r1 p1 p2 post) : Met l yX7_loss (Cond.code yX7_loss cX7_loss 3 (some .int) :: wsL_law) ({ frames := 3, cells := 0, slots := 0, locals := 104 } : Room) (va_Pc [.ref h0, .int p1, .int p2] (xPre D vwCl (xty K) (wX7 K h0 a0 hs r0 ++ (wX1 K (a0 0) a1 r1)) sz)) (va_Qi (fun r (u : (zS)) => post r u) (fun (u : (zS)) t => va_P D vwCl (wX7 K h0 a0 hs u ++ (wX1 K (a0 0) a1 r1)) t.heap) (va_A (wX7 K h0 a0 hs r0 ++ (wX1 K (a0 0) a1 r1)) sz)) 0 0 (va_A (wX7 K h0 a0 hs r0 ++ (wX1 K (a0 0) a1 r1)) sz) := by
  refine xMet (by decide) rfl (Nat.le_of_ble_eq_true rfl) (fun p e s m args below meth c C hnm hP hD hsz ls hl => ?_)
  have hl : lv_has ls 3 [(0, .ref h0), (1, .int p1), (2, .int p2)] := hl
  obtain ⟨hx, hb, hr, hml, hown, hts, hlocks, hK, hT⟩ := id C
  subst hsz
  generalize hAe : va_A (wX7 K h0 a0 hs r0 ++ (wX1 K (a0 0) a1 r1)) s.heap.size = A at hD ⊢
  have hA : ∀ q : Nat, s.heap.size ≤ q → A q := fun q h => by rw [← hAe]; exact Or.inr h
  have hS : va_S A s.heap s.heap [] := va_S.rf
  have hP : va_P D vwCl (wX7 K h0 a0 hs r0 ++ (wX1 K (a0 0) a1 r1)) s.heap := hP
  unfold wp_X7_loss at h
  refine lv_aload_n hx hb dX7_loss_0 rfl (lv_at hl 0 rfl) ?_
  refine va_get (D := D) (ci := 7) (v := .ref (a0 0)) (C := RX7) (T := TX7) (N := 13) hx hb hts inlX7 hown hK hP 0 rfl rfl 0 (by decide) (hts (.fieldLink RX7 10 "UnderTheDesks" "room" "LUnderTheDesks$Room;") mw_16) (fun _ h9 => h9) rfl dX7_loss_1 ?_
  refine lv_iload_n hx hb dX7_loss_4 rfl (lv_at hl 1 rfl) ?_
  refine xend_ro_i (xRunV (wc := (wX1 K (a0 0) a1 r1)) (As := [.int p1]) (rest := []) C (c_X1_has h) k_X1_has mw_250 ⟨rfl, rfl⟩ ⟨Nat.le_of_ble_eq_true rfl, Nat.le_of_ble_eq_true rfl⟩ hP hD [3, 4, 5, 6, 7, 8] rfl rfl rfl rfl hl rfl rfl (Nat.le_of_ble_eq_true rfl) dX7_loss_5 ⟨Nat.le_refl _, Nat.le_refl _⟩) (fun v1 h => ?_)
  refine lv_if_eq (tgt := 18) hx hb dX7_loss_8 (by decide) (fun c2 => ?_) (fun c2 => ?_)
  · replace h := And.left h c2
    exact t_X7_loss_18 C hA _ _ _ _ (lv_sub hl [0] rfl) hP hD hS h
  · replace h := And.right h c2
    refine lv_iload_n hx hb dX7_loss_11 rfl (lv_at hl 2 rfl) ?_
    refine xend_ro_i (xRunS (wc := ([] : va_W)) (As := [.int p2]) (rest := []) C (c_X7_isSecond h) k_X7_isSecond mw_725 ⟨rfl, rfl⟩ ⟨Nat.le_of_ble_eq_true rfl, Nat.le_of_ble_eq_true rfl⟩ hP hD [] rfl rfl hl rfl rfl (Nat.le_of_ble_eq_true rfl) dX7_loss_12 ⟨Nat.le_refl _, Nat.le_refl _⟩) (fun v5 h => ?_)
    refine lv_if_ne (tgt := 25) hx hb dX7_loss_15 (by decide) (fun c6 => ?_) (fun c6 => ?_)
    · replace h := And.right h c6
      refine lv_aload_n hx hb dX7_loss_25 rfl (lv_at hl 0 rfl) ?_
      refine va_get (D := D) (ci := 7) (v := .ref (a0 0)) (C := RX7) (T := TX7) (N := 13) hx hb hts inlX7 hown hK hP 0 rfl rfl 0 (by decide) (hts (.fieldLink RX7 10 "UnderTheDesks" "room" "LUnderTheDesks$Room;") mw_16) (fun _ h9 => h9) rfl dX7_loss_26 ?_
      refine lv_iload_n hx hb dX7_loss_29 rfl (lv_at hl 1 rfl) ?_
      refine lv_iconst (v := 0) hx hb dX7_loss_30 (by decide) ?_
      refine lv_iload_n hx hb dX7_loss_31 rfl (lv_at hl 2 rfl) ?_
      refine xend_ro_i (xRunV (wc := (wX1 K (a0 0) a1 r1)) (As := [.int p1, .int (0 : Int32), .int p2]) (rest := []) C (c_X1_lossOf h) k_X1_lossOf mw_728 ⟨rfl, rfl⟩ ⟨Nat.le_of_ble_eq_true rfl, Nat.le_of_ble_eq_true rfl⟩ hP hD [3, 4, 5, 6, 7, 8] rfl rfl rfl rfl hl rfl rfl (Nat.le_of_ble_eq_true rfl) dX7_loss_32 ⟨Nat.le_refl _, Nat.le_refl _⟩) (fun v7 h => ?_)
      exact xrw_i C r0 h hP hS dX7_loss_35
    · replace h := And.left h c6
      exact t_X7_loss_18 C hA _ _ _ _ (lv_sub hl [0] rfl) hP hD hS h

def wp_X7_crowd_53 (r1 : zS) (post : Int32 → (zS) → Prop) (k21 : (zS) → Int32 → Int32 → Prop) (r0 : zS) (x1 : Int32) (x2 : Int32) : Prop :=
  ∀ v6 : Int32, v6 = x2 + (1 : Int32) → k21 r0 x1 v6
def wb_X7_crowd_21 (r1 : zS) (post : Int32 → (zS) → Prop) (ih : (zS) → Int32 → Int32 → Prop) (r0 : zS) (x1 : Int32) (x2 : Int32) : Prop :=
  ((r1.1 1) ≤ x2 → post x1 r0) ∧ (¬ (r1.1 1) ≤ x2 → wp_X1_neighboursOf r1 x2 (fun v3 => wp_X1_neighboursOf r1 x1 (fun v4 => (v3 ≤ v4 → wp_X7_crowd_53 r1 post ih r0 x1 x2) ∧ (¬ v3 ≤ v4 → wp_X7_crowd_53 r1 post ih r0 x2 x2))))
def wp_X7_crowd_21 (r1 : zS) (post : Int32 → (zS) → Prop) (n : Nat) : (zS) → Int32 → Int32 → Prop := Nat.rec (motive := fun _ => (zS) → Int32 → Int32 → Prop) (fun _ _ _ => False) (fun _ ih => wb_X7_crowd_21 r1 post ih) n
theorem wu_X7_crowd_21 (r1 : zS) (post : Int32 → (zS) → Prop) (n : Nat) (r0 : zS) (x1 : Int32) (x2 : Int32) : wp_X7_crowd_21 r1 post (n + 1) r0 x1 x2 = wb_X7_crowd_21 r1 post (wp_X7_crowd_21 r1 post n) r0 x1 x2 := rfl
def wp_X7_crowd (r0 : zS) (r1 : zS) (post : Int32 → (zS) → Prop) : Prop :=
  ((r1.1 1) = 0 → wp_X7_refuse r0 (-5 : Int32) (fun v7 s8 => post v7 s8)) ∧ (¬ (r1.1 1) = 0 → ∃ n : Nat, wp_X7_crowd_21 r1 post n r0 (0 : Int32) (1 : Int32))
set_option maxHeartbeats 4000000 in
set_option maxRecDepth 100000 in
theorem t_X7_crowd_53 {p : Program} {l : Launch} {e : Env} {s : State} {m : MethodId} {args : Array Value} {below : List Frame} {meth : Method} {c : Code} {D : va_G} {K : Nat → ClassId} {h0 : Nat} {a0 : Nat → Nat} {hs : Nat → Nat} {a1 : Nat → Nat} {r1 : zS} {post : Int32 → (zS) → Prop} {A : Nat → Prop} (C : xC p s m args meth c cX7_crowd RX7 3 (some .int) D vwCl (xty K)) (hA : ∀ q, s.heap.size ≤ q → A q) {k21 : (zS) → Int32 → Int32 → Prop} (hk21 : ∀ (r0 : zS) (x1 : Int32) (x2 : Int32) (H : Heap) (locs : List Loc) (ls : Array Slot), lv_has ls 3 [(0, .ref h0), (1, .int x1), (2, .int x2)] → va_P D vwCl (wX7 K h0 a0 hs r0 ++ (wX1 K (a0 0) a1 r1)) H → va_D A (wX7 K h0 a0 hs r0 ++ (wX1 K (a0 0) a1 r1)) → va_S A s.heap H locs → k21 r0 x1 x2  → W p l e ({ frames := 3, cells := 0, slots := 0, locals := 63 } : Room) s m args below meth c H locs 0 0 (MQ below (va_Qi (fun r (u : (zS)) => post r u) (fun (u : (zS)) t => va_P D vwCl (wX7 K h0 a0 hs u ++ (wX1 K (a0 0) a1 r1)) t.heap) A) args s 0 0 A) (F0 m 21 ls [])) : ∀ (r0 : zS) (x1 : Int32) (x2 : Int32) (H : Heap) (locs : List Loc) (ls : Array Slot), lv_has ls 3 [(0, .ref h0), (1, .int x1), (2, .int x2)] → va_P D vwCl (wX7 K h0 a0 hs r0 ++ (wX1 K (a0 0) a1 r1)) H → va_D A (wX7 K h0 a0 hs r0 ++ (wX1 K (a0 0) a1 r1)) → va_S A s.heap H locs → wp_X7_crowd_53 r1 post k21 r0 x1 x2 → W p l e ({ frames := 3, cells := 0, slots := 0, locals := 63 } : Room) s m args below meth c H locs 0 0 (MQ below (va_Qi (fun r (u : (zS)) => post r u) (fun (u : (zS)) t => va_P D vwCl (wX7 K h0 a0 hs u ++ (wX1 K (a0 0) a1 r1)) t.heap) A) args s 0 0 A) (F0 m 53 ls []) := by
  obtain ⟨hx, hb, hr, hml, hown, hts, hlocks, hK, hT⟩ := id C
  intro r0 x1 x2 H locs ls hl hP hD hS h
  unfold wp_X7_crowd_53 at h
  obtain ⟨v6, ev6⟩ : ∃ y : Int32, y = x2 + (1 : Int32) := ⟨_, rfl⟩
  replace h := h v6 ev6
  refine lv_iinc (v := v6) (lv' := [(2, .int v6), (0, .ref h0), (1, .int x1)]) hx hb dX7_crowd_53 hl (k := 2) rfl (by rw [ev6]; rfl) (by decide) rfl (fun ls hl => ?_)
  refine lv_goto (tgt := 21) hx hb dX7_crowd_56 (by decide) ?_
  exact hk21 _ _ _ _ _ _ (lv_sub hl [1, 2, 0] rfl) hP hD hS h
set_option maxHeartbeats 4000000 in
set_option maxRecDepth 100000 in
theorem t_X7_crowd_21 {p : Program} {l : Launch} {e : Env} {s : State} {m : MethodId} {args : Array Value} {below : List Frame} {meth : Method} {c : Code} {D : va_G} {K : Nat → ClassId} {h0 : Nat} {a0 : Nat → Nat} {hs : Nat → Nat} {a1 : Nat → Nat} {r1 : zS} {post : Int32 → (zS) → Prop} {A : Nat → Prop} (C : xC p s m args meth c cX7_crowd RX7 3 (some .int) D vwCl (xty K)) (hA : ∀ q, s.heap.size ≤ q → A q) : ∀ (n : Nat) (r0 : zS) (x1 : Int32) (x2 : Int32) (H : Heap) (locs : List Loc) (ls : Array Slot), lv_has ls 3 [(0, .ref h0), (1, .int x1), (2, .int x2)] → va_P D vwCl (wX7 K h0 a0 hs r0 ++ (wX1 K (a0 0) a1 r1)) H → va_D A (wX7 K h0 a0 hs r0 ++ (wX1 K (a0 0) a1 r1)) → va_S A s.heap H locs → wp_X7_crowd_21 r1 post n r0 x1 x2 → W p l e ({ frames := 3, cells := 0, slots := 0, locals := 63 } : Room) s m args below meth c H locs 0 0 (MQ below (va_Qi (fun r (u : (zS)) => post r u) (fun (u : (zS)) t => va_P D vwCl (wX7 K h0 a0 hs u ++ (wX1 K (a0 0) a1 r1)) t.heap) A) args s 0 0 A) (F0 m 21 ls []) := by
  obtain ⟨hx, hb, hr, hml, hown, hts, hlocks, hK, hT⟩ := id C
  intro n
  induction n with
  | zero =>
    intro r0 x1 x2 H locs ls hl hP hD hS h
    exact False.elim h
  | succ n ihn =>
    intro r0 x1 x2 H locs ls hl hP hD hS h
    rw [wu_X7_crowd_21] at h
    unfold wb_X7_crowd_21 at h
    refine lv_iload_n hx hb dX7_crowd_21 rfl (lv_at hl 2 rfl) ?_
    refine lv_aload_n hx hb dX7_crowd_22 rfl (lv_at hl 0 rfl) ?_
    refine va_get (D := D) (ci := 7) (v := .ref (a0 0)) (C := RX7) (T := TX7) (N := 13) hx hb hts inlX7 hown hK hP 0 rfl rfl 0 (by decide) (hts (.fieldLink RX7 10 "UnderTheDesks" "room" "LUnderTheDesks$Room;") mw_16) (fun _ h9 => h9) rfl dX7_crowd_23 ?_
    refine va_get (D := D) (ci := 1) (v := .int (r1.1 1)) (C := RX1) (T := TX1) (N := 10) hx hb hts inlX1 hown hK hP 3 rfl rfl 1 (by decide) (hts (.fieldLink RX7 161 "UnderTheDesks$Room" "count" "I") mw_360) (fun _ h9 => h9) rfl dX7_crowd_26 ?_
    refine lv_icmp_ge (tgt := 59) hx hb dX7_crowd_29 (by decide) (fun c2 => ?_) (fun c2 => ?_)
    · replace h := And.left h c2
      refine lv_iload_n hx hb dX7_crowd_59 rfl (lv_at hl 1 rfl) ?_
      exact xrw_i C r0 h hP hS dX7_crowd_60
    · replace h := And.right h c2
      refine lv_aload_n hx hb dX7_crowd_32 rfl (lv_at hl 0 rfl) ?_
      refine va_get (D := D) (ci := 7) (v := .ref (a0 0)) (C := RX7) (T := TX7) (N := 13) hx hb hts inlX7 hown hK hP 0 rfl rfl 0 (by decide) (hts (.fieldLink RX7 10 "UnderTheDesks" "room" "LUnderTheDesks$Room;") mw_16) (fun _ h9 => h9) rfl dX7_crowd_33 ?_
      refine lv_iload_n hx hb dX7_crowd_36 rfl (lv_at hl 2 rfl) ?_
      refine xend_ro_i (xRunV (wc := (wX1 K (a0 0) a1 r1)) (As := [.int x2]) (rest := []) C (c_X1_neighboursOf h) k_X1_neighboursOf mw_298 ⟨rfl, rfl⟩ ⟨Nat.le_of_ble_eq_true rfl, Nat.le_of_ble_eq_true rfl⟩ hP hD [3, 4, 5, 6, 7, 8] rfl rfl rfl rfl hl rfl rfl (Nat.le_of_ble_eq_true rfl) dX7_crowd_37 ⟨Nat.le_refl _, Nat.le_refl _⟩) (fun v3 h => ?_)
      refine lv_aload_n hx hb dX7_crowd_40 rfl (lv_at hl 0 rfl) ?_
      refine va_get (D := D) (ci := 7) (v := .ref (a0 0)) (C := RX7) (T := TX7) (N := 13) hx hb hts inlX7 hown hK hP 0 rfl rfl 0 (by decide) (hts (.fieldLink RX7 10 "UnderTheDesks" "room" "LUnderTheDesks$Room;") mw_16) (fun _ h9 => h9) rfl dX7_crowd_41 ?_
      refine lv_iload_n hx hb dX7_crowd_44 rfl (lv_at hl 1 rfl) ?_
      refine xend_ro_i (xRunV (wc := (wX1 K (a0 0) a1 r1)) (As := [.int x1]) (rest := [.int v3]) C (c_X1_neighboursOf h) k_X1_neighboursOf mw_298 ⟨rfl, rfl⟩ ⟨Nat.le_of_ble_eq_true rfl, Nat.le_of_ble_eq_true rfl⟩ hP hD [3, 4, 5, 6, 7, 8] rfl rfl rfl rfl hl rfl rfl (Nat.le_of_ble_eq_true rfl) dX7_crowd_45 ⟨Nat.le_refl _, Nat.le_refl _⟩) (fun v4 h => ?_)
      refine lv_icmp_le (tgt := 53) hx hb dX7_crowd_48 (by decide) (fun c5 => ?_) (fun c5 => ?_)
      · replace h := And.left h c5
        exact t_X7_crowd_53 C hA ihn _ _ _ _ _ _ (lv_sub hl [0, 1, 2] rfl) hP hD hS h
      · replace h := And.right h c5
        refine lv_iload_n hx hb dX7_crowd_51 rfl (lv_at hl 2 rfl) ?_
        refine lv_istore_n (lv' := [(1, .int x2), (0, .ref h0), (2, .int x2)]) hx hb dX7_crowd_52 rfl hl (by decide) rfl (fun ls hl => ?_)
        exact t_X7_crowd_53 C hA ihn _ _ _ _ _ _ (lv_sub hl [1, 0, 2] rfl) hP hD hS h
set_option maxHeartbeats 4000000 in
set_option maxRecDepth 100000 in
theorem c_X7_crowd {l : Launch} {D : va_G} {K : Nat → ClassId} {h0 : Nat} {a0 : Nat → Nat} {hs : Nat → Nat} {r0 : zS} {a1 : Nat → Nat} {r1 : zS}  {sz : Nat} {post : Int32 → (zS) → Prop}   (h : wp_X7_crowd r0 r1 post) : Met l yX7_crowd (Cond.code yX7_crowd cX7_crowd 3 (some .int) :: wsL_law) ({ frames := 3, cells := 0, slots := 0, locals := 63 } : Room) (va_Pc [.ref h0] (xPre D vwCl (xty K) (wX7 K h0 a0 hs r0 ++ (wX1 K (a0 0) a1 r1)) sz)) (va_Qi (fun r (u : (zS)) => post r u) (fun (u : (zS)) t => va_P D vwCl (wX7 K h0 a0 hs u ++ (wX1 K (a0 0) a1 r1)) t.heap) (va_A (wX7 K h0 a0 hs r0 ++ (wX1 K (a0 0) a1 r1)) sz)) 0 0 (va_A (wX7 K h0 a0 hs r0 ++ (wX1 K (a0 0) a1 r1)) sz) := by
  refine xMet (by decide) rfl (Nat.le_of_ble_eq_true rfl) (fun p e s m args below meth c C hnm hP hD hsz ls hl => ?_)
  have hl : lv_has ls 3 [(0, .ref h0)] := hl
  obtain ⟨hx, hb, hr, hml, hown, hts, hlocks, hK, hT⟩ := id C
  subst hsz
  generalize hAe : va_A (wX7 K h0 a0 hs r0 ++ (wX1 K (a0 0) a1 r1)) s.heap.size = A at hD ⊢
  have hA : ∀ q : Nat, s.heap.size ≤ q → A q := fun q h => by rw [← hAe]; exact Or.inr h
  have hS : va_S A s.heap s.heap [] := va_S.rf
  have hP : va_P D vwCl (wX7 K h0 a0 hs r0 ++ (wX1 K (a0 0) a1 r1)) s.heap := hP
  unfold wp_X7_crowd at h
  refine lv_aload_n hx hb dX7_crowd_0 rfl (lv_at hl 0 rfl) ?_
  refine va_get (D := D) (ci := 7) (v := .ref (a0 0)) (C := RX7) (T := TX7) (N := 13) hx hb hts inlX7 hown hK hP 0 rfl rfl 0 (by decide) (hts (.fieldLink RX7 10 "UnderTheDesks" "room" "LUnderTheDesks$Room;") mw_16) (fun _ h9 => h9) rfl dX7_crowd_1 ?_
  refine va_get (D := D) (ci := 1) (v := .int (r1.1 1)) (C := RX1) (T := TX1) (N := 10) hx hb hts inlX1 hown hK hP 3 rfl rfl 1 (by decide) (hts (.fieldLink RX7 161 "UnderTheDesks$Room" "count" "I") mw_360) (fun _ h9 => h9) rfl dX7_crowd_4 ?_
  refine lv_if_ne (tgt := 17) hx hb dX7_crowd_7 (by decide) (fun c1 => ?_) (fun c1 => ?_)
  · replace h := And.right h c1
    refine lv_iconst (v := 0) hx hb dX7_crowd_17 (by decide) ?_
    refine lv_istore_n (lv' := [(1, .int (0 : Int32)), (0, .ref h0)]) hx hb dX7_crowd_18 rfl hl (by decide) rfl (fun ls hl => ?_)
    refine lv_iconst (v := 1) hx hb dX7_crowd_19 (by decide) ?_
    refine lv_istore_n (lv' := [(2, .int (1 : Int32)), (1, .int (0 : Int32)), (0, .ref h0)]) hx hb dX7_crowd_20 rfl hl (by decide) rfl (fun ls hl => ?_)
    obtain ⟨n0, h⟩ := h
    exact t_X7_crowd_21 C hA n0 _ _ _ _ _ _ (lv_sub hl [2, 1, 0] rfl) hP hD hS h
  · replace h := And.left h c1
    refine lv_aload_n hx hb dX7_crowd_10 rfl (lv_at hl 0 rfl) ?_
    refine lv_bipush (v := -5) hx hb dX7_crowd_11 (by decide) ?_
    refine xend_rw_i (wf := fun (u : (zS)) => (wX7 K h0 a0 hs u)) (xRunV (wc := (wX7 K h0 a0 hs r0)) (As := [.int (-5 : Int32)]) (rest := []) C (c_X7_refuse h) k_X7_refuse mw_147 ⟨rfl, rfl⟩ ⟨Nat.le_of_ble_eq_true rfl, Nat.le_of_ble_eq_true rfl⟩ hP hD [0, 1, 2] rfl rfl rfl rfl hl rfl rfl (Nat.le_of_ble_eq_true rfl) dX7_crowd_13 ⟨Nat.le_refl _, Nat.le_refl _⟩) hP hD hS hA [0, 1, 2] rfl rfl (fun _ => rfl) (fun v7 s8 H locs h hP hD hS => ?_)
    replace hP : va_P D vwCl (wX7 K h0 a0 hs s8 ++ (wX1 K (a0 0) a1 r1)) H := hP
    replace hD : va_D A (wX7 K h0 a0 hs s8 ++ (wX1 K (a0 0) a1 r1)) := hD
    exact xrw_i C s8 h hP hS dX7_crowd_16

def wp_X7_inRow_15 (r1 : zS) (p1 : Int32) (post : Int32 → (zS) → Prop) (r0 : zS) : Prop :=
  wp_X7_refuse r0 (-2 : Int32) (fun v2 s3 => post v2 s3)
def wp_X7_inRow_57 (r1 : zS) (p1 : Int32) (post : Int32 → (zS) → Prop) (k26 : (zS) → Int32 → Int32 → Prop) (r0 : zS) (x2 : Int32) (x3 : Int32) : Prop :=
  ∀ v8 : Int32, v8 = x3 + (1 : Int32) → k26 r0 x2 v8
def wb_X7_inRow_26 (r1 : zS) (p1 : Int32) (post : Int32 → (zS) → Prop) (ih : (zS) → Int32 → Int32 → Prop) (r0 : zS) (x2 : Int32) (x3 : Int32) : Prop :=
  ((r1.1 1) ≤ x3 → post x2 r0) ∧ (¬ (r1.1 1) ≤ x3 → wp_X1_deskOf r1 x3 (fun v6 => ((v6 / (4 : Int32)) = p1 → ∀ v9 : Int32, v9 = (x2 ||| ((1 : Int32) <<< (x3 &&& 31))) → wp_X7_inRow_57 r1 p1 post ih r0 v9 x3) ∧ (¬ (v6 / (4 : Int32)) = p1 → wp_X7_inRow_57 r1 p1 post ih r0 x2 x3)))
def wp_X7_inRow_26 (r1 : zS) (p1 : Int32) (post : Int32 → (zS) → Prop) (n : Nat) : (zS) → Int32 → Int32 → Prop := Nat.rec (motive := fun _ => (zS) → Int32 → Int32 → Prop) (fun _ _ _ => False) (fun _ ih => wb_X7_inRow_26 r1 p1 post ih) n
theorem wu_X7_inRow_26 (r1 : zS) (p1 : Int32) (post : Int32 → (zS) → Prop) (n : Nat) (r0 : zS) (x2 : Int32) (x3 : Int32) : wp_X7_inRow_26 r1 p1 post (n + 1) r0 x2 x3 = wb_X7_inRow_26 r1 p1 post (wp_X7_inRow_26 r1 p1 post n) r0 x2 x3 := rfl
def wp_X7_inRow (r0 : zS) (r1 : zS) (p1 : Int32) (post : Int32 → (zS) → Prop) : Prop :=
  (p1 < 0 → wp_X7_inRow_15 r1 p1 post r0) ∧ (¬ p1 < 0 → (p1 < (r1.1 0) → ∃ n : Nat, wp_X7_inRow_26 r1 p1 post n r0 (0 : Int32) (0 : Int32)) ∧ (¬ p1 < (r1.1 0) → wp_X7_inRow_15 r1 p1 post r0))
set_option maxHeartbeats 4000000 in
set_option maxRecDepth 100000 in
theorem t_X7_inRow_15 {p : Program} {l : Launch} {e : Env} {s : State} {m : MethodId} {args : Array Value} {below : List Frame} {meth : Method} {c : Code} {D : va_G} {K : Nat → ClassId} {h0 : Nat} {a0 : Nat → Nat} {hs : Nat → Nat} {a1 : Nat → Nat} {r1 : zS} {p1 : Int32} {post : Int32 → (zS) → Prop} {A : Nat → Prop} (C : xC p s m args meth c cX7_inRow RX7 4 (some .int) D vwCl (xty K)) (hA : ∀ q, s.heap.size ≤ q → A q) : ∀ (r0 : zS) (H : Heap) (locs : List Loc) (ls : Array Slot), lv_has ls 4 [(0, .ref h0)] → va_P D vwCl (wX7 K h0 a0 hs r0 ++ (wX1 K (a0 0) a1 r1)) H → va_D A (wX7 K h0 a0 hs r0 ++ (wX1 K (a0 0) a1 r1)) → va_S A s.heap H locs → wp_X7_inRow_15 r1 p1 post r0 → W p l e ({ frames := 2, cells := 0, slots := 0, locals := 42 } : Room) s m args below meth c H locs 0 0 (MQ below (va_Qi (fun r (u : (zS)) => post r u) (fun (u : (zS)) t => va_P D vwCl (wX7 K h0 a0 hs u ++ (wX1 K (a0 0) a1 r1)) t.heap) A) args s 0 0 A) (F0 m 15 ls []) := by
  obtain ⟨hx, hb, hr, hml, hown, hts, hlocks, hK, hT⟩ := id C
  intro r0 H locs ls hl hP hD hS h
  unfold wp_X7_inRow_15 at h
  refine lv_aload_n hx hb dX7_inRow_15 rfl (lv_at hl 0 rfl) ?_
  refine lv_bipush (v := -2) hx hb dX7_inRow_16 (by decide) ?_
  refine xend_rw_i (wf := fun (u : (zS)) => (wX7 K h0 a0 hs u)) (xRunV (wc := (wX7 K h0 a0 hs r0)) (As := [.int (-2 : Int32)]) (rest := []) C (c_X7_refuse h) k_X7_refuse mw_147 ⟨rfl, rfl⟩ ⟨Nat.le_of_ble_eq_true rfl, Nat.le_of_ble_eq_true rfl⟩ hP hD [0, 1, 2] rfl rfl rfl rfl hl rfl rfl (Nat.le_of_ble_eq_true rfl) dX7_inRow_18 ⟨Nat.le_refl _, Nat.le_refl _⟩) hP hD hS hA [0, 1, 2] rfl rfl (fun _ => rfl) (fun v2 s3 H locs h hP hD hS => ?_)
  replace hP : va_P D vwCl (wX7 K h0 a0 hs s3 ++ (wX1 K (a0 0) a1 r1)) H := hP
  replace hD : va_D A (wX7 K h0 a0 hs s3 ++ (wX1 K (a0 0) a1 r1)) := hD
  exact xrw_i C s3 h hP hS dX7_inRow_21
set_option maxHeartbeats 4000000 in
set_option maxRecDepth 100000 in
theorem t_X7_inRow_57 {p : Program} {l : Launch} {e : Env} {s : State} {m : MethodId} {args : Array Value} {below : List Frame} {meth : Method} {c : Code} {D : va_G} {K : Nat → ClassId} {h0 : Nat} {a0 : Nat → Nat} {hs : Nat → Nat} {a1 : Nat → Nat} {r1 : zS} {p1 : Int32} {post : Int32 → (zS) → Prop} {A : Nat → Prop} (C : xC p s m args meth c cX7_inRow RX7 4 (some .int) D vwCl (xty K)) (hA : ∀ q, s.heap.size ≤ q → A q) {k26 : (zS) → Int32 → Int32 → Prop} (hk26 : ∀ (r0 : zS) (x2 : Int32) (x3 : Int32) (H : Heap) (locs : List Loc) (ls : Array Slot), lv_has ls 4 [(0, .ref h0), (1, .int p1), (2, .int x2), (3, .int x3)] → va_P D vwCl (wX7 K h0 a0 hs r0 ++ (wX1 K (a0 0) a1 r1)) H → va_D A (wX7 K h0 a0 hs r0 ++ (wX1 K (a0 0) a1 r1)) → va_S A s.heap H locs → k26 r0 x2 x3  → W p l e ({ frames := 2, cells := 0, slots := 0, locals := 42 } : Room) s m args below meth c H locs 0 0 (MQ below (va_Qi (fun r (u : (zS)) => post r u) (fun (u : (zS)) t => va_P D vwCl (wX7 K h0 a0 hs u ++ (wX1 K (a0 0) a1 r1)) t.heap) A) args s 0 0 A) (F0 m 26 ls [])) : ∀ (r0 : zS) (x2 : Int32) (x3 : Int32) (H : Heap) (locs : List Loc) (ls : Array Slot), lv_has ls 4 [(0, .ref h0), (1, .int p1), (2, .int x2), (3, .int x3)] → va_P D vwCl (wX7 K h0 a0 hs r0 ++ (wX1 K (a0 0) a1 r1)) H → va_D A (wX7 K h0 a0 hs r0 ++ (wX1 K (a0 0) a1 r1)) → va_S A s.heap H locs → wp_X7_inRow_57 r1 p1 post k26 r0 x2 x3 → W p l e ({ frames := 2, cells := 0, slots := 0, locals := 42 } : Room) s m args below meth c H locs 0 0 (MQ below (va_Qi (fun r (u : (zS)) => post r u) (fun (u : (zS)) t => va_P D vwCl (wX7 K h0 a0 hs u ++ (wX1 K (a0 0) a1 r1)) t.heap) A) args s 0 0 A) (F0 m 57 ls []) := by
  obtain ⟨hx, hb, hr, hml, hown, hts, hlocks, hK, hT⟩ := id C
  intro r0 x2 x3 H locs ls hl hP hD hS h
  unfold wp_X7_inRow_57 at h
  obtain ⟨v8, ev8⟩ : ∃ y : Int32, y = x3 + (1 : Int32) := ⟨_, rfl⟩
  replace h := h v8 ev8
  refine lv_iinc (v := v8) (lv' := [(3, .int v8), (0, .ref h0), (1, .int p1), (2, .int x2)]) hx hb dX7_inRow_57 hl (k := 3) rfl (by rw [ev8]; rfl) (by decide) rfl (fun ls hl => ?_)
  refine lv_goto (tgt := 26) hx hb dX7_inRow_60 (by decide) ?_
  exact hk26 _ _ _ _ _ _ (lv_sub hl [1, 2, 3, 0] rfl) hP hD hS h
set_option maxHeartbeats 4000000 in
set_option maxRecDepth 100000 in
theorem t_X7_inRow_26 {p : Program} {l : Launch} {e : Env} {s : State} {m : MethodId} {args : Array Value} {below : List Frame} {meth : Method} {c : Code} {D : va_G} {K : Nat → ClassId} {h0 : Nat} {a0 : Nat → Nat} {hs : Nat → Nat} {a1 : Nat → Nat} {r1 : zS} {p1 : Int32} {post : Int32 → (zS) → Prop} {A : Nat → Prop} (C : xC p s m args meth c cX7_inRow RX7 4 (some .int) D vwCl (xty K)) (hA : ∀ q, s.heap.size ≤ q → A q) : ∀ (n : Nat) (r0 : zS) (x2 : Int32) (x3 : Int32) (H : Heap) (locs : List Loc) (ls : Array Slot), lv_has ls 4 [(0, .ref h0), (1, .int p1), (2, .int x2), (3, .int x3)] → va_P D vwCl (wX7 K h0 a0 hs r0 ++ (wX1 K (a0 0) a1 r1)) H → va_D A (wX7 K h0 a0 hs r0 ++ (wX1 K (a0 0) a1 r1)) → va_S A s.heap H locs → wp_X7_inRow_26 r1 p1 post n r0 x2 x3 → W p l e ({ frames := 2, cells := 0, slots := 0, locals := 42 } : Room) s m args below meth c H locs 0 0 (MQ below (va_Qi (fun r (u : (zS)) => post r u) (fun (u : (zS)) t => va_P D vwCl (wX7 K h0 a0 hs u ++ (wX1 K (a0 0) a1 r1)) t.heap) A) args s 0 0 A) (F0 m 26 ls []) := by
  obtain ⟨hx, hb, hr, hml, hown, hts, hlocks, hK, hT⟩ := id C
  intro n
  induction n with
  | zero =>
    intro r0 x2 x3 H locs ls hl hP hD hS h
    exact False.elim h
  | succ n ihn =>
    intro r0 x2 x3 H locs ls hl hP hD hS h
    rw [wu_X7_inRow_26] at h
    unfold wb_X7_inRow_26 at h
    refine lv_iload_n hx hb dX7_inRow_26 rfl (lv_at hl 3 rfl) ?_
    refine lv_aload_n hx hb dX7_inRow_27 rfl (lv_at hl 0 rfl) ?_
    refine va_get (D := D) (ci := 7) (v := .ref (a0 0)) (C := RX7) (T := TX7) (N := 13) hx hb hts inlX7 hown hK hP 0 rfl rfl 0 (by decide) (hts (.fieldLink RX7 10 "UnderTheDesks" "room" "LUnderTheDesks$Room;") mw_16) (fun _ h9 => h9) rfl dX7_inRow_28 ?_
    refine va_get (D := D) (ci := 1) (v := .int (r1.1 1)) (C := RX1) (T := TX1) (N := 10) hx hb hts inlX1 hown hK hP 3 rfl rfl 1 (by decide) (hts (.fieldLink RX7 161 "UnderTheDesks$Room" "count" "I") mw_360) (fun _ h9 => h9) rfl dX7_inRow_31 ?_
    refine lv_icmp_ge (tgt := 63) hx hb dX7_inRow_34 (by decide) (fun c5 => ?_) (fun c5 => ?_)
    · replace h := And.left h c5
      refine lv_iload_n hx hb dX7_inRow_63 rfl (lv_at hl 2 rfl) ?_
      exact xrw_i C r0 h hP hS dX7_inRow_64
    · replace h := And.right h c5
      refine lv_aload_n hx hb dX7_inRow_37 rfl (lv_at hl 0 rfl) ?_
      refine va_get (D := D) (ci := 7) (v := .ref (a0 0)) (C := RX7) (T := TX7) (N := 13) hx hb hts inlX7 hown hK hP 0 rfl rfl 0 (by decide) (hts (.fieldLink RX7 10 "UnderTheDesks" "room" "LUnderTheDesks$Room;") mw_16) (fun _ h9 => h9) rfl dX7_inRow_38 ?_
      refine lv_iload_n hx hb dX7_inRow_41 rfl (lv_at hl 3 rfl) ?_
      refine xend_ro_i (xRunV (wc := (wX1 K (a0 0) a1 r1)) (As := [.int x3]) (rest := []) C (c_X1_deskOf h) k_X1_deskOf mw_322 ⟨rfl, rfl⟩ ⟨Nat.le_of_ble_eq_true rfl, Nat.le_of_ble_eq_true rfl⟩ hP hD [3, 4, 5, 6, 7, 8] rfl rfl rfl rfl hl rfl rfl (Nat.le_of_ble_eq_true rfl) dX7_inRow_42 ⟨Nat.le_refl _, Nat.le_refl _⟩) (fun v6 h => ?_)
      refine lv_iconst (v := 4) hx hb dX7_inRow_45 (by decide) ?_
      refine lv_idiv hx hb dX7_inRow_46 (by decide) ?_
      refine lv_iload_n hx hb dX7_inRow_47 rfl (lv_at hl 1 rfl) ?_
      refine lv_icmp_ne (tgt := 57) hx hb dX7_inRow_48 (by decide) (fun c7 => ?_) (fun c7 => ?_)
      · replace h := And.right h c7
        exact t_X7_inRow_57 C hA ihn _ _ _ _ _ _ (lv_sub hl [0, 1, 2, 3] rfl) hP hD hS h
      · replace h := And.left h c7
        refine lv_iload_n hx hb dX7_inRow_51 rfl (lv_at hl 2 rfl) ?_
        refine lv_iconst (v := 1) hx hb dX7_inRow_52 (by decide) ?_
        refine lv_iload_n hx hb dX7_inRow_53 rfl (lv_at hl 3 rfl) ?_
        refine lv_ishl hx hb dX7_inRow_54 ?_
        refine lv_ior hx hb dX7_inRow_55 ?_
        refine lv_topi (fun v9 ev9 => ?_)
        replace h := h v9 ev9
        refine lv_istore_n (lv' := [(2, .int v9), (0, .ref h0), (1, .int p1), (3, .int x3)]) hx hb dX7_inRow_56 rfl hl (by decide) rfl (fun ls hl => ?_)
        exact t_X7_inRow_57 C hA ihn _ _ _ _ _ _ (lv_sub hl [1, 2, 0, 3] rfl) hP hD hS h
set_option maxHeartbeats 4000000 in
set_option maxRecDepth 100000 in
theorem c_X7_inRow {l : Launch} {D : va_G} {K : Nat → ClassId} {h0 : Nat} {a0 : Nat → Nat} {hs : Nat → Nat} {r0 : zS} {a1 : Nat → Nat} {r1 : zS} {p1 : Int32} {sz : Nat} {post : Int32 → (zS) → Prop}   (h : wp_X7_inRow r0 r1 p1 post) : Met l yX7_inRow (Cond.code yX7_inRow cX7_inRow 4 (some .int) :: wsL_law) ({ frames := 2, cells := 0, slots := 0, locals := 42 } : Room) (va_Pc [.ref h0, .int p1] (xPre D vwCl (xty K) (wX7 K h0 a0 hs r0 ++ (wX1 K (a0 0) a1 r1)) sz)) (va_Qi (fun r (u : (zS)) => post r u) (fun (u : (zS)) t => va_P D vwCl (wX7 K h0 a0 hs u ++ (wX1 K (a0 0) a1 r1)) t.heap) (va_A (wX7 K h0 a0 hs r0 ++ (wX1 K (a0 0) a1 r1)) sz)) 0 0 (va_A (wX7 K h0 a0 hs r0 ++ (wX1 K (a0 0) a1 r1)) sz) := by
  refine xMet (by decide) rfl (Nat.le_of_ble_eq_true rfl) (fun p e s m args below meth c C hnm hP hD hsz ls hl => ?_)
  have hl : lv_has ls 4 [(0, .ref h0), (1, .int p1)] := hl
  obtain ⟨hx, hb, hr, hml, hown, hts, hlocks, hK, hT⟩ := id C
  subst hsz
  generalize hAe : va_A (wX7 K h0 a0 hs r0 ++ (wX1 K (a0 0) a1 r1)) s.heap.size = A at hD ⊢
  have hA : ∀ q : Nat, s.heap.size ≤ q → A q := fun q h => by rw [← hAe]; exact Or.inr h
  have hS : va_S A s.heap s.heap [] := va_S.rf
  have hP : va_P D vwCl (wX7 K h0 a0 hs r0 ++ (wX1 K (a0 0) a1 r1)) s.heap := hP
  unfold wp_X7_inRow at h
  refine lv_iload_n hx hb dX7_inRow_0 rfl (lv_at hl 1 rfl) ?_
  refine lv_if_lt (tgt := 15) hx hb dX7_inRow_1 (by decide) (fun c1 => ?_) (fun c1 => ?_)
  · replace h := And.left h c1
    exact t_X7_inRow_15 C hA _ _ _ _ (lv_sub hl [0] rfl) hP hD hS h
  · replace h := And.right h c1
    refine lv_iload_n hx hb dX7_inRow_4 rfl (lv_at hl 1 rfl) ?_
    refine lv_aload_n hx hb dX7_inRow_5 rfl (lv_at hl 0 rfl) ?_
    refine va_get (D := D) (ci := 7) (v := .ref (a0 0)) (C := RX7) (T := TX7) (N := 13) hx hb hts inlX7 hown hK hP 0 rfl rfl 0 (by decide) (hts (.fieldLink RX7 10 "UnderTheDesks" "room" "LUnderTheDesks$Room;") mw_16) (fun _ h9 => h9) rfl dX7_inRow_6 ?_
    refine va_get (D := D) (ci := 1) (v := .int (r1.1 0)) (C := RX1) (T := TX1) (N := 10) hx hb hts inlX1 hown hK hP 3 rfl rfl 0 (by decide) (hts (.fieldLink RX7 164 "UnderTheDesks$Room" "rowCount" "I") mw_361) (fun _ h9 => h9) rfl dX7_inRow_9 ?_
    refine lv_icmp_lt (tgt := 22) hx hb dX7_inRow_12 (by decide) (fun c4 => ?_) (fun c4 => ?_)
    · replace h := And.left h c4
      refine lv_iconst (v := 0) hx hb dX7_inRow_22 (by decide) ?_
      refine lv_istore_n (lv' := [(2, .int (0 : Int32)), (0, .ref h0), (1, .int p1)]) hx hb dX7_inRow_23 rfl hl (by decide) rfl (fun ls hl => ?_)
      refine lv_iconst (v := 0) hx hb dX7_inRow_24 (by decide) ?_
      refine lv_istore_n (lv' := [(3, .int (0 : Int32)), (2, .int (0 : Int32)), (0, .ref h0), (1, .int p1)]) hx hb dX7_inRow_25 rfl hl (by decide) rfl (fun ls hl => ?_)
      obtain ⟨n0, h⟩ := h
      exact t_X7_inRow_26 C hA n0 _ _ _ _ _ _ (lv_sub hl [2, 3, 1, 0] rfl) hP hD hS h
    · replace h := And.right h c4
      exact t_X7_inRow_15 C hA _ _ _ _ (lv_sub hl [0] rfl) hP hD hS h

def wb_X7_edges_4 (r0 : zS) (r1 : zS) (post : Int32 → Prop) (ih : Int32 → Int32 → Prop) (x1 : Int32) (x2 : Int32) : Prop :=
  ((r1.1 1) ≤ x2 → post (x1 / (2 : Int32)) ) ∧ (¬ (r1.1 1) ≤ x2 → wp_X1_neighboursOf r1 x2 (fun v2 => ∀ v3 : Int32, v3 = (x1 + v2) → ∀ v4 : Int32, v4 = x2 + (1 : Int32) → ih v3 v4))
def wp_X7_edges_4 (r0 : zS) (r1 : zS) (post : Int32 → Prop) (n : Nat) : Int32 → Int32 → Prop := Nat.rec (motive := fun _ => Int32 → Int32 → Prop) (fun _ _ => False) (fun _ ih => wb_X7_edges_4 r0 r1 post ih) n
theorem wu_X7_edges_4 (r0 : zS) (r1 : zS) (post : Int32 → Prop) (n : Nat) (x1 : Int32) (x2 : Int32) : wp_X7_edges_4 r0 r1 post (n + 1) x1 x2 = wb_X7_edges_4 r0 r1 post (wp_X7_edges_4 r0 r1 post n) x1 x2 := rfl
def wp_X7_edges (r0 : zS) (r1 : zS) (post : Int32 → Prop) : Prop :=
  ∃ n : Nat, wp_X7_edges_4 r0 r1 post n (0 : Int32) (0 : Int32)
set_option maxHeartbeats 4000000 in
set_option maxRecDepth 100000 in
theorem t_X7_edges_4 {p : Program} {l : Launch} {e : Env} {s : State} {m : MethodId} {args : Array Value} {below : List Frame} {meth : Method} {c : Code} {D : va_G} {K : Nat → ClassId} {h0 : Nat} {a0 : Nat → Nat} {hs : Nat → Nat} {r0 : zS} {a1 : Nat → Nat} {r1 : zS} {post : Int32 → Prop} (C : xC p s m args meth c cX7_edges RX7 3 (some .int) D vwCl (xty K)) (hP : va_P D vwCl (wX7 K h0 a0 hs r0 ++ (wX1 K (a0 0) a1 r1)) s.heap) (hD : va_D (va_A (wX7 K h0 a0 hs r0 ++ (wX1 K (a0 0) a1 r1)) s.heap.size) (wX7 K h0 a0 hs r0 ++ (wX1 K (a0 0) a1 r1))) : ∀ (n : Nat) (x1 : Int32) (x2 : Int32) (ls : Array Slot), lv_has ls 3 [(0, .ref h0), (1, .int x1), (2, .int x2)] → wp_X7_edges_4 r0 r1 post n x1 x2 → W p l e ({ frames := 3, cells := 0, slots := 0, locals := 63 } : Room) s m args below meth c s.heap [] 0 0 (MQ below (roI post) args s 0 0 (fun _ => False)) (F0 m 4 ls []) := by
  obtain ⟨hx, hb, hr, hml, hown, hts, hlocks, hK, hT⟩ := id C
  intro n
  induction n with
  | zero =>
    intro x1 x2 ls hl h
    exact False.elim h
  | succ n ihn =>
    intro x1 x2 ls hl h
    rw [wu_X7_edges_4] at h
    unfold wb_X7_edges_4 at h
    refine lv_iload_n hx hb dX7_edges_4 rfl (lv_at hl 2 rfl) ?_
    refine lv_aload_n hx hb dX7_edges_5 rfl (lv_at hl 0 rfl) ?_
    refine va_get (D := D) (ci := 7) (v := .ref (a0 0)) (C := RX7) (T := TX7) (N := 13) hx hb hts inlX7 hown hK hP 0 rfl rfl 0 (by decide) (hts (.fieldLink RX7 10 "UnderTheDesks" "room" "LUnderTheDesks$Room;") mw_16) (fun _ h9 => h9) rfl dX7_edges_6 ?_
    refine va_get (D := D) (ci := 1) (v := .int (r1.1 1)) (C := RX1) (T := TX1) (N := 10) hx hb hts inlX1 hown hK hP 3 rfl rfl 1 (by decide) (hts (.fieldLink RX7 161 "UnderTheDesks$Room" "count" "I") mw_360) (fun _ h9 => h9) rfl dX7_edges_9 ?_
    refine lv_icmp_ge (tgt := 32) hx hb dX7_edges_12 (by decide) (fun c1 => ?_) (fun c1 => ?_)
    · replace h := And.left h c1
      refine lv_iload_n hx hb dX7_edges_32 rfl (lv_at hl 1 rfl) ?_
      refine lv_iconst (v := 2) hx hb dX7_edges_33 (by decide) ?_
      refine lv_idiv hx hb dX7_edges_34 (by decide) ?_
      exact xro_i C h dX7_edges_35
    · replace h := And.right h c1
      refine lv_iload_n hx hb dX7_edges_15 rfl (lv_at hl 1 rfl) ?_
      refine lv_aload_n hx hb dX7_edges_16 rfl (lv_at hl 0 rfl) ?_
      refine va_get (D := D) (ci := 7) (v := .ref (a0 0)) (C := RX7) (T := TX7) (N := 13) hx hb hts inlX7 hown hK hP 0 rfl rfl 0 (by decide) (hts (.fieldLink RX7 10 "UnderTheDesks" "room" "LUnderTheDesks$Room;") mw_16) (fun _ h9 => h9) rfl dX7_edges_17 ?_
      refine lv_iload_n hx hb dX7_edges_20 rfl (lv_at hl 2 rfl) ?_
      refine xend_ro_i (xRunV (wc := (wX1 K (a0 0) a1 r1)) (As := [.int x2]) (rest := [.int x1]) C (c_X1_neighboursOf h) k_X1_neighboursOf mw_298 ⟨rfl, rfl⟩ ⟨Nat.le_of_ble_eq_true rfl, Nat.le_of_ble_eq_true rfl⟩ hP hD [3, 4, 5, 6, 7, 8] rfl rfl rfl rfl hl rfl rfl (Nat.le_of_ble_eq_true rfl) dX7_edges_21 ⟨Nat.le_refl _, Nat.le_refl _⟩) (fun v2 h => ?_)
      refine lv_iadd hx hb dX7_edges_24 ?_
      refine lv_topi (fun v3 ev3 => ?_)
      replace h := h v3 ev3
      refine lv_istore_n (lv' := [(1, .int v3), (0, .ref h0), (2, .int x2)]) hx hb dX7_edges_25 rfl hl (by decide) rfl (fun ls hl => ?_)
      obtain ⟨v4, ev4⟩ : ∃ y : Int32, y = x2 + (1 : Int32) := ⟨_, rfl⟩
      replace h := h v4 ev4
      refine lv_iinc (v := v4) (lv' := [(2, .int v4), (1, .int v3), (0, .ref h0)]) hx hb dX7_edges_26 hl (k := 2) rfl (by rw [ev4]; rfl) (by decide) rfl (fun ls hl => ?_)
      refine lv_goto (tgt := 4) hx hb dX7_edges_29 (by decide) ?_
      exact ihn _ _ _ (lv_sub hl [2, 1, 0] rfl) h
set_option maxHeartbeats 4000000 in
set_option maxRecDepth 100000 in
theorem c_X7_edges {l : Launch} {D : va_G} {K : Nat → ClassId} {h0 : Nat} {a0 : Nat → Nat} {hs : Nat → Nat} {r0 : zS} {a1 : Nat → Nat} {r1 : zS}  {sz : Nat} {post : Int32 → Prop}   (h : wp_X7_edges r0 r1 post) : Met l yX7_edges (Cond.code yX7_edges cX7_edges 3 (some .int) :: wsL_law) ({ frames := 3, cells := 0, slots := 0, locals := 63 } : Room) (va_Pc [.ref h0] (xPre D vwCl (xty K) (wX7 K h0 a0 hs r0 ++ (wX1 K (a0 0) a1 r1)) sz)) (roI post) 0 0 (fun _ => False) := by
  refine xMet (by decide) rfl (Nat.le_of_ble_eq_true rfl) (fun p e s m args below meth c C hnm hP hD hsz ls hl => ?_)
  have hl : lv_has ls 3 [(0, .ref h0)] := hl
  obtain ⟨hx, hb, hr, hml, hown, hts, hlocks, hK, hT⟩ := id C
  unfold wp_X7_edges at h
  refine lv_iconst (v := 0) hx hb dX7_edges_0 (by decide) ?_
  refine lv_istore_n (lv' := [(1, .int (0 : Int32)), (0, .ref h0)]) hx hb dX7_edges_1 rfl hl (by decide) rfl (fun ls hl => ?_)
  refine lv_iconst (v := 0) hx hb dX7_edges_2 (by decide) ?_
  refine lv_istore_n (lv' := [(2, .int (0 : Int32)), (1, .int (0 : Int32)), (0, .ref h0)]) hx hb dX7_edges_3 rfl hl (by decide) rfl (fun ls hl => ?_)
  obtain ⟨n0, h⟩ := h
  exact t_X7_edges_4 C hP hD n0 _ _ _ (lv_sub hl [2, 1, 0] rfl) h

def wp_X7_lonely_32 (r0 : zS) (r1 : zS) (post : Int32 → Prop) (k4 : Int32 → Int32 → Prop) (x1 : Int32) (x2 : Int32) : Prop :=
  ∀ v4 : Int32, v4 = x2 + (1 : Int32) → k4 x1 v4
def wb_X7_lonely_4 (r0 : zS) (r1 : zS) (post : Int32 → Prop) (ih : Int32 → Int32 → Prop) (x1 : Int32) (x2 : Int32) : Prop :=
  ((r1.1 1) ≤ x2 → post x1 ) ∧ (¬ (r1.1 1) ≤ x2 → wp_X1_nearOf r1 x2 (fun v2 => (v2 = 0 → ∀ v5 : Int32, v5 = (x1 ||| ((1 : Int32) <<< (x2 &&& 31))) → wp_X7_lonely_32 r0 r1 post ih v5 x2) ∧ (¬ v2 = 0 → wp_X7_lonely_32 r0 r1 post ih x1 x2)))
def wp_X7_lonely_4 (r0 : zS) (r1 : zS) (post : Int32 → Prop) (n : Nat) : Int32 → Int32 → Prop := Nat.rec (motive := fun _ => Int32 → Int32 → Prop) (fun _ _ => False) (fun _ ih => wb_X7_lonely_4 r0 r1 post ih) n
theorem wu_X7_lonely_4 (r0 : zS) (r1 : zS) (post : Int32 → Prop) (n : Nat) (x1 : Int32) (x2 : Int32) : wp_X7_lonely_4 r0 r1 post (n + 1) x1 x2 = wb_X7_lonely_4 r0 r1 post (wp_X7_lonely_4 r0 r1 post n) x1 x2 := rfl
def wp_X7_lonely (r0 : zS) (r1 : zS) (post : Int32 → Prop) : Prop :=
  ∃ n : Nat, wp_X7_lonely_4 r0 r1 post n (0 : Int32) (0 : Int32)
set_option maxHeartbeats 4000000 in
set_option maxRecDepth 100000 in
theorem t_X7_lonely_32 {p : Program} {l : Launch} {e : Env} {s : State} {m : MethodId} {args : Array Value} {below : List Frame} {meth : Method} {c : Code} {D : va_G} {K : Nat → ClassId} {h0 : Nat} {a0 : Nat → Nat} {hs : Nat → Nat} {r0 : zS} {a1 : Nat → Nat} {r1 : zS} {post : Int32 → Prop} (C : xC p s m args meth c cX7_lonely RX7 3 (some .int) D vwCl (xty K)) (hP : va_P D vwCl (wX7 K h0 a0 hs r0 ++ (wX1 K (a0 0) a1 r1)) s.heap) (hD : va_D (va_A (wX7 K h0 a0 hs r0 ++ (wX1 K (a0 0) a1 r1)) s.heap.size) (wX7 K h0 a0 hs r0 ++ (wX1 K (a0 0) a1 r1))) {k4 : Int32 → Int32 → Prop} (hk4 : ∀ (x1 : Int32) (x2 : Int32) (ls : Array Slot), lv_has ls 3 [(0, .ref h0), (1, .int x1), (2, .int x2)] → k4  x1 x2  → W p l e ({ frames := 2, cells := 0, slots := 0, locals := 42 } : Room) s m args below meth c s.heap [] 0 0 (MQ below (roI post) args s 0 0 (fun _ => False)) (F0 m 4 ls [])) : ∀ (x1 : Int32) (x2 : Int32) (ls : Array Slot), lv_has ls 3 [(0, .ref h0), (1, .int x1), (2, .int x2)] → wp_X7_lonely_32 r0 r1 post k4 x1 x2 → W p l e ({ frames := 2, cells := 0, slots := 0, locals := 42 } : Room) s m args below meth c s.heap [] 0 0 (MQ below (roI post) args s 0 0 (fun _ => False)) (F0 m 32 ls []) := by
  obtain ⟨hx, hb, hr, hml, hown, hts, hlocks, hK, hT⟩ := id C
  intro x1 x2 ls hl h
  unfold wp_X7_lonely_32 at h
  obtain ⟨v4, ev4⟩ : ∃ y : Int32, y = x2 + (1 : Int32) := ⟨_, rfl⟩
  replace h := h v4 ev4
  refine lv_iinc (v := v4) (lv' := [(2, .int v4), (0, .ref h0), (1, .int x1)]) hx hb dX7_lonely_32 hl (k := 2) rfl (by rw [ev4]; rfl) (by decide) rfl (fun ls hl => ?_)
  refine lv_goto (tgt := 4) hx hb dX7_lonely_35 (by decide) ?_
  exact hk4 _ _ _ (lv_sub hl [1, 2, 0] rfl) h
set_option maxHeartbeats 4000000 in
set_option maxRecDepth 100000 in
theorem t_X7_lonely_4 {p : Program} {l : Launch} {e : Env} {s : State} {m : MethodId} {args : Array Value} {below : List Frame} {meth : Method} {c : Code} {D : va_G} {K : Nat → ClassId} {h0 : Nat} {a0 : Nat → Nat} {hs : Nat → Nat} {r0 : zS} {a1 : Nat → Nat} {r1 : zS} {post : Int32 → Prop} (C : xC p s m args meth c cX7_lonely RX7 3 (some .int) D vwCl (xty K)) (hP : va_P D vwCl (wX7 K h0 a0 hs r0 ++ (wX1 K (a0 0) a1 r1)) s.heap) (hD : va_D (va_A (wX7 K h0 a0 hs r0 ++ (wX1 K (a0 0) a1 r1)) s.heap.size) (wX7 K h0 a0 hs r0 ++ (wX1 K (a0 0) a1 r1))) : ∀ (n : Nat) (x1 : Int32) (x2 : Int32) (ls : Array Slot), lv_has ls 3 [(0, .ref h0), (1, .int x1), (2, .int x2)] → wp_X7_lonely_4 r0 r1 post n x1 x2 → W p l e ({ frames := 2, cells := 0, slots := 0, locals := 42 } : Room) s m args below meth c s.heap [] 0 0 (MQ below (roI post) args s 0 0 (fun _ => False)) (F0 m 4 ls []) := by
  obtain ⟨hx, hb, hr, hml, hown, hts, hlocks, hK, hT⟩ := id C
  intro n
  induction n with
  | zero =>
    intro x1 x2 ls hl h
    exact False.elim h
  | succ n ihn =>
    intro x1 x2 ls hl h
    rw [wu_X7_lonely_4] at h
    unfold wb_X7_lonely_4 at h
    refine lv_iload_n hx hb dX7_lonely_4 rfl (lv_at hl 2 rfl) ?_
    refine lv_aload_n hx hb dX7_lonely_5 rfl (lv_at hl 0 rfl) ?_
    refine va_get (D := D) (ci := 7) (v := .ref (a0 0)) (C := RX7) (T := TX7) (N := 13) hx hb hts inlX7 hown hK hP 0 rfl rfl 0 (by decide) (hts (.fieldLink RX7 10 "UnderTheDesks" "room" "LUnderTheDesks$Room;") mw_16) (fun _ h9 => h9) rfl dX7_lonely_6 ?_
    refine va_get (D := D) (ci := 1) (v := .int (r1.1 1)) (C := RX1) (T := TX1) (N := 10) hx hb hts inlX1 hown hK hP 3 rfl rfl 1 (by decide) (hts (.fieldLink RX7 161 "UnderTheDesks$Room" "count" "I") mw_360) (fun _ h9 => h9) rfl dX7_lonely_9 ?_
    refine lv_icmp_ge (tgt := 38) hx hb dX7_lonely_12 (by decide) (fun c1 => ?_) (fun c1 => ?_)
    · replace h := And.left h c1
      refine lv_iload_n hx hb dX7_lonely_38 rfl (lv_at hl 1 rfl) ?_
      exact xro_i C h dX7_lonely_39
    · replace h := And.right h c1
      refine lv_aload_n hx hb dX7_lonely_15 rfl (lv_at hl 0 rfl) ?_
      refine va_get (D := D) (ci := 7) (v := .ref (a0 0)) (C := RX7) (T := TX7) (N := 13) hx hb hts inlX7 hown hK hP 0 rfl rfl 0 (by decide) (hts (.fieldLink RX7 10 "UnderTheDesks" "room" "LUnderTheDesks$Room;") mw_16) (fun _ h9 => h9) rfl dX7_lonely_16 ?_
      refine lv_iload_n hx hb dX7_lonely_19 rfl (lv_at hl 2 rfl) ?_
      refine xend_ro_i (xRunV (wc := (wX1 K (a0 0) a1 r1)) (As := [.int x2]) (rest := []) C (c_X1_nearOf h) k_X1_nearOf mw_707 ⟨rfl, rfl⟩ ⟨Nat.le_of_ble_eq_true rfl, Nat.le_of_ble_eq_true rfl⟩ hP hD [3, 4, 5, 6, 7, 8] rfl rfl rfl rfl hl rfl rfl (Nat.le_of_ble_eq_true rfl) dX7_lonely_20 ⟨Nat.le_refl _, Nat.le_refl _⟩) (fun v2 h => ?_)
      refine lv_if_ne (tgt := 32) hx hb dX7_lonely_23 (by decide) (fun c3 => ?_) (fun c3 => ?_)
      · replace h := And.right h c3
        exact t_X7_lonely_32 C hP hD ihn _ _ _ (lv_sub hl [0, 1, 2] rfl) h
      · replace h := And.left h c3
        refine lv_iload_n hx hb dX7_lonely_26 rfl (lv_at hl 1 rfl) ?_
        refine lv_iconst (v := 1) hx hb dX7_lonely_27 (by decide) ?_
        refine lv_iload_n hx hb dX7_lonely_28 rfl (lv_at hl 2 rfl) ?_
        refine lv_ishl hx hb dX7_lonely_29 ?_
        refine lv_ior hx hb dX7_lonely_30 ?_
        refine lv_topi (fun v5 ev5 => ?_)
        replace h := h v5 ev5
        refine lv_istore_n (lv' := [(1, .int v5), (0, .ref h0), (2, .int x2)]) hx hb dX7_lonely_31 rfl hl (by decide) rfl (fun ls hl => ?_)
        exact t_X7_lonely_32 C hP hD ihn _ _ _ (lv_sub hl [1, 0, 2] rfl) h
set_option maxHeartbeats 4000000 in
set_option maxRecDepth 100000 in
theorem c_X7_lonely {l : Launch} {D : va_G} {K : Nat → ClassId} {h0 : Nat} {a0 : Nat → Nat} {hs : Nat → Nat} {r0 : zS} {a1 : Nat → Nat} {r1 : zS}  {sz : Nat} {post : Int32 → Prop}   (h : wp_X7_lonely r0 r1 post) : Met l yX7_lonely (Cond.code yX7_lonely cX7_lonely 3 (some .int) :: wsL_law) ({ frames := 2, cells := 0, slots := 0, locals := 42 } : Room) (va_Pc [.ref h0] (xPre D vwCl (xty K) (wX7 K h0 a0 hs r0 ++ (wX1 K (a0 0) a1 r1)) sz)) (roI post) 0 0 (fun _ => False) := by
  refine xMet (by decide) rfl (Nat.le_of_ble_eq_true rfl) (fun p e s m args below meth c C hnm hP hD hsz ls hl => ?_)
  have hl : lv_has ls 3 [(0, .ref h0)] := hl
  obtain ⟨hx, hb, hr, hml, hown, hts, hlocks, hK, hT⟩ := id C
  unfold wp_X7_lonely at h
  refine lv_iconst (v := 0) hx hb dX7_lonely_0 (by decide) ?_
  refine lv_istore_n (lv' := [(1, .int (0 : Int32)), (0, .ref h0)]) hx hb dX7_lonely_1 rfl hl (by decide) rfl (fun ls hl => ?_)
  refine lv_iconst (v := 0) hx hb dX7_lonely_2 (by decide) ?_
  refine lv_istore_n (lv' := [(2, .int (0 : Int32)), (1, .int (0 : Int32)), (0, .ref h0)]) hx hb dX7_lonely_3 rfl hl (by decide) rfl (fun ls hl => ?_)
  obtain ⟨n0, h⟩ := h
  exact t_X7_lonely_4 C hP hD n0 _ _ _ (lv_sub hl [2, 1, 0] rfl) h

def wp_X7_ways (r0 : zS) (r1 : zS) (r2 : zS) (p1 : Int32) (p2 : Int32) (post : Int32 → (zS) → (zS) → Prop) : Prop :=
  wp_X7_isPair r0 r1 p1 p2 (fun v1 => (v1 = 0 → wp_X7_refuse r0 (-2 : Int32) (fun v5 s6 => post v5 s6 r2)) ∧ (¬ v1 = 0 → wp_X6_find r2 r1 p1 p2 (fun s4 => post (s4.1 0) r0 s4)))
set_option maxHeartbeats 4000000 in
set_option maxRecDepth 100000 in
theorem c_X7_ways {l : Launch} {D : va_G} {K : Nat → ClassId} {h0 : Nat} {a0 : Nat → Nat} {hs : Nat → Nat} {r0 : zS} {a1 : Nat → Nat} {r1 : zS} {a2 : Nat → Nat} {r2 : zS} {p1 : Int32} {p2 : Int32} {sz : Nat} {post : Int32 → (zS) → (zS) → Prop}   (h : wp_X7_ways r0 r1 r2 p1 p2 post) : Met l yX7_ways (Cond.code yX7_ways cX7_ways 3 (some .int) :: wsL_law) ({ frames := 15, cells := 0, slots := 0, locals := 591 } : Room) (va_Pc [.ref h0, .int p1, .int p2] (xPre D vwCl (xty K) (wX7 K h0 a0 hs r0 ++ (wX1 K (a0 0) a1 r1 ++ (wX6 K (a0 9) a2 r2))) sz)) (va_Qi (fun r (u : (zS) × (zS)) => post r u.1 u.2) (fun (u : (zS) × (zS)) t => va_P D vwCl (wX7 K h0 a0 hs u.1 ++ (wX1 K (a0 0) a1 r1 ++ (wX6 K (a0 9) a2 u.2))) t.heap) (va_A (wX7 K h0 a0 hs r0 ++ (wX1 K (a0 0) a1 r1 ++ (wX6 K (a0 9) a2 r2))) sz)) 0 0 (va_A (wX7 K h0 a0 hs r0 ++ (wX1 K (a0 0) a1 r1 ++ (wX6 K (a0 9) a2 r2))) sz) := by
  refine xMet (by decide) rfl (Nat.le_of_ble_eq_true rfl) (fun p e s m args below meth c C hnm hP hD hsz ls hl => ?_)
  have hl : lv_has ls 3 [(0, .ref h0), (1, .int p1), (2, .int p2)] := hl
  obtain ⟨hx, hb, hr, hml, hown, hts, hlocks, hK, hT⟩ := id C
  subst hsz
  generalize hAe : va_A (wX7 K h0 a0 hs r0 ++ (wX1 K (a0 0) a1 r1 ++ (wX6 K (a0 9) a2 r2))) s.heap.size = A at hD ⊢
  have hA : ∀ q : Nat, s.heap.size ≤ q → A q := fun q h => by rw [← hAe]; exact Or.inr h
  have hS : va_S A s.heap s.heap [] := va_S.rf
  have hP : va_P D vwCl (wX7 K h0 a0 hs r0 ++ (wX1 K (a0 0) a1 r1 ++ (wX6 K (a0 9) a2 r2))) s.heap := hP
  unfold wp_X7_ways at h
  refine lv_aload_n hx hb dX7_ways_0 rfl (lv_at hl 0 rfl) ?_
  refine lv_iload_n hx hb dX7_ways_1 rfl (lv_at hl 1 rfl) ?_
  refine lv_iload_n hx hb dX7_ways_2 rfl (lv_at hl 2 rfl) ?_
  refine xend_ro_i (xRunV (wc := (wX7 K h0 a0 hs r0 ++ (wX1 K (a0 0) a1 r1))) (As := [.int p1, .int p2]) (rest := []) C (c_X7_isPair h) k_X7_isPair mw_429 ⟨rfl, rfl⟩ ⟨Nat.le_of_ble_eq_true rfl, Nat.le_of_ble_eq_true rfl⟩ hP hD [0, 1, 2, 3, 4, 5, 6, 7, 8] rfl rfl rfl rfl hl rfl rfl (Nat.le_of_ble_eq_true rfl) dX7_ways_3 ⟨Nat.le_refl _, Nat.le_refl _⟩) (fun v1 h => ?_)
  refine lv_if_ne (tgt := 16) hx hb dX7_ways_6 (by decide) (fun c2 => ?_) (fun c2 => ?_)
  · replace h := And.right h c2
    refine lv_aload_n hx hb dX7_ways_16 rfl (lv_at hl 0 rfl) ?_
    refine va_get (D := D) (ci := 7) (v := .ref (a0 9)) (C := RX7) (T := TX7) (N := 13) hx hb hts inlX7 hown hK hP 0 rfl rfl 9 (by decide) (hts (.fieldLink RX7 61 "UnderTheDesks" "paths" "LUnderTheDesks$Ways;") mw_38) (fun _ h9 => h9) rfl dX7_ways_17 ?_
    refine lv_aload_n hx hb dX7_ways_20 rfl (lv_at hl 0 rfl) ?_
    refine va_get (D := D) (ci := 7) (v := .ref (a0 0)) (C := RX7) (T := TX7) (N := 13) hx hb hts inlX7 hown hK hP 0 rfl rfl 0 (by decide) (hts (.fieldLink RX7 10 "UnderTheDesks" "room" "LUnderTheDesks$Room;") mw_16) (fun _ h9 => h9) rfl dX7_ways_21 ?_
    refine lv_iload_n hx hb dX7_ways_24 rfl (lv_at hl 1 rfl) ?_
    refine lv_iload_n hx hb dX7_ways_25 rfl (lv_at hl 2 rfl) ?_
    refine xend_rw_v (wf := fun (u : (zS)) => (wX6 K (a0 9) a2 u ++ (wX1 K (a0 0) a1 r1))) (xRunV (wc := (wX6 K (a0 9) a2 r2 ++ (wX1 K (a0 0) a1 r1))) (As := [.ref (a0 0), .int p1, .int p2]) (rest := []) C (c_X6_find h) k_X6_find mw_756 ⟨rfl, rfl⟩ ⟨Nat.le_of_ble_eq_true rfl, Nat.le_of_ble_eq_true rfl⟩ hP hD [9, 10, 11, 12, 13, 3, 4, 5, 6, 7, 8] rfl rfl rfl rfl hl rfl rfl (Nat.le_of_ble_eq_true rfl) dX7_ways_26 ⟨Nat.le_refl _, Nat.le_refl _⟩) hP hD hS hA [9, 10, 11, 12, 13, 3, 4, 5, 6, 7, 8] rfl rfl (fun _ => rfl) (fun s4 H locs h hP hD hS => ?_)
    replace hP : va_P D vwCl (wX7 K h0 a0 hs r0 ++ (wX1 K (a0 0) a1 r1 ++ (wX6 K (a0 9) a2 s4))) H := hP
    replace hD : va_D A (wX7 K h0 a0 hs r0 ++ (wX1 K (a0 0) a1 r1 ++ (wX6 K (a0 9) a2 s4))) := hD
    refine lv_aload_n hx hb dX7_ways_29 rfl (lv_at hl 0 rfl) ?_
    refine va_get (D := D) (ci := 7) (v := .ref (a0 9)) (C := RX7) (T := TX7) (N := 13) hx hb hts inlX7 hown hK hP 0 rfl rfl 9 (by decide) (hts (.fieldLink RX7 61 "UnderTheDesks" "paths" "LUnderTheDesks$Ways;") mw_38) (fun _ h9 => h9) rfl dX7_ways_30 ?_
    refine va_get (D := D) (ci := 6) (v := .int (s4.1 0)) (C := RX6) (T := TX6) (N := 5) hx hb hts inlX6 hown hK hP 9 rfl rfl 0 (by decide) (hts (.fieldLink RX7 250 "UnderTheDesks$Ways" "count" "I") mw_755) (fun _ h9 => h9) rfl dX7_ways_33 ?_
    exact xrw_i C (r0, s4) h hP hS dX7_ways_36
  · replace h := And.left h c2
    refine lv_aload_n hx hb dX7_ways_9 rfl (lv_at hl 0 rfl) ?_
    refine lv_bipush (v := -2) hx hb dX7_ways_10 (by decide) ?_
    refine xend_rw_i (wf := fun (u : (zS)) => (wX7 K h0 a0 hs u)) (xRunV (wc := (wX7 K h0 a0 hs r0)) (As := [.int (-2 : Int32)]) (rest := []) C (c_X7_refuse h) k_X7_refuse mw_147 ⟨rfl, rfl⟩ ⟨Nat.le_of_ble_eq_true rfl, Nat.le_of_ble_eq_true rfl⟩ hP hD [0, 1, 2] rfl rfl rfl rfl hl rfl rfl (Nat.le_of_ble_eq_true rfl) dX7_ways_12 ⟨Nat.le_refl _, Nat.le_refl _⟩) hP hD hS hA [0, 1, 2] rfl rfl (fun _ => rfl) (fun v5 s6 H locs h hP hD hS => ?_)
    replace hP : va_P D vwCl (wX7 K h0 a0 hs s6 ++ (wX1 K (a0 0) a1 r1 ++ (wX6 K (a0 9) a2 r2))) H := hP
    replace hD : va_D A (wX7 K h0 a0 hs s6 ++ (wX1 K (a0 0) a1 r1 ++ (wX6 K (a0 9) a2 r2))) := hD
    exact xrw_i C (s6, r2) h hP hS dX7_ways_15

def wp_X7_fewest_73 (r1 : zS) (p1 : Int32) (p2 : Int32) (post : Int32 → (zS) → (zS) → Prop) (k34 : (zS) → (zS) → Int32 → Int32 → Prop) (r0 : zS) (r2 : zS) (x3 : Int32) (x4 : Int32) : Prop :=
  ∀ v9 : Int32, v9 = x4 + (1 : Int32) → k34 r0 r2 x3 v9
def wp_X7_fewest_70 (r1 : zS) (p1 : Int32) (p2 : Int32) (post : Int32 → (zS) → (zS) → Prop) (k34 : (zS) → (zS) → Int32 → Int32 → Prop) (r0 : zS) (r2 : zS) (x4 : Int32) (x5 : Int32) : Prop :=
  wp_X7_fewest_73 r1 p1 p2 post k34 r0 r2 x5 x4
def wb_X7_fewest_34 (r1 : zS) (p1 : Int32) (p2 : Int32) (post : Int32 → (zS) → (zS) → Prop) (ih : (zS) → (zS) → Int32 → Int32 → Prop) (r0 : zS) (r2 : zS) (x3 : Int32) (x4 : Int32) : Prop :=
  ((r2.1 0) ≤ x4 → post x3 r0 r2) ∧ (¬ (r2.1 0) ≤ x4 → wp_X6_sizeOf r2 x4 (fun v6 => ∀ v7 : Int32, v7 = (v6 - (1 : Int32)) → (x3 = (-1 : Int32) → wp_X7_fewest_70 r1 p1 p2 post ih r0 r2 x4 v7) ∧ (¬ x3 = (-1 : Int32) → (x3 ≤ v7 → wp_X7_fewest_73 r1 p1 p2 post ih r0 r2 x3 x4) ∧ (¬ x3 ≤ v7 → wp_X7_fewest_70 r1 p1 p2 post ih r0 r2 x4 v7))))
def wp_X7_fewest_34 (r1 : zS) (p1 : Int32) (p2 : Int32) (post : Int32 → (zS) → (zS) → Prop) (n : Nat) : (zS) → (zS) → Int32 → Int32 → Prop := Nat.rec (motive := fun _ => (zS) → (zS) → Int32 → Int32 → Prop) (fun _ _ _ _ => False) (fun _ ih => wb_X7_fewest_34 r1 p1 p2 post ih) n
theorem wu_X7_fewest_34 (r1 : zS) (p1 : Int32) (p2 : Int32) (post : Int32 → (zS) → (zS) → Prop) (n : Nat) (r0 : zS) (r2 : zS) (x3 : Int32) (x4 : Int32) : wp_X7_fewest_34 r1 p1 p2 post (n + 1) r0 r2 x3 x4 = wb_X7_fewest_34 r1 p1 p2 post (wp_X7_fewest_34 r1 p1 p2 post n) r0 r2 x3 x4 := rfl
def wp_X7_fewest (r0 : zS) (r1 : zS) (r2 : zS) (p1 : Int32) (p2 : Int32) (post : Int32 → (zS) → (zS) → Prop) : Prop :=
  wp_X7_isPair r0 r1 p1 p2 (fun v1 => (v1 = 0 → wp_X7_refuse r0 (-2 : Int32) (fun v11 s12 => post v11 s12 r2)) ∧ (¬ v1 = 0 → wp_X6_find r2 r1 p1 p2 (fun s4 => ∃ n : Nat, wp_X7_fewest_34 r1 p1 p2 post n r0 s4 (-1 : Int32) (0 : Int32))))
set_option maxHeartbeats 4000000 in
set_option maxRecDepth 100000 in
theorem t_X7_fewest_73 {p : Program} {l : Launch} {e : Env} {s : State} {m : MethodId} {args : Array Value} {below : List Frame} {meth : Method} {c : Code} {D : va_G} {K : Nat → ClassId} {h0 : Nat} {a0 : Nat → Nat} {hs : Nat → Nat} {a1 : Nat → Nat} {r1 : zS} {a2 : Nat → Nat} {p1 : Int32} {p2 : Int32} {post : Int32 → (zS) → (zS) → Prop} {A : Nat → Prop} (C : xC p s m args meth c cX7_fewest RX7 6 (some .int) D vwCl (xty K)) (hA : ∀ q, s.heap.size ≤ q → A q) {k34 : (zS) → (zS) → Int32 → Int32 → Prop} (hk34 : ∀ (r0 : zS) (r2 : zS) (x3 : Int32) (x4 : Int32) (H : Heap) (locs : List Loc) (ls : Array Slot), lv_has ls 6 [(0, .ref h0), (3, .int x3), (4, .int x4)] → va_P D vwCl (wX7 K h0 a0 hs r0 ++ (wX1 K (a0 0) a1 r1 ++ (wX6 K (a0 9) a2 r2))) H → va_D A (wX7 K h0 a0 hs r0 ++ (wX1 K (a0 0) a1 r1 ++ (wX6 K (a0 9) a2 r2))) → va_S A s.heap H locs → k34 r0 r2 x3 x4  → W p l e ({ frames := 15, cells := 0, slots := 0, locals := 591 } : Room) s m args below meth c H locs 0 0 (MQ below (va_Qi (fun r (u : (zS) × (zS)) => post r u.1 u.2) (fun (u : (zS) × (zS)) t => va_P D vwCl (wX7 K h0 a0 hs u.1 ++ (wX1 K (a0 0) a1 r1 ++ (wX6 K (a0 9) a2 u.2))) t.heap) A) args s 0 0 A) (F0 m 34 ls [])) : ∀ (r0 : zS) (r2 : zS) (x3 : Int32) (x4 : Int32) (H : Heap) (locs : List Loc) (ls : Array Slot), lv_has ls 6 [(0, .ref h0), (3, .int x3), (4, .int x4)] → va_P D vwCl (wX7 K h0 a0 hs r0 ++ (wX1 K (a0 0) a1 r1 ++ (wX6 K (a0 9) a2 r2))) H → va_D A (wX7 K h0 a0 hs r0 ++ (wX1 K (a0 0) a1 r1 ++ (wX6 K (a0 9) a2 r2))) → va_S A s.heap H locs → wp_X7_fewest_73 r1 p1 p2 post k34 r0 r2 x3 x4 → W p l e ({ frames := 15, cells := 0, slots := 0, locals := 591 } : Room) s m args below meth c H locs 0 0 (MQ below (va_Qi (fun r (u : (zS) × (zS)) => post r u.1 u.2) (fun (u : (zS) × (zS)) t => va_P D vwCl (wX7 K h0 a0 hs u.1 ++ (wX1 K (a0 0) a1 r1 ++ (wX6 K (a0 9) a2 u.2))) t.heap) A) args s 0 0 A) (F0 m 73 ls []) := by
  obtain ⟨hx, hb, hr, hml, hown, hts, hlocks, hK, hT⟩ := id C
  intro r0 r2 x3 x4 H locs ls hl hP hD hS h
  unfold wp_X7_fewest_73 at h
  obtain ⟨v9, ev9⟩ : ∃ y : Int32, y = x4 + (1 : Int32) := ⟨_, rfl⟩
  replace h := h v9 ev9
  refine lv_iinc (v := v9) (lv' := [(4, .int v9), (0, .ref h0), (3, .int x3)]) hx hb dX7_fewest_73 hl (k := 2) rfl (by rw [ev9]; rfl) (by decide) rfl (fun ls hl => ?_)
  refine lv_goto (tgt := 34) hx hb dX7_fewest_76 (by decide) ?_
  exact hk34 _ _ _ _ _ _ _ (lv_sub hl [1, 2, 0] rfl) hP hD hS h
set_option maxHeartbeats 4000000 in
set_option maxRecDepth 100000 in
theorem t_X7_fewest_70 {p : Program} {l : Launch} {e : Env} {s : State} {m : MethodId} {args : Array Value} {below : List Frame} {meth : Method} {c : Code} {D : va_G} {K : Nat → ClassId} {h0 : Nat} {a0 : Nat → Nat} {hs : Nat → Nat} {a1 : Nat → Nat} {r1 : zS} {a2 : Nat → Nat} {p1 : Int32} {p2 : Int32} {post : Int32 → (zS) → (zS) → Prop} {A : Nat → Prop} (C : xC p s m args meth c cX7_fewest RX7 6 (some .int) D vwCl (xty K)) (hA : ∀ q, s.heap.size ≤ q → A q) {k34 : (zS) → (zS) → Int32 → Int32 → Prop} (hk34 : ∀ (r0 : zS) (r2 : zS) (x3 : Int32) (x4 : Int32) (H : Heap) (locs : List Loc) (ls : Array Slot), lv_has ls 6 [(0, .ref h0), (3, .int x3), (4, .int x4)] → va_P D vwCl (wX7 K h0 a0 hs r0 ++ (wX1 K (a0 0) a1 r1 ++ (wX6 K (a0 9) a2 r2))) H → va_D A (wX7 K h0 a0 hs r0 ++ (wX1 K (a0 0) a1 r1 ++ (wX6 K (a0 9) a2 r2))) → va_S A s.heap H locs → k34 r0 r2 x3 x4  → W p l e ({ frames := 15, cells := 0, slots := 0, locals := 591 } : Room) s m args below meth c H locs 0 0 (MQ below (va_Qi (fun r (u : (zS) × (zS)) => post r u.1 u.2) (fun (u : (zS) × (zS)) t => va_P D vwCl (wX7 K h0 a0 hs u.1 ++ (wX1 K (a0 0) a1 r1 ++ (wX6 K (a0 9) a2 u.2))) t.heap) A) args s 0 0 A) (F0 m 34 ls [])) : ∀ (r0 : zS) (r2 : zS) (x4 : Int32) (x5 : Int32) (H : Heap) (locs : List Loc) (ls : Array Slot), lv_has ls 6 [(0, .ref h0), (4, .int x4), (5, .int x5)] → va_P D vwCl (wX7 K h0 a0 hs r0 ++ (wX1 K (a0 0) a1 r1 ++ (wX6 K (a0 9) a2 r2))) H → va_D A (wX7 K h0 a0 hs r0 ++ (wX1 K (a0 0) a1 r1 ++ (wX6 K (a0 9) a2 r2))) → va_S A s.heap H locs → wp_X7_fewest_70 r1 p1 p2 post k34 r0 r2 x4 x5 → W p l e ({ frames := 15, cells := 0, slots := 0, locals := 591 } : Room) s m args below meth c H locs 0 0 (MQ below (va_Qi (fun r (u : (zS) × (zS)) => post r u.1 u.2) (fun (u : (zS) × (zS)) t => va_P D vwCl (wX7 K h0 a0 hs u.1 ++ (wX1 K (a0 0) a1 r1 ++ (wX6 K (a0 9) a2 u.2))) t.heap) A) args s 0 0 A) (F0 m 70 ls []) := by
  obtain ⟨hx, hb, hr, hml, hown, hts, hlocks, hK, hT⟩ := id C
  intro r0 r2 x4 x5 H locs ls hl hP hD hS h
  unfold wp_X7_fewest_70 at h
  refine lv_iload hx hb dX7_fewest_70 (lv_at hl 2 rfl) ?_
  refine lv_istore_n (lv' := [(3, .int x5), (0, .ref h0), (4, .int x4), (5, .int x5)]) hx hb dX7_fewest_72 rfl hl (by decide) rfl (fun ls hl => ?_)
  exact t_X7_fewest_73 C hA hk34 _ _ _ _ _ _ _ (lv_sub hl [1, 0, 2] rfl) hP hD hS h
set_option maxHeartbeats 4000000 in
set_option maxRecDepth 100000 in
theorem t_X7_fewest_34 {p : Program} {l : Launch} {e : Env} {s : State} {m : MethodId} {args : Array Value} {below : List Frame} {meth : Method} {c : Code} {D : va_G} {K : Nat → ClassId} {h0 : Nat} {a0 : Nat → Nat} {hs : Nat → Nat} {a1 : Nat → Nat} {r1 : zS} {a2 : Nat → Nat} {p1 : Int32} {p2 : Int32} {post : Int32 → (zS) → (zS) → Prop} {A : Nat → Prop} (C : xC p s m args meth c cX7_fewest RX7 6 (some .int) D vwCl (xty K)) (hA : ∀ q, s.heap.size ≤ q → A q) : ∀ (n : Nat) (r0 : zS) (r2 : zS) (x3 : Int32) (x4 : Int32) (H : Heap) (locs : List Loc) (ls : Array Slot), lv_has ls 6 [(0, .ref h0), (3, .int x3), (4, .int x4)] → va_P D vwCl (wX7 K h0 a0 hs r0 ++ (wX1 K (a0 0) a1 r1 ++ (wX6 K (a0 9) a2 r2))) H → va_D A (wX7 K h0 a0 hs r0 ++ (wX1 K (a0 0) a1 r1 ++ (wX6 K (a0 9) a2 r2))) → va_S A s.heap H locs → wp_X7_fewest_34 r1 p1 p2 post n r0 r2 x3 x4 → W p l e ({ frames := 15, cells := 0, slots := 0, locals := 591 } : Room) s m args below meth c H locs 0 0 (MQ below (va_Qi (fun r (u : (zS) × (zS)) => post r u.1 u.2) (fun (u : (zS) × (zS)) t => va_P D vwCl (wX7 K h0 a0 hs u.1 ++ (wX1 K (a0 0) a1 r1 ++ (wX6 K (a0 9) a2 u.2))) t.heap) A) args s 0 0 A) (F0 m 34 ls []) := by
  obtain ⟨hx, hb, hr, hml, hown, hts, hlocks, hK, hT⟩ := id C
  intro n
  induction n with
  | zero =>
    intro r0 r2 x3 x4 H locs ls hl hP hD hS h
    exact False.elim h
  | succ n ihn =>
    intro r0 r2 x3 x4 H locs ls hl hP hD hS h
    rw [wu_X7_fewest_34] at h
    unfold wb_X7_fewest_34 at h
    refine lv_iload hx hb dX7_fewest_34 (lv_at hl 2 rfl) ?_
    refine lv_aload_n hx hb dX7_fewest_36 rfl (lv_at hl 0 rfl) ?_
    refine va_get (D := D) (ci := 7) (v := .ref (a0 9)) (C := RX7) (T := TX7) (N := 13) hx hb hts inlX7 hown hK hP 0 rfl rfl 9 (by decide) (hts (.fieldLink RX7 61 "UnderTheDesks" "paths" "LUnderTheDesks$Ways;") mw_38) (fun _ h9 => h9) rfl dX7_fewest_37 ?_
    refine va_get (D := D) (ci := 6) (v := .int (r2.1 0)) (C := RX6) (T := TX6) (N := 5) hx hb hts inlX6 hown hK hP 9 rfl rfl 0 (by decide) (hts (.fieldLink RX7 250 "UnderTheDesks$Ways" "count" "I") mw_755) (fun _ h9 => h9) rfl dX7_fewest_40 ?_
    refine lv_icmp_ge (tgt := 79) hx hb dX7_fewest_43 (by decide) (fun c5 => ?_) (fun c5 => ?_)
    · replace h := And.left h c5
      refine lv_iload_n hx hb dX7_fewest_79 rfl (lv_at hl 1 rfl) ?_
      exact xrw_i C (r0, r2) h hP hS dX7_fewest_80
    · replace h := And.right h c5
      refine lv_aload_n hx hb dX7_fewest_46 rfl (lv_at hl 0 rfl) ?_
      refine va_get (D := D) (ci := 7) (v := .ref (a0 9)) (C := RX7) (T := TX7) (N := 13) hx hb hts inlX7 hown hK hP 0 rfl rfl 9 (by decide) (hts (.fieldLink RX7 61 "UnderTheDesks" "paths" "LUnderTheDesks$Ways;") mw_38) (fun _ h9 => h9) rfl dX7_fewest_47 ?_
      refine lv_iload hx hb dX7_fewest_50 (lv_at hl 2 rfl) ?_
      refine xend_ro_i (xRunV (wc := (wX6 K (a0 9) a2 r2)) (As := [.int x4]) (rest := []) C (c_X6_sizeOf h) k_X6_sizeOf mw_801 ⟨rfl, rfl⟩ ⟨Nat.le_of_ble_eq_true rfl, Nat.le_of_ble_eq_true rfl⟩ hP hD [9, 10, 11, 12, 13] rfl rfl rfl rfl hl rfl rfl (Nat.le_of_ble_eq_true rfl) dX7_fewest_52 ⟨Nat.le_refl _, Nat.le_refl _⟩) (fun v6 h => ?_)
      refine lv_iconst (v := 1) hx hb dX7_fewest_55 (by decide) ?_
      refine lv_isub hx hb dX7_fewest_56 ?_
      refine lv_topi (fun v7 ev7 => ?_)
      replace h := h v7 ev7
      refine lv_istore (lv' := [(5, .int v7), (0, .ref h0), (3, .int x3), (4, .int x4)]) hx hb dX7_fewest_57 hl (by decide) rfl (fun ls hl => ?_)
      refine lv_iload_n hx hb dX7_fewest_59 rfl (lv_at hl 2 rfl) ?_
      refine lv_iconst (v := -1) hx hb dX7_fewest_60 (by decide) ?_
      refine lv_icmp_eq (tgt := 70) hx hb dX7_fewest_61 (by decide) (fun c8 => ?_) (fun c8 => ?_)
      · replace h := And.left h c8
        exact t_X7_fewest_70 C hA ihn _ _ _ _ _ _ _ (lv_sub hl [1, 3, 0] rfl) hP hD hS h
      · replace h := And.right h c8
        refine lv_iload hx hb dX7_fewest_64 (lv_at hl 0 rfl) ?_
        refine lv_iload_n hx hb dX7_fewest_66 rfl (lv_at hl 2 rfl) ?_
        refine lv_icmp_ge (tgt := 73) hx hb dX7_fewest_67 (by decide) (fun c10 => ?_) (fun c10 => ?_)
        · replace h := And.left h c10
          exact t_X7_fewest_73 C hA ihn _ _ _ _ _ _ _ (lv_sub hl [1, 2, 3] rfl) hP hD hS h
        · replace h := And.right h c10
          exact t_X7_fewest_70 C hA ihn _ _ _ _ _ _ _ (lv_sub hl [1, 3, 0] rfl) hP hD hS h
set_option maxHeartbeats 4000000 in
set_option maxRecDepth 100000 in
theorem c_X7_fewest {l : Launch} {D : va_G} {K : Nat → ClassId} {h0 : Nat} {a0 : Nat → Nat} {hs : Nat → Nat} {r0 : zS} {a1 : Nat → Nat} {r1 : zS} {a2 : Nat → Nat} {r2 : zS} {p1 : Int32} {p2 : Int32} {sz : Nat} {post : Int32 → (zS) → (zS) → Prop}   (h : wp_X7_fewest r0 r1 r2 p1 p2 post) : Met l yX7_fewest (Cond.code yX7_fewest cX7_fewest 6 (some .int) :: wsL_law) ({ frames := 15, cells := 0, slots := 0, locals := 591 } : Room) (va_Pc [.ref h0, .int p1, .int p2] (xPre D vwCl (xty K) (wX7 K h0 a0 hs r0 ++ (wX1 K (a0 0) a1 r1 ++ (wX6 K (a0 9) a2 r2))) sz)) (va_Qi (fun r (u : (zS) × (zS)) => post r u.1 u.2) (fun (u : (zS) × (zS)) t => va_P D vwCl (wX7 K h0 a0 hs u.1 ++ (wX1 K (a0 0) a1 r1 ++ (wX6 K (a0 9) a2 u.2))) t.heap) (va_A (wX7 K h0 a0 hs r0 ++ (wX1 K (a0 0) a1 r1 ++ (wX6 K (a0 9) a2 r2))) sz)) 0 0 (va_A (wX7 K h0 a0 hs r0 ++ (wX1 K (a0 0) a1 r1 ++ (wX6 K (a0 9) a2 r2))) sz) := by
  refine xMet (by decide) rfl (Nat.le_of_ble_eq_true rfl) (fun p e s m args below meth c C hnm hP hD hsz ls hl => ?_)
  have hl : lv_has ls 6 [(0, .ref h0), (1, .int p1), (2, .int p2)] := hl
  obtain ⟨hx, hb, hr, hml, hown, hts, hlocks, hK, hT⟩ := id C
  subst hsz
  generalize hAe : va_A (wX7 K h0 a0 hs r0 ++ (wX1 K (a0 0) a1 r1 ++ (wX6 K (a0 9) a2 r2))) s.heap.size = A at hD ⊢
  have hA : ∀ q : Nat, s.heap.size ≤ q → A q := fun q h => by rw [← hAe]; exact Or.inr h
  have hS : va_S A s.heap s.heap [] := va_S.rf
  have hP : va_P D vwCl (wX7 K h0 a0 hs r0 ++ (wX1 K (a0 0) a1 r1 ++ (wX6 K (a0 9) a2 r2))) s.heap := hP
  unfold wp_X7_fewest at h
  refine lv_aload_n hx hb dX7_fewest_0 rfl (lv_at hl 0 rfl) ?_
  refine lv_iload_n hx hb dX7_fewest_1 rfl (lv_at hl 1 rfl) ?_
  refine lv_iload_n hx hb dX7_fewest_2 rfl (lv_at hl 2 rfl) ?_
  refine xend_ro_i (xRunV (wc := (wX7 K h0 a0 hs r0 ++ (wX1 K (a0 0) a1 r1))) (As := [.int p1, .int p2]) (rest := []) C (c_X7_isPair h) k_X7_isPair mw_429 ⟨rfl, rfl⟩ ⟨Nat.le_of_ble_eq_true rfl, Nat.le_of_ble_eq_true rfl⟩ hP hD [0, 1, 2, 3, 4, 5, 6, 7, 8] rfl rfl rfl rfl hl rfl rfl (Nat.le_of_ble_eq_true rfl) dX7_fewest_3 ⟨Nat.le_refl _, Nat.le_refl _⟩) (fun v1 h => ?_)
  refine lv_if_ne (tgt := 16) hx hb dX7_fewest_6 (by decide) (fun c2 => ?_) (fun c2 => ?_)
  · replace h := And.right h c2
    refine lv_aload_n hx hb dX7_fewest_16 rfl (lv_at hl 0 rfl) ?_
    refine va_get (D := D) (ci := 7) (v := .ref (a0 9)) (C := RX7) (T := TX7) (N := 13) hx hb hts inlX7 hown hK hP 0 rfl rfl 9 (by decide) (hts (.fieldLink RX7 61 "UnderTheDesks" "paths" "LUnderTheDesks$Ways;") mw_38) (fun _ h9 => h9) rfl dX7_fewest_17 ?_
    refine lv_aload_n hx hb dX7_fewest_20 rfl (lv_at hl 0 rfl) ?_
    refine va_get (D := D) (ci := 7) (v := .ref (a0 0)) (C := RX7) (T := TX7) (N := 13) hx hb hts inlX7 hown hK hP 0 rfl rfl 0 (by decide) (hts (.fieldLink RX7 10 "UnderTheDesks" "room" "LUnderTheDesks$Room;") mw_16) (fun _ h9 => h9) rfl dX7_fewest_21 ?_
    refine lv_iload_n hx hb dX7_fewest_24 rfl (lv_at hl 1 rfl) ?_
    refine lv_iload_n hx hb dX7_fewest_25 rfl (lv_at hl 2 rfl) ?_
    refine xend_rw_v (wf := fun (u : (zS)) => (wX6 K (a0 9) a2 u ++ (wX1 K (a0 0) a1 r1))) (xRunV (wc := (wX6 K (a0 9) a2 r2 ++ (wX1 K (a0 0) a1 r1))) (As := [.ref (a0 0), .int p1, .int p2]) (rest := []) C (c_X6_find h) k_X6_find mw_756 ⟨rfl, rfl⟩ ⟨Nat.le_of_ble_eq_true rfl, Nat.le_of_ble_eq_true rfl⟩ hP hD [9, 10, 11, 12, 13, 3, 4, 5, 6, 7, 8] rfl rfl rfl rfl hl rfl rfl (Nat.le_of_ble_eq_true rfl) dX7_fewest_26 ⟨Nat.le_refl _, Nat.le_refl _⟩) hP hD hS hA [9, 10, 11, 12, 13, 3, 4, 5, 6, 7, 8] rfl rfl (fun _ => rfl) (fun s4 H locs h hP hD hS => ?_)
    replace hP : va_P D vwCl (wX7 K h0 a0 hs r0 ++ (wX1 K (a0 0) a1 r1 ++ (wX6 K (a0 9) a2 s4))) H := hP
    replace hD : va_D A (wX7 K h0 a0 hs r0 ++ (wX1 K (a0 0) a1 r1 ++ (wX6 K (a0 9) a2 s4))) := hD
    refine lv_iconst (v := -1) hx hb dX7_fewest_29 (by decide) ?_
    refine lv_istore_n (lv' := [(3, .int (-1 : Int32)), (0, .ref h0), (1, .int p1), (2, .int p2)]) hx hb dX7_fewest_30 rfl hl (by decide) rfl (fun ls hl => ?_)
    refine lv_iconst (v := 0) hx hb dX7_fewest_31 (by decide) ?_
    refine lv_istore (lv' := [(4, .int (0 : Int32)), (3, .int (-1 : Int32)), (0, .ref h0), (1, .int p1), (2, .int p2)]) hx hb dX7_fewest_32 hl (by decide) rfl (fun ls hl => ?_)
    obtain ⟨n0, h⟩ := h
    exact t_X7_fewest_34 C hA n0 _ _ _ _ _ _ _ (lv_sub hl [2, 1, 0] rfl) hP hD hS h
  · replace h := And.left h c2
    refine lv_aload_n hx hb dX7_fewest_9 rfl (lv_at hl 0 rfl) ?_
    refine lv_bipush (v := -2) hx hb dX7_fewest_10 (by decide) ?_
    refine xend_rw_i (wf := fun (u : (zS)) => (wX7 K h0 a0 hs u)) (xRunV (wc := (wX7 K h0 a0 hs r0)) (As := [.int (-2 : Int32)]) (rest := []) C (c_X7_refuse h) k_X7_refuse mw_147 ⟨rfl, rfl⟩ ⟨Nat.le_of_ble_eq_true rfl, Nat.le_of_ble_eq_true rfl⟩ hP hD [0, 1, 2] rfl rfl rfl rfl hl rfl rfl (Nat.le_of_ble_eq_true rfl) dX7_fewest_12 ⟨Nat.le_refl _, Nat.le_refl _⟩) hP hD hS hA [0, 1, 2] rfl rfl (fun _ => rfl) (fun v11 s12 H locs h hP hD hS => ?_)
    replace hP : va_P D vwCl (wX7 K h0 a0 hs s12 ++ (wX1 K (a0 0) a1 r1 ++ (wX6 K (a0 9) a2 r2))) H := hP
    replace hD : va_D A (wX7 K h0 a0 hs s12 ++ (wX1 K (a0 0) a1 r1 ++ (wX6 K (a0 9) a2 r2))) := hD
    exact xrw_i C (s12, r2) h hP hS dX7_fewest_15

def wp_X7_surestOf_22 (r1 : zS) (p1 : Int32) (p2 : Int32) (p3 : Int32) (p4 : Int32) (p5 : Int32) (post : Int32 → (zS) → (zS) → (zS) → Prop) (r0 : zS) (r2 : zS) (r3 : zS) : Prop :=
  wp_X7_refuse r0 (-2 : Int32) (fun v3 s4 => post v3 s4 r2 r3)
def wp_X7_surestOf (r0 : zS) (r1 : zS) (r2 : zS) (r3 : zS) (p1 : Int32) (p2 : Int32) (p3 : Int32) (p4 : Int32) (p5 : Int32) (post : Int32 → (zS) → (zS) → (zS) → Prop) : Prop :=
  wp_X7_isPair r0 r1 p1 p2 (fun v1 => (v1 = 0 → wp_X7_surestOf_22 r1 p1 p2 p3 p4 p5 post r0 r2 r3) ∧ (¬ v1 = 0 → wp_X7_isSecond p3 (fun v5 => (v5 = 0 → wp_X7_surestOf_22 r1 p1 p2 p3 p4 p5 post r0 r2 r3) ∧ (¬ v5 = 0 → ((-1 : Int32) ≤ p4 → wp_X6_find r2 r1 p1 p2 (fun s9 => wp_X5_takeSurest r3 r1 s9 p3 p5 (fun v10 s11 => (v10 = 0 → wp_X7_refuse r0 (-5 : Int32) (fun v19 s20 => post v19 s20 s9 s11)) ∧ (¬ v10 = 0 → (p4 = (-1 : Int32) → post (s11.1 1) r0 s9 s11) ∧ (¬ p4 = (-1 : Int32) → wp_X6_sizeOf s9 (s11.1 0) (fun v14 => (v14 ≤ p4 → wp_X7_refuse r0 (-5 : Int32) (fun v16 s17 => post v16 s17 s9 s11)) ∧ (¬ v14 ≤ p4 → wp_X6_pupilOn s9 (s11.1 0) p4 (fun v18 => post v18 r0 s9 s11)))))))) ∧ (¬ (-1 : Int32) ≤ p4 → wp_X7_surestOf_22 r1 p1 p2 p3 p4 p5 post r0 r2 r3)))))
set_option maxHeartbeats 4000000 in
set_option maxRecDepth 100000 in
theorem t_X7_surestOf_22 {p : Program} {l : Launch} {e : Env} {s : State} {m : MethodId} {args : Array Value} {below : List Frame} {meth : Method} {c : Code} {D : va_G} {K : Nat → ClassId} {h0 : Nat} {a0 : Nat → Nat} {hs : Nat → Nat} {a1 : Nat → Nat} {r1 : zS} {a2 : Nat → Nat} {a3 : Nat → Nat} {p1 : Int32} {p2 : Int32} {p3 : Int32} {p4 : Int32} {p5 : Int32} {post : Int32 → (zS) → (zS) → (zS) → Prop} {A : Nat → Prop} (C : xC p s m args meth c cX7_surestOf RX7 6 (some .int) D vwCl (xty K)) (hA : ∀ q, s.heap.size ≤ q → A q) : ∀ (r0 : zS) (r2 : zS) (r3 : zS) (H : Heap) (locs : List Loc) (ls : Array Slot), lv_has ls 6 [(0, .ref h0)] → va_P D vwCl (wX7 K h0 a0 hs r0 ++ (wX1 K (a0 0) a1 r1 ++ (wX6 K (a0 9) a2 r2 ++ (wX5 K (a0 11) a3 r3)))) H → va_D A (wX7 K h0 a0 hs r0 ++ (wX1 K (a0 0) a1 r1 ++ (wX6 K (a0 9) a2 r2 ++ (wX5 K (a0 11) a3 r3)))) → va_S A s.heap H locs → wp_X7_surestOf_22 r1 p1 p2 p3 p4 p5 post r0 r2 r3 → W p l e ({ frames := 15, cells := 0, slots := 0, locals := 591 } : Room) s m args below meth c H locs 0 0 (MQ below (va_Qi (fun r (u : (zS) × (zS) × (zS)) => post r u.1 u.2.1 u.2.2) (fun (u : (zS) × (zS) × (zS)) t => va_P D vwCl (wX7 K h0 a0 hs u.1 ++ (wX1 K (a0 0) a1 r1 ++ (wX6 K (a0 9) a2 u.2.1 ++ (wX5 K (a0 11) a3 u.2.2)))) t.heap) A) args s 0 0 A) (F0 m 22 ls []) := by
  obtain ⟨hx, hb, hr, hml, hown, hts, hlocks, hK, hT⟩ := id C
  intro r0 r2 r3 H locs ls hl hP hD hS h
  unfold wp_X7_surestOf_22 at h
  refine lv_aload_n hx hb dX7_surestOf_22 rfl (lv_at hl 0 rfl) ?_
  refine lv_bipush (v := -2) hx hb dX7_surestOf_23 (by decide) ?_
  refine xend_rw_i (wf := fun (u : (zS)) => (wX7 K h0 a0 hs u)) (xRunV (wc := (wX7 K h0 a0 hs r0)) (As := [.int (-2 : Int32)]) (rest := []) C (c_X7_refuse h) k_X7_refuse mw_147 ⟨rfl, rfl⟩ ⟨Nat.le_of_ble_eq_true rfl, Nat.le_of_ble_eq_true rfl⟩ hP hD [0, 1, 2] rfl rfl rfl rfl hl rfl rfl (Nat.le_of_ble_eq_true rfl) dX7_surestOf_25 ⟨Nat.le_refl _, Nat.le_refl _⟩) hP hD hS hA [0, 1, 2] rfl rfl (fun _ => rfl) (fun v3 s4 H locs h hP hD hS => ?_)
  replace hP : va_P D vwCl (wX7 K h0 a0 hs s4 ++ (wX1 K (a0 0) a1 r1 ++ (wX6 K (a0 9) a2 r2 ++ (wX5 K (a0 11) a3 r3)))) H := hP
  replace hD : va_D A (wX7 K h0 a0 hs s4 ++ (wX1 K (a0 0) a1 r1 ++ (wX6 K (a0 9) a2 r2 ++ (wX5 K (a0 11) a3 r3)))) := hD
  exact xrw_i C (s4, r2, r3) h hP hS dX7_surestOf_28
set_option maxHeartbeats 4000000 in
set_option maxRecDepth 100000 in
theorem c_X7_surestOf {l : Launch} {D : va_G} {K : Nat → ClassId} {h0 : Nat} {a0 : Nat → Nat} {hs : Nat → Nat} {r0 : zS} {a1 : Nat → Nat} {r1 : zS} {a2 : Nat → Nat} {r2 : zS} {a3 : Nat → Nat} {r3 : zS} {p1 : Int32} {p2 : Int32} {p3 : Int32} {p4 : Int32} {p5 : Int32} {sz : Nat} {post : Int32 → (zS) → (zS) → (zS) → Prop}   (h : wp_X7_surestOf r0 r1 r2 r3 p1 p2 p3 p4 p5 post) : Met l yX7_surestOf (Cond.code yX7_surestOf cX7_surestOf 6 (some .int) :: wsL_law) ({ frames := 15, cells := 0, slots := 0, locals := 591 } : Room) (va_Pc [.ref h0, .int p1, .int p2, .int p3, .int p4, .int p5] (xPre D vwCl (xty K) (wX7 K h0 a0 hs r0 ++ (wX1 K (a0 0) a1 r1 ++ (wX6 K (a0 9) a2 r2 ++ (wX5 K (a0 11) a3 r3)))) sz)) (va_Qi (fun r (u : (zS) × (zS) × (zS)) => post r u.1 u.2.1 u.2.2) (fun (u : (zS) × (zS) × (zS)) t => va_P D vwCl (wX7 K h0 a0 hs u.1 ++ (wX1 K (a0 0) a1 r1 ++ (wX6 K (a0 9) a2 u.2.1 ++ (wX5 K (a0 11) a3 u.2.2)))) t.heap) (va_A (wX7 K h0 a0 hs r0 ++ (wX1 K (a0 0) a1 r1 ++ (wX6 K (a0 9) a2 r2 ++ (wX5 K (a0 11) a3 r3)))) sz)) 0 0 (va_A (wX7 K h0 a0 hs r0 ++ (wX1 K (a0 0) a1 r1 ++ (wX6 K (a0 9) a2 r2 ++ (wX5 K (a0 11) a3 r3)))) sz) := by
  refine xMet (by decide) rfl (Nat.le_of_ble_eq_true rfl) (fun p e s m args below meth c C hnm hP hD hsz ls hl => ?_)
  have hl : lv_has ls 6 [(0, .ref h0), (1, .int p1), (2, .int p2), (3, .int p3), (4, .int p4), (5, .int p5)] := hl
  obtain ⟨hx, hb, hr, hml, hown, hts, hlocks, hK, hT⟩ := id C
  subst hsz
  generalize hAe : va_A (wX7 K h0 a0 hs r0 ++ (wX1 K (a0 0) a1 r1 ++ (wX6 K (a0 9) a2 r2 ++ (wX5 K (a0 11) a3 r3)))) s.heap.size = A at hD ⊢
  have hA : ∀ q : Nat, s.heap.size ≤ q → A q := fun q h => by rw [← hAe]; exact Or.inr h
  have hS : va_S A s.heap s.heap [] := va_S.rf
  have hP : va_P D vwCl (wX7 K h0 a0 hs r0 ++ (wX1 K (a0 0) a1 r1 ++ (wX6 K (a0 9) a2 r2 ++ (wX5 K (a0 11) a3 r3)))) s.heap := hP
  unfold wp_X7_surestOf at h
  refine lv_aload_n hx hb dX7_surestOf_0 rfl (lv_at hl 0 rfl) ?_
  refine lv_iload_n hx hb dX7_surestOf_1 rfl (lv_at hl 1 rfl) ?_
  refine lv_iload_n hx hb dX7_surestOf_2 rfl (lv_at hl 2 rfl) ?_
  refine xend_ro_i (xRunV (wc := (wX7 K h0 a0 hs r0 ++ (wX1 K (a0 0) a1 r1))) (As := [.int p1, .int p2]) (rest := []) C (c_X7_isPair h) k_X7_isPair mw_429 ⟨rfl, rfl⟩ ⟨Nat.le_of_ble_eq_true rfl, Nat.le_of_ble_eq_true rfl⟩ hP hD [0, 1, 2, 3, 4, 5, 6, 7, 8] rfl rfl rfl rfl hl rfl rfl (Nat.le_of_ble_eq_true rfl) dX7_surestOf_3 ⟨Nat.le_refl _, Nat.le_refl _⟩) (fun v1 h => ?_)
  refine lv_if_eq (tgt := 22) hx hb dX7_surestOf_6 (by decide) (fun c2 => ?_) (fun c2 => ?_)
  · replace h := And.left h c2
    exact t_X7_surestOf_22 C hA _ _ _ _ _ _ (lv_sub hl [0] rfl) hP hD hS h
  · replace h := And.right h c2
    refine lv_iload_n hx hb dX7_surestOf_9 rfl (lv_at hl 3 rfl) ?_
    refine xend_ro_i (xRunS (wc := ([] : va_W)) (As := [.int p3]) (rest := []) C (c_X7_isSecond h) k_X7_isSecond mw_725 ⟨rfl, rfl⟩ ⟨Nat.le_of_ble_eq_true rfl, Nat.le_of_ble_eq_true rfl⟩ hP hD [] rfl rfl hl rfl rfl (Nat.le_of_ble_eq_true rfl) dX7_surestOf_10 ⟨Nat.le_refl _, Nat.le_refl _⟩) (fun v5 h => ?_)
    refine lv_if_eq (tgt := 22) hx hb dX7_surestOf_13 (by decide) (fun c6 => ?_) (fun c6 => ?_)
    · replace h := And.left h c6
      exact t_X7_surestOf_22 C hA _ _ _ _ _ _ (lv_sub hl [0] rfl) hP hD hS h
    · replace h := And.right h c6
      refine lv_iload hx hb dX7_surestOf_16 (lv_at hl 4 rfl) ?_
      refine lv_iconst (v := -1) hx hb dX7_surestOf_18 (by decide) ?_
      refine lv_icmp_ge (tgt := 29) hx hb dX7_surestOf_19 (by decide) (fun c7 => ?_) (fun c7 => ?_)
      · replace h := And.left h c7
        refine lv_aload_n hx hb dX7_surestOf_29 rfl (lv_at hl 0 rfl) ?_
        refine va_get (D := D) (ci := 7) (v := .ref (a0 9)) (C := RX7) (T := TX7) (N := 13) hx hb hts inlX7 hown hK hP 0 rfl rfl 9 (by decide) (hts (.fieldLink RX7 61 "UnderTheDesks" "paths" "LUnderTheDesks$Ways;") mw_38) (fun _ h9 => h9) rfl dX7_surestOf_30 ?_
        refine lv_aload_n hx hb dX7_surestOf_33 rfl (lv_at hl 0 rfl) ?_
        refine va_get (D := D) (ci := 7) (v := .ref (a0 0)) (C := RX7) (T := TX7) (N := 13) hx hb hts inlX7 hown hK hP 0 rfl rfl 0 (by decide) (hts (.fieldLink RX7 10 "UnderTheDesks" "room" "LUnderTheDesks$Room;") mw_16) (fun _ h9 => h9) rfl dX7_surestOf_34 ?_
        refine lv_iload_n hx hb dX7_surestOf_37 rfl (lv_at hl 1 rfl) ?_
        refine lv_iload_n hx hb dX7_surestOf_38 rfl (lv_at hl 2 rfl) ?_
        refine xend_rw_v (wf := fun (u : (zS)) => (wX6 K (a0 9) a2 u ++ (wX1 K (a0 0) a1 r1))) (xRunV (wc := (wX6 K (a0 9) a2 r2 ++ (wX1 K (a0 0) a1 r1))) (As := [.ref (a0 0), .int p1, .int p2]) (rest := []) C (c_X6_find h) k_X6_find mw_756 ⟨rfl, rfl⟩ ⟨Nat.le_of_ble_eq_true rfl, Nat.le_of_ble_eq_true rfl⟩ hP hD [9, 10, 11, 12, 13, 3, 4, 5, 6, 7, 8] rfl rfl rfl rfl hl rfl rfl (Nat.le_of_ble_eq_true rfl) dX7_surestOf_39 ⟨Nat.le_refl _, Nat.le_refl _⟩) hP hD hS hA [9, 10, 11, 12, 13, 3, 4, 5, 6, 7, 8] rfl rfl (fun _ => rfl) (fun s9 H locs h hP hD hS => ?_)
        replace hP : va_P D vwCl (wX7 K h0 a0 hs r0 ++ (wX1 K (a0 0) a1 r1 ++ (wX6 K (a0 9) a2 s9 ++ (wX5 K (a0 11) a3 r3)))) H := hP
        replace hD : va_D A (wX7 K h0 a0 hs r0 ++ (wX1 K (a0 0) a1 r1 ++ (wX6 K (a0 9) a2 s9 ++ (wX5 K (a0 11) a3 r3)))) := hD
        refine lv_aload_n hx hb dX7_surestOf_42 rfl (lv_at hl 0 rfl) ?_
        refine va_get (D := D) (ci := 7) (v := .ref (a0 11)) (C := RX7) (T := TX7) (N := 13) hx hb hts inlX7 hown hK hP 0 rfl rfl 11 (by decide) (hts (.fieldLink RX7 71 "UnderTheDesks" "walk" "LUnderTheDesks$Walk;") mw_43) (fun _ h9 => h9) rfl dX7_surestOf_43 ?_
        refine lv_aload_n hx hb dX7_surestOf_46 rfl (lv_at hl 0 rfl) ?_
        refine va_get (D := D) (ci := 7) (v := .ref (a0 0)) (C := RX7) (T := TX7) (N := 13) hx hb hts inlX7 hown hK hP 0 rfl rfl 0 (by decide) (hts (.fieldLink RX7 10 "UnderTheDesks" "room" "LUnderTheDesks$Room;") mw_16) (fun _ h9 => h9) rfl dX7_surestOf_47 ?_
        refine lv_aload_n hx hb dX7_surestOf_50 rfl (lv_at hl 0 rfl) ?_
        refine va_get (D := D) (ci := 7) (v := .ref (a0 9)) (C := RX7) (T := TX7) (N := 13) hx hb hts inlX7 hown hK hP 0 rfl rfl 9 (by decide) (hts (.fieldLink RX7 61 "UnderTheDesks" "paths" "LUnderTheDesks$Ways;") mw_38) (fun _ h9 => h9) rfl dX7_surestOf_51 ?_
        refine lv_iload_n hx hb dX7_surestOf_54 rfl (lv_at hl 3 rfl) ?_
        refine lv_iload hx hb dX7_surestOf_55 (lv_at hl 5 rfl) ?_
        refine xend_rw_i (wf := fun (u : (zS)) => (wX5 K (a0 11) a3 u ++ (wX1 K (a0 0) a1 r1 ++ (wX6 K (a0 9) a2 s9)))) (xRunV (wc := (wX5 K (a0 11) a3 r3 ++ (wX1 K (a0 0) a1 r1 ++ (wX6 K (a0 9) a2 s9)))) (As := [.ref (a0 0), .ref (a0 9), .int p3, .int p5]) (rest := []) C (c_X5_takeSurest h) k_X5_takeSurest mw_823 ⟨rfl, rfl⟩ ⟨Nat.le_of_ble_eq_true rfl, Nat.le_of_ble_eq_true rfl⟩ hP hD [14, 3, 4, 5, 6, 7, 8, 9, 10, 11, 12, 13] rfl rfl rfl rfl hl rfl rfl (Nat.le_of_ble_eq_true rfl) dX7_surestOf_57 ⟨Nat.le_refl _, Nat.le_refl _⟩) hP hD hS hA [14, 3, 4, 5, 6, 7, 8, 9, 10, 11, 12, 13] rfl rfl (fun _ => rfl) (fun v10 s11 H locs h hP hD hS => ?_)
        replace hP : va_P D vwCl (wX7 K h0 a0 hs r0 ++ (wX1 K (a0 0) a1 r1 ++ (wX6 K (a0 9) a2 s9 ++ (wX5 K (a0 11) a3 s11)))) H := hP
        replace hD : va_D A (wX7 K h0 a0 hs r0 ++ (wX1 K (a0 0) a1 r1 ++ (wX6 K (a0 9) a2 s9 ++ (wX5 K (a0 11) a3 s11)))) := hD
        refine lv_if_ne (tgt := 70) hx hb dX7_surestOf_60 (by decide) (fun c12 => ?_) (fun c12 => ?_)
        · replace h := And.right h c12
          refine lv_iload hx hb dX7_surestOf_70 (lv_at hl 4 rfl) ?_
          refine lv_iconst (v := -1) hx hb dX7_surestOf_72 (by decide) ?_
          refine lv_icmp_ne (tgt := 84) hx hb dX7_surestOf_73 (by decide) (fun c13 => ?_) (fun c13 => ?_)
          · replace h := And.right h c13
            refine lv_iload hx hb dX7_surestOf_84 (lv_at hl 4 rfl) ?_
            refine lv_aload_n hx hb dX7_surestOf_86 rfl (lv_at hl 0 rfl) ?_
            refine va_get (D := D) (ci := 7) (v := .ref (a0 9)) (C := RX7) (T := TX7) (N := 13) hx hb hts inlX7 hown hK hP 0 rfl rfl 9 (by decide) (hts (.fieldLink RX7 61 "UnderTheDesks" "paths" "LUnderTheDesks$Ways;") mw_38) (fun _ h9 => h9) rfl dX7_surestOf_87 ?_
            refine lv_aload_n hx hb dX7_surestOf_90 rfl (lv_at hl 0 rfl) ?_
            refine va_get (D := D) (ci := 7) (v := .ref (a0 11)) (C := RX7) (T := TX7) (N := 13) hx hb hts inlX7 hown hK hP 0 rfl rfl 11 (by decide) (hts (.fieldLink RX7 71 "UnderTheDesks" "walk" "LUnderTheDesks$Walk;") mw_43) (fun _ h9 => h9) rfl dX7_surestOf_91 ?_
            refine va_get (D := D) (ci := 5) (v := .int (s11.1 0)) (C := RX5) (T := TX5) (N := 4) hx hb hts inlX5 hown hK hP 14 rfl rfl 0 (by decide) (hts (.fieldLink RX7 335 "UnderTheDesks$Walk" "way" "I") mw_822) (fun _ h9 => h9) rfl dX7_surestOf_94 ?_
            refine xend_ro_i (xRunV (wc := (wX6 K (a0 9) a2 s9)) (As := [.int (s11.1 0)]) (rest := [.int p4]) C (c_X6_sizeOf h) k_X6_sizeOf mw_801 ⟨rfl, rfl⟩ ⟨Nat.le_of_ble_eq_true rfl, Nat.le_of_ble_eq_true rfl⟩ hP hD [9, 10, 11, 12, 13] rfl rfl rfl rfl hl rfl rfl (Nat.le_of_ble_eq_true rfl) dX7_surestOf_97 ⟨Nat.le_refl _, Nat.le_refl _⟩) (fun v14 h => ?_)
            refine lv_icmp_ge (tgt := 122) hx hb dX7_surestOf_100 (by decide) (fun c15 => ?_) (fun c15 => ?_)
            · replace h := And.left h c15
              refine lv_aload_n hx hb dX7_surestOf_122 rfl (lv_at hl 0 rfl) ?_
              refine lv_bipush (v := -5) hx hb dX7_surestOf_123 (by decide) ?_
              refine xend_rw_i (wf := fun (u : (zS)) => (wX7 K h0 a0 hs u)) (xRunV (wc := (wX7 K h0 a0 hs r0)) (As := [.int (-5 : Int32)]) (rest := []) C (c_X7_refuse h) k_X7_refuse mw_147 ⟨rfl, rfl⟩ ⟨Nat.le_of_ble_eq_true rfl, Nat.le_of_ble_eq_true rfl⟩ hP hD [0, 1, 2] rfl rfl rfl rfl hl rfl rfl (Nat.le_of_ble_eq_true rfl) dX7_surestOf_125 ⟨Nat.le_refl _, Nat.le_refl _⟩) hP hD hS hA [0, 1, 2] rfl rfl (fun _ => rfl) (fun v16 s17 H locs h hP hD hS => ?_)
              replace hP : va_P D vwCl (wX7 K h0 a0 hs s17 ++ (wX1 K (a0 0) a1 r1 ++ (wX6 K (a0 9) a2 s9 ++ (wX5 K (a0 11) a3 s11)))) H := hP
              replace hD : va_D A (wX7 K h0 a0 hs s17 ++ (wX1 K (a0 0) a1 r1 ++ (wX6 K (a0 9) a2 s9 ++ (wX5 K (a0 11) a3 s11)))) := hD
              exact xrw_i C (s17, s9, s11) h hP hS dX7_surestOf_128
            · replace h := And.right h c15
              refine lv_aload_n hx hb dX7_surestOf_103 rfl (lv_at hl 0 rfl) ?_
              refine va_get (D := D) (ci := 7) (v := .ref (a0 9)) (C := RX7) (T := TX7) (N := 13) hx hb hts inlX7 hown hK hP 0 rfl rfl 9 (by decide) (hts (.fieldLink RX7 61 "UnderTheDesks" "paths" "LUnderTheDesks$Ways;") mw_38) (fun _ h9 => h9) rfl dX7_surestOf_104 ?_
              refine lv_aload_n hx hb dX7_surestOf_107 rfl (lv_at hl 0 rfl) ?_
              refine va_get (D := D) (ci := 7) (v := .ref (a0 11)) (C := RX7) (T := TX7) (N := 13) hx hb hts inlX7 hown hK hP 0 rfl rfl 11 (by decide) (hts (.fieldLink RX7 71 "UnderTheDesks" "walk" "LUnderTheDesks$Walk;") mw_43) (fun _ h9 => h9) rfl dX7_surestOf_108 ?_
              refine va_get (D := D) (ci := 5) (v := .int (s11.1 0)) (C := RX5) (T := TX5) (N := 4) hx hb hts inlX5 hown hK hP 14 rfl rfl 0 (by decide) (hts (.fieldLink RX7 335 "UnderTheDesks$Walk" "way" "I") mw_822) (fun _ h9 => h9) rfl dX7_surestOf_111 ?_
              refine lv_iload hx hb dX7_surestOf_114 (lv_at hl 4 rfl) ?_
              refine xend_ro_i (xRunV (wc := (wX6 K (a0 9) a2 s9)) (As := [.int (s11.1 0), .int p4]) (rest := []) C (c_X6_pupilOn h) k_X6_pupilOn mw_855 ⟨rfl, rfl⟩ ⟨Nat.le_of_ble_eq_true rfl, Nat.le_of_ble_eq_true rfl⟩ hP hD [9, 10, 11, 12, 13] rfl rfl rfl rfl hl rfl rfl (Nat.le_of_ble_eq_true rfl) dX7_surestOf_116 ⟨Nat.le_refl _, Nat.le_refl _⟩) (fun v18 h => ?_)
              refine lv_goto (tgt := 128) hx hb dX7_surestOf_119 (by decide) ?_
              exact xrw_i C (r0, s9, s11) h hP hS dX7_surestOf_128
          · replace h := And.left h c13
            refine lv_aload_n hx hb dX7_surestOf_76 rfl (lv_at hl 0 rfl) ?_
            refine va_get (D := D) (ci := 7) (v := .ref (a0 11)) (C := RX7) (T := TX7) (N := 13) hx hb hts inlX7 hown hK hP 0 rfl rfl 11 (by decide) (hts (.fieldLink RX7 71 "UnderTheDesks" "walk" "LUnderTheDesks$Walk;") mw_43) (fun _ h9 => h9) rfl dX7_surestOf_77 ?_
            refine va_get (D := D) (ci := 5) (v := .int (s11.1 1)) (C := RX5) (T := TX5) (N := 4) hx hb hts inlX5 hown hK hP 14 rfl rfl 1 (by decide) (hts (.fieldLink RX7 296 "UnderTheDesks$Walk" "chance" "I") mw_821) (fun _ h9 => h9) rfl dX7_surestOf_80 ?_
            exact xrw_i C (r0, s9, s11) h hP hS dX7_surestOf_83
        · replace h := And.left h c12
          refine lv_aload_n hx hb dX7_surestOf_63 rfl (lv_at hl 0 rfl) ?_
          refine lv_bipush (v := -5) hx hb dX7_surestOf_64 (by decide) ?_
          refine xend_rw_i (wf := fun (u : (zS)) => (wX7 K h0 a0 hs u)) (xRunV (wc := (wX7 K h0 a0 hs r0)) (As := [.int (-5 : Int32)]) (rest := []) C (c_X7_refuse h) k_X7_refuse mw_147 ⟨rfl, rfl⟩ ⟨Nat.le_of_ble_eq_true rfl, Nat.le_of_ble_eq_true rfl⟩ hP hD [0, 1, 2] rfl rfl rfl rfl hl rfl rfl (Nat.le_of_ble_eq_true rfl) dX7_surestOf_66 ⟨Nat.le_refl _, Nat.le_refl _⟩) hP hD hS hA [0, 1, 2] rfl rfl (fun _ => rfl) (fun v19 s20 H locs h hP hD hS => ?_)
          replace hP : va_P D vwCl (wX7 K h0 a0 hs s20 ++ (wX1 K (a0 0) a1 r1 ++ (wX6 K (a0 9) a2 s9 ++ (wX5 K (a0 11) a3 s11)))) H := hP
          replace hD : va_D A (wX7 K h0 a0 hs s20 ++ (wX1 K (a0 0) a1 r1 ++ (wX6 K (a0 9) a2 s9 ++ (wX5 K (a0 11) a3 s11)))) := hD
          exact xrw_i C (s20, s9, s11) h hP hS dX7_surestOf_69
      · replace h := And.right h c7
        exact t_X7_surestOf_22 C hA _ _ _ _ _ _ (lv_sub hl [0] rfl) hP hD hS h

def wp_X7_surest (r0 : zS) (r1 : zS) (r2 : zS) (r3 : zS) (p1 : Int32) (p2 : Int32) (p3 : Int32) (p4 : Int32) (post : Int32 → (zS) → (zS) → (zS) → Prop) : Prop :=
  wp_X7_surestOf r0 r1 r2 r3 p1 p2 p3 p4 (0 : Int32) (fun v1 s2 s3 s4 => post v1 s2 s3 s4)
set_option maxHeartbeats 4000000 in
set_option maxRecDepth 100000 in
theorem c_X7_surest {l : Launch} {D : va_G} {K : Nat → ClassId} {h0 : Nat} {a0 : Nat → Nat} {hs : Nat → Nat} {r0 : zS} {a1 : Nat → Nat} {r1 : zS} {a2 : Nat → Nat} {r2 : zS} {a3 : Nat → Nat} {r3 : zS} {p1 : Int32} {p2 : Int32} {p3 : Int32} {p4 : Int32} {sz : Nat} {post : Int32 → (zS) → (zS) → (zS) → Prop}   (h : wp_X7_surest r0 r1 r2 r3 p1 p2 p3 p4 post) : Met l yX7_surest (Cond.code yX7_surest cX7_surest 5 (some .int) :: wsL_law) ({ frames := 16, cells := 0, slots := 0, locals := 616 } : Room) (va_Pc [.ref h0, .int p1, .int p2, .int p3, .int p4] (xPre D vwCl (xty K) (wX7 K h0 a0 hs r0 ++ (wX1 K (a0 0) a1 r1 ++ (wX6 K (a0 9) a2 r2 ++ (wX5 K (a0 11) a3 r3)))) sz)) (va_Qi (fun r (u : (zS) × (zS) × (zS)) => post r u.1 u.2.1 u.2.2) (fun (u : (zS) × (zS) × (zS)) t => va_P D vwCl (wX7 K h0 a0 hs u.1 ++ (wX1 K (a0 0) a1 r1 ++ (wX6 K (a0 9) a2 u.2.1 ++ (wX5 K (a0 11) a3 u.2.2)))) t.heap) (va_A (wX7 K h0 a0 hs r0 ++ (wX1 K (a0 0) a1 r1 ++ (wX6 K (a0 9) a2 r2 ++ (wX5 K (a0 11) a3 r3)))) sz)) 0 0 (va_A (wX7 K h0 a0 hs r0 ++ (wX1 K (a0 0) a1 r1 ++ (wX6 K (a0 9) a2 r2 ++ (wX5 K (a0 11) a3 r3)))) sz) := by
  refine xMet (by decide) rfl (Nat.le_of_ble_eq_true rfl) (fun p e s m args below meth c C hnm hP hD hsz ls hl => ?_)
  have hl : lv_has ls 5 [(0, .ref h0), (1, .int p1), (2, .int p2), (3, .int p3), (4, .int p4)] := hl
  obtain ⟨hx, hb, hr, hml, hown, hts, hlocks, hK, hT⟩ := id C
  subst hsz
  generalize hAe : va_A (wX7 K h0 a0 hs r0 ++ (wX1 K (a0 0) a1 r1 ++ (wX6 K (a0 9) a2 r2 ++ (wX5 K (a0 11) a3 r3)))) s.heap.size = A at hD ⊢
  have hA : ∀ q : Nat, s.heap.size ≤ q → A q := fun q h => by rw [← hAe]; exact Or.inr h
  have hS : va_S A s.heap s.heap [] := va_S.rf
  have hP : va_P D vwCl (wX7 K h0 a0 hs r0 ++ (wX1 K (a0 0) a1 r1 ++ (wX6 K (a0 9) a2 r2 ++ (wX5 K (a0 11) a3 r3)))) s.heap := hP
  unfold wp_X7_surest at h
  refine lv_aload_n hx hb dX7_surest_0 rfl (lv_at hl 0 rfl) ?_
  refine lv_iload_n hx hb dX7_surest_1 rfl (lv_at hl 1 rfl) ?_
  refine lv_iload_n hx hb dX7_surest_2 rfl (lv_at hl 2 rfl) ?_
  refine lv_iload_n hx hb dX7_surest_3 rfl (lv_at hl 3 rfl) ?_
  refine lv_iload hx hb dX7_surest_4 (lv_at hl 4 rfl) ?_
  refine lv_iconst (v := 0) hx hb dX7_surest_6 (by decide) ?_
  refine xend_rw_i_id (wf := fun (u : (zS) × (zS) × (zS)) => (wX7 K h0 a0 hs u.1 ++ (wX1 K (a0 0) a1 r1 ++ (wX6 K (a0 9) a2 u.2.1 ++ (wX5 K (a0 11) a3 u.2.2))))) (xRunV_id (As := [.int p1, .int p2, .int p3, .int p4, .int (0 : Int32)]) (rest := []) C (c_X7_surestOf h) k_X7_surestOf mw_817 ⟨rfl, rfl⟩ ⟨Nat.le_of_ble_eq_true rfl, Nat.le_of_ble_eq_true rfl⟩ hP hD rfl rfl hl rfl rfl (Nat.le_of_ble_eq_true rfl) dX7_surest_7 ⟨Nat.le_refl _, Nat.le_refl _⟩) hD hS hA (fun _ => rfl) (fun v1 u5 H locs h hP hD hS => ?_)
  obtain ⟨s2, s3, s4⟩ := u5
  exact xrw_i C (s2, s3, s4) h hP hS dX7_surest_10

def wp_X7_unread (r0 : zS) (r1 : zS) (r2 : zS) (r3 : zS) (p1 : Int32) (p2 : Int32) (p3 : Int32) (p4 : Int32) (post : Int32 → (zS) → (zS) → (zS) → Prop) : Prop :=
  wp_X7_surestOf r0 r1 r2 r3 p1 p2 p3 p4 (1 : Int32) (fun v1 s2 s3 s4 => post v1 s2 s3 s4)
set_option maxHeartbeats 4000000 in
set_option maxRecDepth 100000 in
theorem c_X7_unread {l : Launch} {D : va_G} {K : Nat → ClassId} {h0 : Nat} {a0 : Nat → Nat} {hs : Nat → Nat} {r0 : zS} {a1 : Nat → Nat} {r1 : zS} {a2 : Nat → Nat} {r2 : zS} {a3 : Nat → Nat} {r3 : zS} {p1 : Int32} {p2 : Int32} {p3 : Int32} {p4 : Int32} {sz : Nat} {post : Int32 → (zS) → (zS) → (zS) → Prop}   (h : wp_X7_unread r0 r1 r2 r3 p1 p2 p3 p4 post) : Met l yX7_unread (Cond.code yX7_unread cX7_unread 5 (some .int) :: wsL_law) ({ frames := 16, cells := 0, slots := 0, locals := 616 } : Room) (va_Pc [.ref h0, .int p1, .int p2, .int p3, .int p4] (xPre D vwCl (xty K) (wX7 K h0 a0 hs r0 ++ (wX1 K (a0 0) a1 r1 ++ (wX6 K (a0 9) a2 r2 ++ (wX5 K (a0 11) a3 r3)))) sz)) (va_Qi (fun r (u : (zS) × (zS) × (zS)) => post r u.1 u.2.1 u.2.2) (fun (u : (zS) × (zS) × (zS)) t => va_P D vwCl (wX7 K h0 a0 hs u.1 ++ (wX1 K (a0 0) a1 r1 ++ (wX6 K (a0 9) a2 u.2.1 ++ (wX5 K (a0 11) a3 u.2.2)))) t.heap) (va_A (wX7 K h0 a0 hs r0 ++ (wX1 K (a0 0) a1 r1 ++ (wX6 K (a0 9) a2 r2 ++ (wX5 K (a0 11) a3 r3)))) sz)) 0 0 (va_A (wX7 K h0 a0 hs r0 ++ (wX1 K (a0 0) a1 r1 ++ (wX6 K (a0 9) a2 r2 ++ (wX5 K (a0 11) a3 r3)))) sz) := by
  refine xMet (by decide) rfl (Nat.le_of_ble_eq_true rfl) (fun p e s m args below meth c C hnm hP hD hsz ls hl => ?_)
  have hl : lv_has ls 5 [(0, .ref h0), (1, .int p1), (2, .int p2), (3, .int p3), (4, .int p4)] := hl
  obtain ⟨hx, hb, hr, hml, hown, hts, hlocks, hK, hT⟩ := id C
  subst hsz
  generalize hAe : va_A (wX7 K h0 a0 hs r0 ++ (wX1 K (a0 0) a1 r1 ++ (wX6 K (a0 9) a2 r2 ++ (wX5 K (a0 11) a3 r3)))) s.heap.size = A at hD ⊢
  have hA : ∀ q : Nat, s.heap.size ≤ q → A q := fun q h => by rw [← hAe]; exact Or.inr h
  have hS : va_S A s.heap s.heap [] := va_S.rf
  have hP : va_P D vwCl (wX7 K h0 a0 hs r0 ++ (wX1 K (a0 0) a1 r1 ++ (wX6 K (a0 9) a2 r2 ++ (wX5 K (a0 11) a3 r3)))) s.heap := hP
  unfold wp_X7_unread at h
  refine lv_aload_n hx hb dX7_unread_0 rfl (lv_at hl 0 rfl) ?_
  refine lv_iload_n hx hb dX7_unread_1 rfl (lv_at hl 1 rfl) ?_
  refine lv_iload_n hx hb dX7_unread_2 rfl (lv_at hl 2 rfl) ?_
  refine lv_iload_n hx hb dX7_unread_3 rfl (lv_at hl 3 rfl) ?_
  refine lv_iload hx hb dX7_unread_4 (lv_at hl 4 rfl) ?_
  refine lv_iconst (v := 1) hx hb dX7_unread_6 (by decide) ?_
  refine xend_rw_i_id (wf := fun (u : (zS) × (zS) × (zS)) => (wX7 K h0 a0 hs u.1 ++ (wX1 K (a0 0) a1 r1 ++ (wX6 K (a0 9) a2 u.2.1 ++ (wX5 K (a0 11) a3 u.2.2))))) (xRunV_id (As := [.int p1, .int p2, .int p3, .int p4, .int (1 : Int32)]) (rest := []) C (c_X7_surestOf h) k_X7_surestOf mw_817 ⟨rfl, rfl⟩ ⟨Nat.le_of_ble_eq_true rfl, Nat.le_of_ble_eq_true rfl⟩ hP hD rfl rfl hl rfl rfl (Nat.le_of_ble_eq_true rfl) dX7_unread_7 ⟨Nat.le_refl _, Nat.le_refl _⟩) hD hS hA (fun _ => rfl) (fun v1 u5 H locs h hP hD hS => ?_)
  obtain ⟨s2, s3, s4⟩ := u5
  exact xrw_i C (s2, s3, s4) h hP hS dX7_unread_10

def wp_X7_unseen (r0 : zS) (r1 : zS) (r2 : zS) (r3 : zS) (p1 : Int32) (p2 : Int32) (p3 : Int32) (p4 : Int32) (post : Int32 → (zS) → (zS) → (zS) → Prop) : Prop :=
  wp_X7_surestOf r0 r1 r2 r3 p1 p2 p3 p4 (2 : Int32) (fun v1 s2 s3 s4 => post v1 s2 s3 s4)
set_option maxHeartbeats 4000000 in
set_option maxRecDepth 100000 in
theorem c_X7_unseen {l : Launch} {D : va_G} {K : Nat → ClassId} {h0 : Nat} {a0 : Nat → Nat} {hs : Nat → Nat} {r0 : zS} {a1 : Nat → Nat} {r1 : zS} {a2 : Nat → Nat} {r2 : zS} {a3 : Nat → Nat} {r3 : zS} {p1 : Int32} {p2 : Int32} {p3 : Int32} {p4 : Int32} {sz : Nat} {post : Int32 → (zS) → (zS) → (zS) → Prop}   (h : wp_X7_unseen r0 r1 r2 r3 p1 p2 p3 p4 post) : Met l yX7_unseen (Cond.code yX7_unseen cX7_unseen 5 (some .int) :: wsL_law) ({ frames := 16, cells := 0, slots := 0, locals := 616 } : Room) (va_Pc [.ref h0, .int p1, .int p2, .int p3, .int p4] (xPre D vwCl (xty K) (wX7 K h0 a0 hs r0 ++ (wX1 K (a0 0) a1 r1 ++ (wX6 K (a0 9) a2 r2 ++ (wX5 K (a0 11) a3 r3)))) sz)) (va_Qi (fun r (u : (zS) × (zS) × (zS)) => post r u.1 u.2.1 u.2.2) (fun (u : (zS) × (zS) × (zS)) t => va_P D vwCl (wX7 K h0 a0 hs u.1 ++ (wX1 K (a0 0) a1 r1 ++ (wX6 K (a0 9) a2 u.2.1 ++ (wX5 K (a0 11) a3 u.2.2)))) t.heap) (va_A (wX7 K h0 a0 hs r0 ++ (wX1 K (a0 0) a1 r1 ++ (wX6 K (a0 9) a2 r2 ++ (wX5 K (a0 11) a3 r3)))) sz)) 0 0 (va_A (wX7 K h0 a0 hs r0 ++ (wX1 K (a0 0) a1 r1 ++ (wX6 K (a0 9) a2 r2 ++ (wX5 K (a0 11) a3 r3)))) sz) := by
  refine xMet (by decide) rfl (Nat.le_of_ble_eq_true rfl) (fun p e s m args below meth c C hnm hP hD hsz ls hl => ?_)
  have hl : lv_has ls 5 [(0, .ref h0), (1, .int p1), (2, .int p2), (3, .int p3), (4, .int p4)] := hl
  obtain ⟨hx, hb, hr, hml, hown, hts, hlocks, hK, hT⟩ := id C
  subst hsz
  generalize hAe : va_A (wX7 K h0 a0 hs r0 ++ (wX1 K (a0 0) a1 r1 ++ (wX6 K (a0 9) a2 r2 ++ (wX5 K (a0 11) a3 r3)))) s.heap.size = A at hD ⊢
  have hA : ∀ q : Nat, s.heap.size ≤ q → A q := fun q h => by rw [← hAe]; exact Or.inr h
  have hS : va_S A s.heap s.heap [] := va_S.rf
  have hP : va_P D vwCl (wX7 K h0 a0 hs r0 ++ (wX1 K (a0 0) a1 r1 ++ (wX6 K (a0 9) a2 r2 ++ (wX5 K (a0 11) a3 r3)))) s.heap := hP
  unfold wp_X7_unseen at h
  refine lv_aload_n hx hb dX7_unseen_0 rfl (lv_at hl 0 rfl) ?_
  refine lv_iload_n hx hb dX7_unseen_1 rfl (lv_at hl 1 rfl) ?_
  refine lv_iload_n hx hb dX7_unseen_2 rfl (lv_at hl 2 rfl) ?_
  refine lv_iload_n hx hb dX7_unseen_3 rfl (lv_at hl 3 rfl) ?_
  refine lv_iload hx hb dX7_unseen_4 (lv_at hl 4 rfl) ?_
  refine lv_iconst (v := 2) hx hb dX7_unseen_6 (by decide) ?_
  refine xend_rw_i_id (wf := fun (u : (zS) × (zS) × (zS)) => (wX7 K h0 a0 hs u.1 ++ (wX1 K (a0 0) a1 r1 ++ (wX6 K (a0 9) a2 u.2.1 ++ (wX5 K (a0 11) a3 u.2.2))))) (xRunV_id (As := [.int p1, .int p2, .int p3, .int p4, .int (2 : Int32)]) (rest := []) C (c_X7_surestOf h) k_X7_surestOf mw_817 ⟨rfl, rfl⟩ ⟨Nat.le_of_ble_eq_true rfl, Nat.le_of_ble_eq_true rfl⟩ hP hD rfl rfl hl rfl rfl (Nat.le_of_ble_eq_true rfl) dX7_unseen_7 ⟨Nat.le_refl _, Nat.le_refl _⟩) hD hS hA (fun _ => rfl) (fun v1 u5 H locs h hP hD hS => ?_)
  obtain ⟨s2, s3, s4⟩ := u5
  exact xrw_i C (s2, s3, s4) h hP hS dX7_unseen_10

def wb_X7_readers_52 (r1 : zS) (p1 : Int32) (p2 : Int32) (post : Int32 → (zS) → (zS) → Prop) (ih : (zS) → (zS) → Int32 → Int32 → Prop) (r0 : zS) (r2 : zS) (x3 : Int32) (x4 : Int32) : Prop :=
  ((r2.1 0) ≤ x4 → post x3 r0 r2) ∧ (¬ (r2.1 0) ≤ x4 → wp_X6_betweenOf r2 x4 (fun v7 => wp_X1_readersAmong r1 v7 (fun v8 => wp_J6_bitCount_0f7a4 v8 (fun v9 => ∀ v10 : Int32, v10 = (if v9 < x3 then v9 else x3) → ∀ v11 : Int32, v11 = x4 + (1 : Int32) → ih r0 r2 v10 v11))))
def wp_X7_readers_52 (r1 : zS) (p1 : Int32) (p2 : Int32) (post : Int32 → (zS) → (zS) → Prop) (n : Nat) : (zS) → (zS) → Int32 → Int32 → Prop := Nat.rec (motive := fun _ => (zS) → (zS) → Int32 → Int32 → Prop) (fun _ _ _ _ => False) (fun _ ih => wb_X7_readers_52 r1 p1 p2 post ih) n
theorem wu_X7_readers_52 (r1 : zS) (p1 : Int32) (p2 : Int32) (post : Int32 → (zS) → (zS) → Prop) (n : Nat) (r0 : zS) (r2 : zS) (x3 : Int32) (x4 : Int32) : wp_X7_readers_52 r1 p1 p2 post (n + 1) r0 r2 x3 x4 = wb_X7_readers_52 r1 p1 p2 post (wp_X7_readers_52 r1 p1 p2 post n) r0 r2 x3 x4 := rfl
def wp_X7_readers (r0 : zS) (r1 : zS) (r2 : zS) (p1 : Int32) (p2 : Int32) (post : Int32 → (zS) → (zS) → Prop) : Prop :=
  wp_X7_isPair r0 r1 p1 p2 (fun v1 => (v1 = 0 → wp_X7_refuse r0 (-2 : Int32) (fun v14 s15 => post v14 s15 r2)) ∧ (¬ v1 = 0 → wp_X6_find r2 r1 p1 p2 (fun s4 => ((s4.1 0) = 0 → wp_X7_refuse r0 (-5 : Int32) (fun v12 s13 => post v12 s13 s4)) ∧ (¬ (s4.1 0) = 0 → ∃ n : Nat, wp_X7_readers_52 r1 p1 p2 post n r0 s4 (9 : Int32) (0 : Int32)))))
set_option maxHeartbeats 4000000 in
set_option maxRecDepth 100000 in
theorem t_X7_readers_52 {p : Program} {l : Launch} {e : Env} {s : State} {m : MethodId} {args : Array Value} {below : List Frame} {meth : Method} {c : Code} {D : va_G} {K : Nat → ClassId} {h0 : Nat} {a0 : Nat → Nat} {hs : Nat → Nat} {a1 : Nat → Nat} {r1 : zS} {a2 : Nat → Nat} {p1 : Int32} {p2 : Int32} {post : Int32 → (zS) → (zS) → Prop} {A : Nat → Prop} (C : xC p s m args meth c cX7_readers RX7 5 (some .int) D vwCl (xty K)) (hA : ∀ q, s.heap.size ≤ q → A q) : ∀ (n : Nat) (r0 : zS) (r2 : zS) (x3 : Int32) (x4 : Int32) (H : Heap) (locs : List Loc) (ls : Array Slot), lv_has ls 5 [(0, .ref h0), (3, .int x3), (4, .int x4)] → va_P D vwCl (wX7 K h0 a0 hs r0 ++ (wX1 K (a0 0) a1 r1 ++ (wX6 K (a0 9) a2 r2))) H → va_D A (wX7 K h0 a0 hs r0 ++ (wX1 K (a0 0) a1 r1 ++ (wX6 K (a0 9) a2 r2))) → va_S A s.heap H locs → wp_X7_readers_52 r1 p1 p2 post n r0 r2 x3 x4 → W p l e ({ frames := 15, cells := 0, slots := 0, locals := 591 } : Room) s m args below meth c H locs 0 0 (MQ below (va_Qi (fun r (u : (zS) × (zS)) => post r u.1 u.2) (fun (u : (zS) × (zS)) t => va_P D vwCl (wX7 K h0 a0 hs u.1 ++ (wX1 K (a0 0) a1 r1 ++ (wX6 K (a0 9) a2 u.2))) t.heap) A) args s 0 0 A) (F0 m 52 ls []) := by
  obtain ⟨hx, hb, hr, hml, hown, hts, hlocks, hK, hT⟩ := id C
  intro n
  induction n with
  | zero =>
    intro r0 r2 x3 x4 H locs ls hl hP hD hS h
    exact False.elim h
  | succ n ihn =>
    intro r0 r2 x3 x4 H locs ls hl hP hD hS h
    rw [wu_X7_readers_52] at h
    unfold wb_X7_readers_52 at h
    refine lv_iload hx hb dX7_readers_52 (lv_at hl 2 rfl) ?_
    refine lv_aload_n hx hb dX7_readers_54 rfl (lv_at hl 0 rfl) ?_
    refine va_get (D := D) (ci := 7) (v := .ref (a0 9)) (C := RX7) (T := TX7) (N := 13) hx hb hts inlX7 hown hK hP 0 rfl rfl 9 (by decide) (hts (.fieldLink RX7 61 "UnderTheDesks" "paths" "LUnderTheDesks$Ways;") mw_38) (fun _ h9 => h9) rfl dX7_readers_55 ?_
    refine va_get (D := D) (ci := 6) (v := .int (r2.1 0)) (C := RX6) (T := TX6) (N := 5) hx hb hts inlX6 hown hK hP 9 rfl rfl 0 (by decide) (hts (.fieldLink RX7 250 "UnderTheDesks$Ways" "count" "I") mw_755) (fun _ h9 => h9) rfl dX7_readers_58 ?_
    refine lv_icmp_ge (tgt := 94) hx hb dX7_readers_61 (by decide) (fun c6 => ?_) (fun c6 => ?_)
    · replace h := And.left h c6
      refine lv_iload_n hx hb dX7_readers_94 rfl (lv_at hl 1 rfl) ?_
      exact xrw_i C (r0, r2) h hP hS dX7_readers_95
    · replace h := And.right h c6
      refine lv_iload_n hx hb dX7_readers_64 rfl (lv_at hl 1 rfl) ?_
      refine lv_aload_n hx hb dX7_readers_65 rfl (lv_at hl 0 rfl) ?_
      refine va_get (D := D) (ci := 7) (v := .ref (a0 0)) (C := RX7) (T := TX7) (N := 13) hx hb hts inlX7 hown hK hP 0 rfl rfl 0 (by decide) (hts (.fieldLink RX7 10 "UnderTheDesks" "room" "LUnderTheDesks$Room;") mw_16) (fun _ h9 => h9) rfl dX7_readers_66 ?_
      refine lv_aload_n hx hb dX7_readers_69 rfl (lv_at hl 0 rfl) ?_
      refine va_get (D := D) (ci := 7) (v := .ref (a0 9)) (C := RX7) (T := TX7) (N := 13) hx hb hts inlX7 hown hK hP 0 rfl rfl 9 (by decide) (hts (.fieldLink RX7 61 "UnderTheDesks" "paths" "LUnderTheDesks$Ways;") mw_38) (fun _ h9 => h9) rfl dX7_readers_70 ?_
      refine lv_iload hx hb dX7_readers_73 (lv_at hl 2 rfl) ?_
      refine xend_ro_i (xRunV (wc := (wX6 K (a0 9) a2 r2)) (As := [.int x4]) (rest := [.ref (a0 0), .int x3]) C (c_X6_betweenOf h) k_X6_betweenOf mw_884 ⟨rfl, rfl⟩ ⟨Nat.le_of_ble_eq_true rfl, Nat.le_of_ble_eq_true rfl⟩ hP hD [9, 10, 11, 12, 13] rfl rfl rfl rfl hl rfl rfl (Nat.le_of_ble_eq_true rfl) dX7_readers_75 ⟨Nat.le_refl _, Nat.le_refl _⟩) (fun v7 h => ?_)
      refine xend_ro_i (xRunV (wc := (wX1 K (a0 0) a1 r1)) (As := [.int v7]) (rest := [.int x3]) C (c_X1_readersAmong h) k_X1_readersAmong mw_885 ⟨rfl, rfl⟩ ⟨Nat.le_of_ble_eq_true rfl, Nat.le_of_ble_eq_true rfl⟩ hP hD [3, 4, 5, 6, 7, 8] rfl rfl rfl rfl hl rfl rfl (Nat.le_of_ble_eq_true rfl) dX7_readers_78 ⟨Nat.le_refl _, Nat.le_refl _⟩) (fun v8 h => ?_)
      refine xend_ro_i (xRunS (wc := ([] : va_W)) (As := [.int v8]) (rest := [.int x3]) C (c_J6_bitCount_0f7a4 h) k_J6_bitCount_0f7a4 mw_886 ⟨rfl, rfl⟩ ⟨Nat.le_of_ble_eq_true rfl, Nat.le_of_ble_eq_true rfl⟩ hP hD [] rfl rfl hl rfl rfl (Nat.le_of_ble_eq_true rfl) dX7_readers_81 ⟨Nat.le_refl _, Nat.le_refl _⟩) (fun v9 h => ?_)
      refine va_mmin hx hb (by rw [hml]; exact hl.1.symm) hown (hts _ mw_475) (hts _ mw_476) (hts _ mw_406) (hts _ mw_477) (Nat.le_of_ble_eq_true rfl) (Nat.le_of_ble_eq_true rfl) (Nat.le_of_ble_eq_true rfl) (Nat.le_of_ble_eq_true rfl) dX7_readers_84 ?_
      refine lv_topi (fun v10 ev10 => ?_)
      replace h := h v10 ev10
      refine lv_istore_n (lv' := [(3, .int v10), (0, .ref h0), (4, .int x4)]) hx hb dX7_readers_87 rfl hl (by decide) rfl (fun ls hl => ?_)
      obtain ⟨v11, ev11⟩ : ∃ y : Int32, y = x4 + (1 : Int32) := ⟨_, rfl⟩
      replace h := h v11 ev11
      refine lv_iinc (v := v11) (lv' := [(4, .int v11), (3, .int v10), (0, .ref h0)]) hx hb dX7_readers_88 hl (k := 2) rfl (by rw [ev11]; rfl) (by decide) rfl (fun ls hl => ?_)
      refine lv_goto (tgt := 52) hx hb dX7_readers_91 (by decide) ?_
      exact ihn _ _ _ _ _ _ _ (lv_sub hl [2, 1, 0] rfl) hP hD hS h
set_option maxHeartbeats 4000000 in
set_option maxRecDepth 100000 in
theorem c_X7_readers {l : Launch} {D : va_G} {K : Nat → ClassId} {h0 : Nat} {a0 : Nat → Nat} {hs : Nat → Nat} {r0 : zS} {a1 : Nat → Nat} {r1 : zS} {a2 : Nat → Nat} {r2 : zS} {p1 : Int32} {p2 : Int32} {sz : Nat} {post : Int32 → (zS) → (zS) → Prop}   (h : wp_X7_readers r0 r1 r2 p1 p2 post) : Met l yX7_readers (Cond.code yX7_readers cX7_readers 5 (some .int) :: wsL_law) ({ frames := 15, cells := 0, slots := 0, locals := 591 } : Room) (va_Pc [.ref h0, .int p1, .int p2] (xPre D vwCl (xty K) (wX7 K h0 a0 hs r0 ++ (wX1 K (a0 0) a1 r1 ++ (wX6 K (a0 9) a2 r2))) sz)) (va_Qi (fun r (u : (zS) × (zS)) => post r u.1 u.2) (fun (u : (zS) × (zS)) t => va_P D vwCl (wX7 K h0 a0 hs u.1 ++ (wX1 K (a0 0) a1 r1 ++ (wX6 K (a0 9) a2 u.2))) t.heap) (va_A (wX7 K h0 a0 hs r0 ++ (wX1 K (a0 0) a1 r1 ++ (wX6 K (a0 9) a2 r2))) sz)) 0 0 (va_A (wX7 K h0 a0 hs r0 ++ (wX1 K (a0 0) a1 r1 ++ (wX6 K (a0 9) a2 r2))) sz) := by
  refine xMet (by decide) rfl (Nat.le_of_ble_eq_true rfl) (fun p e s m args below meth c C hnm hP hD hsz ls hl => ?_)
  have hl : lv_has ls 5 [(0, .ref h0), (1, .int p1), (2, .int p2)] := hl
  obtain ⟨hx, hb, hr, hml, hown, hts, hlocks, hK, hT⟩ := id C
  subst hsz
  generalize hAe : va_A (wX7 K h0 a0 hs r0 ++ (wX1 K (a0 0) a1 r1 ++ (wX6 K (a0 9) a2 r2))) s.heap.size = A at hD ⊢
  have hA : ∀ q : Nat, s.heap.size ≤ q → A q := fun q h => by rw [← hAe]; exact Or.inr h
  have hS : va_S A s.heap s.heap [] := va_S.rf
  have hP : va_P D vwCl (wX7 K h0 a0 hs r0 ++ (wX1 K (a0 0) a1 r1 ++ (wX6 K (a0 9) a2 r2))) s.heap := hP
  unfold wp_X7_readers at h
  refine lv_aload_n hx hb dX7_readers_0 rfl (lv_at hl 0 rfl) ?_
  refine lv_iload_n hx hb dX7_readers_1 rfl (lv_at hl 1 rfl) ?_
  refine lv_iload_n hx hb dX7_readers_2 rfl (lv_at hl 2 rfl) ?_
  refine xend_ro_i (xRunV (wc := (wX7 K h0 a0 hs r0 ++ (wX1 K (a0 0) a1 r1))) (As := [.int p1, .int p2]) (rest := []) C (c_X7_isPair h) k_X7_isPair mw_429 ⟨rfl, rfl⟩ ⟨Nat.le_of_ble_eq_true rfl, Nat.le_of_ble_eq_true rfl⟩ hP hD [0, 1, 2, 3, 4, 5, 6, 7, 8] rfl rfl rfl rfl hl rfl rfl (Nat.le_of_ble_eq_true rfl) dX7_readers_3 ⟨Nat.le_refl _, Nat.le_refl _⟩) (fun v1 h => ?_)
  refine lv_if_ne (tgt := 16) hx hb dX7_readers_6 (by decide) (fun c2 => ?_) (fun c2 => ?_)
  · replace h := And.right h c2
    refine lv_aload_n hx hb dX7_readers_16 rfl (lv_at hl 0 rfl) ?_
    refine va_get (D := D) (ci := 7) (v := .ref (a0 9)) (C := RX7) (T := TX7) (N := 13) hx hb hts inlX7 hown hK hP 0 rfl rfl 9 (by decide) (hts (.fieldLink RX7 61 "UnderTheDesks" "paths" "LUnderTheDesks$Ways;") mw_38) (fun _ h9 => h9) rfl dX7_readers_17 ?_
    refine lv_aload_n hx hb dX7_readers_20 rfl (lv_at hl 0 rfl) ?_
    refine va_get (D := D) (ci := 7) (v := .ref (a0 0)) (C := RX7) (T := TX7) (N := 13) hx hb hts inlX7 hown hK hP 0 rfl rfl 0 (by decide) (hts (.fieldLink RX7 10 "UnderTheDesks" "room" "LUnderTheDesks$Room;") mw_16) (fun _ h9 => h9) rfl dX7_readers_21 ?_
    refine lv_iload_n hx hb dX7_readers_24 rfl (lv_at hl 1 rfl) ?_
    refine lv_iload_n hx hb dX7_readers_25 rfl (lv_at hl 2 rfl) ?_
    refine xend_rw_v (wf := fun (u : (zS)) => (wX6 K (a0 9) a2 u ++ (wX1 K (a0 0) a1 r1))) (xRunV (wc := (wX6 K (a0 9) a2 r2 ++ (wX1 K (a0 0) a1 r1))) (As := [.ref (a0 0), .int p1, .int p2]) (rest := []) C (c_X6_find h) k_X6_find mw_756 ⟨rfl, rfl⟩ ⟨Nat.le_of_ble_eq_true rfl, Nat.le_of_ble_eq_true rfl⟩ hP hD [9, 10, 11, 12, 13, 3, 4, 5, 6, 7, 8] rfl rfl rfl rfl hl rfl rfl (Nat.le_of_ble_eq_true rfl) dX7_readers_26 ⟨Nat.le_refl _, Nat.le_refl _⟩) hP hD hS hA [9, 10, 11, 12, 13, 3, 4, 5, 6, 7, 8] rfl rfl (fun _ => rfl) (fun s4 H locs h hP hD hS => ?_)
    replace hP : va_P D vwCl (wX7 K h0 a0 hs r0 ++ (wX1 K (a0 0) a1 r1 ++ (wX6 K (a0 9) a2 s4))) H := hP
    replace hD : va_D A (wX7 K h0 a0 hs r0 ++ (wX1 K (a0 0) a1 r1 ++ (wX6 K (a0 9) a2 s4))) := hD
    refine lv_aload_n hx hb dX7_readers_29 rfl (lv_at hl 0 rfl) ?_
    refine va_get (D := D) (ci := 7) (v := .ref (a0 9)) (C := RX7) (T := TX7) (N := 13) hx hb hts inlX7 hown hK hP 0 rfl rfl 9 (by decide) (hts (.fieldLink RX7 61 "UnderTheDesks" "paths" "LUnderTheDesks$Ways;") mw_38) (fun _ h9 => h9) rfl dX7_readers_30 ?_
    refine va_get (D := D) (ci := 6) (v := .int (s4.1 0)) (C := RX6) (T := TX6) (N := 5) hx hb hts inlX6 hown hK hP 9 rfl rfl 0 (by decide) (hts (.fieldLink RX7 250 "UnderTheDesks$Ways" "count" "I") mw_755) (fun _ h9 => h9) rfl dX7_readers_33 ?_
    refine lv_if_ne (tgt := 46) hx hb dX7_readers_36 (by decide) (fun c5 => ?_) (fun c5 => ?_)
    · replace h := And.right h c5
      refine lv_bipush (v := 9) hx hb dX7_readers_46 (by decide) ?_
      refine lv_istore_n (lv' := [(3, .int (9 : Int32)), (0, .ref h0), (1, .int p1), (2, .int p2)]) hx hb dX7_readers_48 rfl hl (by decide) rfl (fun ls hl => ?_)
      refine lv_iconst (v := 0) hx hb dX7_readers_49 (by decide) ?_
      refine lv_istore (lv' := [(4, .int (0 : Int32)), (3, .int (9 : Int32)), (0, .ref h0), (1, .int p1), (2, .int p2)]) hx hb dX7_readers_50 hl (by decide) rfl (fun ls hl => ?_)
      obtain ⟨n0, h⟩ := h
      exact t_X7_readers_52 C hA n0 _ _ _ _ _ _ _ (lv_sub hl [2, 1, 0] rfl) hP hD hS h
    · replace h := And.left h c5
      refine lv_aload_n hx hb dX7_readers_39 rfl (lv_at hl 0 rfl) ?_
      refine lv_bipush (v := -5) hx hb dX7_readers_40 (by decide) ?_
      refine xend_rw_i (wf := fun (u : (zS)) => (wX7 K h0 a0 hs u)) (xRunV (wc := (wX7 K h0 a0 hs r0)) (As := [.int (-5 : Int32)]) (rest := []) C (c_X7_refuse h) k_X7_refuse mw_147 ⟨rfl, rfl⟩ ⟨Nat.le_of_ble_eq_true rfl, Nat.le_of_ble_eq_true rfl⟩ hP hD [0, 1, 2] rfl rfl rfl rfl hl rfl rfl (Nat.le_of_ble_eq_true rfl) dX7_readers_42 ⟨Nat.le_refl _, Nat.le_refl _⟩) hP hD hS hA [0, 1, 2] rfl rfl (fun _ => rfl) (fun v12 s13 H locs h hP hD hS => ?_)
      replace hP : va_P D vwCl (wX7 K h0 a0 hs s13 ++ (wX1 K (a0 0) a1 r1 ++ (wX6 K (a0 9) a2 s4))) H := hP
      replace hD : va_D A (wX7 K h0 a0 hs s13 ++ (wX1 K (a0 0) a1 r1 ++ (wX6 K (a0 9) a2 s4))) := hD
      exact xrw_i C (s13, s4) h hP hS dX7_readers_45
  · replace h := And.left h c2
    refine lv_aload_n hx hb dX7_readers_9 rfl (lv_at hl 0 rfl) ?_
    refine lv_bipush (v := -2) hx hb dX7_readers_10 (by decide) ?_
    refine xend_rw_i (wf := fun (u : (zS)) => (wX7 K h0 a0 hs u)) (xRunV (wc := (wX7 K h0 a0 hs r0)) (As := [.int (-2 : Int32)]) (rest := []) C (c_X7_refuse h) k_X7_refuse mw_147 ⟨rfl, rfl⟩ ⟨Nat.le_of_ble_eq_true rfl, Nat.le_of_ble_eq_true rfl⟩ hP hD [0, 1, 2] rfl rfl rfl rfl hl rfl rfl (Nat.le_of_ble_eq_true rfl) dX7_readers_12 ⟨Nat.le_refl _, Nat.le_refl _⟩) hP hD hS hA [0, 1, 2] rfl rfl (fun _ => rfl) (fun v14 s15 H locs h hP hD hS => ?_)
    replace hP : va_P D vwCl (wX7 K h0 a0 hs s15 ++ (wX1 K (a0 0) a1 r1 ++ (wX6 K (a0 9) a2 r2))) H := hP
    replace hD : va_D A (wX7 K h0 a0 hs s15 ++ (wX1 K (a0 0) a1 r1 ++ (wX6 K (a0 9) a2 r2))) := hD
    exact xrw_i C (s15, r2) h hP hS dX7_readers_15

def wp_X7_both (p0 : Int32) (p1 : Int32) (post : Int32 → Prop) : Prop :=
  post ((((p0.toInt64) * (p1.toInt64)) / (1000000 : Int64)).toInt32) 
set_option maxHeartbeats 4000000 in
set_option maxRecDepth 100000 in
theorem c_X7_both {l : Launch} {D : va_G} {K : Nat → ClassId}  {p0 : Int32} {p1 : Int32} {sz : Nat} {post : Int32 → Prop}   (h : wp_X7_both p0 p1 post) : Met l yX7_both (Cond.code yX7_both cX7_both 2 (some .int) :: wsL_law) ({ frames := 0, cells := 0, slots := 0, locals := 0 } : Room) (va_Pc [.int p0, .int p1] (xPre D vwCl (xty K) ([] : va_W) sz)) (roI post) 0 0 (fun _ => False) := by
  refine xMet (by decide) rfl (Nat.le_of_ble_eq_true rfl) (fun p e s m args below meth c C hnm hP hD hsz ls hl => ?_)
  have hl : lv_has ls 2 [(0, .int p0), (1, .int p1)] := hl
  obtain ⟨hx, hb, hr, hml, hown, hts, hlocks, hK, hT⟩ := id C
  unfold wp_X7_both at h
  refine lv_iload_n hx hb dX7_both_0 rfl (lv_at hl 0 rfl) ?_
  refine lv_i2l hx hb dX7_both_1 rfl ?_
  refine lv_iload_n hx hb dX7_both_2 rfl (lv_at hl 1 rfl) ?_
  refine lv_i2l hx hb dX7_both_3 rfl ?_
  refine lv_lmul hx hb dX7_both_4 ?_
  refine lv_ldc2 hx hb hown (hts _ mw_917) dX7_both_5 ?_
  refine lv_ldiv hx hb dX7_both_8 (by decide) ?_
  refine lv_l2i hx hb dX7_both_9 rfl ?_
  exact xro_i C h dX7_both_10

def wp_X7_together_27 (r1 : zS) (p1 : Int32) (p2 : Int32) (p3 : Int32) (p4 : Int32) (p5 : Int32) (post : Int32 → (zS) → (zS) → (zS) → (zS) → Prop) (r0 : zS) (r2 : zS) (r3 : zS) (r4 : zS) : Prop :=
  wp_X7_refuse r0 (-2 : Int32) (fun v3 s4 => post v3 s4 r2 r3 r4)
def wp_X7_together_178 (r1 : zS) (p1 : Int32) (p2 : Int32) (p3 : Int32) (p4 : Int32) (p5 : Int32) (post : Int32 → (zS) → (zS) → (zS) → (zS) → Prop) (k101 : (zS) → (zS) → (zS) → (zS) → Int32 → Int32 → Prop) (k116 : (zS) → (zS) → (zS) → (zS) → Int32 → Int32 → Int32 → Prop) (r0 : zS) (r2 : zS) (r3 : zS) (r4 : zS) (x6 : Int32) (x7 : Int32) (x8 : Int32) : Prop :=
  ∀ v30 : Int32, v30 = x8 + (1 : Int32) → k116 r0 r2 r3 r4 x6 x7 v30
def wb_X7_together_116 (r1 : zS) (p1 : Int32) (p2 : Int32) (p3 : Int32) (p4 : Int32) (p5 : Int32) (post : Int32 → (zS) → (zS) → (zS) → (zS) → Prop) (k101 : (zS) → (zS) → (zS) → (zS) → Int32 → Int32 → Prop) (ih : (zS) → (zS) → (zS) → (zS) → Int32 → Int32 → Int32 → Prop) (r0 : zS) (r2 : zS) (r3 : zS) (r4 : zS) (x6 : Int32) (x7 : Int32) (x8 : Int32) : Prop :=
  ((r3.1 0) ≤ x8 → ∀ v26 : Int32, v26 = x7 + (1 : Int32) → k101 r0 r2 r3 r4 x6 v26) ∧ (¬ (r3.1 0) ≤ x8 → wp_X6_allOf r2 x7 (fun v27 => wp_X6_allOf r3 x8 (fun v28 => ((v27 &&& v28) = 0 → wp_X6_chanceOf r2 x7 (fun v31 => wp_X6_chanceOf r3 x8 (fun v32 => wp_X7_both v31 v32 (fun v33 => ∀ v34 : Int32, v34 = (if x6 < v33 then v33 else x6) → wp_X7_together_178 r1 p1 p2 p3 p4 p5 post k101 ih r0 r2 r3 r4 v34 x7 x8)))) ∧ (¬ (v27 &&& v28) = 0 → wp_X7_together_178 r1 p1 p2 p3 p4 p5 post k101 ih r0 r2 r3 r4 x6 x7 x8))))
def wp_X7_together_116 (r1 : zS) (p1 : Int32) (p2 : Int32) (p3 : Int32) (p4 : Int32) (p5 : Int32) (post : Int32 → (zS) → (zS) → (zS) → (zS) → Prop) (k101 : (zS) → (zS) → (zS) → (zS) → Int32 → Int32 → Prop) (n : Nat) : (zS) → (zS) → (zS) → (zS) → Int32 → Int32 → Int32 → Prop := Nat.rec (motive := fun _ => (zS) → (zS) → (zS) → (zS) → Int32 → Int32 → Int32 → Prop) (fun _ _ _ _ _ _ _ => False) (fun _ ih => wb_X7_together_116 r1 p1 p2 p3 p4 p5 post k101 ih) n
theorem wu_X7_together_116 (r1 : zS) (p1 : Int32) (p2 : Int32) (p3 : Int32) (p4 : Int32) (p5 : Int32) (post : Int32 → (zS) → (zS) → (zS) → (zS) → Prop) (k101 : (zS) → (zS) → (zS) → (zS) → Int32 → Int32 → Prop) (n : Nat) (r0 : zS) (r2 : zS) (r3 : zS) (r4 : zS) (x6 : Int32) (x7 : Int32) (x8 : Int32) : wp_X7_together_116 r1 p1 p2 p3 p4 p5 post k101 (n + 1) r0 r2 r3 r4 x6 x7 x8 = wb_X7_together_116 r1 p1 p2 p3 p4 p5 post k101 (wp_X7_together_116 r1 p1 p2 p3 p4 p5 post k101 n) r0 r2 r3 r4 x6 x7 x8 := rfl
def wb_X7_together_101 (r1 : zS) (p1 : Int32) (p2 : Int32) (p3 : Int32) (p4 : Int32) (p5 : Int32) (post : Int32 → (zS) → (zS) → (zS) → (zS) → Prop) (ih : (zS) → (zS) → (zS) → (zS) → Int32 → Int32 → Prop) (r0 : zS) (r2 : zS) (r3 : zS) (r4 : zS) (x6 : Int32) (x7 : Int32) : Prop :=
  ((r2.1 0) ≤ x7 → (x6 = (-1 : Int32) → wp_X7_refuse r0 (-5 : Int32) (fun v23 s24 => post v23 s24 r2 r3 r4)) ∧ (¬ x6 = (-1 : Int32) → post x6 r0 r2 r3 r4)) ∧ (¬ (r2.1 0) ≤ x7 → ∃ n : Nat, wp_X7_together_116 r1 p1 p2 p3 p4 p5 post ih n r0 r2 r3 r4 x6 x7 (0 : Int32))
def wp_X7_together_101 (r1 : zS) (p1 : Int32) (p2 : Int32) (p3 : Int32) (p4 : Int32) (p5 : Int32) (post : Int32 → (zS) → (zS) → (zS) → (zS) → Prop) (n : Nat) : (zS) → (zS) → (zS) → (zS) → Int32 → Int32 → Prop := Nat.rec (motive := fun _ => (zS) → (zS) → (zS) → (zS) → Int32 → Int32 → Prop) (fun _ _ _ _ _ _ => False) (fun _ ih => wb_X7_together_101 r1 p1 p2 p3 p4 p5 post ih) n
theorem wu_X7_together_101 (r1 : zS) (p1 : Int32) (p2 : Int32) (p3 : Int32) (p4 : Int32) (p5 : Int32) (post : Int32 → (zS) → (zS) → (zS) → (zS) → Prop) (n : Nat) (r0 : zS) (r2 : zS) (r3 : zS) (r4 : zS) (x6 : Int32) (x7 : Int32) : wp_X7_together_101 r1 p1 p2 p3 p4 p5 post (n + 1) r0 r2 r3 r4 x6 x7 = wb_X7_together_101 r1 p1 p2 p3 p4 p5 post (wp_X7_together_101 r1 p1 p2 p3 p4 p5 post n) r0 r2 r3 r4 x6 x7 := rfl
def wp_X7_together (r0 : zS) (r1 : zS) (r2 : zS) (r3 : zS) (r4 : zS) (p1 : Int32) (p2 : Int32) (p3 : Int32) (p4 : Int32) (p5 : Int32) (post : Int32 → (zS) → (zS) → (zS) → (zS) → Prop) : Prop :=
  wp_X7_isPair r0 r1 p1 p2 (fun v1 => (v1 = 0 → wp_X7_together_27 r1 p1 p2 p3 p4 p5 post r0 r2 r3 r4) ∧ (¬ v1 = 0 → wp_X7_isPair r0 r1 p3 p4 (fun v5 => (v5 = 0 → wp_X7_together_27 r1 p1 p2 p3 p4 p5 post r0 r2 r3 r4) ∧ (¬ v5 = 0 → wp_X7_isSecond p5 (fun v7 => (v7 = 0 → wp_X7_together_27 r1 p1 p2 p3 p4 p5 post r0 r2 r3 r4) ∧ (¬ v7 = 0 → wp_X6_find r2 r1 p1 p2 (fun s10 => wp_X6_find r3 r1 p3 p4 (fun s12 => wp_X5_rate r4 r1 s10 p5 (fun s14 s15 => wp_X5_rate s14 r1 s12 p5 (fun s18 s19 => ∃ n : Nat, wp_X7_together_101 r1 p1 p2 p3 p4 p5 post n r0 s15 s19 s18 (-1 : Int32) (0 : Int32)))))))))))
set_option maxHeartbeats 4000000 in
set_option maxRecDepth 100000 in
theorem t_X7_together_27 {p : Program} {l : Launch} {e : Env} {s : State} {m : MethodId} {args : Array Value} {below : List Frame} {meth : Method} {c : Code} {D : va_G} {K : Nat → ClassId} {h0 : Nat} {a0 : Nat → Nat} {hs : Nat → Nat} {a1 : Nat → Nat} {r1 : zS} {a2 : Nat → Nat} {a3 : Nat → Nat} {a4 : Nat → Nat} {p1 : Int32} {p2 : Int32} {p3 : Int32} {p4 : Int32} {p5 : Int32} {post : Int32 → (zS) → (zS) → (zS) → (zS) → Prop} {A : Nat → Prop} (C : xC p s m args meth c cX7_together RX7 9 (some .int) D vwCl (xty K)) (hA : ∀ q, s.heap.size ≤ q → A q) : ∀ (r0 : zS) (r2 : zS) (r3 : zS) (r4 : zS) (H : Heap) (locs : List Loc) (ls : Array Slot), lv_has ls 9 [(0, .ref h0)] → va_P D vwCl (wX7 K h0 a0 hs r0 ++ (wX1 K (a0 0) a1 r1 ++ (wX6 K (a0 9) a2 r2 ++ (wX6 K (a0 10) a3 r3 ++ (wX5 K (a0 11) a4 r4))))) H → va_D A (wX7 K h0 a0 hs r0 ++ (wX1 K (a0 0) a1 r1 ++ (wX6 K (a0 9) a2 r2 ++ (wX6 K (a0 10) a3 r3 ++ (wX5 K (a0 11) a4 r4))))) → va_S A s.heap H locs → wp_X7_together_27 r1 p1 p2 p3 p4 p5 post r0 r2 r3 r4 → W p l e ({ frames := 15, cells := 0, slots := 0, locals := 591 } : Room) s m args below meth c H locs 0 0 (MQ below (va_Qi (fun r (u : (zS) × (zS) × (zS) × (zS)) => post r u.1 u.2.1 u.2.2.1 u.2.2.2) (fun (u : (zS) × (zS) × (zS) × (zS)) t => va_P D vwCl (wX7 K h0 a0 hs u.1 ++ (wX1 K (a0 0) a1 r1 ++ (wX6 K (a0 9) a2 u.2.1 ++ (wX6 K (a0 10) a3 u.2.2.1 ++ (wX5 K (a0 11) a4 u.2.2.2))))) t.heap) A) args s 0 0 A) (F0 m 27 ls []) := by
  obtain ⟨hx, hb, hr, hml, hown, hts, hlocks, hK, hT⟩ := id C
  intro r0 r2 r3 r4 H locs ls hl hP hD hS h
  unfold wp_X7_together_27 at h
  refine lv_aload_n hx hb dX7_together_27 rfl (lv_at hl 0 rfl) ?_
  refine lv_bipush (v := -2) hx hb dX7_together_28 (by decide) ?_
  refine xend_rw_i (wf := fun (u : (zS)) => (wX7 K h0 a0 hs u)) (xRunV (wc := (wX7 K h0 a0 hs r0)) (As := [.int (-2 : Int32)]) (rest := []) C (c_X7_refuse h) k_X7_refuse mw_147 ⟨rfl, rfl⟩ ⟨Nat.le_of_ble_eq_true rfl, Nat.le_of_ble_eq_true rfl⟩ hP hD [0, 1, 2] rfl rfl rfl rfl hl rfl rfl (Nat.le_of_ble_eq_true rfl) dX7_together_30 ⟨Nat.le_refl _, Nat.le_refl _⟩) hP hD hS hA [0, 1, 2] rfl rfl (fun _ => rfl) (fun v3 s4 H locs h hP hD hS => ?_)
  replace hP : va_P D vwCl (wX7 K h0 a0 hs s4 ++ (wX1 K (a0 0) a1 r1 ++ (wX6 K (a0 9) a2 r2 ++ (wX6 K (a0 10) a3 r3 ++ (wX5 K (a0 11) a4 r4))))) H := hP
  replace hD : va_D A (wX7 K h0 a0 hs s4 ++ (wX1 K (a0 0) a1 r1 ++ (wX6 K (a0 9) a2 r2 ++ (wX6 K (a0 10) a3 r3 ++ (wX5 K (a0 11) a4 r4))))) := hD
  exact xrw_i C (s4, r2, r3, r4) h hP hS dX7_together_33
set_option maxHeartbeats 4000000 in
set_option maxRecDepth 100000 in
theorem t_X7_together_178 {p : Program} {l : Launch} {e : Env} {s : State} {m : MethodId} {args : Array Value} {below : List Frame} {meth : Method} {c : Code} {D : va_G} {K : Nat → ClassId} {h0 : Nat} {a0 : Nat → Nat} {hs : Nat → Nat} {a1 : Nat → Nat} {r1 : zS} {a2 : Nat → Nat} {a3 : Nat → Nat} {a4 : Nat → Nat} {p1 : Int32} {p2 : Int32} {p3 : Int32} {p4 : Int32} {p5 : Int32} {post : Int32 → (zS) → (zS) → (zS) → (zS) → Prop} {A : Nat → Prop} (C : xC p s m args meth c cX7_together RX7 9 (some .int) D vwCl (xty K)) (hA : ∀ q, s.heap.size ≤ q → A q) {k101 : (zS) → (zS) → (zS) → (zS) → Int32 → Int32 → Prop} (hk101 : ∀ (r0 : zS) (r2 : zS) (r3 : zS) (r4 : zS) (x6 : Int32) (x7 : Int32) (H : Heap) (locs : List Loc) (ls : Array Slot), lv_has ls 9 [(0, .ref h0), (6, .int x6), (7, .int x7)] → va_P D vwCl (wX7 K h0 a0 hs r0 ++ (wX1 K (a0 0) a1 r1 ++ (wX6 K (a0 9) a2 r2 ++ (wX6 K (a0 10) a3 r3 ++ (wX5 K (a0 11) a4 r4))))) H → va_D A (wX7 K h0 a0 hs r0 ++ (wX1 K (a0 0) a1 r1 ++ (wX6 K (a0 9) a2 r2 ++ (wX6 K (a0 10) a3 r3 ++ (wX5 K (a0 11) a4 r4))))) → va_S A s.heap H locs → k101 r0 r2 r3 r4 x6 x7  → W p l e ({ frames := 15, cells := 0, slots := 0, locals := 591 } : Room) s m args below meth c H locs 0 0 (MQ below (va_Qi (fun r (u : (zS) × (zS) × (zS) × (zS)) => post r u.1 u.2.1 u.2.2.1 u.2.2.2) (fun (u : (zS) × (zS) × (zS) × (zS)) t => va_P D vwCl (wX7 K h0 a0 hs u.1 ++ (wX1 K (a0 0) a1 r1 ++ (wX6 K (a0 9) a2 u.2.1 ++ (wX6 K (a0 10) a3 u.2.2.1 ++ (wX5 K (a0 11) a4 u.2.2.2))))) t.heap) A) args s 0 0 A) (F0 m 101 ls [])) {k116 : (zS) → (zS) → (zS) → (zS) → Int32 → Int32 → Int32 → Prop} (hk116 : ∀ (r0 : zS) (r2 : zS) (r3 : zS) (r4 : zS) (x6 : Int32) (x7 : Int32) (x8 : Int32) (H : Heap) (locs : List Loc) (ls : Array Slot), lv_has ls 9 [(0, .ref h0), (6, .int x6), (7, .int x7), (8, .int x8)] → va_P D vwCl (wX7 K h0 a0 hs r0 ++ (wX1 K (a0 0) a1 r1 ++ (wX6 K (a0 9) a2 r2 ++ (wX6 K (a0 10) a3 r3 ++ (wX5 K (a0 11) a4 r4))))) H → va_D A (wX7 K h0 a0 hs r0 ++ (wX1 K (a0 0) a1 r1 ++ (wX6 K (a0 9) a2 r2 ++ (wX6 K (a0 10) a3 r3 ++ (wX5 K (a0 11) a4 r4))))) → va_S A s.heap H locs → k116 r0 r2 r3 r4 x6 x7 x8  → W p l e ({ frames := 15, cells := 0, slots := 0, locals := 591 } : Room) s m args below meth c H locs 0 0 (MQ below (va_Qi (fun r (u : (zS) × (zS) × (zS) × (zS)) => post r u.1 u.2.1 u.2.2.1 u.2.2.2) (fun (u : (zS) × (zS) × (zS) × (zS)) t => va_P D vwCl (wX7 K h0 a0 hs u.1 ++ (wX1 K (a0 0) a1 r1 ++ (wX6 K (a0 9) a2 u.2.1 ++ (wX6 K (a0 10) a3 u.2.2.1 ++ (wX5 K (a0 11) a4 u.2.2.2))))) t.heap) A) args s 0 0 A) (F0 m 116 ls [])) : ∀ (r0 : zS) (r2 : zS) (r3 : zS) (r4 : zS) (x6 : Int32) (x7 : Int32) (x8 : Int32) (H : Heap) (locs : List Loc) (ls : Array Slot), lv_has ls 9 [(0, .ref h0), (6, .int x6), (7, .int x7), (8, .int x8)] → va_P D vwCl (wX7 K h0 a0 hs r0 ++ (wX1 K (a0 0) a1 r1 ++ (wX6 K (a0 9) a2 r2 ++ (wX6 K (a0 10) a3 r3 ++ (wX5 K (a0 11) a4 r4))))) H → va_D A (wX7 K h0 a0 hs r0 ++ (wX1 K (a0 0) a1 r1 ++ (wX6 K (a0 9) a2 r2 ++ (wX6 K (a0 10) a3 r3 ++ (wX5 K (a0 11) a4 r4))))) → va_S A s.heap H locs → wp_X7_together_178 r1 p1 p2 p3 p4 p5 post k101 k116 r0 r2 r3 r4 x6 x7 x8 → W p l e ({ frames := 15, cells := 0, slots := 0, locals := 591 } : Room) s m args below meth c H locs 0 0 (MQ below (va_Qi (fun r (u : (zS) × (zS) × (zS) × (zS)) => post r u.1 u.2.1 u.2.2.1 u.2.2.2) (fun (u : (zS) × (zS) × (zS) × (zS)) t => va_P D vwCl (wX7 K h0 a0 hs u.1 ++ (wX1 K (a0 0) a1 r1 ++ (wX6 K (a0 9) a2 u.2.1 ++ (wX6 K (a0 10) a3 u.2.2.1 ++ (wX5 K (a0 11) a4 u.2.2.2))))) t.heap) A) args s 0 0 A) (F0 m 178 ls []) := by
  obtain ⟨hx, hb, hr, hml, hown, hts, hlocks, hK, hT⟩ := id C
  intro r0 r2 r3 r4 x6 x7 x8 H locs ls hl hP hD hS h
  unfold wp_X7_together_178 at h
  obtain ⟨v30, ev30⟩ : ∃ y : Int32, y = x8 + (1 : Int32) := ⟨_, rfl⟩
  replace h := h v30 ev30
  refine lv_iinc (v := v30) (lv' := [(8, .int v30), (0, .ref h0), (6, .int x6), (7, .int x7)]) hx hb dX7_together_178 hl (k := 3) rfl (by rw [ev30]; rfl) (by decide) rfl (fun ls hl => ?_)
  refine lv_goto (tgt := 116) hx hb dX7_together_181 (by decide) ?_
  exact hk116 _ _ _ _ _ _ _ _ _ _ (lv_sub hl [1, 2, 3, 0] rfl) hP hD hS h
set_option maxHeartbeats 4000000 in
set_option maxRecDepth 100000 in
theorem t_X7_together_116 {p : Program} {l : Launch} {e : Env} {s : State} {m : MethodId} {args : Array Value} {below : List Frame} {meth : Method} {c : Code} {D : va_G} {K : Nat → ClassId} {h0 : Nat} {a0 : Nat → Nat} {hs : Nat → Nat} {a1 : Nat → Nat} {r1 : zS} {a2 : Nat → Nat} {a3 : Nat → Nat} {a4 : Nat → Nat} {p1 : Int32} {p2 : Int32} {p3 : Int32} {p4 : Int32} {p5 : Int32} {post : Int32 → (zS) → (zS) → (zS) → (zS) → Prop} {A : Nat → Prop} (C : xC p s m args meth c cX7_together RX7 9 (some .int) D vwCl (xty K)) (hA : ∀ q, s.heap.size ≤ q → A q) {k101 : (zS) → (zS) → (zS) → (zS) → Int32 → Int32 → Prop} (hk101 : ∀ (r0 : zS) (r2 : zS) (r3 : zS) (r4 : zS) (x6 : Int32) (x7 : Int32) (H : Heap) (locs : List Loc) (ls : Array Slot), lv_has ls 9 [(0, .ref h0), (6, .int x6), (7, .int x7)] → va_P D vwCl (wX7 K h0 a0 hs r0 ++ (wX1 K (a0 0) a1 r1 ++ (wX6 K (a0 9) a2 r2 ++ (wX6 K (a0 10) a3 r3 ++ (wX5 K (a0 11) a4 r4))))) H → va_D A (wX7 K h0 a0 hs r0 ++ (wX1 K (a0 0) a1 r1 ++ (wX6 K (a0 9) a2 r2 ++ (wX6 K (a0 10) a3 r3 ++ (wX5 K (a0 11) a4 r4))))) → va_S A s.heap H locs → k101 r0 r2 r3 r4 x6 x7  → W p l e ({ frames := 15, cells := 0, slots := 0, locals := 591 } : Room) s m args below meth c H locs 0 0 (MQ below (va_Qi (fun r (u : (zS) × (zS) × (zS) × (zS)) => post r u.1 u.2.1 u.2.2.1 u.2.2.2) (fun (u : (zS) × (zS) × (zS) × (zS)) t => va_P D vwCl (wX7 K h0 a0 hs u.1 ++ (wX1 K (a0 0) a1 r1 ++ (wX6 K (a0 9) a2 u.2.1 ++ (wX6 K (a0 10) a3 u.2.2.1 ++ (wX5 K (a0 11) a4 u.2.2.2))))) t.heap) A) args s 0 0 A) (F0 m 101 ls [])) : ∀ (n : Nat) (r0 : zS) (r2 : zS) (r3 : zS) (r4 : zS) (x6 : Int32) (x7 : Int32) (x8 : Int32) (H : Heap) (locs : List Loc) (ls : Array Slot), lv_has ls 9 [(0, .ref h0), (6, .int x6), (7, .int x7), (8, .int x8)] → va_P D vwCl (wX7 K h0 a0 hs r0 ++ (wX1 K (a0 0) a1 r1 ++ (wX6 K (a0 9) a2 r2 ++ (wX6 K (a0 10) a3 r3 ++ (wX5 K (a0 11) a4 r4))))) H → va_D A (wX7 K h0 a0 hs r0 ++ (wX1 K (a0 0) a1 r1 ++ (wX6 K (a0 9) a2 r2 ++ (wX6 K (a0 10) a3 r3 ++ (wX5 K (a0 11) a4 r4))))) → va_S A s.heap H locs → wp_X7_together_116 r1 p1 p2 p3 p4 p5 post k101 n r0 r2 r3 r4 x6 x7 x8 → W p l e ({ frames := 15, cells := 0, slots := 0, locals := 591 } : Room) s m args below meth c H locs 0 0 (MQ below (va_Qi (fun r (u : (zS) × (zS) × (zS) × (zS)) => post r u.1 u.2.1 u.2.2.1 u.2.2.2) (fun (u : (zS) × (zS) × (zS) × (zS)) t => va_P D vwCl (wX7 K h0 a0 hs u.1 ++ (wX1 K (a0 0) a1 r1 ++ (wX6 K (a0 9) a2 u.2.1 ++ (wX6 K (a0 10) a3 u.2.2.1 ++ (wX5 K (a0 11) a4 u.2.2.2))))) t.heap) A) args s 0 0 A) (F0 m 116 ls []) := by
  obtain ⟨hx, hb, hr, hml, hown, hts, hlocks, hK, hT⟩ := id C
  intro n
  induction n with
  | zero =>
    intro r0 r2 r3 r4 x6 x7 x8 H locs ls hl hP hD hS h
    exact False.elim h
  | succ n ihn =>
    intro r0 r2 r3 r4 x6 x7 x8 H locs ls hl hP hD hS h
    rw [wu_X7_together_116] at h
    unfold wb_X7_together_116 at h
    refine lv_iload hx hb dX7_together_116 (lv_at hl 3 rfl) ?_
    refine lv_aload_n hx hb dX7_together_118 rfl (lv_at hl 0 rfl) ?_
    refine va_get (D := D) (ci := 7) (v := .ref (a0 10)) (C := RX7) (T := TX7) (N := 13) hx hb hts inlX7 hown hK hP 0 rfl rfl 10 (by decide) (hts (.fieldLink RX7 65 "UnderTheDesks" "otherPaths" "LUnderTheDesks$Ways;") mw_39) (fun _ h9 => h9) rfl dX7_together_119 ?_
    refine va_get (D := D) (ci := 6) (v := .int (r3.1 0)) (C := RX6) (T := TX6) (N := 5) hx hb hts inlX6 hown hK hP 14 rfl rfl 0 (by decide) (hts (.fieldLink RX7 250 "UnderTheDesks$Ways" "count" "I") mw_755) (fun _ h9 => h9) rfl dX7_together_122 ?_
    refine lv_icmp_ge (tgt := 184) hx hb dX7_together_125 (by decide) (fun c25 => ?_) (fun c25 => ?_)
    · replace h := And.left h c25
      obtain ⟨v26, ev26⟩ : ∃ y : Int32, y = x7 + (1 : Int32) := ⟨_, rfl⟩
      replace h := h v26 ev26
      refine lv_iinc (v := v26) (lv' := [(7, .int v26), (0, .ref h0), (6, .int x6), (8, .int x8)]) hx hb dX7_together_184 hl (k := 2) rfl (by rw [ev26]; rfl) (by decide) rfl (fun ls hl => ?_)
      refine lv_goto (tgt := 101) hx hb dX7_together_187 (by decide) ?_
      exact hk101 _ _ _ _ _ _ _ _ _ (lv_sub hl [1, 2, 0] rfl) hP hD hS h
    · replace h := And.right h c25
      refine lv_aload_n hx hb dX7_together_128 rfl (lv_at hl 0 rfl) ?_
      refine va_get (D := D) (ci := 7) (v := .ref (a0 9)) (C := RX7) (T := TX7) (N := 13) hx hb hts inlX7 hown hK hP 0 rfl rfl 9 (by decide) (hts (.fieldLink RX7 61 "UnderTheDesks" "paths" "LUnderTheDesks$Ways;") mw_38) (fun _ h9 => h9) rfl dX7_together_129 ?_
      refine lv_iload hx hb dX7_together_132 (lv_at hl 2 rfl) ?_
      refine xend_ro_i (xRunV (wc := (wX6 K (a0 9) a2 r2)) (As := [.int x7]) (rest := []) C (c_X6_allOf h) k_X6_allOf mw_906 ⟨rfl, rfl⟩ ⟨Nat.le_of_ble_eq_true rfl, Nat.le_of_ble_eq_true rfl⟩ hP hD [9, 10, 11, 12, 13] rfl rfl rfl rfl hl rfl rfl (Nat.le_of_ble_eq_true rfl) dX7_together_134 ⟨Nat.le_refl _, Nat.le_refl _⟩) (fun v27 h => ?_)
      refine lv_aload_n hx hb dX7_together_137 rfl (lv_at hl 0 rfl) ?_
      refine va_get (D := D) (ci := 7) (v := .ref (a0 10)) (C := RX7) (T := TX7) (N := 13) hx hb hts inlX7 hown hK hP 0 rfl rfl 10 (by decide) (hts (.fieldLink RX7 65 "UnderTheDesks" "otherPaths" "LUnderTheDesks$Ways;") mw_39) (fun _ h9 => h9) rfl dX7_together_138 ?_
      refine lv_iload hx hb dX7_together_141 (lv_at hl 3 rfl) ?_
      refine xend_ro_i (xRunV (wc := (wX6 K (a0 10) a3 r3)) (As := [.int x8]) (rest := [.int v27]) C (c_X6_allOf h) k_X6_allOf mw_906 ⟨rfl, rfl⟩ ⟨Nat.le_of_ble_eq_true rfl, Nat.le_of_ble_eq_true rfl⟩ hP hD [14, 15, 16, 17, 18] rfl rfl rfl rfl hl rfl rfl (Nat.le_of_ble_eq_true rfl) dX7_together_143 ⟨Nat.le_refl _, Nat.le_refl _⟩) (fun v28 h => ?_)
      refine lv_iand hx hb dX7_together_146 ?_
      refine lv_if_ne (tgt := 178) hx hb dX7_together_147 (by decide) (fun c29 => ?_) (fun c29 => ?_)
      · replace h := And.right h c29
        exact t_X7_together_178 C hA hk101 ihn _ _ _ _ _ _ _ _ _ _ (lv_sub hl [0, 1, 2, 3] rfl) hP hD hS h
      · replace h := And.left h c29
        refine lv_iload hx hb dX7_together_150 (lv_at hl 1 rfl) ?_
        refine lv_aload_n hx hb dX7_together_152 rfl (lv_at hl 0 rfl) ?_
        refine va_get (D := D) (ci := 7) (v := .ref (a0 9)) (C := RX7) (T := TX7) (N := 13) hx hb hts inlX7 hown hK hP 0 rfl rfl 9 (by decide) (hts (.fieldLink RX7 61 "UnderTheDesks" "paths" "LUnderTheDesks$Ways;") mw_38) (fun _ h9 => h9) rfl dX7_together_153 ?_
        refine lv_iload hx hb dX7_together_156 (lv_at hl 2 rfl) ?_
        refine xend_ro_i (xRunV (wc := (wX6 K (a0 9) a2 r2)) (As := [.int x7]) (rest := [.int x6]) C (c_X6_chanceOf h) k_X6_chanceOf mw_910 ⟨rfl, rfl⟩ ⟨Nat.le_of_ble_eq_true rfl, Nat.le_of_ble_eq_true rfl⟩ hP hD [9, 10, 11, 12, 13] rfl rfl rfl rfl hl rfl rfl (Nat.le_of_ble_eq_true rfl) dX7_together_158 ⟨Nat.le_refl _, Nat.le_refl _⟩) (fun v31 h => ?_)
        refine lv_aload_n hx hb dX7_together_161 rfl (lv_at hl 0 rfl) ?_
        refine va_get (D := D) (ci := 7) (v := .ref (a0 10)) (C := RX7) (T := TX7) (N := 13) hx hb hts inlX7 hown hK hP 0 rfl rfl 10 (by decide) (hts (.fieldLink RX7 65 "UnderTheDesks" "otherPaths" "LUnderTheDesks$Ways;") mw_39) (fun _ h9 => h9) rfl dX7_together_162 ?_
        refine lv_iload hx hb dX7_together_165 (lv_at hl 3 rfl) ?_
        refine xend_ro_i (xRunV (wc := (wX6 K (a0 10) a3 r3)) (As := [.int x8]) (rest := [.int v31, .int x6]) C (c_X6_chanceOf h) k_X6_chanceOf mw_910 ⟨rfl, rfl⟩ ⟨Nat.le_of_ble_eq_true rfl, Nat.le_of_ble_eq_true rfl⟩ hP hD [14, 15, 16, 17, 18] rfl rfl rfl rfl hl rfl rfl (Nat.le_of_ble_eq_true rfl) dX7_together_167 ⟨Nat.le_refl _, Nat.le_refl _⟩) (fun v32 h => ?_)
        refine xend_ro_i (xRunS (wc := ([] : va_W)) (As := [.int v31, .int v32]) (rest := [.int x6]) C (c_X7_both h) k_X7_both mw_914 ⟨rfl, rfl⟩ ⟨Nat.le_of_ble_eq_true rfl, Nat.le_of_ble_eq_true rfl⟩ hP hD [] rfl rfl hl rfl rfl (Nat.le_of_ble_eq_true rfl) dX7_together_170 ⟨Nat.le_refl _, Nat.le_refl _⟩) (fun v33 h => ?_)
        refine va_mmax hx hb (by rw [hml]; exact hl.1.symm) hown (hts _ mw_895) (hts _ mw_896) (hts _ mw_406) (hts _ mw_897) (Nat.le_of_ble_eq_true rfl) (Nat.le_of_ble_eq_true rfl) (Nat.le_of_ble_eq_true rfl) (Nat.le_of_ble_eq_true rfl) dX7_together_173 ?_
        refine lv_topi (fun v34 ev34 => ?_)
        replace h := h v34 ev34
        refine lv_istore (lv' := [(6, .int v34), (0, .ref h0), (7, .int x7), (8, .int x8)]) hx hb dX7_together_176 hl (by decide) rfl (fun ls hl => ?_)
        exact t_X7_together_178 C hA hk101 ihn _ _ _ _ _ _ _ _ _ _ (lv_sub hl [1, 0, 2, 3] rfl) hP hD hS h
set_option maxHeartbeats 4000000 in
set_option maxRecDepth 100000 in
theorem t_X7_together_101 {p : Program} {l : Launch} {e : Env} {s : State} {m : MethodId} {args : Array Value} {below : List Frame} {meth : Method} {c : Code} {D : va_G} {K : Nat → ClassId} {h0 : Nat} {a0 : Nat → Nat} {hs : Nat → Nat} {a1 : Nat → Nat} {r1 : zS} {a2 : Nat → Nat} {a3 : Nat → Nat} {a4 : Nat → Nat} {p1 : Int32} {p2 : Int32} {p3 : Int32} {p4 : Int32} {p5 : Int32} {post : Int32 → (zS) → (zS) → (zS) → (zS) → Prop} {A : Nat → Prop} (C : xC p s m args meth c cX7_together RX7 9 (some .int) D vwCl (xty K)) (hA : ∀ q, s.heap.size ≤ q → A q) : ∀ (n : Nat) (r0 : zS) (r2 : zS) (r3 : zS) (r4 : zS) (x6 : Int32) (x7 : Int32) (H : Heap) (locs : List Loc) (ls : Array Slot), lv_has ls 9 [(0, .ref h0), (6, .int x6), (7, .int x7)] → va_P D vwCl (wX7 K h0 a0 hs r0 ++ (wX1 K (a0 0) a1 r1 ++ (wX6 K (a0 9) a2 r2 ++ (wX6 K (a0 10) a3 r3 ++ (wX5 K (a0 11) a4 r4))))) H → va_D A (wX7 K h0 a0 hs r0 ++ (wX1 K (a0 0) a1 r1 ++ (wX6 K (a0 9) a2 r2 ++ (wX6 K (a0 10) a3 r3 ++ (wX5 K (a0 11) a4 r4))))) → va_S A s.heap H locs → wp_X7_together_101 r1 p1 p2 p3 p4 p5 post n r0 r2 r3 r4 x6 x7 → W p l e ({ frames := 15, cells := 0, slots := 0, locals := 591 } : Room) s m args below meth c H locs 0 0 (MQ below (va_Qi (fun r (u : (zS) × (zS) × (zS) × (zS)) => post r u.1 u.2.1 u.2.2.1 u.2.2.2) (fun (u : (zS) × (zS) × (zS) × (zS)) t => va_P D vwCl (wX7 K h0 a0 hs u.1 ++ (wX1 K (a0 0) a1 r1 ++ (wX6 K (a0 9) a2 u.2.1 ++ (wX6 K (a0 10) a3 u.2.2.1 ++ (wX5 K (a0 11) a4 u.2.2.2))))) t.heap) A) args s 0 0 A) (F0 m 101 ls []) := by
  obtain ⟨hx, hb, hr, hml, hown, hts, hlocks, hK, hT⟩ := id C
  intro n
  induction n with
  | zero =>
    intro r0 r2 r3 r4 x6 x7 H locs ls hl hP hD hS h
    exact False.elim h
  | succ n ihn =>
    intro r0 r2 r3 r4 x6 x7 H locs ls hl hP hD hS h
    rw [wu_X7_together_101] at h
    unfold wb_X7_together_101 at h
    refine lv_iload hx hb dX7_together_101 (lv_at hl 2 rfl) ?_
    refine lv_aload_n hx hb dX7_together_103 rfl (lv_at hl 0 rfl) ?_
    refine va_get (D := D) (ci := 7) (v := .ref (a0 9)) (C := RX7) (T := TX7) (N := 13) hx hb hts inlX7 hown hK hP 0 rfl rfl 9 (by decide) (hts (.fieldLink RX7 61 "UnderTheDesks" "paths" "LUnderTheDesks$Ways;") mw_38) (fun _ h9 => h9) rfl dX7_together_104 ?_
    refine va_get (D := D) (ci := 6) (v := .int (r2.1 0)) (C := RX6) (T := TX6) (N := 5) hx hb hts inlX6 hown hK hP 9 rfl rfl 0 (by decide) (hts (.fieldLink RX7 250 "UnderTheDesks$Ways" "count" "I") mw_755) (fun _ h9 => h9) rfl dX7_together_107 ?_
    refine lv_icmp_ge (tgt := 190) hx hb dX7_together_110 (by decide) (fun c21 => ?_) (fun c21 => ?_)
    · replace h := And.left h c21
      refine lv_iload hx hb dX7_together_190 (lv_at hl 1 rfl) ?_
      refine lv_iconst (v := -1) hx hb dX7_together_192 (by decide) ?_
      refine lv_icmp_ne (tgt := 205) hx hb dX7_together_193 (by decide) (fun c22 => ?_) (fun c22 => ?_)
      · replace h := And.right h c22
        refine lv_iload hx hb dX7_together_205 (lv_at hl 1 rfl) ?_
        exact xrw_i C (r0, r2, r3, r4) h hP hS dX7_together_207
      · replace h := And.left h c22
        refine lv_aload_n hx hb dX7_together_196 rfl (lv_at hl 0 rfl) ?_
        refine lv_bipush (v := -5) hx hb dX7_together_197 (by decide) ?_
        refine xend_rw_i (wf := fun (u : (zS)) => (wX7 K h0 a0 hs u)) (xRunV (wc := (wX7 K h0 a0 hs r0)) (As := [.int (-5 : Int32)]) (rest := []) C (c_X7_refuse h) k_X7_refuse mw_147 ⟨rfl, rfl⟩ ⟨Nat.le_of_ble_eq_true rfl, Nat.le_of_ble_eq_true rfl⟩ hP hD [0, 1, 2] rfl rfl rfl rfl hl rfl rfl (Nat.le_of_ble_eq_true rfl) dX7_together_199 ⟨Nat.le_refl _, Nat.le_refl _⟩) hP hD hS hA [0, 1, 2] rfl rfl (fun _ => rfl) (fun v23 s24 H locs h hP hD hS => ?_)
        replace hP : va_P D vwCl (wX7 K h0 a0 hs s24 ++ (wX1 K (a0 0) a1 r1 ++ (wX6 K (a0 9) a2 r2 ++ (wX6 K (a0 10) a3 r3 ++ (wX5 K (a0 11) a4 r4))))) H := hP
        replace hD : va_D A (wX7 K h0 a0 hs s24 ++ (wX1 K (a0 0) a1 r1 ++ (wX6 K (a0 9) a2 r2 ++ (wX6 K (a0 10) a3 r3 ++ (wX5 K (a0 11) a4 r4))))) := hD
        refine lv_goto (tgt := 207) hx hb dX7_together_202 (by decide) ?_
        exact xrw_i C (s24, r2, r3, r4) h hP hS dX7_together_207
    · replace h := And.right h c21
      refine lv_iconst (v := 0) hx hb dX7_together_113 (by decide) ?_
      refine lv_istore (lv' := [(8, .int (0 : Int32)), (0, .ref h0), (6, .int x6), (7, .int x7)]) hx hb dX7_together_114 hl (by decide) rfl (fun ls hl => ?_)
      obtain ⟨n0, h⟩ := h
      exact t_X7_together_116 C hA ihn n0 _ _ _ _ _ _ _ _ _ _ (lv_sub hl [1, 2, 3, 0] rfl) hP hD hS h
set_option maxHeartbeats 4000000 in
set_option maxRecDepth 100000 in
theorem c_X7_together {l : Launch} {D : va_G} {K : Nat → ClassId} {h0 : Nat} {a0 : Nat → Nat} {hs : Nat → Nat} {r0 : zS} {a1 : Nat → Nat} {r1 : zS} {a2 : Nat → Nat} {r2 : zS} {a3 : Nat → Nat} {r3 : zS} {a4 : Nat → Nat} {r4 : zS} {p1 : Int32} {p2 : Int32} {p3 : Int32} {p4 : Int32} {p5 : Int32} {sz : Nat} {post : Int32 → (zS) → (zS) → (zS) → (zS) → Prop}   (h : wp_X7_together r0 r1 r2 r3 r4 p1 p2 p3 p4 p5 post) : Met l yX7_together (Cond.code yX7_together cX7_together 9 (some .int) :: wsL_law) ({ frames := 15, cells := 0, slots := 0, locals := 591 } : Room) (va_Pc [.ref h0, .int p1, .int p2, .int p3, .int p4, .int p5] (xPre D vwCl (xty K) (wX7 K h0 a0 hs r0 ++ (wX1 K (a0 0) a1 r1 ++ (wX6 K (a0 9) a2 r2 ++ (wX6 K (a0 10) a3 r3 ++ (wX5 K (a0 11) a4 r4))))) sz)) (va_Qi (fun r (u : (zS) × (zS) × (zS) × (zS)) => post r u.1 u.2.1 u.2.2.1 u.2.2.2) (fun (u : (zS) × (zS) × (zS) × (zS)) t => va_P D vwCl (wX7 K h0 a0 hs u.1 ++ (wX1 K (a0 0) a1 r1 ++ (wX6 K (a0 9) a2 u.2.1 ++ (wX6 K (a0 10) a3 u.2.2.1 ++ (wX5 K (a0 11) a4 u.2.2.2))))) t.heap) (va_A (wX7 K h0 a0 hs r0 ++ (wX1 K (a0 0) a1 r1 ++ (wX6 K (a0 9) a2 r2 ++ (wX6 K (a0 10) a3 r3 ++ (wX5 K (a0 11) a4 r4))))) sz)) 0 0 (va_A (wX7 K h0 a0 hs r0 ++ (wX1 K (a0 0) a1 r1 ++ (wX6 K (a0 9) a2 r2 ++ (wX6 K (a0 10) a3 r3 ++ (wX5 K (a0 11) a4 r4))))) sz) := by
  refine xMet (by decide) rfl (Nat.le_of_ble_eq_true rfl) (fun p e s m args below meth c C hnm hP hD hsz ls hl => ?_)
  have hl : lv_has ls 9 [(0, .ref h0), (1, .int p1), (2, .int p2), (3, .int p3), (4, .int p4), (5, .int p5)] := hl
  obtain ⟨hx, hb, hr, hml, hown, hts, hlocks, hK, hT⟩ := id C
  subst hsz
  generalize hAe : va_A (wX7 K h0 a0 hs r0 ++ (wX1 K (a0 0) a1 r1 ++ (wX6 K (a0 9) a2 r2 ++ (wX6 K (a0 10) a3 r3 ++ (wX5 K (a0 11) a4 r4))))) s.heap.size = A at hD ⊢
  have hA : ∀ q : Nat, s.heap.size ≤ q → A q := fun q h => by rw [← hAe]; exact Or.inr h
  have hS : va_S A s.heap s.heap [] := va_S.rf
  have hP : va_P D vwCl (wX7 K h0 a0 hs r0 ++ (wX1 K (a0 0) a1 r1 ++ (wX6 K (a0 9) a2 r2 ++ (wX6 K (a0 10) a3 r3 ++ (wX5 K (a0 11) a4 r4))))) s.heap := hP
  unfold wp_X7_together at h
  refine lv_aload_n hx hb dX7_together_0 rfl (lv_at hl 0 rfl) ?_
  refine lv_iload_n hx hb dX7_together_1 rfl (lv_at hl 1 rfl) ?_
  refine lv_iload_n hx hb dX7_together_2 rfl (lv_at hl 2 rfl) ?_
  refine xend_ro_i (xRunV (wc := (wX7 K h0 a0 hs r0 ++ (wX1 K (a0 0) a1 r1))) (As := [.int p1, .int p2]) (rest := []) C (c_X7_isPair h) k_X7_isPair mw_429 ⟨rfl, rfl⟩ ⟨Nat.le_of_ble_eq_true rfl, Nat.le_of_ble_eq_true rfl⟩ hP hD [0, 1, 2, 3, 4, 5, 6, 7, 8] rfl rfl rfl rfl hl rfl rfl (Nat.le_of_ble_eq_true rfl) dX7_together_3 ⟨Nat.le_refl _, Nat.le_refl _⟩) (fun v1 h => ?_)
  refine lv_if_eq (tgt := 27) hx hb dX7_together_6 (by decide) (fun c2 => ?_) (fun c2 => ?_)
  · replace h := And.left h c2
    exact t_X7_together_27 C hA _ _ _ _ _ _ _ (lv_sub hl [0] rfl) hP hD hS h
  · replace h := And.right h c2
    refine lv_aload_n hx hb dX7_together_9 rfl (lv_at hl 0 rfl) ?_
    refine lv_iload_n hx hb dX7_together_10 rfl (lv_at hl 3 rfl) ?_
    refine lv_iload hx hb dX7_together_11 (lv_at hl 4 rfl) ?_
    refine xend_ro_i (xRunV (wc := (wX7 K h0 a0 hs r0 ++ (wX1 K (a0 0) a1 r1))) (As := [.int p3, .int p4]) (rest := []) C (c_X7_isPair h) k_X7_isPair mw_429 ⟨rfl, rfl⟩ ⟨Nat.le_of_ble_eq_true rfl, Nat.le_of_ble_eq_true rfl⟩ hP hD [0, 1, 2, 3, 4, 5, 6, 7, 8] rfl rfl rfl rfl hl rfl rfl (Nat.le_of_ble_eq_true rfl) dX7_together_13 ⟨Nat.le_refl _, Nat.le_refl _⟩) (fun v5 h => ?_)
    refine lv_if_eq (tgt := 27) hx hb dX7_together_16 (by decide) (fun c6 => ?_) (fun c6 => ?_)
    · replace h := And.left h c6
      exact t_X7_together_27 C hA _ _ _ _ _ _ _ (lv_sub hl [0] rfl) hP hD hS h
    · replace h := And.right h c6
      refine lv_iload hx hb dX7_together_19 (lv_at hl 5 rfl) ?_
      refine xend_ro_i (xRunS (wc := ([] : va_W)) (As := [.int p5]) (rest := []) C (c_X7_isSecond h) k_X7_isSecond mw_725 ⟨rfl, rfl⟩ ⟨Nat.le_of_ble_eq_true rfl, Nat.le_of_ble_eq_true rfl⟩ hP hD [] rfl rfl hl rfl rfl (Nat.le_of_ble_eq_true rfl) dX7_together_21 ⟨Nat.le_refl _, Nat.le_refl _⟩) (fun v7 h => ?_)
      refine lv_if_ne (tgt := 34) hx hb dX7_together_24 (by decide) (fun c8 => ?_) (fun c8 => ?_)
      · replace h := And.right h c8
        refine lv_aload_n hx hb dX7_together_34 rfl (lv_at hl 0 rfl) ?_
        refine va_get (D := D) (ci := 7) (v := .ref (a0 9)) (C := RX7) (T := TX7) (N := 13) hx hb hts inlX7 hown hK hP 0 rfl rfl 9 (by decide) (hts (.fieldLink RX7 61 "UnderTheDesks" "paths" "LUnderTheDesks$Ways;") mw_38) (fun _ h9 => h9) rfl dX7_together_35 ?_
        refine lv_aload_n hx hb dX7_together_38 rfl (lv_at hl 0 rfl) ?_
        refine va_get (D := D) (ci := 7) (v := .ref (a0 0)) (C := RX7) (T := TX7) (N := 13) hx hb hts inlX7 hown hK hP 0 rfl rfl 0 (by decide) (hts (.fieldLink RX7 10 "UnderTheDesks" "room" "LUnderTheDesks$Room;") mw_16) (fun _ h9 => h9) rfl dX7_together_39 ?_
        refine lv_iload_n hx hb dX7_together_42 rfl (lv_at hl 1 rfl) ?_
        refine lv_iload_n hx hb dX7_together_43 rfl (lv_at hl 2 rfl) ?_
        refine xend_rw_v (wf := fun (u : (zS)) => (wX6 K (a0 9) a2 u ++ (wX1 K (a0 0) a1 r1))) (xRunV (wc := (wX6 K (a0 9) a2 r2 ++ (wX1 K (a0 0) a1 r1))) (As := [.ref (a0 0), .int p1, .int p2]) (rest := []) C (c_X6_find h) k_X6_find mw_756 ⟨rfl, rfl⟩ ⟨Nat.le_of_ble_eq_true rfl, Nat.le_of_ble_eq_true rfl⟩ hP hD [9, 10, 11, 12, 13, 3, 4, 5, 6, 7, 8] rfl rfl rfl rfl hl rfl rfl (Nat.le_of_ble_eq_true rfl) dX7_together_44 ⟨Nat.le_refl _, Nat.le_refl _⟩) hP hD hS hA [9, 10, 11, 12, 13, 3, 4, 5, 6, 7, 8] rfl rfl (fun _ => rfl) (fun s10 H locs h hP hD hS => ?_)
        replace hP : va_P D vwCl (wX7 K h0 a0 hs r0 ++ (wX1 K (a0 0) a1 r1 ++ (wX6 K (a0 9) a2 s10 ++ (wX6 K (a0 10) a3 r3 ++ (wX5 K (a0 11) a4 r4))))) H := hP
        replace hD : va_D A (wX7 K h0 a0 hs r0 ++ (wX1 K (a0 0) a1 r1 ++ (wX6 K (a0 9) a2 s10 ++ (wX6 K (a0 10) a3 r3 ++ (wX5 K (a0 11) a4 r4))))) := hD
        refine lv_aload_n hx hb dX7_together_47 rfl (lv_at hl 0 rfl) ?_
        refine va_get (D := D) (ci := 7) (v := .ref (a0 10)) (C := RX7) (T := TX7) (N := 13) hx hb hts inlX7 hown hK hP 0 rfl rfl 10 (by decide) (hts (.fieldLink RX7 65 "UnderTheDesks" "otherPaths" "LUnderTheDesks$Ways;") mw_39) (fun _ h9 => h9) rfl dX7_together_48 ?_
        refine lv_aload_n hx hb dX7_together_51 rfl (lv_at hl 0 rfl) ?_
        refine va_get (D := D) (ci := 7) (v := .ref (a0 0)) (C := RX7) (T := TX7) (N := 13) hx hb hts inlX7 hown hK hP 0 rfl rfl 0 (by decide) (hts (.fieldLink RX7 10 "UnderTheDesks" "room" "LUnderTheDesks$Room;") mw_16) (fun _ h9 => h9) rfl dX7_together_52 ?_
        refine lv_iload_n hx hb dX7_together_55 rfl (lv_at hl 3 rfl) ?_
        refine lv_iload hx hb dX7_together_56 (lv_at hl 4 rfl) ?_
        refine xend_rw_v (wf := fun (u : (zS)) => (wX6 K (a0 10) a3 u ++ (wX1 K (a0 0) a1 r1))) (xRunV (wc := (wX6 K (a0 10) a3 r3 ++ (wX1 K (a0 0) a1 r1))) (As := [.ref (a0 0), .int p3, .int p4]) (rest := []) C (c_X6_find h) k_X6_find mw_756 ⟨rfl, rfl⟩ ⟨Nat.le_of_ble_eq_true rfl, Nat.le_of_ble_eq_true rfl⟩ hP hD [14, 15, 16, 17, 18, 3, 4, 5, 6, 7, 8] rfl rfl rfl rfl hl rfl rfl (Nat.le_of_ble_eq_true rfl) dX7_together_58 ⟨Nat.le_refl _, Nat.le_refl _⟩) hP hD hS hA [14, 15, 16, 17, 18, 3, 4, 5, 6, 7, 8] rfl rfl (fun _ => rfl) (fun s12 H locs h hP hD hS => ?_)
        replace hP : va_P D vwCl (wX7 K h0 a0 hs r0 ++ (wX1 K (a0 0) a1 r1 ++ (wX6 K (a0 9) a2 s10 ++ (wX6 K (a0 10) a3 s12 ++ (wX5 K (a0 11) a4 r4))))) H := hP
        replace hD : va_D A (wX7 K h0 a0 hs r0 ++ (wX1 K (a0 0) a1 r1 ++ (wX6 K (a0 9) a2 s10 ++ (wX6 K (a0 10) a3 s12 ++ (wX5 K (a0 11) a4 r4))))) := hD
        refine lv_aload_n hx hb dX7_together_61 rfl (lv_at hl 0 rfl) ?_
        refine va_get (D := D) (ci := 7) (v := .ref (a0 11)) (C := RX7) (T := TX7) (N := 13) hx hb hts inlX7 hown hK hP 0 rfl rfl 11 (by decide) (hts (.fieldLink RX7 71 "UnderTheDesks" "walk" "LUnderTheDesks$Walk;") mw_43) (fun _ h9 => h9) rfl dX7_together_62 ?_
        refine lv_aload_n hx hb dX7_together_65 rfl (lv_at hl 0 rfl) ?_
        refine va_get (D := D) (ci := 7) (v := .ref (a0 0)) (C := RX7) (T := TX7) (N := 13) hx hb hts inlX7 hown hK hP 0 rfl rfl 0 (by decide) (hts (.fieldLink RX7 10 "UnderTheDesks" "room" "LUnderTheDesks$Room;") mw_16) (fun _ h9 => h9) rfl dX7_together_66 ?_
        refine lv_aload_n hx hb dX7_together_69 rfl (lv_at hl 0 rfl) ?_
        refine va_get (D := D) (ci := 7) (v := .ref (a0 9)) (C := RX7) (T := TX7) (N := 13) hx hb hts inlX7 hown hK hP 0 rfl rfl 9 (by decide) (hts (.fieldLink RX7 61 "UnderTheDesks" "paths" "LUnderTheDesks$Ways;") mw_38) (fun _ h9 => h9) rfl dX7_together_70 ?_
        refine lv_iload hx hb dX7_together_73 (lv_at hl 5 rfl) ?_
        refine xend_rw_v (wf := fun (u : (zS) × (zS)) => (wX5 K (a0 11) a4 u.1 ++ (wX1 K (a0 0) a1 r1 ++ (wX6 K (a0 9) a2 u.2)))) (xRunV (wc := (wX5 K (a0 11) a4 r4 ++ (wX1 K (a0 0) a1 r1 ++ (wX6 K (a0 9) a2 s10)))) (As := [.ref (a0 0), .ref (a0 9), .int p5]) (rest := []) C (c_X5_rate h) k_X5_rate mw_898 ⟨rfl, rfl⟩ ⟨Nat.le_of_ble_eq_true rfl, Nat.le_of_ble_eq_true rfl⟩ hP hD [19, 3, 4, 5, 6, 7, 8, 9, 10, 11, 12, 13] rfl rfl rfl rfl hl rfl rfl (Nat.le_of_ble_eq_true rfl) dX7_together_75 ⟨Nat.le_refl _, Nat.le_refl _⟩) hP hD hS hA [19, 3, 4, 5, 6, 7, 8, 9, 10, 11, 12, 13] rfl rfl (fun _ => rfl) (fun u16 H locs h hP hD hS => ?_)
        obtain ⟨s14, s15⟩ := u16
        replace hP : va_P D vwCl (wX7 K h0 a0 hs r0 ++ (wX1 K (a0 0) a1 r1 ++ (wX6 K (a0 9) a2 s15 ++ (wX6 K (a0 10) a3 s12 ++ (wX5 K (a0 11) a4 s14))))) H := hP
        replace hD : va_D A (wX7 K h0 a0 hs r0 ++ (wX1 K (a0 0) a1 r1 ++ (wX6 K (a0 9) a2 s15 ++ (wX6 K (a0 10) a3 s12 ++ (wX5 K (a0 11) a4 s14))))) := hD
        refine lv_aload_n hx hb dX7_together_78 rfl (lv_at hl 0 rfl) ?_
        refine va_get (D := D) (ci := 7) (v := .ref (a0 11)) (C := RX7) (T := TX7) (N := 13) hx hb hts inlX7 hown hK hP 0 rfl rfl 11 (by decide) (hts (.fieldLink RX7 71 "UnderTheDesks" "walk" "LUnderTheDesks$Walk;") mw_43) (fun _ h9 => h9) rfl dX7_together_79 ?_
        refine lv_aload_n hx hb dX7_together_82 rfl (lv_at hl 0 rfl) ?_
        refine va_get (D := D) (ci := 7) (v := .ref (a0 0)) (C := RX7) (T := TX7) (N := 13) hx hb hts inlX7 hown hK hP 0 rfl rfl 0 (by decide) (hts (.fieldLink RX7 10 "UnderTheDesks" "room" "LUnderTheDesks$Room;") mw_16) (fun _ h9 => h9) rfl dX7_together_83 ?_
        refine lv_aload_n hx hb dX7_together_86 rfl (lv_at hl 0 rfl) ?_
        refine va_get (D := D) (ci := 7) (v := .ref (a0 10)) (C := RX7) (T := TX7) (N := 13) hx hb hts inlX7 hown hK hP 0 rfl rfl 10 (by decide) (hts (.fieldLink RX7 65 "UnderTheDesks" "otherPaths" "LUnderTheDesks$Ways;") mw_39) (fun _ h9 => h9) rfl dX7_together_87 ?_
        refine lv_iload hx hb dX7_together_90 (lv_at hl 5 rfl) ?_
        refine xend_rw_v (wf := fun (u : (zS) × (zS)) => (wX5 K (a0 11) a4 u.1 ++ (wX1 K (a0 0) a1 r1 ++ (wX6 K (a0 10) a3 u.2)))) (xRunV (wc := (wX5 K (a0 11) a4 s14 ++ (wX1 K (a0 0) a1 r1 ++ (wX6 K (a0 10) a3 s12)))) (As := [.ref (a0 0), .ref (a0 10), .int p5]) (rest := []) C (c_X5_rate h) k_X5_rate mw_898 ⟨rfl, rfl⟩ ⟨Nat.le_of_ble_eq_true rfl, Nat.le_of_ble_eq_true rfl⟩ hP hD [19, 3, 4, 5, 6, 7, 8, 14, 15, 16, 17, 18] rfl rfl rfl rfl hl rfl rfl (Nat.le_of_ble_eq_true rfl) dX7_together_92 ⟨Nat.le_refl _, Nat.le_refl _⟩) hP hD hS hA [19, 3, 4, 5, 6, 7, 8, 14, 15, 16, 17, 18] rfl rfl (fun _ => rfl) (fun u20 H locs h hP hD hS => ?_)
        obtain ⟨s18, s19⟩ := u20
        replace hP : va_P D vwCl (wX7 K h0 a0 hs r0 ++ (wX1 K (a0 0) a1 r1 ++ (wX6 K (a0 9) a2 s15 ++ (wX6 K (a0 10) a3 s19 ++ (wX5 K (a0 11) a4 s18))))) H := hP
        replace hD : va_D A (wX7 K h0 a0 hs r0 ++ (wX1 K (a0 0) a1 r1 ++ (wX6 K (a0 9) a2 s15 ++ (wX6 K (a0 10) a3 s19 ++ (wX5 K (a0 11) a4 s18))))) := hD
        refine lv_iconst (v := -1) hx hb dX7_together_95 (by decide) ?_
        refine lv_istore (lv' := [(6, .int (-1 : Int32)), (0, .ref h0), (1, .int p1), (2, .int p2), (3, .int p3), (4, .int p4), (5, .int p5)]) hx hb dX7_together_96 hl (by decide) rfl (fun ls hl => ?_)
        refine lv_iconst (v := 0) hx hb dX7_together_98 (by decide) ?_
        refine lv_istore (lv' := [(7, .int (0 : Int32)), (6, .int (-1 : Int32)), (0, .ref h0), (1, .int p1), (2, .int p2), (3, .int p3), (4, .int p4), (5, .int p5)]) hx hb dX7_together_99 hl (by decide) rfl (fun ls hl => ?_)
        obtain ⟨n0, h⟩ := h
        exact t_X7_together_101 C hA n0 _ _ _ _ _ _ _ _ _ (lv_sub hl [2, 1, 0] rfl) hP hD hS h
      · replace h := And.left h c8
        exact t_X7_together_27 C hA _ _ _ _ _ _ _ (lv_sub hl [0] rfl) hP hD hS h
