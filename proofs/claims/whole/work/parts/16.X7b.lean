def wp_X7_chanceIn (r0 : zS) (r1 : zS) (r2 : zS) (r3 : zS) (p2 : Int32) (p3 : Int32) (p4 : Int32) (post : Int32 → (zS) → (zS) → Prop) : Prop :=
  wp_X6_find r2 r1 p2 p3 (fun s2 => wp_X5_takeSurest r3 r1 s2 p4 (0 : Int32) (fun v3 s4 => (v3 = 0 → post (-1 : Int32) s2 s4) ∧ (¬ v3 = 0 → post (s4.1 1) s2 s4)))
set_option maxHeartbeats 4000000 in
set_option maxRecDepth 100000 in
theorem c_X7_chanceIn {l : Launch} {D : va_G} {K : Nat → ClassId} {h0 : Nat} {a0 : Nat → Nat} {hs : Nat → Nat} {r0 : zS} {h1 : Nat} {a1 : Nat → Nat} {r1 : zS} {a2 : Nat → Nat} {r2 : zS} {a3 : Nat → Nat} {r3 : zS} {p2 : Int32} {p3 : Int32} {p4 : Int32} {sz : Nat} {post : Int32 → (zS) → (zS) → Prop}   (h : wp_X7_chanceIn r0 r1 r2 r3 p2 p3 p4 post) : Met l yX7_chanceIn (Cond.code yX7_chanceIn cX7_chanceIn 5 (some .int) :: wsL_law) ({ frames := 15, cells := 0, slots := 0, locals := 591 } : Room) (va_Pc [.ref h0, .ref h1, .int p2, .int p3, .int p4] (xPre D vwCl (xty K) (wX7 K h0 a0 hs r0 ++ (wX1 K h1 a1 r1 ++ (wX6 K (a0 9) a2 r2 ++ (wX5 K (a0 11) a3 r3)))) sz)) (va_Qi (fun r (u : (zS) × (zS)) => post r u.1 u.2) (fun (u : (zS) × (zS)) t => va_P D vwCl (wX7 K h0 a0 hs r0 ++ (wX1 K h1 a1 r1 ++ (wX6 K (a0 9) a2 u.1 ++ (wX5 K (a0 11) a3 u.2)))) t.heap) (va_A (wX7 K h0 a0 hs r0 ++ (wX1 K h1 a1 r1 ++ (wX6 K (a0 9) a2 r2 ++ (wX5 K (a0 11) a3 r3)))) sz)) 0 0 (va_A (wX7 K h0 a0 hs r0 ++ (wX1 K h1 a1 r1 ++ (wX6 K (a0 9) a2 r2 ++ (wX5 K (a0 11) a3 r3)))) sz) := by
  refine xMet (by decide) rfl (Nat.le_of_ble_eq_true rfl) (fun p e s m args below meth c C hnm hP hD hsz ls hl => ?_)
  have hl : lv_has ls 5 [(0, .ref h0), (1, .ref h1), (2, .int p2), (3, .int p3), (4, .int p4)] := hl
  obtain ⟨hx, hb, hr, hml, hown, hts, hlocks, hK, hT⟩ := id C
  subst hsz
  generalize hAe : va_A (wX7 K h0 a0 hs r0 ++ (wX1 K h1 a1 r1 ++ (wX6 K (a0 9) a2 r2 ++ (wX5 K (a0 11) a3 r3)))) s.heap.size = A at hD ⊢
  have hA : ∀ q : Nat, s.heap.size ≤ q → A q := fun q h => by rw [← hAe]; exact Or.inr h
  have hS : va_S A s.heap s.heap [] := va_S.rf
  have hP : va_P D vwCl (wX7 K h0 a0 hs r0 ++ (wX1 K h1 a1 r1 ++ (wX6 K (a0 9) a2 r2 ++ (wX5 K (a0 11) a3 r3)))) s.heap := hP
  unfold wp_X7_chanceIn at h
  refine lv_aload_n hx hb dX7_chanceIn_0 rfl (lv_at hl 0 rfl) ?_
  refine va_get (D := D) (ci := 7) (v := .ref (a0 9)) (C := RX7) (T := TX7) (N := 13) hx hb hts inlX7 hown hK hP 0 rfl rfl 9 (by decide) (hts (.fieldLink RX7 61 "UnderTheDesks" "paths" "LUnderTheDesks$Ways;") mw_38) (fun _ h9 => h9) rfl dX7_chanceIn_1 ?_
  refine lv_aload_n hx hb dX7_chanceIn_4 rfl (lv_at hl 1 rfl) ?_
  refine lv_iload_n hx hb dX7_chanceIn_5 rfl (lv_at hl 2 rfl) ?_
  refine lv_iload_n hx hb dX7_chanceIn_6 rfl (lv_at hl 3 rfl) ?_
  refine xend_rw_v (wf := fun (u : (zS)) => (wX6 K (a0 9) a2 u ++ (wX1 K h1 a1 r1))) (xRunV (wc := (wX6 K (a0 9) a2 r2 ++ (wX1 K h1 a1 r1))) (As := [.ref h1, .int p2, .int p3]) (rest := []) C (c_X6_find h) k_X6_find mw_756 ⟨rfl, rfl⟩ ⟨Nat.le_of_ble_eq_true rfl, Nat.le_of_ble_eq_true rfl⟩ hP hD [9, 10, 11, 12, 13, 3, 4, 5, 6, 7, 8] rfl rfl rfl rfl hl rfl rfl (Nat.le_of_ble_eq_true rfl) dX7_chanceIn_7 ⟨Nat.le_refl _, Nat.le_refl _⟩) hP hD hS hA [9, 10, 11, 12, 13, 3, 4, 5, 6, 7, 8] rfl rfl (fun _ => rfl) (fun s2 H locs h hP hD hS => ?_)
  replace hP : va_P D vwCl (wX7 K h0 a0 hs r0 ++ (wX1 K h1 a1 r1 ++ (wX6 K (a0 9) a2 s2 ++ (wX5 K (a0 11) a3 r3)))) H := hP
  replace hD : va_D A (wX7 K h0 a0 hs r0 ++ (wX1 K h1 a1 r1 ++ (wX6 K (a0 9) a2 s2 ++ (wX5 K (a0 11) a3 r3)))) := hD
  refine lv_aload_n hx hb dX7_chanceIn_10 rfl (lv_at hl 0 rfl) ?_
  refine va_get (D := D) (ci := 7) (v := .ref (a0 11)) (C := RX7) (T := TX7) (N := 13) hx hb hts inlX7 hown hK hP 0 rfl rfl 11 (by decide) (hts (.fieldLink RX7 71 "UnderTheDesks" "walk" "LUnderTheDesks$Walk;") mw_43) (fun _ h9 => h9) rfl dX7_chanceIn_11 ?_
  refine lv_aload_n hx hb dX7_chanceIn_14 rfl (lv_at hl 1 rfl) ?_
  refine lv_aload_n hx hb dX7_chanceIn_15 rfl (lv_at hl 0 rfl) ?_
  refine va_get (D := D) (ci := 7) (v := .ref (a0 9)) (C := RX7) (T := TX7) (N := 13) hx hb hts inlX7 hown hK hP 0 rfl rfl 9 (by decide) (hts (.fieldLink RX7 61 "UnderTheDesks" "paths" "LUnderTheDesks$Ways;") mw_38) (fun _ h9 => h9) rfl dX7_chanceIn_16 ?_
  refine lv_iload hx hb dX7_chanceIn_19 (lv_at hl 4 rfl) ?_
  refine lv_iconst (v := 0) hx hb dX7_chanceIn_21 (by decide) ?_
  refine xend_rw_i (wf := fun (u : (zS)) => (wX5 K (a0 11) a3 u ++ (wX1 K h1 a1 r1 ++ (wX6 K (a0 9) a2 s2)))) (xRunV (wc := (wX5 K (a0 11) a3 r3 ++ (wX1 K h1 a1 r1 ++ (wX6 K (a0 9) a2 s2)))) (As := [.ref h1, .ref (a0 9), .int p4, .int (0 : Int32)]) (rest := []) C (c_X5_takeSurest h) k_X5_takeSurest mw_823 ⟨rfl, rfl⟩ ⟨Nat.le_of_ble_eq_true rfl, Nat.le_of_ble_eq_true rfl⟩ hP hD [14, 3, 4, 5, 6, 7, 8, 9, 10, 11, 12, 13] rfl rfl rfl rfl hl rfl rfl (Nat.le_of_ble_eq_true rfl) dX7_chanceIn_22 ⟨Nat.le_refl _, Nat.le_refl _⟩) hP hD hS hA [14, 3, 4, 5, 6, 7, 8, 9, 10, 11, 12, 13] rfl rfl (fun _ => rfl) (fun v3 s4 H locs h hP hD hS => ?_)
  replace hP : va_P D vwCl (wX7 K h0 a0 hs r0 ++ (wX1 K h1 a1 r1 ++ (wX6 K (a0 9) a2 s2 ++ (wX5 K (a0 11) a3 s4)))) H := hP
  replace hD : va_D A (wX7 K h0 a0 hs r0 ++ (wX1 K h1 a1 r1 ++ (wX6 K (a0 9) a2 s2 ++ (wX5 K (a0 11) a3 s4)))) := hD
  refine lv_if_eq (tgt := 38) hx hb dX7_chanceIn_25 (by decide) (fun c5 => ?_) (fun c5 => ?_)
  · replace h := And.left h c5
    refine lv_iconst (v := -1) hx hb dX7_chanceIn_38 (by decide) ?_
    exact xrw_i C (s2, s4) h hP hS dX7_chanceIn_39
  · replace h := And.right h c5
    refine lv_aload_n hx hb dX7_chanceIn_28 rfl (lv_at hl 0 rfl) ?_
    refine va_get (D := D) (ci := 7) (v := .ref (a0 11)) (C := RX7) (T := TX7) (N := 13) hx hb hts inlX7 hown hK hP 0 rfl rfl 11 (by decide) (hts (.fieldLink RX7 71 "UnderTheDesks" "walk" "LUnderTheDesks$Walk;") mw_43) (fun _ h9 => h9) rfl dX7_chanceIn_29 ?_
    refine va_get (D := D) (ci := 5) (v := .int (s4.1 1)) (C := RX5) (T := TX5) (N := 4) hx hb hts inlX5 hown hK hP 14 rfl rfl 1 (by decide) (hts (.fieldLink RX7 296 "UnderTheDesks$Walk" "chance" "I") mw_821) (fun _ h9 => h9) rfl dX7_chanceIn_32 ?_
    refine lv_goto (tgt := 39) hx hb dX7_chanceIn_35 (by decide) ?_
    exact xrw_i C (s2, s4) h hP hS dX7_chanceIn_39

def wp_X7_spot_24 (r1 : zS) (p1 : Int32) (p2 : Int32) (p3 : Int32) (p4 : Int32) (post : Int32 → (zS) → (zS) → (zS) → (zS) → Prop) (r0 : zS) (r2 : zS) (r3 : zS) (r4 : zS) : Prop :=
  wp_X7_refuse r0 (-2 : Int32) (fun v3 s4 => post v3 s4 r2 r3 r4)
def wp_X7_spot_140 (r1 : zS) (p1 : Int32) (p2 : Int32) (p3 : Int32) (p4 : Int32) (post : Int32 → (zS) → (zS) → (zS) → (zS) → Prop) (k57 : (zS) → (zS) → (zS) → (zS) → Int32 → Int32 → Int32 → Prop) (r0 : zS) (r2 : zS) (r3 : zS) (r4 : zS) (x5 : Int32) (x6 : Int32) (x7 : Int32) : Prop :=
  ∀ v18 : Int32, v18 = x7 + (1 : Int32) → k57 r0 r2 r3 r4 x5 x6 v18
def wp_X7_spot_132 (r1 : zS) (p1 : Int32) (p2 : Int32) (p3 : Int32) (p4 : Int32) (post : Int32 → (zS) → (zS) → (zS) → (zS) → Prop) (k57 : (zS) → (zS) → (zS) → (zS) → Int32 → Int32 → Int32 → Prop) (r0 : zS) (r2 : zS) (r3 : zS) (r4 : zS) (x7 : Int32) (x8 : Int32) : Prop :=
  wp_X7_spot_140 r1 p1 p2 p3 p4 post k57 r0 r2 r3 r4 x7 x8 x7
def wb_X7_spot_57 (r1 : zS) (p1 : Int32) (p2 : Int32) (p3 : Int32) (p4 : Int32) (post : Int32 → (zS) → (zS) → (zS) → (zS) → Prop) (ih : (zS) → (zS) → (zS) → (zS) → Int32 → Int32 → Int32 → Prop) (r0 : zS) (r2 : zS) (r3 : zS) (r4 : zS) (x5 : Int32) (x6 : Int32) (x7 : Int32) : Prop :=
  wp_X1_deskCount r1 (fun v11 => (v11 ≤ x7 → (x5 = (-1 : Int32) → wp_X7_refuse r0 (-5 : Int32) (fun v14 s15 => post v14 s15 r2 r3 r4)) ∧ (¬ x5 = (-1 : Int32) → post x5 r0 r2 r3 r4)) ∧ (¬ v11 ≤ x7 → wp_X1_holderOf r1 x7 (fun v16 => (v16 = (-1 : Int32) → wp_X1_takeOver r2 r1 (fun s20 => wp_X1_seat s20 p1 x7 p2 (fun v21 s22 => wp_X7_chanceIn r0 s22 r3 r4 p3 p4 (0 : Int32) (fun v23 s24 s25 => (x5 = (-1 : Int32) → wp_X7_spot_132 r1 p1 p2 p3 p4 post ih r0 s22 s24 s25 x7 v23) ∧ (¬ x5 = (-1 : Int32) → (v23 ≤ x6 → wp_X7_spot_140 r1 p1 p2 p3 p4 post ih r0 s22 s24 s25 x5 x6 x7) ∧ (¬ v23 ≤ x6 → wp_X7_spot_132 r1 p1 p2 p3 p4 post ih r0 s22 s24 s25 x7 v23)))))) ∧ (¬ v16 = (-1 : Int32) → wp_X7_spot_140 r1 p1 p2 p3 p4 post ih r0 r2 r3 r4 x5 x6 x7))))
def wp_X7_spot_57 (r1 : zS) (p1 : Int32) (p2 : Int32) (p3 : Int32) (p4 : Int32) (post : Int32 → (zS) → (zS) → (zS) → (zS) → Prop) (n : Nat) : (zS) → (zS) → (zS) → (zS) → Int32 → Int32 → Int32 → Prop := Nat.rec (motive := fun _ => (zS) → (zS) → (zS) → (zS) → Int32 → Int32 → Int32 → Prop) (fun _ _ _ _ _ _ _ => False) (fun _ ih => wb_X7_spot_57 r1 p1 p2 p3 p4 post ih) n
theorem wu_X7_spot_57 (r1 : zS) (p1 : Int32) (p2 : Int32) (p3 : Int32) (p4 : Int32) (post : Int32 → (zS) → (zS) → (zS) → (zS) → Prop) (n : Nat) (r0 : zS) (r2 : zS) (r3 : zS) (r4 : zS) (x5 : Int32) (x6 : Int32) (x7 : Int32) : wp_X7_spot_57 r1 p1 p2 p3 p4 post (n + 1) r0 r2 r3 r4 x5 x6 x7 = wb_X7_spot_57 r1 p1 p2 p3 p4 post (wp_X7_spot_57 r1 p1 p2 p3 p4 post n) r0 r2 r3 r4 x5 x6 x7 := rfl
def wp_X7_spot (r0 : zS) (r1 : zS) (r2 : zS) (r3 : zS) (r4 : zS) (p1 : Int32) (p2 : Int32) (p3 : Int32) (p4 : Int32) (post : Int32 → (zS) → (zS) → (zS) → (zS) → Prop) : Prop :=
  wp_X7_isKind p1 (fun v1 => (v1 = 0 → wp_X7_spot_24 r1 p1 p2 p3 p4 post r0 r2 r3 r4) ∧ (¬ v1 = 0 → wp_X7_isMark p2 (fun v5 => (v5 = 0 → wp_X7_spot_24 r1 p1 p2 p3 p4 post r0 r2 r3 r4) ∧ (¬ v5 = 0 → wp_X7_isPair r0 r1 p3 p4 (fun v7 => (v7 = 0 → wp_X7_spot_24 r1 p1 p2 p3 p4 post r0 r2 r3 r4) ∧ (¬ v7 = 0 → wp_X1_isFull r1 (fun v9 => (v9 = 0 → ∃ n : Nat, wp_X7_spot_57 r1 p1 p2 p3 p4 post n r0 r2 r3 r4 (-1 : Int32) (-1 : Int32) (0 : Int32)) ∧ (¬ v9 = 0 → wp_X7_refuse r0 (-6 : Int32) (fun v29 s30 => post v29 s30 r2 r3 r4)))))))))
set_option maxHeartbeats 4000000 in
set_option maxRecDepth 100000 in
theorem t_X7_spot_24 {p : Program} {l : Launch} {e : Env} {s : State} {m : MethodId} {args : Array Value} {below : List Frame} {meth : Method} {c : Code} {D : va_G} {K : Nat → ClassId} {h0 : Nat} {a0 : Nat → Nat} {hs : Nat → Nat} {a1 : Nat → Nat} {r1 : zS} {a2 : Nat → Nat} {a3 : Nat → Nat} {a4 : Nat → Nat} {p1 : Int32} {p2 : Int32} {p3 : Int32} {p4 : Int32} {post : Int32 → (zS) → (zS) → (zS) → (zS) → Prop} {A : Nat → Prop} (C : xC p s m args meth c cX7_spot RX7 9 (some .int) D vwCl (xty K)) (hA : ∀ q, s.heap.size ≤ q → A q) : ∀ (r0 : zS) (r2 : zS) (r3 : zS) (r4 : zS) (H : Heap) (locs : List Loc) (ls : Array Slot), lv_has ls 9 [(0, .ref h0)] → va_P D vwCl (wX7 K h0 a0 hs r0 ++ (wX1 K (a0 0) a1 r1 ++ (wX1 K (a0 1) a2 r2 ++ (wX6 K (a0 9) a3 r3 ++ (wX5 K (a0 11) a4 r4))))) H → va_D A (wX7 K h0 a0 hs r0 ++ (wX1 K (a0 0) a1 r1 ++ (wX1 K (a0 1) a2 r2 ++ (wX6 K (a0 9) a3 r3 ++ (wX5 K (a0 11) a4 r4))))) → va_S A s.heap H locs → wp_X7_spot_24 r1 p1 p2 p3 p4 post r0 r2 r3 r4 → W p l e ({ frames := 16, cells := 0, slots := 0, locals := 615 } : Room) s m args below meth c H locs 0 0 (MQ below (va_Qi (fun r (u : (zS) × (zS) × (zS) × (zS)) => post r u.1 u.2.1 u.2.2.1 u.2.2.2) (fun (u : (zS) × (zS) × (zS) × (zS)) t => va_P D vwCl (wX7 K h0 a0 hs u.1 ++ (wX1 K (a0 0) a1 r1 ++ (wX1 K (a0 1) a2 u.2.1 ++ (wX6 K (a0 9) a3 u.2.2.1 ++ (wX5 K (a0 11) a4 u.2.2.2))))) t.heap) A) args s 0 0 A) (F0 m 24 ls []) := by
  obtain ⟨hx, hb, hr, hml, hown, hts, hlocks, hK, hT⟩ := id C
  intro r0 r2 r3 r4 H locs ls hl hP hD hS h
  unfold wp_X7_spot_24 at h
  refine lv_aload_n hx hb dX7_spot_24 rfl (lv_at hl 0 rfl) ?_
  refine lv_bipush (v := -2) hx hb dX7_spot_25 (by decide) ?_
  refine xend_rw_i (wf := fun (u : (zS)) => (wX7 K h0 a0 hs u)) (xRunV (wc := (wX7 K h0 a0 hs r0)) (As := [.int (-2 : Int32)]) (rest := []) C (c_X7_refuse h) k_X7_refuse mw_147 ⟨rfl, rfl⟩ ⟨Nat.le_of_ble_eq_true rfl, Nat.le_of_ble_eq_true rfl⟩ hP hD [0, 1, 2] rfl rfl rfl rfl hl rfl rfl (Nat.le_of_ble_eq_true rfl) dX7_spot_27 ⟨Nat.le_refl _, Nat.le_refl _⟩) hP hD hS hA [0, 1, 2] rfl rfl (fun _ => rfl) (fun v3 s4 H locs h hP hD hS => ?_)
  replace hP : va_P D vwCl (wX7 K h0 a0 hs s4 ++ (wX1 K (a0 0) a1 r1 ++ (wX1 K (a0 1) a2 r2 ++ (wX6 K (a0 9) a3 r3 ++ (wX5 K (a0 11) a4 r4))))) H := hP
  replace hD : va_D A (wX7 K h0 a0 hs s4 ++ (wX1 K (a0 0) a1 r1 ++ (wX1 K (a0 1) a2 r2 ++ (wX6 K (a0 9) a3 r3 ++ (wX5 K (a0 11) a4 r4))))) := hD
  exact xrw_i C (s4, r2, r3, r4) h hP hS dX7_spot_30
set_option maxHeartbeats 4000000 in
set_option maxRecDepth 100000 in
theorem t_X7_spot_140 {p : Program} {l : Launch} {e : Env} {s : State} {m : MethodId} {args : Array Value} {below : List Frame} {meth : Method} {c : Code} {D : va_G} {K : Nat → ClassId} {h0 : Nat} {a0 : Nat → Nat} {hs : Nat → Nat} {a1 : Nat → Nat} {r1 : zS} {a2 : Nat → Nat} {a3 : Nat → Nat} {a4 : Nat → Nat} {p1 : Int32} {p2 : Int32} {p3 : Int32} {p4 : Int32} {post : Int32 → (zS) → (zS) → (zS) → (zS) → Prop} {A : Nat → Prop} (C : xC p s m args meth c cX7_spot RX7 9 (some .int) D vwCl (xty K)) (hA : ∀ q, s.heap.size ≤ q → A q) {k57 : (zS) → (zS) → (zS) → (zS) → Int32 → Int32 → Int32 → Prop} (hk57 : ∀ (r0 : zS) (r2 : zS) (r3 : zS) (r4 : zS) (x5 : Int32) (x6 : Int32) (x7 : Int32) (H : Heap) (locs : List Loc) (ls : Array Slot), lv_has ls 9 [(0, .ref h0), (1, .int p1), (2, .int p2), (3, .int p3), (4, .int p4), (5, .int x5), (6, .int x6), (7, .int x7)] → va_P D vwCl (wX7 K h0 a0 hs r0 ++ (wX1 K (a0 0) a1 r1 ++ (wX1 K (a0 1) a2 r2 ++ (wX6 K (a0 9) a3 r3 ++ (wX5 K (a0 11) a4 r4))))) H → va_D A (wX7 K h0 a0 hs r0 ++ (wX1 K (a0 0) a1 r1 ++ (wX1 K (a0 1) a2 r2 ++ (wX6 K (a0 9) a3 r3 ++ (wX5 K (a0 11) a4 r4))))) → va_S A s.heap H locs → k57 r0 r2 r3 r4 x5 x6 x7  → W p l e ({ frames := 16, cells := 0, slots := 0, locals := 615 } : Room) s m args below meth c H locs 0 0 (MQ below (va_Qi (fun r (u : (zS) × (zS) × (zS) × (zS)) => post r u.1 u.2.1 u.2.2.1 u.2.2.2) (fun (u : (zS) × (zS) × (zS) × (zS)) t => va_P D vwCl (wX7 K h0 a0 hs u.1 ++ (wX1 K (a0 0) a1 r1 ++ (wX1 K (a0 1) a2 u.2.1 ++ (wX6 K (a0 9) a3 u.2.2.1 ++ (wX5 K (a0 11) a4 u.2.2.2))))) t.heap) A) args s 0 0 A) (F0 m 57 ls [])) : ∀ (r0 : zS) (r2 : zS) (r3 : zS) (r4 : zS) (x5 : Int32) (x6 : Int32) (x7 : Int32) (H : Heap) (locs : List Loc) (ls : Array Slot), lv_has ls 9 [(0, .ref h0), (1, .int p1), (2, .int p2), (3, .int p3), (4, .int p4), (5, .int x5), (6, .int x6), (7, .int x7)] → va_P D vwCl (wX7 K h0 a0 hs r0 ++ (wX1 K (a0 0) a1 r1 ++ (wX1 K (a0 1) a2 r2 ++ (wX6 K (a0 9) a3 r3 ++ (wX5 K (a0 11) a4 r4))))) H → va_D A (wX7 K h0 a0 hs r0 ++ (wX1 K (a0 0) a1 r1 ++ (wX1 K (a0 1) a2 r2 ++ (wX6 K (a0 9) a3 r3 ++ (wX5 K (a0 11) a4 r4))))) → va_S A s.heap H locs → wp_X7_spot_140 r1 p1 p2 p3 p4 post k57 r0 r2 r3 r4 x5 x6 x7 → W p l e ({ frames := 16, cells := 0, slots := 0, locals := 615 } : Room) s m args below meth c H locs 0 0 (MQ below (va_Qi (fun r (u : (zS) × (zS) × (zS) × (zS)) => post r u.1 u.2.1 u.2.2.1 u.2.2.2) (fun (u : (zS) × (zS) × (zS) × (zS)) t => va_P D vwCl (wX7 K h0 a0 hs u.1 ++ (wX1 K (a0 0) a1 r1 ++ (wX1 K (a0 1) a2 u.2.1 ++ (wX6 K (a0 9) a3 u.2.2.1 ++ (wX5 K (a0 11) a4 u.2.2.2))))) t.heap) A) args s 0 0 A) (F0 m 140 ls []) := by
  obtain ⟨hx, hb, hr, hml, hown, hts, hlocks, hK, hT⟩ := id C
  intro r0 r2 r3 r4 x5 x6 x7 H locs ls hl hP hD hS h
  unfold wp_X7_spot_140 at h
  obtain ⟨v18, ev18⟩ : ∃ y : Int32, y = x7 + (1 : Int32) := ⟨_, rfl⟩
  replace h := h v18 ev18
  refine lv_iinc (v := v18) (lv' := [(7, .int v18), (0, .ref h0), (1, .int p1), (2, .int p2), (3, .int p3), (4, .int p4), (5, .int x5), (6, .int x6)]) hx hb dX7_spot_140 hl (k := 7) rfl (by rw [ev18]; rfl) (by decide) rfl (fun ls hl => ?_)
  refine lv_goto (tgt := 57) hx hb dX7_spot_143 (by decide) ?_
  exact hk57 _ _ _ _ _ _ _ _ _ _ (lv_sub hl [1, 2, 3, 4, 5, 6, 7, 0] rfl) hP hD hS h
set_option maxHeartbeats 4000000 in
set_option maxRecDepth 100000 in
theorem t_X7_spot_132 {p : Program} {l : Launch} {e : Env} {s : State} {m : MethodId} {args : Array Value} {below : List Frame} {meth : Method} {c : Code} {D : va_G} {K : Nat → ClassId} {h0 : Nat} {a0 : Nat → Nat} {hs : Nat → Nat} {a1 : Nat → Nat} {r1 : zS} {a2 : Nat → Nat} {a3 : Nat → Nat} {a4 : Nat → Nat} {p1 : Int32} {p2 : Int32} {p3 : Int32} {p4 : Int32} {post : Int32 → (zS) → (zS) → (zS) → (zS) → Prop} {A : Nat → Prop} (C : xC p s m args meth c cX7_spot RX7 9 (some .int) D vwCl (xty K)) (hA : ∀ q, s.heap.size ≤ q → A q) {k57 : (zS) → (zS) → (zS) → (zS) → Int32 → Int32 → Int32 → Prop} (hk57 : ∀ (r0 : zS) (r2 : zS) (r3 : zS) (r4 : zS) (x5 : Int32) (x6 : Int32) (x7 : Int32) (H : Heap) (locs : List Loc) (ls : Array Slot), lv_has ls 9 [(0, .ref h0), (1, .int p1), (2, .int p2), (3, .int p3), (4, .int p4), (5, .int x5), (6, .int x6), (7, .int x7)] → va_P D vwCl (wX7 K h0 a0 hs r0 ++ (wX1 K (a0 0) a1 r1 ++ (wX1 K (a0 1) a2 r2 ++ (wX6 K (a0 9) a3 r3 ++ (wX5 K (a0 11) a4 r4))))) H → va_D A (wX7 K h0 a0 hs r0 ++ (wX1 K (a0 0) a1 r1 ++ (wX1 K (a0 1) a2 r2 ++ (wX6 K (a0 9) a3 r3 ++ (wX5 K (a0 11) a4 r4))))) → va_S A s.heap H locs → k57 r0 r2 r3 r4 x5 x6 x7  → W p l e ({ frames := 16, cells := 0, slots := 0, locals := 615 } : Room) s m args below meth c H locs 0 0 (MQ below (va_Qi (fun r (u : (zS) × (zS) × (zS) × (zS)) => post r u.1 u.2.1 u.2.2.1 u.2.2.2) (fun (u : (zS) × (zS) × (zS) × (zS)) t => va_P D vwCl (wX7 K h0 a0 hs u.1 ++ (wX1 K (a0 0) a1 r1 ++ (wX1 K (a0 1) a2 u.2.1 ++ (wX6 K (a0 9) a3 u.2.2.1 ++ (wX5 K (a0 11) a4 u.2.2.2))))) t.heap) A) args s 0 0 A) (F0 m 57 ls [])) : ∀ (r0 : zS) (r2 : zS) (r3 : zS) (r4 : zS) (x7 : Int32) (x8 : Int32) (H : Heap) (locs : List Loc) (ls : Array Slot), lv_has ls 9 [(0, .ref h0), (1, .int p1), (2, .int p2), (3, .int p3), (4, .int p4), (7, .int x7), (8, .int x8)] → va_P D vwCl (wX7 K h0 a0 hs r0 ++ (wX1 K (a0 0) a1 r1 ++ (wX1 K (a0 1) a2 r2 ++ (wX6 K (a0 9) a3 r3 ++ (wX5 K (a0 11) a4 r4))))) H → va_D A (wX7 K h0 a0 hs r0 ++ (wX1 K (a0 0) a1 r1 ++ (wX1 K (a0 1) a2 r2 ++ (wX6 K (a0 9) a3 r3 ++ (wX5 K (a0 11) a4 r4))))) → va_S A s.heap H locs → wp_X7_spot_132 r1 p1 p2 p3 p4 post k57 r0 r2 r3 r4 x7 x8 → W p l e ({ frames := 16, cells := 0, slots := 0, locals := 615 } : Room) s m args below meth c H locs 0 0 (MQ below (va_Qi (fun r (u : (zS) × (zS) × (zS) × (zS)) => post r u.1 u.2.1 u.2.2.1 u.2.2.2) (fun (u : (zS) × (zS) × (zS) × (zS)) t => va_P D vwCl (wX7 K h0 a0 hs u.1 ++ (wX1 K (a0 0) a1 r1 ++ (wX1 K (a0 1) a2 u.2.1 ++ (wX6 K (a0 9) a3 u.2.2.1 ++ (wX5 K (a0 11) a4 u.2.2.2))))) t.heap) A) args s 0 0 A) (F0 m 132 ls []) := by
  obtain ⟨hx, hb, hr, hml, hown, hts, hlocks, hK, hT⟩ := id C
  intro r0 r2 r3 r4 x7 x8 H locs ls hl hP hD hS h
  unfold wp_X7_spot_132 at h
  refine lv_iload hx hb dX7_spot_132 (lv_at hl 5 rfl) ?_
  refine lv_istore (lv' := [(5, .int x7), (0, .ref h0), (1, .int p1), (2, .int p2), (3, .int p3), (4, .int p4), (7, .int x7), (8, .int x8)]) hx hb dX7_spot_134 hl (by decide) rfl (fun ls hl => ?_)
  refine lv_iload hx hb dX7_spot_136 (lv_at hl 7 rfl) ?_
  refine lv_istore (lv' := [(6, .int x8), (5, .int x7), (0, .ref h0), (1, .int p1), (2, .int p2), (3, .int p3), (4, .int p4), (7, .int x7), (8, .int x8)]) hx hb dX7_spot_138 hl (by decide) rfl (fun ls hl => ?_)
  exact t_X7_spot_140 C hA hk57 _ _ _ _ _ _ _ _ _ _ (lv_sub hl [2, 3, 4, 5, 6, 1, 0, 7] rfl) hP hD hS h
set_option maxHeartbeats 4000000 in
set_option maxRecDepth 100000 in
theorem t_X7_spot_57 {p : Program} {l : Launch} {e : Env} {s : State} {m : MethodId} {args : Array Value} {below : List Frame} {meth : Method} {c : Code} {D : va_G} {K : Nat → ClassId} {h0 : Nat} {a0 : Nat → Nat} {hs : Nat → Nat} {a1 : Nat → Nat} {r1 : zS} {a2 : Nat → Nat} {a3 : Nat → Nat} {a4 : Nat → Nat} {p1 : Int32} {p2 : Int32} {p3 : Int32} {p4 : Int32} {post : Int32 → (zS) → (zS) → (zS) → (zS) → Prop} {A : Nat → Prop} (C : xC p s m args meth c cX7_spot RX7 9 (some .int) D vwCl (xty K)) (hA : ∀ q, s.heap.size ≤ q → A q) : ∀ (n : Nat) (r0 : zS) (r2 : zS) (r3 : zS) (r4 : zS) (x5 : Int32) (x6 : Int32) (x7 : Int32) (H : Heap) (locs : List Loc) (ls : Array Slot), lv_has ls 9 [(0, .ref h0), (1, .int p1), (2, .int p2), (3, .int p3), (4, .int p4), (5, .int x5), (6, .int x6), (7, .int x7)] → va_P D vwCl (wX7 K h0 a0 hs r0 ++ (wX1 K (a0 0) a1 r1 ++ (wX1 K (a0 1) a2 r2 ++ (wX6 K (a0 9) a3 r3 ++ (wX5 K (a0 11) a4 r4))))) H → va_D A (wX7 K h0 a0 hs r0 ++ (wX1 K (a0 0) a1 r1 ++ (wX1 K (a0 1) a2 r2 ++ (wX6 K (a0 9) a3 r3 ++ (wX5 K (a0 11) a4 r4))))) → va_S A s.heap H locs → wp_X7_spot_57 r1 p1 p2 p3 p4 post n r0 r2 r3 r4 x5 x6 x7 → W p l e ({ frames := 16, cells := 0, slots := 0, locals := 615 } : Room) s m args below meth c H locs 0 0 (MQ below (va_Qi (fun r (u : (zS) × (zS) × (zS) × (zS)) => post r u.1 u.2.1 u.2.2.1 u.2.2.2) (fun (u : (zS) × (zS) × (zS) × (zS)) t => va_P D vwCl (wX7 K h0 a0 hs u.1 ++ (wX1 K (a0 0) a1 r1 ++ (wX1 K (a0 1) a2 u.2.1 ++ (wX6 K (a0 9) a3 u.2.2.1 ++ (wX5 K (a0 11) a4 u.2.2.2))))) t.heap) A) args s 0 0 A) (F0 m 57 ls []) := by
  obtain ⟨hx, hb, hr, hml, hown, hts, hlocks, hK, hT⟩ := id C
  intro n
  induction n with
  | zero =>
    intro r0 r2 r3 r4 x5 x6 x7 H locs ls hl hP hD hS h
    exact False.elim h
  | succ n ihn =>
    intro r0 r2 r3 r4 x5 x6 x7 H locs ls hl hP hD hS h
    rw [wu_X7_spot_57] at h
    unfold wb_X7_spot_57 at h
    refine lv_iload hx hb dX7_spot_57 (lv_at hl 7 rfl) ?_
    refine lv_aload_n hx hb dX7_spot_59 rfl (lv_at hl 0 rfl) ?_
    refine va_get (D := D) (ci := 7) (v := .ref (a0 0)) (C := RX7) (T := TX7) (N := 13) hx hb hts inlX7 hown hK hP 0 rfl rfl 0 (by decide) (hts (.fieldLink RX7 10 "UnderTheDesks" "room" "LUnderTheDesks$Room;") mw_16) (fun _ h9 => h9) rfl dX7_spot_60 ?_
    refine xend_ro_i (xRunV (wc := (wX1 K (a0 0) a1 r1)) (As := []) (rest := [.int x7]) C (c_X1_deskCount h) k_X1_deskCount mw_930 ⟨rfl, rfl⟩ ⟨Nat.le_of_ble_eq_true rfl, Nat.le_of_ble_eq_true rfl⟩ hP hD [3, 4, 5, 6, 7, 8] rfl rfl rfl rfl hl rfl rfl (Nat.le_of_ble_eq_true rfl) dX7_spot_63 ⟨Nat.le_refl _, Nat.le_refl _⟩) (fun v11 h => ?_)
    refine lv_icmp_ge (tgt := 146) hx hb dX7_spot_66 (by decide) (fun c12 => ?_) (fun c12 => ?_)
    · replace h := And.left h c12
      refine lv_iload hx hb dX7_spot_146 (lv_at hl 5 rfl) ?_
      refine lv_iconst (v := -1) hx hb dX7_spot_148 (by decide) ?_
      refine lv_icmp_ne (tgt := 161) hx hb dX7_spot_149 (by decide) (fun c13 => ?_) (fun c13 => ?_)
      · replace h := And.right h c13
        refine lv_iload hx hb dX7_spot_161 (lv_at hl 5 rfl) ?_
        exact xrw_i C (r0, r2, r3, r4) h hP hS dX7_spot_163
      · replace h := And.left h c13
        refine lv_aload_n hx hb dX7_spot_152 rfl (lv_at hl 0 rfl) ?_
        refine lv_bipush (v := -5) hx hb dX7_spot_153 (by decide) ?_
        refine xend_rw_i (wf := fun (u : (zS)) => (wX7 K h0 a0 hs u)) (xRunV (wc := (wX7 K h0 a0 hs r0)) (As := [.int (-5 : Int32)]) (rest := []) C (c_X7_refuse h) k_X7_refuse mw_147 ⟨rfl, rfl⟩ ⟨Nat.le_of_ble_eq_true rfl, Nat.le_of_ble_eq_true rfl⟩ hP hD [0, 1, 2] rfl rfl rfl rfl hl rfl rfl (Nat.le_of_ble_eq_true rfl) dX7_spot_155 ⟨Nat.le_refl _, Nat.le_refl _⟩) hP hD hS hA [0, 1, 2] rfl rfl (fun _ => rfl) (fun v14 s15 H locs h hP hD hS => ?_)
        replace hP : va_P D vwCl (wX7 K h0 a0 hs s15 ++ (wX1 K (a0 0) a1 r1 ++ (wX1 K (a0 1) a2 r2 ++ (wX6 K (a0 9) a3 r3 ++ (wX5 K (a0 11) a4 r4))))) H := hP
        replace hD : va_D A (wX7 K h0 a0 hs s15 ++ (wX1 K (a0 0) a1 r1 ++ (wX1 K (a0 1) a2 r2 ++ (wX6 K (a0 9) a3 r3 ++ (wX5 K (a0 11) a4 r4))))) := hD
        refine lv_goto (tgt := 163) hx hb dX7_spot_158 (by decide) ?_
        exact xrw_i C (s15, r2, r3, r4) h hP hS dX7_spot_163
    · replace h := And.right h c12
      refine lv_aload_n hx hb dX7_spot_69 rfl (lv_at hl 0 rfl) ?_
      refine va_get (D := D) (ci := 7) (v := .ref (a0 0)) (C := RX7) (T := TX7) (N := 13) hx hb hts inlX7 hown hK hP 0 rfl rfl 0 (by decide) (hts (.fieldLink RX7 10 "UnderTheDesks" "room" "LUnderTheDesks$Room;") mw_16) (fun _ h9 => h9) rfl dX7_spot_70 ?_
      refine lv_iload hx hb dX7_spot_73 (lv_at hl 7 rfl) ?_
      refine xend_ro_i (xRunV (wc := (wX1 K (a0 0) a1 r1)) (As := [.int x7]) (rest := []) C (c_X1_holderOf h) k_X1_holderOf mw_385 ⟨rfl, rfl⟩ ⟨Nat.le_of_ble_eq_true rfl, Nat.le_of_ble_eq_true rfl⟩ hP hD [3, 4, 5, 6, 7, 8] rfl rfl rfl rfl hl rfl rfl (Nat.le_of_ble_eq_true rfl) dX7_spot_75 ⟨Nat.le_refl _, Nat.le_refl _⟩) (fun v16 h => ?_)
      refine lv_iconst (v := -1) hx hb dX7_spot_78 (by decide) ?_
      refine lv_icmp_ne (tgt := 140) hx hb dX7_spot_79 (by decide) (fun c17 => ?_) (fun c17 => ?_)
      · replace h := And.right h c17
        exact t_X7_spot_140 C hA ihn _ _ _ _ _ _ _ _ _ _ (lv_sub hl [0, 1, 2, 3, 4, 5, 6, 7] rfl) hP hD hS h
      · replace h := And.left h c17
        refine lv_aload_n hx hb dX7_spot_82 rfl (lv_at hl 0 rfl) ?_
        refine va_get (D := D) (ci := 7) (v := .ref (a0 1)) (C := RX7) (T := TX7) (N := 13) hx hb hts inlX7 hown hK hP 0 rfl rfl 1 (by decide) (hts (.fieldLink RX7 16 "UnderTheDesks" "trial" "LUnderTheDesks$Room;") mw_17) (fun _ h9 => h9) rfl dX7_spot_83 ?_
        refine lv_aload_n hx hb dX7_spot_86 rfl (lv_at hl 0 rfl) ?_
        refine va_get (D := D) (ci := 7) (v := .ref (a0 0)) (C := RX7) (T := TX7) (N := 13) hx hb hts inlX7 hown hK hP 0 rfl rfl 0 (by decide) (hts (.fieldLink RX7 10 "UnderTheDesks" "room" "LUnderTheDesks$Room;") mw_16) (fun _ h9 => h9) rfl dX7_spot_87 ?_
        refine xend_rw_v (wf := fun (u : (zS)) => (wX1 K (a0 1) a2 u ++ (wX1 K (a0 0) a1 r1))) (xRunV (wc := (wX1 K (a0 1) a2 r2 ++ (wX1 K (a0 0) a1 r1))) (As := [.ref (a0 0)]) (rest := []) C (c_X1_takeOver h) k_X1_takeOver mw_517 ⟨rfl, rfl⟩ ⟨Nat.le_of_ble_eq_true rfl, Nat.le_of_ble_eq_true rfl⟩ hP hD [9, 10, 11, 12, 13, 14, 3, 4, 5, 6, 7, 8] rfl rfl rfl rfl hl rfl rfl (Nat.le_of_ble_eq_true rfl) dX7_spot_90 ⟨Nat.le_refl _, Nat.le_refl _⟩) hP hD hS hA [9, 10, 11, 12, 13, 14, 3, 4, 5, 6, 7, 8] rfl rfl (fun _ => rfl) (fun s20 H locs h hP hD hS => ?_)
        replace hP : va_P D vwCl (wX7 K h0 a0 hs r0 ++ (wX1 K (a0 0) a1 r1 ++ (wX1 K (a0 1) a2 s20 ++ (wX6 K (a0 9) a3 r3 ++ (wX5 K (a0 11) a4 r4))))) H := hP
        replace hD : va_D A (wX7 K h0 a0 hs r0 ++ (wX1 K (a0 0) a1 r1 ++ (wX1 K (a0 1) a2 s20 ++ (wX6 K (a0 9) a3 r3 ++ (wX5 K (a0 11) a4 r4))))) := hD
        refine lv_aload_n hx hb dX7_spot_93 rfl (lv_at hl 0 rfl) ?_
        refine va_get (D := D) (ci := 7) (v := .ref (a0 1)) (C := RX7) (T := TX7) (N := 13) hx hb hts inlX7 hown hK hP 0 rfl rfl 1 (by decide) (hts (.fieldLink RX7 16 "UnderTheDesks" "trial" "LUnderTheDesks$Room;") mw_17) (fun _ h9 => h9) rfl dX7_spot_94 ?_
        refine lv_iload_n hx hb dX7_spot_97 rfl (lv_at hl 1 rfl) ?_
        refine lv_iload hx hb dX7_spot_98 (lv_at hl 7 rfl) ?_
        refine lv_iload_n hx hb dX7_spot_100 rfl (lv_at hl 2 rfl) ?_
        refine xend_rw_i (wf := fun (u : (zS)) => (wX1 K (a0 1) a2 u)) (xRunV (wc := (wX1 K (a0 1) a2 s20)) (As := [.int p1, .int x7, .int p2]) (rest := []) C (c_X1_seat h) k_X1_seat mw_393 ⟨rfl, rfl⟩ ⟨Nat.le_of_ble_eq_true rfl, Nat.le_of_ble_eq_true rfl⟩ hP hD [9, 10, 11, 12, 13, 14] rfl rfl rfl rfl hl rfl rfl (Nat.le_of_ble_eq_true rfl) dX7_spot_101 ⟨Nat.le_refl _, Nat.le_refl _⟩) hP hD hS hA [9, 10, 11, 12, 13, 14] rfl rfl (fun _ => rfl) (fun v21 s22 H locs h hP hD hS => ?_)
        replace hP : va_P D vwCl (wX7 K h0 a0 hs r0 ++ (wX1 K (a0 0) a1 r1 ++ (wX1 K (a0 1) a2 s22 ++ (wX6 K (a0 9) a3 r3 ++ (wX5 K (a0 11) a4 r4))))) H := hP
        replace hD : va_D A (wX7 K h0 a0 hs r0 ++ (wX1 K (a0 0) a1 r1 ++ (wX1 K (a0 1) a2 s22 ++ (wX6 K (a0 9) a3 r3 ++ (wX5 K (a0 11) a4 r4))))) := hD
        refine lv_pop hx hb dX7_spot_104 rfl ?_
        refine lv_aload_n hx hb dX7_spot_105 rfl (lv_at hl 0 rfl) ?_
        refine lv_aload_n hx hb dX7_spot_106 rfl (lv_at hl 0 rfl) ?_
        refine va_get (D := D) (ci := 7) (v := .ref (a0 1)) (C := RX7) (T := TX7) (N := 13) hx hb hts inlX7 hown hK hP 0 rfl rfl 1 (by decide) (hts (.fieldLink RX7 16 "UnderTheDesks" "trial" "LUnderTheDesks$Room;") mw_17) (fun _ h9 => h9) rfl dX7_spot_107 ?_
        refine lv_iload_n hx hb dX7_spot_110 rfl (lv_at hl 3 rfl) ?_
        refine lv_iload hx hb dX7_spot_111 (lv_at hl 4 rfl) ?_
        refine lv_iconst (v := 0) hx hb dX7_spot_113 (by decide) ?_
        refine xend_rw_i (wf := fun (u : (zS) × (zS)) => (wX7 K h0 a0 hs r0 ++ (wX1 K (a0 1) a2 s22 ++ (wX6 K (a0 9) a3 u.1 ++ (wX5 K (a0 11) a4 u.2))))) (xRunV (wc := (wX7 K h0 a0 hs r0 ++ (wX1 K (a0 1) a2 s22 ++ (wX6 K (a0 9) a3 r3 ++ (wX5 K (a0 11) a4 r4))))) (As := [.ref (a0 1), .int p3, .int p4, .int (0 : Int32)]) (rest := []) C (c_X7_chanceIn h) k_X7_chanceIn mw_931 ⟨rfl, rfl⟩ ⟨Nat.le_of_ble_eq_true rfl, Nat.le_of_ble_eq_true rfl⟩ hP hD [0, 1, 2, 9, 10, 11, 12, 13, 14, 15, 16, 17, 18, 19, 20] rfl rfl rfl rfl hl rfl rfl (Nat.le_of_ble_eq_true rfl) dX7_spot_114 ⟨Nat.le_refl _, Nat.le_refl _⟩) hP hD hS hA [0, 1, 2, 9, 10, 11, 12, 13, 14, 15, 16, 17, 18, 19, 20] rfl rfl (fun _ => rfl) (fun v23 u26 H locs h hP hD hS => ?_)
        obtain ⟨s24, s25⟩ := u26
        replace hP : va_P D vwCl (wX7 K h0 a0 hs r0 ++ (wX1 K (a0 0) a1 r1 ++ (wX1 K (a0 1) a2 s22 ++ (wX6 K (a0 9) a3 s24 ++ (wX5 K (a0 11) a4 s25))))) H := hP
        replace hD : va_D A (wX7 K h0 a0 hs r0 ++ (wX1 K (a0 0) a1 r1 ++ (wX1 K (a0 1) a2 s22 ++ (wX6 K (a0 9) a3 s24 ++ (wX5 K (a0 11) a4 s25))))) := hD
        refine lv_istore (lv' := [(8, .int v23), (0, .ref h0), (1, .int p1), (2, .int p2), (3, .int p3), (4, .int p4), (5, .int x5), (6, .int x6), (7, .int x7)]) hx hb dX7_spot_117 hl (by decide) rfl (fun ls hl => ?_)
        refine lv_iload hx hb dX7_spot_119 (lv_at hl 6 rfl) ?_
        refine lv_iconst (v := -1) hx hb dX7_spot_121 (by decide) ?_
        refine lv_icmp_eq (tgt := 132) hx hb dX7_spot_122 (by decide) (fun c27 => ?_) (fun c27 => ?_)
        · replace h := And.left h c27
          exact t_X7_spot_132 C hA ihn _ _ _ _ _ _ _ _ _ (lv_sub hl [1, 2, 3, 4, 5, 8, 0] rfl) hP hD hS h
        · replace h := And.right h c27
          refine lv_iload hx hb dX7_spot_125 (lv_at hl 0 rfl) ?_
          refine lv_iload hx hb dX7_spot_127 (lv_at hl 7 rfl) ?_
          refine lv_icmp_le (tgt := 140) hx hb dX7_spot_129 (by decide) (fun c28 => ?_) (fun c28 => ?_)
          · replace h := And.left h c28
            exact t_X7_spot_140 C hA ihn _ _ _ _ _ _ _ _ _ _ (lv_sub hl [1, 2, 3, 4, 5, 6, 7, 8] rfl) hP hD hS h
          · replace h := And.right h c28
            exact t_X7_spot_132 C hA ihn _ _ _ _ _ _ _ _ _ (lv_sub hl [1, 2, 3, 4, 5, 8, 0] rfl) hP hD hS h
set_option maxHeartbeats 4000000 in
set_option maxRecDepth 100000 in
theorem c_X7_spot {l : Launch} {D : va_G} {K : Nat → ClassId} {h0 : Nat} {a0 : Nat → Nat} {hs : Nat → Nat} {r0 : zS} {a1 : Nat → Nat} {r1 : zS} {a2 : Nat → Nat} {r2 : zS} {a3 : Nat → Nat} {r3 : zS} {a4 : Nat → Nat} {r4 : zS} {p1 : Int32} {p2 : Int32} {p3 : Int32} {p4 : Int32} {sz : Nat} {post : Int32 → (zS) → (zS) → (zS) → (zS) → Prop}   (h : wp_X7_spot r0 r1 r2 r3 r4 p1 p2 p3 p4 post) : Met l yX7_spot (Cond.code yX7_spot cX7_spot 9 (some .int) :: wsL_law) ({ frames := 16, cells := 0, slots := 0, locals := 615 } : Room) (va_Pc [.ref h0, .int p1, .int p2, .int p3, .int p4] (xPre D vwCl (xty K) (wX7 K h0 a0 hs r0 ++ (wX1 K (a0 0) a1 r1 ++ (wX1 K (a0 1) a2 r2 ++ (wX6 K (a0 9) a3 r3 ++ (wX5 K (a0 11) a4 r4))))) sz)) (va_Qi (fun r (u : (zS) × (zS) × (zS) × (zS)) => post r u.1 u.2.1 u.2.2.1 u.2.2.2) (fun (u : (zS) × (zS) × (zS) × (zS)) t => va_P D vwCl (wX7 K h0 a0 hs u.1 ++ (wX1 K (a0 0) a1 r1 ++ (wX1 K (a0 1) a2 u.2.1 ++ (wX6 K (a0 9) a3 u.2.2.1 ++ (wX5 K (a0 11) a4 u.2.2.2))))) t.heap) (va_A (wX7 K h0 a0 hs r0 ++ (wX1 K (a0 0) a1 r1 ++ (wX1 K (a0 1) a2 r2 ++ (wX6 K (a0 9) a3 r3 ++ (wX5 K (a0 11) a4 r4))))) sz)) 0 0 (va_A (wX7 K h0 a0 hs r0 ++ (wX1 K (a0 0) a1 r1 ++ (wX1 K (a0 1) a2 r2 ++ (wX6 K (a0 9) a3 r3 ++ (wX5 K (a0 11) a4 r4))))) sz) := by
  refine xMet (by decide) rfl (Nat.le_of_ble_eq_true rfl) (fun p e s m args below meth c C hnm hP hD hsz ls hl => ?_)
  have hl : lv_has ls 9 [(0, .ref h0), (1, .int p1), (2, .int p2), (3, .int p3), (4, .int p4)] := hl
  obtain ⟨hx, hb, hr, hml, hown, hts, hlocks, hK, hT⟩ := id C
  subst hsz
  generalize hAe : va_A (wX7 K h0 a0 hs r0 ++ (wX1 K (a0 0) a1 r1 ++ (wX1 K (a0 1) a2 r2 ++ (wX6 K (a0 9) a3 r3 ++ (wX5 K (a0 11) a4 r4))))) s.heap.size = A at hD ⊢
  have hA : ∀ q : Nat, s.heap.size ≤ q → A q := fun q h => by rw [← hAe]; exact Or.inr h
  have hS : va_S A s.heap s.heap [] := va_S.rf
  have hP : va_P D vwCl (wX7 K h0 a0 hs r0 ++ (wX1 K (a0 0) a1 r1 ++ (wX1 K (a0 1) a2 r2 ++ (wX6 K (a0 9) a3 r3 ++ (wX5 K (a0 11) a4 r4))))) s.heap := hP
  unfold wp_X7_spot at h
  refine lv_iload_n hx hb dX7_spot_0 rfl (lv_at hl 1 rfl) ?_
  refine xend_ro_i (xRunS (wc := ([] : va_W)) (As := [.int p1]) (rest := []) C (c_X7_isKind h) k_X7_isKind mw_271 ⟨rfl, rfl⟩ ⟨Nat.le_of_ble_eq_true rfl, Nat.le_of_ble_eq_true rfl⟩ hP hD [] rfl rfl hl rfl rfl (Nat.le_of_ble_eq_true rfl) dX7_spot_1 ⟨Nat.le_refl _, Nat.le_refl _⟩) (fun v1 h => ?_)
  refine lv_if_eq (tgt := 24) hx hb dX7_spot_4 (by decide) (fun c2 => ?_) (fun c2 => ?_)
  · replace h := And.left h c2
    exact t_X7_spot_24 C hA _ _ _ _ _ _ _ (lv_sub hl [0] rfl) hP hD hS h
  · replace h := And.right h c2
    refine lv_iload_n hx hb dX7_spot_7 rfl (lv_at hl 2 rfl) ?_
    refine xend_ro_i (xRunS (wc := ([] : va_W)) (As := [.int p2]) (rest := []) C (c_X7_isMark h) k_X7_isMark mw_382 ⟨rfl, rfl⟩ ⟨Nat.le_of_ble_eq_true rfl, Nat.le_of_ble_eq_true rfl⟩ hP hD [] rfl rfl hl rfl rfl (Nat.le_of_ble_eq_true rfl) dX7_spot_8 ⟨Nat.le_refl _, Nat.le_refl _⟩) (fun v5 h => ?_)
    refine lv_if_eq (tgt := 24) hx hb dX7_spot_11 (by decide) (fun c6 => ?_) (fun c6 => ?_)
    · replace h := And.left h c6
      exact t_X7_spot_24 C hA _ _ _ _ _ _ _ (lv_sub hl [0] rfl) hP hD hS h
    · replace h := And.right h c6
      refine lv_aload_n hx hb dX7_spot_14 rfl (lv_at hl 0 rfl) ?_
      refine lv_iload_n hx hb dX7_spot_15 rfl (lv_at hl 3 rfl) ?_
      refine lv_iload hx hb dX7_spot_16 (lv_at hl 4 rfl) ?_
      refine xend_ro_i (xRunV (wc := (wX7 K h0 a0 hs r0 ++ (wX1 K (a0 0) a1 r1))) (As := [.int p3, .int p4]) (rest := []) C (c_X7_isPair h) k_X7_isPair mw_429 ⟨rfl, rfl⟩ ⟨Nat.le_of_ble_eq_true rfl, Nat.le_of_ble_eq_true rfl⟩ hP hD [0, 1, 2, 3, 4, 5, 6, 7, 8] rfl rfl rfl rfl hl rfl rfl (Nat.le_of_ble_eq_true rfl) dX7_spot_18 ⟨Nat.le_refl _, Nat.le_refl _⟩) (fun v7 h => ?_)
      refine lv_if_ne (tgt := 31) hx hb dX7_spot_21 (by decide) (fun c8 => ?_) (fun c8 => ?_)
      · replace h := And.right h c8
        refine lv_aload_n hx hb dX7_spot_31 rfl (lv_at hl 0 rfl) ?_
        refine va_get (D := D) (ci := 7) (v := .ref (a0 0)) (C := RX7) (T := TX7) (N := 13) hx hb hts inlX7 hown hK hP 0 rfl rfl 0 (by decide) (hts (.fieldLink RX7 10 "UnderTheDesks" "room" "LUnderTheDesks$Room;") mw_16) (fun _ h9 => h9) rfl dX7_spot_32 ?_
        refine xend_ro_i (xRunV (wc := (wX1 K (a0 0) a1 r1)) (As := []) (rest := []) C (c_X1_isFull h) k_X1_isFull mw_389 ⟨rfl, rfl⟩ ⟨Nat.le_of_ble_eq_true rfl, Nat.le_of_ble_eq_true rfl⟩ hP hD [3, 4, 5, 6, 7, 8] rfl rfl rfl rfl hl rfl rfl (Nat.le_of_ble_eq_true rfl) dX7_spot_35 ⟨Nat.le_refl _, Nat.le_refl _⟩) (fun v9 h => ?_)
        refine lv_if_eq (tgt := 48) hx hb dX7_spot_38 (by decide) (fun c10 => ?_) (fun c10 => ?_)
        · replace h := And.left h c10
          refine lv_iconst (v := -1) hx hb dX7_spot_48 (by decide) ?_
          refine lv_istore (lv' := [(5, .int (-1 : Int32)), (0, .ref h0), (1, .int p1), (2, .int p2), (3, .int p3), (4, .int p4)]) hx hb dX7_spot_49 hl (by decide) rfl (fun ls hl => ?_)
          refine lv_iconst (v := -1) hx hb dX7_spot_51 (by decide) ?_
          refine lv_istore (lv' := [(6, .int (-1 : Int32)), (5, .int (-1 : Int32)), (0, .ref h0), (1, .int p1), (2, .int p2), (3, .int p3), (4, .int p4)]) hx hb dX7_spot_52 hl (by decide) rfl (fun ls hl => ?_)
          refine lv_iconst (v := 0) hx hb dX7_spot_54 (by decide) ?_
          refine lv_istore (lv' := [(7, .int (0 : Int32)), (6, .int (-1 : Int32)), (5, .int (-1 : Int32)), (0, .ref h0), (1, .int p1), (2, .int p2), (3, .int p3), (4, .int p4)]) hx hb dX7_spot_55 hl (by decide) rfl (fun ls hl => ?_)
          obtain ⟨n0, h⟩ := h
          exact t_X7_spot_57 C hA n0 _ _ _ _ _ _ _ _ _ _ (lv_sub hl [3, 4, 5, 6, 7, 2, 1, 0] rfl) hP hD hS h
        · replace h := And.right h c10
          refine lv_aload_n hx hb dX7_spot_41 rfl (lv_at hl 0 rfl) ?_
          refine lv_bipush (v := -6) hx hb dX7_spot_42 (by decide) ?_
          refine xend_rw_i (wf := fun (u : (zS)) => (wX7 K h0 a0 hs u)) (xRunV (wc := (wX7 K h0 a0 hs r0)) (As := [.int (-6 : Int32)]) (rest := []) C (c_X7_refuse h) k_X7_refuse mw_147 ⟨rfl, rfl⟩ ⟨Nat.le_of_ble_eq_true rfl, Nat.le_of_ble_eq_true rfl⟩ hP hD [0, 1, 2] rfl rfl rfl rfl hl rfl rfl (Nat.le_of_ble_eq_true rfl) dX7_spot_44 ⟨Nat.le_refl _, Nat.le_refl _⟩) hP hD hS hA [0, 1, 2] rfl rfl (fun _ => rfl) (fun v29 s30 H locs h hP hD hS => ?_)
          replace hP : va_P D vwCl (wX7 K h0 a0 hs s30 ++ (wX1 K (a0 0) a1 r1 ++ (wX1 K (a0 1) a2 r2 ++ (wX6 K (a0 9) a3 r3 ++ (wX5 K (a0 11) a4 r4))))) H := hP
          replace hD : va_D A (wX7 K h0 a0 hs s30 ++ (wX1 K (a0 0) a1 r1 ++ (wX1 K (a0 1) a2 r2 ++ (wX6 K (a0 9) a3 r3 ++ (wX5 K (a0 11) a4 r4))))) := hD
          exact xrw_i C (s30, r2, r3, r4) h hP hS dX7_spot_47
      · replace h := And.left h c8
        exact t_X7_spot_24 C hA _ _ _ _ _ _ _ (lv_sub hl [0] rfl) hP hD hS h

def wp_X7_when_94 (r1 : zS) (p1 : Int32) (p2 : Int32) (post : Int32 → (zS) → (zS) → (zS) → Prop) (k37 : (zS) → (zS) → (zS) → Int32 → Int32 → Int32 → Prop) (r0 : zS) (r2 : zS) (r3 : zS) (x3 : Int32) (x4 : Int32) (x5 : Int32) : Prop :=
  ∀ v12 : Int32, v12 = x5 + (1 : Int32) → k37 r0 r2 r3 x3 x4 v12
def wb_X7_when_37 (r1 : zS) (p1 : Int32) (p2 : Int32) (post : Int32 → (zS) → (zS) → (zS) → Prop) (ih : (zS) → (zS) → (zS) → Int32 → Int32 → Int32 → Prop) (r0 : zS) (r2 : zS) (r3 : zS) (x3 : Int32) (x4 : Int32) (x5 : Int32) : Prop :=
  ((r1.1 2) ≤ x5 → (x3 = (-1 : Int32) → wp_X7_refuse r0 (-5 : Int32) (fun v7 s8 => post v7 s8 r2 r3)) ∧ (¬ x3 = (-1 : Int32) → post x3 r0 r2 r3)) ∧ (¬ (r1.1 2) ≤ x5 → wp_X5_takeSurest r3 r1 r2 x5 (0 : Int32) (fun v9 s10 => (v9 = 0 → wp_X7_when_94 r1 p1 p2 post ih r0 r2 s10 x3 x4 x5) ∧ (¬ v9 = 0 → ((s10.1 1) ≤ x4 → wp_X7_when_94 r1 p1 p2 post ih r0 r2 s10 x3 x4 x5) ∧ (¬ (s10.1 1) ≤ x4 → ∀ v14 : Int32, v14 = (s10.1 1) → wp_X7_when_94 r1 p1 p2 post ih r0 r2 s10 x5 v14 x5))))
def wp_X7_when_37 (r1 : zS) (p1 : Int32) (p2 : Int32) (post : Int32 → (zS) → (zS) → (zS) → Prop) (n : Nat) : (zS) → (zS) → (zS) → Int32 → Int32 → Int32 → Prop := Nat.rec (motive := fun _ => (zS) → (zS) → (zS) → Int32 → Int32 → Int32 → Prop) (fun _ _ _ _ _ _ => False) (fun _ ih => wb_X7_when_37 r1 p1 p2 post ih) n
theorem wu_X7_when_37 (r1 : zS) (p1 : Int32) (p2 : Int32) (post : Int32 → (zS) → (zS) → (zS) → Prop) (n : Nat) (r0 : zS) (r2 : zS) (r3 : zS) (x3 : Int32) (x4 : Int32) (x5 : Int32) : wp_X7_when_37 r1 p1 p2 post (n + 1) r0 r2 r3 x3 x4 x5 = wb_X7_when_37 r1 p1 p2 post (wp_X7_when_37 r1 p1 p2 post n) r0 r2 r3 x3 x4 x5 := rfl
def wp_X7_when (r0 : zS) (r1 : zS) (r2 : zS) (r3 : zS) (p1 : Int32) (p2 : Int32) (post : Int32 → (zS) → (zS) → (zS) → Prop) : Prop :=
  wp_X7_isPair r0 r1 p1 p2 (fun v1 => (v1 = 0 → wp_X7_refuse r0 (-2 : Int32) (fun v15 s16 => post v15 s16 r2 r3)) ∧ (¬ v1 = 0 → wp_X6_find r2 r1 p1 p2 (fun s4 => ∃ n : Nat, wp_X7_when_37 r1 p1 p2 post n r0 s4 r3 (-1 : Int32) (-1 : Int32) (0 : Int32))))
set_option maxHeartbeats 4000000 in
set_option maxRecDepth 100000 in
theorem t_X7_when_94 {p : Program} {l : Launch} {e : Env} {s : State} {m : MethodId} {args : Array Value} {below : List Frame} {meth : Method} {c : Code} {D : va_G} {K : Nat → ClassId} {h0 : Nat} {a0 : Nat → Nat} {hs : Nat → Nat} {a1 : Nat → Nat} {r1 : zS} {a2 : Nat → Nat} {a3 : Nat → Nat} {p1 : Int32} {p2 : Int32} {post : Int32 → (zS) → (zS) → (zS) → Prop} {A : Nat → Prop} (C : xC p s m args meth c cX7_when RX7 6 (some .int) D vwCl (xty K)) (hA : ∀ q, s.heap.size ≤ q → A q) {k37 : (zS) → (zS) → (zS) → Int32 → Int32 → Int32 → Prop} (hk37 : ∀ (r0 : zS) (r2 : zS) (r3 : zS) (x3 : Int32) (x4 : Int32) (x5 : Int32) (H : Heap) (locs : List Loc) (ls : Array Slot), lv_has ls 6 [(0, .ref h0), (3, .int x3), (4, .int x4), (5, .int x5)] → va_P D vwCl (wX7 K h0 a0 hs r0 ++ (wX1 K (a0 0) a1 r1 ++ (wX6 K (a0 9) a2 r2 ++ (wX5 K (a0 11) a3 r3)))) H → va_D A (wX7 K h0 a0 hs r0 ++ (wX1 K (a0 0) a1 r1 ++ (wX6 K (a0 9) a2 r2 ++ (wX5 K (a0 11) a3 r3)))) → va_S A s.heap H locs → k37 r0 r2 r3 x3 x4 x5  → W p l e ({ frames := 15, cells := 0, slots := 0, locals := 591 } : Room) s m args below meth c H locs 0 0 (MQ below (va_Qi (fun r (u : (zS) × (zS) × (zS)) => post r u.1 u.2.1 u.2.2) (fun (u : (zS) × (zS) × (zS)) t => va_P D vwCl (wX7 K h0 a0 hs u.1 ++ (wX1 K (a0 0) a1 r1 ++ (wX6 K (a0 9) a2 u.2.1 ++ (wX5 K (a0 11) a3 u.2.2)))) t.heap) A) args s 0 0 A) (F0 m 37 ls [])) : ∀ (r0 : zS) (r2 : zS) (r3 : zS) (x3 : Int32) (x4 : Int32) (x5 : Int32) (H : Heap) (locs : List Loc) (ls : Array Slot), lv_has ls 6 [(0, .ref h0), (3, .int x3), (4, .int x4), (5, .int x5)] → va_P D vwCl (wX7 K h0 a0 hs r0 ++ (wX1 K (a0 0) a1 r1 ++ (wX6 K (a0 9) a2 r2 ++ (wX5 K (a0 11) a3 r3)))) H → va_D A (wX7 K h0 a0 hs r0 ++ (wX1 K (a0 0) a1 r1 ++ (wX6 K (a0 9) a2 r2 ++ (wX5 K (a0 11) a3 r3)))) → va_S A s.heap H locs → wp_X7_when_94 r1 p1 p2 post k37 r0 r2 r3 x3 x4 x5 → W p l e ({ frames := 15, cells := 0, slots := 0, locals := 591 } : Room) s m args below meth c H locs 0 0 (MQ below (va_Qi (fun r (u : (zS) × (zS) × (zS)) => post r u.1 u.2.1 u.2.2) (fun (u : (zS) × (zS) × (zS)) t => va_P D vwCl (wX7 K h0 a0 hs u.1 ++ (wX1 K (a0 0) a1 r1 ++ (wX6 K (a0 9) a2 u.2.1 ++ (wX5 K (a0 11) a3 u.2.2)))) t.heap) A) args s 0 0 A) (F0 m 94 ls []) := by
  obtain ⟨hx, hb, hr, hml, hown, hts, hlocks, hK, hT⟩ := id C
  intro r0 r2 r3 x3 x4 x5 H locs ls hl hP hD hS h
  unfold wp_X7_when_94 at h
  obtain ⟨v12, ev12⟩ : ∃ y : Int32, y = x5 + (1 : Int32) := ⟨_, rfl⟩
  replace h := h v12 ev12
  refine lv_iinc (v := v12) (lv' := [(5, .int v12), (0, .ref h0), (3, .int x3), (4, .int x4)]) hx hb dX7_when_94 hl (k := 3) rfl (by rw [ev12]; rfl) (by decide) rfl (fun ls hl => ?_)
  refine lv_goto (tgt := 37) hx hb dX7_when_97 (by decide) ?_
  exact hk37 _ _ _ _ _ _ _ _ _ (lv_sub hl [1, 2, 3, 0] rfl) hP hD hS h
set_option maxHeartbeats 4000000 in
set_option maxRecDepth 100000 in
theorem t_X7_when_37 {p : Program} {l : Launch} {e : Env} {s : State} {m : MethodId} {args : Array Value} {below : List Frame} {meth : Method} {c : Code} {D : va_G} {K : Nat → ClassId} {h0 : Nat} {a0 : Nat → Nat} {hs : Nat → Nat} {a1 : Nat → Nat} {r1 : zS} {a2 : Nat → Nat} {a3 : Nat → Nat} {p1 : Int32} {p2 : Int32} {post : Int32 → (zS) → (zS) → (zS) → Prop} {A : Nat → Prop} (C : xC p s m args meth c cX7_when RX7 6 (some .int) D vwCl (xty K)) (hA : ∀ q, s.heap.size ≤ q → A q) : ∀ (n : Nat) (r0 : zS) (r2 : zS) (r3 : zS) (x3 : Int32) (x4 : Int32) (x5 : Int32) (H : Heap) (locs : List Loc) (ls : Array Slot), lv_has ls 6 [(0, .ref h0), (3, .int x3), (4, .int x4), (5, .int x5)] → va_P D vwCl (wX7 K h0 a0 hs r0 ++ (wX1 K (a0 0) a1 r1 ++ (wX6 K (a0 9) a2 r2 ++ (wX5 K (a0 11) a3 r3)))) H → va_D A (wX7 K h0 a0 hs r0 ++ (wX1 K (a0 0) a1 r1 ++ (wX6 K (a0 9) a2 r2 ++ (wX5 K (a0 11) a3 r3)))) → va_S A s.heap H locs → wp_X7_when_37 r1 p1 p2 post n r0 r2 r3 x3 x4 x5 → W p l e ({ frames := 15, cells := 0, slots := 0, locals := 591 } : Room) s m args below meth c H locs 0 0 (MQ below (va_Qi (fun r (u : (zS) × (zS) × (zS)) => post r u.1 u.2.1 u.2.2) (fun (u : (zS) × (zS) × (zS)) t => va_P D vwCl (wX7 K h0 a0 hs u.1 ++ (wX1 K (a0 0) a1 r1 ++ (wX6 K (a0 9) a2 u.2.1 ++ (wX5 K (a0 11) a3 u.2.2)))) t.heap) A) args s 0 0 A) (F0 m 37 ls []) := by
  obtain ⟨hx, hb, hr, hml, hown, hts, hlocks, hK, hT⟩ := id C
  intro n
  induction n with
  | zero =>
    intro r0 r2 r3 x3 x4 x5 H locs ls hl hP hD hS h
    exact False.elim h
  | succ n ihn =>
    intro r0 r2 r3 x3 x4 x5 H locs ls hl hP hD hS h
    rw [wu_X7_when_37] at h
    unfold wb_X7_when_37 at h
    refine lv_iload hx hb dX7_when_37 (lv_at hl 3 rfl) ?_
    refine lv_aload_n hx hb dX7_when_39 rfl (lv_at hl 0 rfl) ?_
    refine va_get (D := D) (ci := 7) (v := .ref (a0 0)) (C := RX7) (T := TX7) (N := 13) hx hb hts inlX7 hown hK hP 0 rfl rfl 0 (by decide) (hts (.fieldLink RX7 10 "UnderTheDesks" "room" "LUnderTheDesks$Room;") mw_16) (fun _ h9 => h9) rfl dX7_when_40 ?_
    refine va_get (D := D) (ci := 1) (v := .int (r1.1 2)) (C := RX1) (T := TX1) (N := 10) hx hb hts inlX1 hown hK hP 3 rfl rfl 2 (by decide) (hts (.fieldLink RX7 199 "UnderTheDesks$Room" "term" "I") mw_473) (fun _ h9 => h9) rfl dX7_when_43 ?_
    refine lv_icmp_ge (tgt := 100) hx hb dX7_when_46 (by decide) (fun c5 => ?_) (fun c5 => ?_)
    · replace h := And.left h c5
      refine lv_iload_n hx hb dX7_when_100 rfl (lv_at hl 1 rfl) ?_
      refine lv_iconst (v := -1) hx hb dX7_when_101 (by decide) ?_
      refine lv_icmp_ne (tgt := 114) hx hb dX7_when_102 (by decide) (fun c6 => ?_) (fun c6 => ?_)
      · replace h := And.right h c6
        refine lv_iload_n hx hb dX7_when_114 rfl (lv_at hl 1 rfl) ?_
        exact xrw_i C (r0, r2, r3) h hP hS dX7_when_115
      · replace h := And.left h c6
        refine lv_aload_n hx hb dX7_when_105 rfl (lv_at hl 0 rfl) ?_
        refine lv_bipush (v := -5) hx hb dX7_when_106 (by decide) ?_
        refine xend_rw_i (wf := fun (u : (zS)) => (wX7 K h0 a0 hs u)) (xRunV (wc := (wX7 K h0 a0 hs r0)) (As := [.int (-5 : Int32)]) (rest := []) C (c_X7_refuse h) k_X7_refuse mw_147 ⟨rfl, rfl⟩ ⟨Nat.le_of_ble_eq_true rfl, Nat.le_of_ble_eq_true rfl⟩ hP hD [0, 1, 2] rfl rfl rfl rfl hl rfl rfl (Nat.le_of_ble_eq_true rfl) dX7_when_108 ⟨Nat.le_refl _, Nat.le_refl _⟩) hP hD hS hA [0, 1, 2] rfl rfl (fun _ => rfl) (fun v7 s8 H locs h hP hD hS => ?_)
        replace hP : va_P D vwCl (wX7 K h0 a0 hs s8 ++ (wX1 K (a0 0) a1 r1 ++ (wX6 K (a0 9) a2 r2 ++ (wX5 K (a0 11) a3 r3)))) H := hP
        replace hD : va_D A (wX7 K h0 a0 hs s8 ++ (wX1 K (a0 0) a1 r1 ++ (wX6 K (a0 9) a2 r2 ++ (wX5 K (a0 11) a3 r3)))) := hD
        refine lv_goto (tgt := 115) hx hb dX7_when_111 (by decide) ?_
        exact xrw_i C (s8, r2, r3) h hP hS dX7_when_115
    · replace h := And.right h c5
      refine lv_aload_n hx hb dX7_when_49 rfl (lv_at hl 0 rfl) ?_
      refine va_get (D := D) (ci := 7) (v := .ref (a0 11)) (C := RX7) (T := TX7) (N := 13) hx hb hts inlX7 hown hK hP 0 rfl rfl 11 (by decide) (hts (.fieldLink RX7 71 "UnderTheDesks" "walk" "LUnderTheDesks$Walk;") mw_43) (fun _ h9 => h9) rfl dX7_when_50 ?_
      refine lv_aload_n hx hb dX7_when_53 rfl (lv_at hl 0 rfl) ?_
      refine va_get (D := D) (ci := 7) (v := .ref (a0 0)) (C := RX7) (T := TX7) (N := 13) hx hb hts inlX7 hown hK hP 0 rfl rfl 0 (by decide) (hts (.fieldLink RX7 10 "UnderTheDesks" "room" "LUnderTheDesks$Room;") mw_16) (fun _ h9 => h9) rfl dX7_when_54 ?_
      refine lv_aload_n hx hb dX7_when_57 rfl (lv_at hl 0 rfl) ?_
      refine va_get (D := D) (ci := 7) (v := .ref (a0 9)) (C := RX7) (T := TX7) (N := 13) hx hb hts inlX7 hown hK hP 0 rfl rfl 9 (by decide) (hts (.fieldLink RX7 61 "UnderTheDesks" "paths" "LUnderTheDesks$Ways;") mw_38) (fun _ h9 => h9) rfl dX7_when_58 ?_
      refine lv_iload hx hb dX7_when_61 (lv_at hl 3 rfl) ?_
      refine lv_iconst (v := 0) hx hb dX7_when_63 (by decide) ?_
      refine xend_rw_i (wf := fun (u : (zS)) => (wX5 K (a0 11) a3 u ++ (wX1 K (a0 0) a1 r1 ++ (wX6 K (a0 9) a2 r2)))) (xRunV (wc := (wX5 K (a0 11) a3 r3 ++ (wX1 K (a0 0) a1 r1 ++ (wX6 K (a0 9) a2 r2)))) (As := [.ref (a0 0), .ref (a0 9), .int x5, .int (0 : Int32)]) (rest := []) C (c_X5_takeSurest h) k_X5_takeSurest mw_823 ⟨rfl, rfl⟩ ⟨Nat.le_of_ble_eq_true rfl, Nat.le_of_ble_eq_true rfl⟩ hP hD [14, 3, 4, 5, 6, 7, 8, 9, 10, 11, 12, 13] rfl rfl rfl rfl hl rfl rfl (Nat.le_of_ble_eq_true rfl) dX7_when_64 ⟨Nat.le_refl _, Nat.le_refl _⟩) hP hD hS hA [14, 3, 4, 5, 6, 7, 8, 9, 10, 11, 12, 13] rfl rfl (fun _ => rfl) (fun v9 s10 H locs h hP hD hS => ?_)
      replace hP : va_P D vwCl (wX7 K h0 a0 hs r0 ++ (wX1 K (a0 0) a1 r1 ++ (wX6 K (a0 9) a2 r2 ++ (wX5 K (a0 11) a3 s10)))) H := hP
      replace hD : va_D A (wX7 K h0 a0 hs r0 ++ (wX1 K (a0 0) a1 r1 ++ (wX6 K (a0 9) a2 r2 ++ (wX5 K (a0 11) a3 s10)))) := hD
      refine lv_if_eq (tgt := 94) hx hb dX7_when_67 (by decide) (fun c11 => ?_) (fun c11 => ?_)
      · replace h := And.left h c11
        exact t_X7_when_94 C hA ihn _ _ _ _ _ _ _ _ _ (lv_sub hl [0, 1, 2, 3] rfl) hP hD hS h
      · replace h := And.right h c11
        refine lv_aload_n hx hb dX7_when_70 rfl (lv_at hl 0 rfl) ?_
        refine va_get (D := D) (ci := 7) (v := .ref (a0 11)) (C := RX7) (T := TX7) (N := 13) hx hb hts inlX7 hown hK hP 0 rfl rfl 11 (by decide) (hts (.fieldLink RX7 71 "UnderTheDesks" "walk" "LUnderTheDesks$Walk;") mw_43) (fun _ h9 => h9) rfl dX7_when_71 ?_
        refine va_get (D := D) (ci := 5) (v := .int (s10.1 1)) (C := RX5) (T := TX5) (N := 4) hx hb hts inlX5 hown hK hP 14 rfl rfl 1 (by decide) (hts (.fieldLink RX7 296 "UnderTheDesks$Walk" "chance" "I") mw_821) (fun _ h9 => h9) rfl dX7_when_74 ?_
        refine lv_iload hx hb dX7_when_77 (lv_at hl 2 rfl) ?_
        refine lv_icmp_le (tgt := 94) hx hb dX7_when_79 (by decide) (fun c13 => ?_) (fun c13 => ?_)
        · replace h := And.left h c13
          exact t_X7_when_94 C hA ihn _ _ _ _ _ _ _ _ _ (lv_sub hl [0, 1, 2, 3] rfl) hP hD hS h
        · replace h := And.right h c13
          refine lv_iload hx hb dX7_when_82 (lv_at hl 3 rfl) ?_
          refine lv_istore_n (lv' := [(3, .int x5), (0, .ref h0), (4, .int x4), (5, .int x5)]) hx hb dX7_when_84 rfl hl (by decide) rfl (fun ls hl => ?_)
          refine lv_aload_n hx hb dX7_when_85 rfl (lv_at hl 1 rfl) ?_
          refine va_get (D := D) (ci := 7) (v := .ref (a0 11)) (C := RX7) (T := TX7) (N := 13) hx hb hts inlX7 hown hK hP 0 rfl rfl 11 (by decide) (hts (.fieldLink RX7 71 "UnderTheDesks" "walk" "LUnderTheDesks$Walk;") mw_43) (fun _ h9 => h9) rfl dX7_when_86 ?_
          refine va_get (D := D) (ci := 5) (v := .int (s10.1 1)) (C := RX5) (T := TX5) (N := 4) hx hb hts inlX5 hown hK hP 14 rfl rfl 1 (by decide) (hts (.fieldLink RX7 296 "UnderTheDesks$Walk" "chance" "I") mw_821) (fun _ h9 => h9) rfl dX7_when_89 ?_
          refine lv_topi (fun v14 ev14 => ?_)
          replace h := h v14 ev14
          refine lv_istore (lv' := [(4, .int v14), (3, .int x5), (0, .ref h0), (5, .int x5)]) hx hb dX7_when_92 hl (by decide) rfl (fun ls hl => ?_)
          exact t_X7_when_94 C hA ihn _ _ _ _ _ _ _ _ _ (lv_sub hl [2, 1, 0, 3] rfl) hP hD hS h
set_option maxHeartbeats 4000000 in
set_option maxRecDepth 100000 in
theorem c_X7_when {l : Launch} {D : va_G} {K : Nat → ClassId} {h0 : Nat} {a0 : Nat → Nat} {hs : Nat → Nat} {r0 : zS} {a1 : Nat → Nat} {r1 : zS} {a2 : Nat → Nat} {r2 : zS} {a3 : Nat → Nat} {r3 : zS} {p1 : Int32} {p2 : Int32} {sz : Nat} {post : Int32 → (zS) → (zS) → (zS) → Prop}   (h : wp_X7_when r0 r1 r2 r3 p1 p2 post) : Met l yX7_when (Cond.code yX7_when cX7_when 6 (some .int) :: wsL_law) ({ frames := 15, cells := 0, slots := 0, locals := 591 } : Room) (va_Pc [.ref h0, .int p1, .int p2] (xPre D vwCl (xty K) (wX7 K h0 a0 hs r0 ++ (wX1 K (a0 0) a1 r1 ++ (wX6 K (a0 9) a2 r2 ++ (wX5 K (a0 11) a3 r3)))) sz)) (va_Qi (fun r (u : (zS) × (zS) × (zS)) => post r u.1 u.2.1 u.2.2) (fun (u : (zS) × (zS) × (zS)) t => va_P D vwCl (wX7 K h0 a0 hs u.1 ++ (wX1 K (a0 0) a1 r1 ++ (wX6 K (a0 9) a2 u.2.1 ++ (wX5 K (a0 11) a3 u.2.2)))) t.heap) (va_A (wX7 K h0 a0 hs r0 ++ (wX1 K (a0 0) a1 r1 ++ (wX6 K (a0 9) a2 r2 ++ (wX5 K (a0 11) a3 r3)))) sz)) 0 0 (va_A (wX7 K h0 a0 hs r0 ++ (wX1 K (a0 0) a1 r1 ++ (wX6 K (a0 9) a2 r2 ++ (wX5 K (a0 11) a3 r3)))) sz) := by
  refine xMet (by decide) rfl (Nat.le_of_ble_eq_true rfl) (fun p e s m args below meth c C hnm hP hD hsz ls hl => ?_)
  have hl : lv_has ls 6 [(0, .ref h0), (1, .int p1), (2, .int p2)] := hl
  obtain ⟨hx, hb, hr, hml, hown, hts, hlocks, hK, hT⟩ := id C
  subst hsz
  generalize hAe : va_A (wX7 K h0 a0 hs r0 ++ (wX1 K (a0 0) a1 r1 ++ (wX6 K (a0 9) a2 r2 ++ (wX5 K (a0 11) a3 r3)))) s.heap.size = A at hD ⊢
  have hA : ∀ q : Nat, s.heap.size ≤ q → A q := fun q h => by rw [← hAe]; exact Or.inr h
  have hS : va_S A s.heap s.heap [] := va_S.rf
  have hP : va_P D vwCl (wX7 K h0 a0 hs r0 ++ (wX1 K (a0 0) a1 r1 ++ (wX6 K (a0 9) a2 r2 ++ (wX5 K (a0 11) a3 r3)))) s.heap := hP
  unfold wp_X7_when at h
  refine lv_aload_n hx hb dX7_when_0 rfl (lv_at hl 0 rfl) ?_
  refine lv_iload_n hx hb dX7_when_1 rfl (lv_at hl 1 rfl) ?_
  refine lv_iload_n hx hb dX7_when_2 rfl (lv_at hl 2 rfl) ?_
  refine xend_ro_i (xRunV (wc := (wX7 K h0 a0 hs r0 ++ (wX1 K (a0 0) a1 r1))) (As := [.int p1, .int p2]) (rest := []) C (c_X7_isPair h) k_X7_isPair mw_429 ⟨rfl, rfl⟩ ⟨Nat.le_of_ble_eq_true rfl, Nat.le_of_ble_eq_true rfl⟩ hP hD [0, 1, 2, 3, 4, 5, 6, 7, 8] rfl rfl rfl rfl hl rfl rfl (Nat.le_of_ble_eq_true rfl) dX7_when_3 ⟨Nat.le_refl _, Nat.le_refl _⟩) (fun v1 h => ?_)
  refine lv_if_ne (tgt := 16) hx hb dX7_when_6 (by decide) (fun c2 => ?_) (fun c2 => ?_)
  · replace h := And.right h c2
    refine lv_aload_n hx hb dX7_when_16 rfl (lv_at hl 0 rfl) ?_
    refine va_get (D := D) (ci := 7) (v := .ref (a0 9)) (C := RX7) (T := TX7) (N := 13) hx hb hts inlX7 hown hK hP 0 rfl rfl 9 (by decide) (hts (.fieldLink RX7 61 "UnderTheDesks" "paths" "LUnderTheDesks$Ways;") mw_38) (fun _ h9 => h9) rfl dX7_when_17 ?_
    refine lv_aload_n hx hb dX7_when_20 rfl (lv_at hl 0 rfl) ?_
    refine va_get (D := D) (ci := 7) (v := .ref (a0 0)) (C := RX7) (T := TX7) (N := 13) hx hb hts inlX7 hown hK hP 0 rfl rfl 0 (by decide) (hts (.fieldLink RX7 10 "UnderTheDesks" "room" "LUnderTheDesks$Room;") mw_16) (fun _ h9 => h9) rfl dX7_when_21 ?_
    refine lv_iload_n hx hb dX7_when_24 rfl (lv_at hl 1 rfl) ?_
    refine lv_iload_n hx hb dX7_when_25 rfl (lv_at hl 2 rfl) ?_
    refine xend_rw_v (wf := fun (u : (zS)) => (wX6 K (a0 9) a2 u ++ (wX1 K (a0 0) a1 r1))) (xRunV (wc := (wX6 K (a0 9) a2 r2 ++ (wX1 K (a0 0) a1 r1))) (As := [.ref (a0 0), .int p1, .int p2]) (rest := []) C (c_X6_find h) k_X6_find mw_756 ⟨rfl, rfl⟩ ⟨Nat.le_of_ble_eq_true rfl, Nat.le_of_ble_eq_true rfl⟩ hP hD [9, 10, 11, 12, 13, 3, 4, 5, 6, 7, 8] rfl rfl rfl rfl hl rfl rfl (Nat.le_of_ble_eq_true rfl) dX7_when_26 ⟨Nat.le_refl _, Nat.le_refl _⟩) hP hD hS hA [9, 10, 11, 12, 13, 3, 4, 5, 6, 7, 8] rfl rfl (fun _ => rfl) (fun s4 H locs h hP hD hS => ?_)
    replace hP : va_P D vwCl (wX7 K h0 a0 hs r0 ++ (wX1 K (a0 0) a1 r1 ++ (wX6 K (a0 9) a2 s4 ++ (wX5 K (a0 11) a3 r3)))) H := hP
    replace hD : va_D A (wX7 K h0 a0 hs r0 ++ (wX1 K (a0 0) a1 r1 ++ (wX6 K (a0 9) a2 s4 ++ (wX5 K (a0 11) a3 r3)))) := hD
    refine lv_iconst (v := -1) hx hb dX7_when_29 (by decide) ?_
    refine lv_istore_n (lv' := [(3, .int (-1 : Int32)), (0, .ref h0), (1, .int p1), (2, .int p2)]) hx hb dX7_when_30 rfl hl (by decide) rfl (fun ls hl => ?_)
    refine lv_iconst (v := -1) hx hb dX7_when_31 (by decide) ?_
    refine lv_istore (lv' := [(4, .int (-1 : Int32)), (3, .int (-1 : Int32)), (0, .ref h0), (1, .int p1), (2, .int p2)]) hx hb dX7_when_32 hl (by decide) rfl (fun ls hl => ?_)
    refine lv_iconst (v := 0) hx hb dX7_when_34 (by decide) ?_
    refine lv_istore (lv' := [(5, .int (0 : Int32)), (4, .int (-1 : Int32)), (3, .int (-1 : Int32)), (0, .ref h0), (1, .int p1), (2, .int p2)]) hx hb dX7_when_35 hl (by decide) rfl (fun ls hl => ?_)
    obtain ⟨n0, h⟩ := h
    exact t_X7_when_37 C hA n0 _ _ _ _ _ _ _ _ _ (lv_sub hl [3, 2, 1, 0] rfl) hP hD hS h
  · replace h := And.left h c2
    refine lv_aload_n hx hb dX7_when_9 rfl (lv_at hl 0 rfl) ?_
    refine lv_bipush (v := -2) hx hb dX7_when_10 (by decide) ?_
    refine xend_rw_i (wf := fun (u : (zS)) => (wX7 K h0 a0 hs u)) (xRunV (wc := (wX7 K h0 a0 hs r0)) (As := [.int (-2 : Int32)]) (rest := []) C (c_X7_refuse h) k_X7_refuse mw_147 ⟨rfl, rfl⟩ ⟨Nat.le_of_ble_eq_true rfl, Nat.le_of_ble_eq_true rfl⟩ hP hD [0, 1, 2] rfl rfl rfl rfl hl rfl rfl (Nat.le_of_ble_eq_true rfl) dX7_when_12 ⟨Nat.le_refl _, Nat.le_refl _⟩) hP hD hS hA [0, 1, 2] rfl rfl (fun _ => rfl) (fun v15 s16 H locs h hP hD hS => ?_)
    replace hP : va_P D vwCl (wX7 K h0 a0 hs s16 ++ (wX1 K (a0 0) a1 r1 ++ (wX6 K (a0 9) a2 r2 ++ (wX5 K (a0 11) a3 r3)))) H := hP
    replace hD : va_D A (wX7 K h0 a0 hs s16 ++ (wX1 K (a0 0) a1 r1 ++ (wX6 K (a0 9) a2 r2 ++ (wX5 K (a0 11) a3 r3)))) := hD
    exact xrw_i C (s16, r2, r3) h hP hS dX7_when_15

def wp_X7_answer_16 (r1 : zS) (p1 : Int32) (p2 : Int32) (p3 : Int32) (post : Int32 → (zS) → (zS) → (zS) → Prop) (r0 : zS) (r2 : zS) (r3 : zS) : Prop :=
  wp_X7_refuse r0 (-2 : Int32) (fun v3 s4 => post v3 s4 r2 r3)
def wp_X7_answer (r0 : zS) (r1 : zS) (r2 : zS) (r3 : zS) (p1 : Int32) (p2 : Int32) (p3 : Int32) (post : Int32 → (zS) → (zS) → (zS) → Prop) : Prop :=
  wp_X7_isPair r0 r1 p1 p2 (fun v1 => (v1 = 0 → wp_X7_answer_16 r1 p1 p2 p3 post r0 r2 r3) ∧ (¬ v1 = 0 → wp_X7_isSecond p3 (fun v5 => (v5 = 0 → wp_X7_answer_16 r1 p1 p2 p3 post r0 r2 r3) ∧ (¬ v5 = 0 → wp_X7_chanceIn r0 r1 r2 r3 p1 p2 p3 (fun v7 s8 s9 => (v7 = (-1 : Int32) → wp_X7_refuse r0 (-5 : Int32) (fun v20 s21 => post v20 s21 s8 s9)) ∧ (¬ v7 = (-1 : Int32) → wp_X7_chanceIn r0 r1 s8 s9 p2 p1 (p3 + (s9.1 2)) (fun v12 s13 s14 => (v12 = (-1 : Int32) → wp_X7_refuse r0 (-5 : Int32) (fun v18 s19 => post v18 s19 s13 s14)) ∧ (¬ v12 = (-1 : Int32) → wp_X7_both v7 v12 (fun v17 => post v17 r0 s13 s14)))))))))
set_option maxHeartbeats 4000000 in
set_option maxRecDepth 100000 in
theorem t_X7_answer_16 {p : Program} {l : Launch} {e : Env} {s : State} {m : MethodId} {args : Array Value} {below : List Frame} {meth : Method} {c : Code} {D : va_G} {K : Nat → ClassId} {h0 : Nat} {a0 : Nat → Nat} {hs : Nat → Nat} {a1 : Nat → Nat} {r1 : zS} {a2 : Nat → Nat} {a3 : Nat → Nat} {p1 : Int32} {p2 : Int32} {p3 : Int32} {post : Int32 → (zS) → (zS) → (zS) → Prop} {A : Nat → Prop} (C : xC p s m args meth c cX7_answer RX7 6 (some .int) D vwCl (xty K)) (hA : ∀ q, s.heap.size ≤ q → A q) : ∀ (r0 : zS) (r2 : zS) (r3 : zS) (H : Heap) (locs : List Loc) (ls : Array Slot), lv_has ls 6 [(0, .ref h0)] → va_P D vwCl (wX7 K h0 a0 hs r0 ++ (wX1 K (a0 0) a1 r1 ++ (wX6 K (a0 9) a2 r2 ++ (wX5 K (a0 11) a3 r3)))) H → va_D A (wX7 K h0 a0 hs r0 ++ (wX1 K (a0 0) a1 r1 ++ (wX6 K (a0 9) a2 r2 ++ (wX5 K (a0 11) a3 r3)))) → va_S A s.heap H locs → wp_X7_answer_16 r1 p1 p2 p3 post r0 r2 r3 → W p l e ({ frames := 16, cells := 0, slots := 0, locals := 615 } : Room) s m args below meth c H locs 0 0 (MQ below (va_Qi (fun r (u : (zS) × (zS) × (zS)) => post r u.1 u.2.1 u.2.2) (fun (u : (zS) × (zS) × (zS)) t => va_P D vwCl (wX7 K h0 a0 hs u.1 ++ (wX1 K (a0 0) a1 r1 ++ (wX6 K (a0 9) a2 u.2.1 ++ (wX5 K (a0 11) a3 u.2.2)))) t.heap) A) args s 0 0 A) (F0 m 16 ls []) := by
  obtain ⟨hx, hb, hr, hml, hown, hts, hlocks, hK, hT⟩ := id C
  intro r0 r2 r3 H locs ls hl hP hD hS h
  unfold wp_X7_answer_16 at h
  refine lv_aload_n hx hb dX7_answer_16 rfl (lv_at hl 0 rfl) ?_
  refine lv_bipush (v := -2) hx hb dX7_answer_17 (by decide) ?_
  refine xend_rw_i (wf := fun (u : (zS)) => (wX7 K h0 a0 hs u)) (xRunV (wc := (wX7 K h0 a0 hs r0)) (As := [.int (-2 : Int32)]) (rest := []) C (c_X7_refuse h) k_X7_refuse mw_147 ⟨rfl, rfl⟩ ⟨Nat.le_of_ble_eq_true rfl, Nat.le_of_ble_eq_true rfl⟩ hP hD [0, 1, 2] rfl rfl rfl rfl hl rfl rfl (Nat.le_of_ble_eq_true rfl) dX7_answer_19 ⟨Nat.le_refl _, Nat.le_refl _⟩) hP hD hS hA [0, 1, 2] rfl rfl (fun _ => rfl) (fun v3 s4 H locs h hP hD hS => ?_)
  replace hP : va_P D vwCl (wX7 K h0 a0 hs s4 ++ (wX1 K (a0 0) a1 r1 ++ (wX6 K (a0 9) a2 r2 ++ (wX5 K (a0 11) a3 r3)))) H := hP
  replace hD : va_D A (wX7 K h0 a0 hs s4 ++ (wX1 K (a0 0) a1 r1 ++ (wX6 K (a0 9) a2 r2 ++ (wX5 K (a0 11) a3 r3)))) := hD
  exact xrw_i C (s4, r2, r3) h hP hS dX7_answer_22
set_option maxHeartbeats 4000000 in
set_option maxRecDepth 100000 in
theorem c_X7_answer {l : Launch} {D : va_G} {K : Nat → ClassId} {h0 : Nat} {a0 : Nat → Nat} {hs : Nat → Nat} {r0 : zS} {a1 : Nat → Nat} {r1 : zS} {a2 : Nat → Nat} {r2 : zS} {a3 : Nat → Nat} {r3 : zS} {p1 : Int32} {p2 : Int32} {p3 : Int32} {sz : Nat} {post : Int32 → (zS) → (zS) → (zS) → Prop}   (h : wp_X7_answer r0 r1 r2 r3 p1 p2 p3 post) : Met l yX7_answer (Cond.code yX7_answer cX7_answer 6 (some .int) :: wsL_law) ({ frames := 16, cells := 0, slots := 0, locals := 615 } : Room) (va_Pc [.ref h0, .int p1, .int p2, .int p3] (xPre D vwCl (xty K) (wX7 K h0 a0 hs r0 ++ (wX1 K (a0 0) a1 r1 ++ (wX6 K (a0 9) a2 r2 ++ (wX5 K (a0 11) a3 r3)))) sz)) (va_Qi (fun r (u : (zS) × (zS) × (zS)) => post r u.1 u.2.1 u.2.2) (fun (u : (zS) × (zS) × (zS)) t => va_P D vwCl (wX7 K h0 a0 hs u.1 ++ (wX1 K (a0 0) a1 r1 ++ (wX6 K (a0 9) a2 u.2.1 ++ (wX5 K (a0 11) a3 u.2.2)))) t.heap) (va_A (wX7 K h0 a0 hs r0 ++ (wX1 K (a0 0) a1 r1 ++ (wX6 K (a0 9) a2 r2 ++ (wX5 K (a0 11) a3 r3)))) sz)) 0 0 (va_A (wX7 K h0 a0 hs r0 ++ (wX1 K (a0 0) a1 r1 ++ (wX6 K (a0 9) a2 r2 ++ (wX5 K (a0 11) a3 r3)))) sz) := by
  refine xMet (by decide) rfl (Nat.le_of_ble_eq_true rfl) (fun p e s m args below meth c C hnm hP hD hsz ls hl => ?_)
  have hl : lv_has ls 6 [(0, .ref h0), (1, .int p1), (2, .int p2), (3, .int p3)] := hl
  obtain ⟨hx, hb, hr, hml, hown, hts, hlocks, hK, hT⟩ := id C
  subst hsz
  generalize hAe : va_A (wX7 K h0 a0 hs r0 ++ (wX1 K (a0 0) a1 r1 ++ (wX6 K (a0 9) a2 r2 ++ (wX5 K (a0 11) a3 r3)))) s.heap.size = A at hD ⊢
  have hA : ∀ q : Nat, s.heap.size ≤ q → A q := fun q h => by rw [← hAe]; exact Or.inr h
  have hS : va_S A s.heap s.heap [] := va_S.rf
  have hP : va_P D vwCl (wX7 K h0 a0 hs r0 ++ (wX1 K (a0 0) a1 r1 ++ (wX6 K (a0 9) a2 r2 ++ (wX5 K (a0 11) a3 r3)))) s.heap := hP
  unfold wp_X7_answer at h
  refine lv_aload_n hx hb dX7_answer_0 rfl (lv_at hl 0 rfl) ?_
  refine lv_iload_n hx hb dX7_answer_1 rfl (lv_at hl 1 rfl) ?_
  refine lv_iload_n hx hb dX7_answer_2 rfl (lv_at hl 2 rfl) ?_
  refine xend_ro_i (xRunV (wc := (wX7 K h0 a0 hs r0 ++ (wX1 K (a0 0) a1 r1))) (As := [.int p1, .int p2]) (rest := []) C (c_X7_isPair h) k_X7_isPair mw_429 ⟨rfl, rfl⟩ ⟨Nat.le_of_ble_eq_true rfl, Nat.le_of_ble_eq_true rfl⟩ hP hD [0, 1, 2, 3, 4, 5, 6, 7, 8] rfl rfl rfl rfl hl rfl rfl (Nat.le_of_ble_eq_true rfl) dX7_answer_3 ⟨Nat.le_refl _, Nat.le_refl _⟩) (fun v1 h => ?_)
  refine lv_if_eq (tgt := 16) hx hb dX7_answer_6 (by decide) (fun c2 => ?_) (fun c2 => ?_)
  · replace h := And.left h c2
    exact t_X7_answer_16 C hA _ _ _ _ _ _ (lv_sub hl [0] rfl) hP hD hS h
  · replace h := And.right h c2
    refine lv_iload_n hx hb dX7_answer_9 rfl (lv_at hl 3 rfl) ?_
    refine xend_ro_i (xRunS (wc := ([] : va_W)) (As := [.int p3]) (rest := []) C (c_X7_isSecond h) k_X7_isSecond mw_725 ⟨rfl, rfl⟩ ⟨Nat.le_of_ble_eq_true rfl, Nat.le_of_ble_eq_true rfl⟩ hP hD [] rfl rfl hl rfl rfl (Nat.le_of_ble_eq_true rfl) dX7_answer_10 ⟨Nat.le_refl _, Nat.le_refl _⟩) (fun v5 h => ?_)
    refine lv_if_ne (tgt := 23) hx hb dX7_answer_13 (by decide) (fun c6 => ?_) (fun c6 => ?_)
    · replace h := And.right h c6
      refine lv_aload_n hx hb dX7_answer_23 rfl (lv_at hl 0 rfl) ?_
      refine lv_aload_n hx hb dX7_answer_24 rfl (lv_at hl 0 rfl) ?_
      refine va_get (D := D) (ci := 7) (v := .ref (a0 0)) (C := RX7) (T := TX7) (N := 13) hx hb hts inlX7 hown hK hP 0 rfl rfl 0 (by decide) (hts (.fieldLink RX7 10 "UnderTheDesks" "room" "LUnderTheDesks$Room;") mw_16) (fun _ h9 => h9) rfl dX7_answer_25 ?_
      refine lv_iload_n hx hb dX7_answer_28 rfl (lv_at hl 1 rfl) ?_
      refine lv_iload_n hx hb dX7_answer_29 rfl (lv_at hl 2 rfl) ?_
      refine lv_iload_n hx hb dX7_answer_30 rfl (lv_at hl 3 rfl) ?_
      refine xend_rw_i_id (wf := fun (u : (zS) × (zS)) => (wX7 K h0 a0 hs r0 ++ (wX1 K (a0 0) a1 r1 ++ (wX6 K (a0 9) a2 u.1 ++ (wX5 K (a0 11) a3 u.2))))) (xRunV_id (As := [.ref (a0 0), .int p1, .int p2, .int p3]) (rest := []) C (c_X7_chanceIn h) k_X7_chanceIn mw_931 ⟨rfl, rfl⟩ ⟨Nat.le_of_ble_eq_true rfl, Nat.le_of_ble_eq_true rfl⟩ hP hD rfl rfl hl rfl rfl (Nat.le_of_ble_eq_true rfl) dX7_answer_31 ⟨Nat.le_refl _, Nat.le_refl _⟩) hD hS hA (fun _ => rfl) (fun v7 u10 H locs h hP hD hS => ?_)
      obtain ⟨s8, s9⟩ := u10
      refine lv_istore (lv' := [(4, .int v7), (0, .ref h0), (1, .int p1), (2, .int p2), (3, .int p3)]) hx hb dX7_answer_34 hl (by decide) rfl (fun ls hl => ?_)
      refine lv_iload hx hb dX7_answer_36 (lv_at hl 0 rfl) ?_
      refine lv_iconst (v := -1) hx hb dX7_answer_38 (by decide) ?_
      refine lv_icmp_ne (tgt := 49) hx hb dX7_answer_39 (by decide) (fun c11 => ?_) (fun c11 => ?_)
      · replace h := And.right h c11
        refine lv_aload_n hx hb dX7_answer_49 rfl (lv_at hl 1 rfl) ?_
        refine lv_aload_n hx hb dX7_answer_50 rfl (lv_at hl 1 rfl) ?_
        refine va_get (D := D) (ci := 7) (v := .ref (a0 0)) (C := RX7) (T := TX7) (N := 13) hx hb hts inlX7 hown hK hP 0 rfl rfl 0 (by decide) (hts (.fieldLink RX7 10 "UnderTheDesks" "room" "LUnderTheDesks$Room;") mw_16) (fun _ h9 => h9) rfl dX7_answer_51 ?_
        refine lv_iload_n hx hb dX7_answer_54 rfl (lv_at hl 3 rfl) ?_
        refine lv_iload_n hx hb dX7_answer_55 rfl (lv_at hl 2 rfl) ?_
        refine lv_iload_n hx hb dX7_answer_56 rfl (lv_at hl 4 rfl) ?_
        refine lv_aload_n hx hb dX7_answer_57 rfl (lv_at hl 1 rfl) ?_
        refine va_get (D := D) (ci := 7) (v := .ref (a0 11)) (C := RX7) (T := TX7) (N := 13) hx hb hts inlX7 hown hK hP 0 rfl rfl 11 (by decide) (hts (.fieldLink RX7 71 "UnderTheDesks" "walk" "LUnderTheDesks$Walk;") mw_43) (fun _ h9 => h9) rfl dX7_answer_58 ?_
        refine va_get (D := D) (ci := 5) (v := .int (s9.1 2)) (C := RX5) (T := TX5) (N := 4) hx hb hts inlX5 hown hK hP 14 rfl rfl 2 (by decide) (hts (.fieldLink RX7 299 "UnderTheDesks$Walk" "seconds" "I") mw_987) (fun _ h9 => h9) rfl dX7_answer_61 ?_
        refine lv_iadd hx hb dX7_answer_64 ?_
        refine xend_rw_i_id (wf := fun (u : (zS) × (zS)) => (wX7 K h0 a0 hs r0 ++ (wX1 K (a0 0) a1 r1 ++ (wX6 K (a0 9) a2 u.1 ++ (wX5 K (a0 11) a3 u.2))))) (xRunV_id (As := [.ref (a0 0), .int p2, .int p1, .int (p3 + (s9.1 2))]) (rest := []) C (c_X7_chanceIn h) k_X7_chanceIn mw_931 ⟨rfl, rfl⟩ ⟨Nat.le_of_ble_eq_true rfl, Nat.le_of_ble_eq_true rfl⟩ hP hD rfl rfl hl rfl rfl (Nat.le_of_ble_eq_true rfl) dX7_answer_65 ⟨Nat.le_refl _, Nat.le_refl _⟩) hD hS hA (fun _ => rfl) (fun v12 u15 H locs h hP hD hS => ?_)
        obtain ⟨s13, s14⟩ := u15
        refine lv_istore (lv' := [(5, .int v12), (4, .int v7), (0, .ref h0), (1, .int p1), (2, .int p2), (3, .int p3)]) hx hb dX7_answer_68 hl (by decide) rfl (fun ls hl => ?_)
        refine lv_iload hx hb dX7_answer_70 (lv_at hl 0 rfl) ?_
        refine lv_iconst (v := -1) hx hb dX7_answer_72 (by decide) ?_
        refine lv_icmp_ne (tgt := 85) hx hb dX7_answer_73 (by decide) (fun c16 => ?_) (fun c16 => ?_)
        · replace h := And.right h c16
          refine lv_iload hx hb dX7_answer_85 (lv_at hl 1 rfl) ?_
          refine lv_iload hx hb dX7_answer_87 (lv_at hl 0 rfl) ?_
          refine xend_ro_i (xRunS (wc := ([] : va_W)) (As := [.int v7, .int v12]) (rest := []) C (c_X7_both h) k_X7_both mw_914 ⟨rfl, rfl⟩ ⟨Nat.le_of_ble_eq_true rfl, Nat.le_of_ble_eq_true rfl⟩ hP hD [] rfl rfl hl rfl rfl (Nat.le_of_ble_eq_true rfl) dX7_answer_89 ⟨Nat.le_refl _, Nat.le_refl _⟩) (fun v17 h => ?_)
          exact xrw_i C (r0, s13, s14) h hP hS dX7_answer_92
        · replace h := And.left h c16
          refine lv_aload_n hx hb dX7_answer_76 rfl (lv_at hl 2 rfl) ?_
          refine lv_bipush (v := -5) hx hb dX7_answer_77 (by decide) ?_
          refine xend_rw_i (wf := fun (u : (zS)) => (wX7 K h0 a0 hs u)) (xRunV (wc := (wX7 K h0 a0 hs r0)) (As := [.int (-5 : Int32)]) (rest := []) C (c_X7_refuse h) k_X7_refuse mw_147 ⟨rfl, rfl⟩ ⟨Nat.le_of_ble_eq_true rfl, Nat.le_of_ble_eq_true rfl⟩ hP hD [0, 1, 2] rfl rfl rfl rfl hl rfl rfl (Nat.le_of_ble_eq_true rfl) dX7_answer_79 ⟨Nat.le_refl _, Nat.le_refl _⟩) hP hD hS hA [0, 1, 2] rfl rfl (fun _ => rfl) (fun v18 s19 H locs h hP hD hS => ?_)
          replace hP : va_P D vwCl (wX7 K h0 a0 hs s19 ++ (wX1 K (a0 0) a1 r1 ++ (wX6 K (a0 9) a2 s13 ++ (wX5 K (a0 11) a3 s14)))) H := hP
          replace hD : va_D A (wX7 K h0 a0 hs s19 ++ (wX1 K (a0 0) a1 r1 ++ (wX6 K (a0 9) a2 s13 ++ (wX5 K (a0 11) a3 s14)))) := hD
          refine lv_goto (tgt := 92) hx hb dX7_answer_82 (by decide) ?_
          exact xrw_i C (s19, s13, s14) h hP hS dX7_answer_92
      · replace h := And.left h c11
        refine lv_aload_n hx hb dX7_answer_42 rfl (lv_at hl 1 rfl) ?_
        refine lv_bipush (v := -5) hx hb dX7_answer_43 (by decide) ?_
        refine xend_rw_i (wf := fun (u : (zS)) => (wX7 K h0 a0 hs u)) (xRunV (wc := (wX7 K h0 a0 hs r0)) (As := [.int (-5 : Int32)]) (rest := []) C (c_X7_refuse h) k_X7_refuse mw_147 ⟨rfl, rfl⟩ ⟨Nat.le_of_ble_eq_true rfl, Nat.le_of_ble_eq_true rfl⟩ hP hD [0, 1, 2] rfl rfl rfl rfl hl rfl rfl (Nat.le_of_ble_eq_true rfl) dX7_answer_45 ⟨Nat.le_refl _, Nat.le_refl _⟩) hP hD hS hA [0, 1, 2] rfl rfl (fun _ => rfl) (fun v20 s21 H locs h hP hD hS => ?_)
        replace hP : va_P D vwCl (wX7 K h0 a0 hs s21 ++ (wX1 K (a0 0) a1 r1 ++ (wX6 K (a0 9) a2 s8 ++ (wX5 K (a0 11) a3 s9)))) H := hP
        replace hD : va_D A (wX7 K h0 a0 hs s21 ++ (wX1 K (a0 0) a1 r1 ++ (wX6 K (a0 9) a2 s8 ++ (wX5 K (a0 11) a3 s9)))) := hD
        exact xrw_i C (s21, s8, s9) h hP hS dX7_answer_48
    · replace h := And.left h c6
      exact t_X7_answer_16 C hA _ _ _ _ _ _ (lv_sub hl [0] rfl) hP hD hS h

def wp_X7_halves_16 (r1 : zS) (p1 : Int32) (p2 : Int32) (p3 : Int32) (post : Int32 → (zS) → (zS) → (zS) → Prop) (r0 : zS) (r2 : zS) (r3 : zS) : Prop :=
  wp_X7_refuse r0 (-2 : Int32) (fun v3 s4 => post v3 s4 r2 r3)
def wp_X7_halves_138 (r1 : zS) (p1 : Int32) (p2 : Int32) (p3 : Int32) (post : Int32 → (zS) → (zS) → (zS) → Prop) (k58 : (zS) → (zS) → (zS) → Int32 → Int32 → Prop) (k76 : (zS) → (zS) → (zS) → Int32 → Int32 → Int32 → Prop) (r0 : zS) (r2 : zS) (r3 : zS) (x4 : Int32) (x5 : Int32) (x6 : Int32) : Prop :=
  ∀ v23 : Int32, v23 = x6 + (1 : Int32) → k76 r0 r2 r3 x4 x5 v23
def wb_X7_halves_76 (r1 : zS) (p1 : Int32) (p2 : Int32) (p3 : Int32) (post : Int32 → (zS) → (zS) → (zS) → Prop) (k58 : (zS) → (zS) → (zS) → Int32 → Int32 → Prop) (ih : (zS) → (zS) → (zS) → Int32 → Int32 → Int32 → Prop) (r0 : zS) (r2 : zS) (r3 : zS) (x4 : Int32) (x5 : Int32) (x6 : Int32) : Prop :=
  ((r2.1 0) ≤ x6 → ∀ v19 : Int32, v19 = x5 + (1 : Int32) → k58 r0 r2 r3 x4 v19) ∧ (¬ (r2.1 0) ≤ x6 → wp_X6_betweenOf r2 x5 (fun v20 => wp_X6_betweenOf r2 x6 (fun v21 => ((v20 &&& v21) = 0 → wp_X6_chanceOf r2 x5 (fun v24 => wp_X6_chanceOf r2 x6 (fun v25 => wp_X7_both v24 v25 (fun v26 => ∀ v27 : Int32, v27 = (if x4 < v26 then v26 else x4) → wp_X7_halves_138 r1 p1 p2 p3 post k58 ih r0 r2 r3 v27 x5 x6)))) ∧ (¬ (v20 &&& v21) = 0 → wp_X7_halves_138 r1 p1 p2 p3 post k58 ih r0 r2 r3 x4 x5 x6))))
def wp_X7_halves_76 (r1 : zS) (p1 : Int32) (p2 : Int32) (p3 : Int32) (post : Int32 → (zS) → (zS) → (zS) → Prop) (k58 : (zS) → (zS) → (zS) → Int32 → Int32 → Prop) (n : Nat) : (zS) → (zS) → (zS) → Int32 → Int32 → Int32 → Prop := Nat.rec (motive := fun _ => (zS) → (zS) → (zS) → Int32 → Int32 → Int32 → Prop) (fun _ _ _ _ _ _ => False) (fun _ ih => wb_X7_halves_76 r1 p1 p2 p3 post k58 ih) n
theorem wu_X7_halves_76 (r1 : zS) (p1 : Int32) (p2 : Int32) (p3 : Int32) (post : Int32 → (zS) → (zS) → (zS) → Prop) (k58 : (zS) → (zS) → (zS) → Int32 → Int32 → Prop) (n : Nat) (r0 : zS) (r2 : zS) (r3 : zS) (x4 : Int32) (x5 : Int32) (x6 : Int32) : wp_X7_halves_76 r1 p1 p2 p3 post k58 (n + 1) r0 r2 r3 x4 x5 x6 = wb_X7_halves_76 r1 p1 p2 p3 post k58 (wp_X7_halves_76 r1 p1 p2 p3 post k58 n) r0 r2 r3 x4 x5 x6 := rfl
def wb_X7_halves_58 (r1 : zS) (p1 : Int32) (p2 : Int32) (p3 : Int32) (post : Int32 → (zS) → (zS) → (zS) → Prop) (ih : (zS) → (zS) → (zS) → Int32 → Int32 → Prop) (r0 : zS) (r2 : zS) (r3 : zS) (x4 : Int32) (x5 : Int32) : Prop :=
  ((r2.1 0) ≤ x5 → (x4 = (-1 : Int32) → wp_X7_refuse r0 (-5 : Int32) (fun v15 s16 => post v15 s16 r2 r3)) ∧ (¬ x4 = (-1 : Int32) → post x4 r0 r2 r3)) ∧ (¬ (r2.1 0) ≤ x5 → ∀ v17 : Int32, v17 = (x5 + (1 : Int32)) → ∃ n : Nat, wp_X7_halves_76 r1 p1 p2 p3 post ih n r0 r2 r3 x4 x5 v17)
def wp_X7_halves_58 (r1 : zS) (p1 : Int32) (p2 : Int32) (p3 : Int32) (post : Int32 → (zS) → (zS) → (zS) → Prop) (n : Nat) : (zS) → (zS) → (zS) → Int32 → Int32 → Prop := Nat.rec (motive := fun _ => (zS) → (zS) → (zS) → Int32 → Int32 → Prop) (fun _ _ _ _ _ => False) (fun _ ih => wb_X7_halves_58 r1 p1 p2 p3 post ih) n
theorem wu_X7_halves_58 (r1 : zS) (p1 : Int32) (p2 : Int32) (p3 : Int32) (post : Int32 → (zS) → (zS) → (zS) → Prop) (n : Nat) (r0 : zS) (r2 : zS) (r3 : zS) (x4 : Int32) (x5 : Int32) : wp_X7_halves_58 r1 p1 p2 p3 post (n + 1) r0 r2 r3 x4 x5 = wb_X7_halves_58 r1 p1 p2 p3 post (wp_X7_halves_58 r1 p1 p2 p3 post n) r0 r2 r3 x4 x5 := rfl
def wp_X7_halves (r0 : zS) (r1 : zS) (r2 : zS) (r3 : zS) (p1 : Int32) (p2 : Int32) (p3 : Int32) (post : Int32 → (zS) → (zS) → (zS) → Prop) : Prop :=
  wp_X7_isPair r0 r1 p1 p2 (fun v1 => (v1 = 0 → wp_X7_halves_16 r1 p1 p2 p3 post r0 r2 r3) ∧ (¬ v1 = 0 → wp_X7_isSecond p3 (fun v5 => (v5 = 0 → wp_X7_halves_16 r1 p1 p2 p3 post r0 r2 r3) ∧ (¬ v5 = 0 → wp_X6_find r2 r1 p1 p2 (fun s8 => wp_X5_rate r3 r1 s8 p3 (fun s10 s11 => ∃ n : Nat, wp_X7_halves_58 r1 p1 p2 p3 post n r0 s11 s10 (-1 : Int32) (0 : Int32)))))))
set_option maxHeartbeats 4000000 in
set_option maxRecDepth 100000 in
theorem t_X7_halves_16 {p : Program} {l : Launch} {e : Env} {s : State} {m : MethodId} {args : Array Value} {below : List Frame} {meth : Method} {c : Code} {D : va_G} {K : Nat → ClassId} {h0 : Nat} {a0 : Nat → Nat} {hs : Nat → Nat} {a1 : Nat → Nat} {r1 : zS} {a2 : Nat → Nat} {a3 : Nat → Nat} {p1 : Int32} {p2 : Int32} {p3 : Int32} {post : Int32 → (zS) → (zS) → (zS) → Prop} {A : Nat → Prop} (C : xC p s m args meth c cX7_halves RX7 7 (some .int) D vwCl (xty K)) (hA : ∀ q, s.heap.size ≤ q → A q) : ∀ (r0 : zS) (r2 : zS) (r3 : zS) (H : Heap) (locs : List Loc) (ls : Array Slot), lv_has ls 7 [(0, .ref h0)] → va_P D vwCl (wX7 K h0 a0 hs r0 ++ (wX1 K (a0 0) a1 r1 ++ (wX6 K (a0 9) a2 r2 ++ (wX5 K (a0 11) a3 r3)))) H → va_D A (wX7 K h0 a0 hs r0 ++ (wX1 K (a0 0) a1 r1 ++ (wX6 K (a0 9) a2 r2 ++ (wX5 K (a0 11) a3 r3)))) → va_S A s.heap H locs → wp_X7_halves_16 r1 p1 p2 p3 post r0 r2 r3 → W p l e ({ frames := 15, cells := 0, slots := 0, locals := 591 } : Room) s m args below meth c H locs 0 0 (MQ below (va_Qi (fun r (u : (zS) × (zS) × (zS)) => post r u.1 u.2.1 u.2.2) (fun (u : (zS) × (zS) × (zS)) t => va_P D vwCl (wX7 K h0 a0 hs u.1 ++ (wX1 K (a0 0) a1 r1 ++ (wX6 K (a0 9) a2 u.2.1 ++ (wX5 K (a0 11) a3 u.2.2)))) t.heap) A) args s 0 0 A) (F0 m 16 ls []) := by
  obtain ⟨hx, hb, hr, hml, hown, hts, hlocks, hK, hT⟩ := id C
  intro r0 r2 r3 H locs ls hl hP hD hS h
  unfold wp_X7_halves_16 at h
  refine lv_aload_n hx hb dX7_halves_16 rfl (lv_at hl 0 rfl) ?_
  refine lv_bipush (v := -2) hx hb dX7_halves_17 (by decide) ?_
  refine xend_rw_i (wf := fun (u : (zS)) => (wX7 K h0 a0 hs u)) (xRunV (wc := (wX7 K h0 a0 hs r0)) (As := [.int (-2 : Int32)]) (rest := []) C (c_X7_refuse h) k_X7_refuse mw_147 ⟨rfl, rfl⟩ ⟨Nat.le_of_ble_eq_true rfl, Nat.le_of_ble_eq_true rfl⟩ hP hD [0, 1, 2] rfl rfl rfl rfl hl rfl rfl (Nat.le_of_ble_eq_true rfl) dX7_halves_19 ⟨Nat.le_refl _, Nat.le_refl _⟩) hP hD hS hA [0, 1, 2] rfl rfl (fun _ => rfl) (fun v3 s4 H locs h hP hD hS => ?_)
  replace hP : va_P D vwCl (wX7 K h0 a0 hs s4 ++ (wX1 K (a0 0) a1 r1 ++ (wX6 K (a0 9) a2 r2 ++ (wX5 K (a0 11) a3 r3)))) H := hP
  replace hD : va_D A (wX7 K h0 a0 hs s4 ++ (wX1 K (a0 0) a1 r1 ++ (wX6 K (a0 9) a2 r2 ++ (wX5 K (a0 11) a3 r3)))) := hD
  exact xrw_i C (s4, r2, r3) h hP hS dX7_halves_22
set_option maxHeartbeats 4000000 in
set_option maxRecDepth 100000 in
theorem t_X7_halves_138 {p : Program} {l : Launch} {e : Env} {s : State} {m : MethodId} {args : Array Value} {below : List Frame} {meth : Method} {c : Code} {D : va_G} {K : Nat → ClassId} {h0 : Nat} {a0 : Nat → Nat} {hs : Nat → Nat} {a1 : Nat → Nat} {r1 : zS} {a2 : Nat → Nat} {a3 : Nat → Nat} {p1 : Int32} {p2 : Int32} {p3 : Int32} {post : Int32 → (zS) → (zS) → (zS) → Prop} {A : Nat → Prop} (C : xC p s m args meth c cX7_halves RX7 7 (some .int) D vwCl (xty K)) (hA : ∀ q, s.heap.size ≤ q → A q) {k58 : (zS) → (zS) → (zS) → Int32 → Int32 → Prop} (hk58 : ∀ (r0 : zS) (r2 : zS) (r3 : zS) (x4 : Int32) (x5 : Int32) (H : Heap) (locs : List Loc) (ls : Array Slot), lv_has ls 7 [(0, .ref h0), (4, .int x4), (5, .int x5)] → va_P D vwCl (wX7 K h0 a0 hs r0 ++ (wX1 K (a0 0) a1 r1 ++ (wX6 K (a0 9) a2 r2 ++ (wX5 K (a0 11) a3 r3)))) H → va_D A (wX7 K h0 a0 hs r0 ++ (wX1 K (a0 0) a1 r1 ++ (wX6 K (a0 9) a2 r2 ++ (wX5 K (a0 11) a3 r3)))) → va_S A s.heap H locs → k58 r0 r2 r3 x4 x5  → W p l e ({ frames := 15, cells := 0, slots := 0, locals := 591 } : Room) s m args below meth c H locs 0 0 (MQ below (va_Qi (fun r (u : (zS) × (zS) × (zS)) => post r u.1 u.2.1 u.2.2) (fun (u : (zS) × (zS) × (zS)) t => va_P D vwCl (wX7 K h0 a0 hs u.1 ++ (wX1 K (a0 0) a1 r1 ++ (wX6 K (a0 9) a2 u.2.1 ++ (wX5 K (a0 11) a3 u.2.2)))) t.heap) A) args s 0 0 A) (F0 m 58 ls [])) {k76 : (zS) → (zS) → (zS) → Int32 → Int32 → Int32 → Prop} (hk76 : ∀ (r0 : zS) (r2 : zS) (r3 : zS) (x4 : Int32) (x5 : Int32) (x6 : Int32) (H : Heap) (locs : List Loc) (ls : Array Slot), lv_has ls 7 [(0, .ref h0), (4, .int x4), (5, .int x5), (6, .int x6)] → va_P D vwCl (wX7 K h0 a0 hs r0 ++ (wX1 K (a0 0) a1 r1 ++ (wX6 K (a0 9) a2 r2 ++ (wX5 K (a0 11) a3 r3)))) H → va_D A (wX7 K h0 a0 hs r0 ++ (wX1 K (a0 0) a1 r1 ++ (wX6 K (a0 9) a2 r2 ++ (wX5 K (a0 11) a3 r3)))) → va_S A s.heap H locs → k76 r0 r2 r3 x4 x5 x6  → W p l e ({ frames := 15, cells := 0, slots := 0, locals := 591 } : Room) s m args below meth c H locs 0 0 (MQ below (va_Qi (fun r (u : (zS) × (zS) × (zS)) => post r u.1 u.2.1 u.2.2) (fun (u : (zS) × (zS) × (zS)) t => va_P D vwCl (wX7 K h0 a0 hs u.1 ++ (wX1 K (a0 0) a1 r1 ++ (wX6 K (a0 9) a2 u.2.1 ++ (wX5 K (a0 11) a3 u.2.2)))) t.heap) A) args s 0 0 A) (F0 m 76 ls [])) : ∀ (r0 : zS) (r2 : zS) (r3 : zS) (x4 : Int32) (x5 : Int32) (x6 : Int32) (H : Heap) (locs : List Loc) (ls : Array Slot), lv_has ls 7 [(0, .ref h0), (4, .int x4), (5, .int x5), (6, .int x6)] → va_P D vwCl (wX7 K h0 a0 hs r0 ++ (wX1 K (a0 0) a1 r1 ++ (wX6 K (a0 9) a2 r2 ++ (wX5 K (a0 11) a3 r3)))) H → va_D A (wX7 K h0 a0 hs r0 ++ (wX1 K (a0 0) a1 r1 ++ (wX6 K (a0 9) a2 r2 ++ (wX5 K (a0 11) a3 r3)))) → va_S A s.heap H locs → wp_X7_halves_138 r1 p1 p2 p3 post k58 k76 r0 r2 r3 x4 x5 x6 → W p l e ({ frames := 15, cells := 0, slots := 0, locals := 591 } : Room) s m args below meth c H locs 0 0 (MQ below (va_Qi (fun r (u : (zS) × (zS) × (zS)) => post r u.1 u.2.1 u.2.2) (fun (u : (zS) × (zS) × (zS)) t => va_P D vwCl (wX7 K h0 a0 hs u.1 ++ (wX1 K (a0 0) a1 r1 ++ (wX6 K (a0 9) a2 u.2.1 ++ (wX5 K (a0 11) a3 u.2.2)))) t.heap) A) args s 0 0 A) (F0 m 138 ls []) := by
  obtain ⟨hx, hb, hr, hml, hown, hts, hlocks, hK, hT⟩ := id C
  intro r0 r2 r3 x4 x5 x6 H locs ls hl hP hD hS h
  unfold wp_X7_halves_138 at h
  obtain ⟨v23, ev23⟩ : ∃ y : Int32, y = x6 + (1 : Int32) := ⟨_, rfl⟩
  replace h := h v23 ev23
  refine lv_iinc (v := v23) (lv' := [(6, .int v23), (0, .ref h0), (4, .int x4), (5, .int x5)]) hx hb dX7_halves_138 hl (k := 3) rfl (by rw [ev23]; rfl) (by decide) rfl (fun ls hl => ?_)
  refine lv_goto (tgt := 76) hx hb dX7_halves_141 (by decide) ?_
  exact hk76 _ _ _ _ _ _ _ _ _ (lv_sub hl [1, 2, 3, 0] rfl) hP hD hS h
set_option maxHeartbeats 4000000 in
set_option maxRecDepth 100000 in
theorem t_X7_halves_76 {p : Program} {l : Launch} {e : Env} {s : State} {m : MethodId} {args : Array Value} {below : List Frame} {meth : Method} {c : Code} {D : va_G} {K : Nat → ClassId} {h0 : Nat} {a0 : Nat → Nat} {hs : Nat → Nat} {a1 : Nat → Nat} {r1 : zS} {a2 : Nat → Nat} {a3 : Nat → Nat} {p1 : Int32} {p2 : Int32} {p3 : Int32} {post : Int32 → (zS) → (zS) → (zS) → Prop} {A : Nat → Prop} (C : xC p s m args meth c cX7_halves RX7 7 (some .int) D vwCl (xty K)) (hA : ∀ q, s.heap.size ≤ q → A q) {k58 : (zS) → (zS) → (zS) → Int32 → Int32 → Prop} (hk58 : ∀ (r0 : zS) (r2 : zS) (r3 : zS) (x4 : Int32) (x5 : Int32) (H : Heap) (locs : List Loc) (ls : Array Slot), lv_has ls 7 [(0, .ref h0), (4, .int x4), (5, .int x5)] → va_P D vwCl (wX7 K h0 a0 hs r0 ++ (wX1 K (a0 0) a1 r1 ++ (wX6 K (a0 9) a2 r2 ++ (wX5 K (a0 11) a3 r3)))) H → va_D A (wX7 K h0 a0 hs r0 ++ (wX1 K (a0 0) a1 r1 ++ (wX6 K (a0 9) a2 r2 ++ (wX5 K (a0 11) a3 r3)))) → va_S A s.heap H locs → k58 r0 r2 r3 x4 x5  → W p l e ({ frames := 15, cells := 0, slots := 0, locals := 591 } : Room) s m args below meth c H locs 0 0 (MQ below (va_Qi (fun r (u : (zS) × (zS) × (zS)) => post r u.1 u.2.1 u.2.2) (fun (u : (zS) × (zS) × (zS)) t => va_P D vwCl (wX7 K h0 a0 hs u.1 ++ (wX1 K (a0 0) a1 r1 ++ (wX6 K (a0 9) a2 u.2.1 ++ (wX5 K (a0 11) a3 u.2.2)))) t.heap) A) args s 0 0 A) (F0 m 58 ls [])) : ∀ (n : Nat) (r0 : zS) (r2 : zS) (r3 : zS) (x4 : Int32) (x5 : Int32) (x6 : Int32) (H : Heap) (locs : List Loc) (ls : Array Slot), lv_has ls 7 [(0, .ref h0), (4, .int x4), (5, .int x5), (6, .int x6)] → va_P D vwCl (wX7 K h0 a0 hs r0 ++ (wX1 K (a0 0) a1 r1 ++ (wX6 K (a0 9) a2 r2 ++ (wX5 K (a0 11) a3 r3)))) H → va_D A (wX7 K h0 a0 hs r0 ++ (wX1 K (a0 0) a1 r1 ++ (wX6 K (a0 9) a2 r2 ++ (wX5 K (a0 11) a3 r3)))) → va_S A s.heap H locs → wp_X7_halves_76 r1 p1 p2 p3 post k58 n r0 r2 r3 x4 x5 x6 → W p l e ({ frames := 15, cells := 0, slots := 0, locals := 591 } : Room) s m args below meth c H locs 0 0 (MQ below (va_Qi (fun r (u : (zS) × (zS) × (zS)) => post r u.1 u.2.1 u.2.2) (fun (u : (zS) × (zS) × (zS)) t => va_P D vwCl (wX7 K h0 a0 hs u.1 ++ (wX1 K (a0 0) a1 r1 ++ (wX6 K (a0 9) a2 u.2.1 ++ (wX5 K (a0 11) a3 u.2.2)))) t.heap) A) args s 0 0 A) (F0 m 76 ls []) := by
  obtain ⟨hx, hb, hr, hml, hown, hts, hlocks, hK, hT⟩ := id C
  intro n
  induction n with
  | zero =>
    intro r0 r2 r3 x4 x5 x6 H locs ls hl hP hD hS h
    exact False.elim h
  | succ n ihn =>
    intro r0 r2 r3 x4 x5 x6 H locs ls hl hP hD hS h
    rw [wu_X7_halves_76] at h
    unfold wb_X7_halves_76 at h
    refine lv_iload hx hb dX7_halves_76 (lv_at hl 3 rfl) ?_
    refine lv_aload_n hx hb dX7_halves_78 rfl (lv_at hl 0 rfl) ?_
    refine va_get (D := D) (ci := 7) (v := .ref (a0 9)) (C := RX7) (T := TX7) (N := 13) hx hb hts inlX7 hown hK hP 0 rfl rfl 9 (by decide) (hts (.fieldLink RX7 61 "UnderTheDesks" "paths" "LUnderTheDesks$Ways;") mw_38) (fun _ h9 => h9) rfl dX7_halves_79 ?_
    refine va_get (D := D) (ci := 6) (v := .int (r2.1 0)) (C := RX6) (T := TX6) (N := 5) hx hb hts inlX6 hown hK hP 9 rfl rfl 0 (by decide) (hts (.fieldLink RX7 250 "UnderTheDesks$Ways" "count" "I") mw_755) (fun _ h9 => h9) rfl dX7_halves_82 ?_
    refine lv_icmp_ge (tgt := 144) hx hb dX7_halves_85 (by decide) (fun c18 => ?_) (fun c18 => ?_)
    · replace h := And.left h c18
      obtain ⟨v19, ev19⟩ : ∃ y : Int32, y = x5 + (1 : Int32) := ⟨_, rfl⟩
      replace h := h v19 ev19
      refine lv_iinc (v := v19) (lv' := [(5, .int v19), (0, .ref h0), (4, .int x4), (6, .int x6)]) hx hb dX7_halves_144 hl (k := 2) rfl (by rw [ev19]; rfl) (by decide) rfl (fun ls hl => ?_)
      refine lv_goto (tgt := 58) hx hb dX7_halves_147 (by decide) ?_
      exact hk58 _ _ _ _ _ _ _ _ (lv_sub hl [1, 2, 0] rfl) hP hD hS h
    · replace h := And.right h c18
      refine lv_aload_n hx hb dX7_halves_88 rfl (lv_at hl 0 rfl) ?_
      refine va_get (D := D) (ci := 7) (v := .ref (a0 9)) (C := RX7) (T := TX7) (N := 13) hx hb hts inlX7 hown hK hP 0 rfl rfl 9 (by decide) (hts (.fieldLink RX7 61 "UnderTheDesks" "paths" "LUnderTheDesks$Ways;") mw_38) (fun _ h9 => h9) rfl dX7_halves_89 ?_
      refine lv_iload hx hb dX7_halves_92 (lv_at hl 2 rfl) ?_
      refine xend_ro_i (xRunV (wc := (wX6 K (a0 9) a2 r2)) (As := [.int x5]) (rest := []) C (c_X6_betweenOf h) k_X6_betweenOf mw_884 ⟨rfl, rfl⟩ ⟨Nat.le_of_ble_eq_true rfl, Nat.le_of_ble_eq_true rfl⟩ hP hD [9, 10, 11, 12, 13] rfl rfl rfl rfl hl rfl rfl (Nat.le_of_ble_eq_true rfl) dX7_halves_94 ⟨Nat.le_refl _, Nat.le_refl _⟩) (fun v20 h => ?_)
      refine lv_aload_n hx hb dX7_halves_97 rfl (lv_at hl 0 rfl) ?_
      refine va_get (D := D) (ci := 7) (v := .ref (a0 9)) (C := RX7) (T := TX7) (N := 13) hx hb hts inlX7 hown hK hP 0 rfl rfl 9 (by decide) (hts (.fieldLink RX7 61 "UnderTheDesks" "paths" "LUnderTheDesks$Ways;") mw_38) (fun _ h9 => h9) rfl dX7_halves_98 ?_
      refine lv_iload hx hb dX7_halves_101 (lv_at hl 3 rfl) ?_
      refine xend_ro_i (xRunV (wc := (wX6 K (a0 9) a2 r2)) (As := [.int x6]) (rest := [.int v20]) C (c_X6_betweenOf h) k_X6_betweenOf mw_884 ⟨rfl, rfl⟩ ⟨Nat.le_of_ble_eq_true rfl, Nat.le_of_ble_eq_true rfl⟩ hP hD [9, 10, 11, 12, 13] rfl rfl rfl rfl hl rfl rfl (Nat.le_of_ble_eq_true rfl) dX7_halves_103 ⟨Nat.le_refl _, Nat.le_refl _⟩) (fun v21 h => ?_)
      refine lv_iand hx hb dX7_halves_106 ?_
      refine lv_if_ne (tgt := 138) hx hb dX7_halves_107 (by decide) (fun c22 => ?_) (fun c22 => ?_)
      · replace h := And.right h c22
        exact t_X7_halves_138 C hA hk58 ihn _ _ _ _ _ _ _ _ _ (lv_sub hl [0, 1, 2, 3] rfl) hP hD hS h
      · replace h := And.left h c22
        refine lv_iload hx hb dX7_halves_110 (lv_at hl 1 rfl) ?_
        refine lv_aload_n hx hb dX7_halves_112 rfl (lv_at hl 0 rfl) ?_
        refine va_get (D := D) (ci := 7) (v := .ref (a0 9)) (C := RX7) (T := TX7) (N := 13) hx hb hts inlX7 hown hK hP 0 rfl rfl 9 (by decide) (hts (.fieldLink RX7 61 "UnderTheDesks" "paths" "LUnderTheDesks$Ways;") mw_38) (fun _ h9 => h9) rfl dX7_halves_113 ?_
        refine lv_iload hx hb dX7_halves_116 (lv_at hl 2 rfl) ?_
        refine xend_ro_i (xRunV (wc := (wX6 K (a0 9) a2 r2)) (As := [.int x5]) (rest := [.int x4]) C (c_X6_chanceOf h) k_X6_chanceOf mw_910 ⟨rfl, rfl⟩ ⟨Nat.le_of_ble_eq_true rfl, Nat.le_of_ble_eq_true rfl⟩ hP hD [9, 10, 11, 12, 13] rfl rfl rfl rfl hl rfl rfl (Nat.le_of_ble_eq_true rfl) dX7_halves_118 ⟨Nat.le_refl _, Nat.le_refl _⟩) (fun v24 h => ?_)
        refine lv_aload_n hx hb dX7_halves_121 rfl (lv_at hl 0 rfl) ?_
        refine va_get (D := D) (ci := 7) (v := .ref (a0 9)) (C := RX7) (T := TX7) (N := 13) hx hb hts inlX7 hown hK hP 0 rfl rfl 9 (by decide) (hts (.fieldLink RX7 61 "UnderTheDesks" "paths" "LUnderTheDesks$Ways;") mw_38) (fun _ h9 => h9) rfl dX7_halves_122 ?_
        refine lv_iload hx hb dX7_halves_125 (lv_at hl 3 rfl) ?_
        refine xend_ro_i (xRunV (wc := (wX6 K (a0 9) a2 r2)) (As := [.int x6]) (rest := [.int v24, .int x4]) C (c_X6_chanceOf h) k_X6_chanceOf mw_910 ⟨rfl, rfl⟩ ⟨Nat.le_of_ble_eq_true rfl, Nat.le_of_ble_eq_true rfl⟩ hP hD [9, 10, 11, 12, 13] rfl rfl rfl rfl hl rfl rfl (Nat.le_of_ble_eq_true rfl) dX7_halves_127 ⟨Nat.le_refl _, Nat.le_refl _⟩) (fun v25 h => ?_)
        refine xend_ro_i (xRunS (wc := ([] : va_W)) (As := [.int v24, .int v25]) (rest := [.int x4]) C (c_X7_both h) k_X7_both mw_914 ⟨rfl, rfl⟩ ⟨Nat.le_of_ble_eq_true rfl, Nat.le_of_ble_eq_true rfl⟩ hP hD [] rfl rfl hl rfl rfl (Nat.le_of_ble_eq_true rfl) dX7_halves_130 ⟨Nat.le_refl _, Nat.le_refl _⟩) (fun v26 h => ?_)
        refine va_mmax hx hb (by rw [hml]; exact hl.1.symm) hown (hts _ mw_895) (hts _ mw_896) (hts _ mw_406) (hts _ mw_897) (Nat.le_of_ble_eq_true rfl) (Nat.le_of_ble_eq_true rfl) (Nat.le_of_ble_eq_true rfl) (Nat.le_of_ble_eq_true rfl) dX7_halves_133 ?_
        refine lv_topi (fun v27 ev27 => ?_)
        replace h := h v27 ev27
        refine lv_istore (lv' := [(4, .int v27), (0, .ref h0), (5, .int x5), (6, .int x6)]) hx hb dX7_halves_136 hl (by decide) rfl (fun ls hl => ?_)
        exact t_X7_halves_138 C hA hk58 ihn _ _ _ _ _ _ _ _ _ (lv_sub hl [1, 0, 2, 3] rfl) hP hD hS h
set_option maxHeartbeats 4000000 in
set_option maxRecDepth 100000 in
theorem t_X7_halves_58 {p : Program} {l : Launch} {e : Env} {s : State} {m : MethodId} {args : Array Value} {below : List Frame} {meth : Method} {c : Code} {D : va_G} {K : Nat → ClassId} {h0 : Nat} {a0 : Nat → Nat} {hs : Nat → Nat} {a1 : Nat → Nat} {r1 : zS} {a2 : Nat → Nat} {a3 : Nat → Nat} {p1 : Int32} {p2 : Int32} {p3 : Int32} {post : Int32 → (zS) → (zS) → (zS) → Prop} {A : Nat → Prop} (C : xC p s m args meth c cX7_halves RX7 7 (some .int) D vwCl (xty K)) (hA : ∀ q, s.heap.size ≤ q → A q) : ∀ (n : Nat) (r0 : zS) (r2 : zS) (r3 : zS) (x4 : Int32) (x5 : Int32) (H : Heap) (locs : List Loc) (ls : Array Slot), lv_has ls 7 [(0, .ref h0), (4, .int x4), (5, .int x5)] → va_P D vwCl (wX7 K h0 a0 hs r0 ++ (wX1 K (a0 0) a1 r1 ++ (wX6 K (a0 9) a2 r2 ++ (wX5 K (a0 11) a3 r3)))) H → va_D A (wX7 K h0 a0 hs r0 ++ (wX1 K (a0 0) a1 r1 ++ (wX6 K (a0 9) a2 r2 ++ (wX5 K (a0 11) a3 r3)))) → va_S A s.heap H locs → wp_X7_halves_58 r1 p1 p2 p3 post n r0 r2 r3 x4 x5 → W p l e ({ frames := 15, cells := 0, slots := 0, locals := 591 } : Room) s m args below meth c H locs 0 0 (MQ below (va_Qi (fun r (u : (zS) × (zS) × (zS)) => post r u.1 u.2.1 u.2.2) (fun (u : (zS) × (zS) × (zS)) t => va_P D vwCl (wX7 K h0 a0 hs u.1 ++ (wX1 K (a0 0) a1 r1 ++ (wX6 K (a0 9) a2 u.2.1 ++ (wX5 K (a0 11) a3 u.2.2)))) t.heap) A) args s 0 0 A) (F0 m 58 ls []) := by
  obtain ⟨hx, hb, hr, hml, hown, hts, hlocks, hK, hT⟩ := id C
  intro n
  induction n with
  | zero =>
    intro r0 r2 r3 x4 x5 H locs ls hl hP hD hS h
    exact False.elim h
  | succ n ihn =>
    intro r0 r2 r3 x4 x5 H locs ls hl hP hD hS h
    rw [wu_X7_halves_58] at h
    unfold wb_X7_halves_58 at h
    refine lv_iload hx hb dX7_halves_58 (lv_at hl 2 rfl) ?_
    refine lv_aload_n hx hb dX7_halves_60 rfl (lv_at hl 0 rfl) ?_
    refine va_get (D := D) (ci := 7) (v := .ref (a0 9)) (C := RX7) (T := TX7) (N := 13) hx hb hts inlX7 hown hK hP 0 rfl rfl 9 (by decide) (hts (.fieldLink RX7 61 "UnderTheDesks" "paths" "LUnderTheDesks$Ways;") mw_38) (fun _ h9 => h9) rfl dX7_halves_61 ?_
    refine va_get (D := D) (ci := 6) (v := .int (r2.1 0)) (C := RX6) (T := TX6) (N := 5) hx hb hts inlX6 hown hK hP 9 rfl rfl 0 (by decide) (hts (.fieldLink RX7 250 "UnderTheDesks$Ways" "count" "I") mw_755) (fun _ h9 => h9) rfl dX7_halves_64 ?_
    refine lv_icmp_ge (tgt := 150) hx hb dX7_halves_67 (by decide) (fun c13 => ?_) (fun c13 => ?_)
    · replace h := And.left h c13
      refine lv_iload hx hb dX7_halves_150 (lv_at hl 1 rfl) ?_
      refine lv_iconst (v := -1) hx hb dX7_halves_152 (by decide) ?_
      refine lv_icmp_ne (tgt := 165) hx hb dX7_halves_153 (by decide) (fun c14 => ?_) (fun c14 => ?_)
      · replace h := And.right h c14
        refine lv_iload hx hb dX7_halves_165 (lv_at hl 1 rfl) ?_
        exact xrw_i C (r0, r2, r3) h hP hS dX7_halves_167
      · replace h := And.left h c14
        refine lv_aload_n hx hb dX7_halves_156 rfl (lv_at hl 0 rfl) ?_
        refine lv_bipush (v := -5) hx hb dX7_halves_157 (by decide) ?_
        refine xend_rw_i (wf := fun (u : (zS)) => (wX7 K h0 a0 hs u)) (xRunV (wc := (wX7 K h0 a0 hs r0)) (As := [.int (-5 : Int32)]) (rest := []) C (c_X7_refuse h) k_X7_refuse mw_147 ⟨rfl, rfl⟩ ⟨Nat.le_of_ble_eq_true rfl, Nat.le_of_ble_eq_true rfl⟩ hP hD [0, 1, 2] rfl rfl rfl rfl hl rfl rfl (Nat.le_of_ble_eq_true rfl) dX7_halves_159 ⟨Nat.le_refl _, Nat.le_refl _⟩) hP hD hS hA [0, 1, 2] rfl rfl (fun _ => rfl) (fun v15 s16 H locs h hP hD hS => ?_)
        replace hP : va_P D vwCl (wX7 K h0 a0 hs s16 ++ (wX1 K (a0 0) a1 r1 ++ (wX6 K (a0 9) a2 r2 ++ (wX5 K (a0 11) a3 r3)))) H := hP
        replace hD : va_D A (wX7 K h0 a0 hs s16 ++ (wX1 K (a0 0) a1 r1 ++ (wX6 K (a0 9) a2 r2 ++ (wX5 K (a0 11) a3 r3)))) := hD
        refine lv_goto (tgt := 167) hx hb dX7_halves_162 (by decide) ?_
        exact xrw_i C (s16, r2, r3) h hP hS dX7_halves_167
    · replace h := And.right h c13
      refine lv_iload hx hb dX7_halves_70 (lv_at hl 2 rfl) ?_
      refine lv_iconst (v := 1) hx hb dX7_halves_72 (by decide) ?_
      refine lv_iadd hx hb dX7_halves_73 ?_
      refine lv_topi (fun v17 ev17 => ?_)
      replace h := h v17 ev17
      refine lv_istore (lv' := [(6, .int v17), (0, .ref h0), (4, .int x4), (5, .int x5)]) hx hb dX7_halves_74 hl (by decide) rfl (fun ls hl => ?_)
      obtain ⟨n0, h⟩ := h
      exact t_X7_halves_76 C hA ihn n0 _ _ _ _ _ _ _ _ _ (lv_sub hl [1, 2, 3, 0] rfl) hP hD hS h
set_option maxHeartbeats 4000000 in
set_option maxRecDepth 100000 in
theorem c_X7_halves {l : Launch} {D : va_G} {K : Nat → ClassId} {h0 : Nat} {a0 : Nat → Nat} {hs : Nat → Nat} {r0 : zS} {a1 : Nat → Nat} {r1 : zS} {a2 : Nat → Nat} {r2 : zS} {a3 : Nat → Nat} {r3 : zS} {p1 : Int32} {p2 : Int32} {p3 : Int32} {sz : Nat} {post : Int32 → (zS) → (zS) → (zS) → Prop}   (h : wp_X7_halves r0 r1 r2 r3 p1 p2 p3 post) : Met l yX7_halves (Cond.code yX7_halves cX7_halves 7 (some .int) :: wsL_law) ({ frames := 15, cells := 0, slots := 0, locals := 591 } : Room) (va_Pc [.ref h0, .int p1, .int p2, .int p3] (xPre D vwCl (xty K) (wX7 K h0 a0 hs r0 ++ (wX1 K (a0 0) a1 r1 ++ (wX6 K (a0 9) a2 r2 ++ (wX5 K (a0 11) a3 r3)))) sz)) (va_Qi (fun r (u : (zS) × (zS) × (zS)) => post r u.1 u.2.1 u.2.2) (fun (u : (zS) × (zS) × (zS)) t => va_P D vwCl (wX7 K h0 a0 hs u.1 ++ (wX1 K (a0 0) a1 r1 ++ (wX6 K (a0 9) a2 u.2.1 ++ (wX5 K (a0 11) a3 u.2.2)))) t.heap) (va_A (wX7 K h0 a0 hs r0 ++ (wX1 K (a0 0) a1 r1 ++ (wX6 K (a0 9) a2 r2 ++ (wX5 K (a0 11) a3 r3)))) sz)) 0 0 (va_A (wX7 K h0 a0 hs r0 ++ (wX1 K (a0 0) a1 r1 ++ (wX6 K (a0 9) a2 r2 ++ (wX5 K (a0 11) a3 r3)))) sz) := by
  refine xMet (by decide) rfl (Nat.le_of_ble_eq_true rfl) (fun p e s m args below meth c C hnm hP hD hsz ls hl => ?_)
  have hl : lv_has ls 7 [(0, .ref h0), (1, .int p1), (2, .int p2), (3, .int p3)] := hl
  obtain ⟨hx, hb, hr, hml, hown, hts, hlocks, hK, hT⟩ := id C
  subst hsz
  generalize hAe : va_A (wX7 K h0 a0 hs r0 ++ (wX1 K (a0 0) a1 r1 ++ (wX6 K (a0 9) a2 r2 ++ (wX5 K (a0 11) a3 r3)))) s.heap.size = A at hD ⊢
  have hA : ∀ q : Nat, s.heap.size ≤ q → A q := fun q h => by rw [← hAe]; exact Or.inr h
  have hS : va_S A s.heap s.heap [] := va_S.rf
  have hP : va_P D vwCl (wX7 K h0 a0 hs r0 ++ (wX1 K (a0 0) a1 r1 ++ (wX6 K (a0 9) a2 r2 ++ (wX5 K (a0 11) a3 r3)))) s.heap := hP
  unfold wp_X7_halves at h
  refine lv_aload_n hx hb dX7_halves_0 rfl (lv_at hl 0 rfl) ?_
  refine lv_iload_n hx hb dX7_halves_1 rfl (lv_at hl 1 rfl) ?_
  refine lv_iload_n hx hb dX7_halves_2 rfl (lv_at hl 2 rfl) ?_
  refine xend_ro_i (xRunV (wc := (wX7 K h0 a0 hs r0 ++ (wX1 K (a0 0) a1 r1))) (As := [.int p1, .int p2]) (rest := []) C (c_X7_isPair h) k_X7_isPair mw_429 ⟨rfl, rfl⟩ ⟨Nat.le_of_ble_eq_true rfl, Nat.le_of_ble_eq_true rfl⟩ hP hD [0, 1, 2, 3, 4, 5, 6, 7, 8] rfl rfl rfl rfl hl rfl rfl (Nat.le_of_ble_eq_true rfl) dX7_halves_3 ⟨Nat.le_refl _, Nat.le_refl _⟩) (fun v1 h => ?_)
  refine lv_if_eq (tgt := 16) hx hb dX7_halves_6 (by decide) (fun c2 => ?_) (fun c2 => ?_)
  · replace h := And.left h c2
    exact t_X7_halves_16 C hA _ _ _ _ _ _ (lv_sub hl [0] rfl) hP hD hS h
  · replace h := And.right h c2
    refine lv_iload_n hx hb dX7_halves_9 rfl (lv_at hl 3 rfl) ?_
    refine xend_ro_i (xRunS (wc := ([] : va_W)) (As := [.int p3]) (rest := []) C (c_X7_isSecond h) k_X7_isSecond mw_725 ⟨rfl, rfl⟩ ⟨Nat.le_of_ble_eq_true rfl, Nat.le_of_ble_eq_true rfl⟩ hP hD [] rfl rfl hl rfl rfl (Nat.le_of_ble_eq_true rfl) dX7_halves_10 ⟨Nat.le_refl _, Nat.le_refl _⟩) (fun v5 h => ?_)
    refine lv_if_ne (tgt := 23) hx hb dX7_halves_13 (by decide) (fun c6 => ?_) (fun c6 => ?_)
    · replace h := And.right h c6
      refine lv_aload_n hx hb dX7_halves_23 rfl (lv_at hl 0 rfl) ?_
      refine va_get (D := D) (ci := 7) (v := .ref (a0 9)) (C := RX7) (T := TX7) (N := 13) hx hb hts inlX7 hown hK hP 0 rfl rfl 9 (by decide) (hts (.fieldLink RX7 61 "UnderTheDesks" "paths" "LUnderTheDesks$Ways;") mw_38) (fun _ h9 => h9) rfl dX7_halves_24 ?_
      refine lv_aload_n hx hb dX7_halves_27 rfl (lv_at hl 0 rfl) ?_
      refine va_get (D := D) (ci := 7) (v := .ref (a0 0)) (C := RX7) (T := TX7) (N := 13) hx hb hts inlX7 hown hK hP 0 rfl rfl 0 (by decide) (hts (.fieldLink RX7 10 "UnderTheDesks" "room" "LUnderTheDesks$Room;") mw_16) (fun _ h9 => h9) rfl dX7_halves_28 ?_
      refine lv_iload_n hx hb dX7_halves_31 rfl (lv_at hl 1 rfl) ?_
      refine lv_iload_n hx hb dX7_halves_32 rfl (lv_at hl 2 rfl) ?_
      refine xend_rw_v (wf := fun (u : (zS)) => (wX6 K (a0 9) a2 u ++ (wX1 K (a0 0) a1 r1))) (xRunV (wc := (wX6 K (a0 9) a2 r2 ++ (wX1 K (a0 0) a1 r1))) (As := [.ref (a0 0), .int p1, .int p2]) (rest := []) C (c_X6_find h) k_X6_find mw_756 ⟨rfl, rfl⟩ ⟨Nat.le_of_ble_eq_true rfl, Nat.le_of_ble_eq_true rfl⟩ hP hD [9, 10, 11, 12, 13, 3, 4, 5, 6, 7, 8] rfl rfl rfl rfl hl rfl rfl (Nat.le_of_ble_eq_true rfl) dX7_halves_33 ⟨Nat.le_refl _, Nat.le_refl _⟩) hP hD hS hA [9, 10, 11, 12, 13, 3, 4, 5, 6, 7, 8] rfl rfl (fun _ => rfl) (fun s8 H locs h hP hD hS => ?_)
      replace hP : va_P D vwCl (wX7 K h0 a0 hs r0 ++ (wX1 K (a0 0) a1 r1 ++ (wX6 K (a0 9) a2 s8 ++ (wX5 K (a0 11) a3 r3)))) H := hP
      replace hD : va_D A (wX7 K h0 a0 hs r0 ++ (wX1 K (a0 0) a1 r1 ++ (wX6 K (a0 9) a2 s8 ++ (wX5 K (a0 11) a3 r3)))) := hD
      refine lv_aload_n hx hb dX7_halves_36 rfl (lv_at hl 0 rfl) ?_
      refine va_get (D := D) (ci := 7) (v := .ref (a0 11)) (C := RX7) (T := TX7) (N := 13) hx hb hts inlX7 hown hK hP 0 rfl rfl 11 (by decide) (hts (.fieldLink RX7 71 "UnderTheDesks" "walk" "LUnderTheDesks$Walk;") mw_43) (fun _ h9 => h9) rfl dX7_halves_37 ?_
      refine lv_aload_n hx hb dX7_halves_40 rfl (lv_at hl 0 rfl) ?_
      refine va_get (D := D) (ci := 7) (v := .ref (a0 0)) (C := RX7) (T := TX7) (N := 13) hx hb hts inlX7 hown hK hP 0 rfl rfl 0 (by decide) (hts (.fieldLink RX7 10 "UnderTheDesks" "room" "LUnderTheDesks$Room;") mw_16) (fun _ h9 => h9) rfl dX7_halves_41 ?_
      refine lv_aload_n hx hb dX7_halves_44 rfl (lv_at hl 0 rfl) ?_
      refine va_get (D := D) (ci := 7) (v := .ref (a0 9)) (C := RX7) (T := TX7) (N := 13) hx hb hts inlX7 hown hK hP 0 rfl rfl 9 (by decide) (hts (.fieldLink RX7 61 "UnderTheDesks" "paths" "LUnderTheDesks$Ways;") mw_38) (fun _ h9 => h9) rfl dX7_halves_45 ?_
      refine lv_iload_n hx hb dX7_halves_48 rfl (lv_at hl 3 rfl) ?_
      refine xend_rw_v (wf := fun (u : (zS) × (zS)) => (wX5 K (a0 11) a3 u.1 ++ (wX1 K (a0 0) a1 r1 ++ (wX6 K (a0 9) a2 u.2)))) (xRunV (wc := (wX5 K (a0 11) a3 r3 ++ (wX1 K (a0 0) a1 r1 ++ (wX6 K (a0 9) a2 s8)))) (As := [.ref (a0 0), .ref (a0 9), .int p3]) (rest := []) C (c_X5_rate h) k_X5_rate mw_898 ⟨rfl, rfl⟩ ⟨Nat.le_of_ble_eq_true rfl, Nat.le_of_ble_eq_true rfl⟩ hP hD [14, 3, 4, 5, 6, 7, 8, 9, 10, 11, 12, 13] rfl rfl rfl rfl hl rfl rfl (Nat.le_of_ble_eq_true rfl) dX7_halves_49 ⟨Nat.le_refl _, Nat.le_refl _⟩) hP hD hS hA [14, 3, 4, 5, 6, 7, 8, 9, 10, 11, 12, 13] rfl rfl (fun _ => rfl) (fun u12 H locs h hP hD hS => ?_)
      obtain ⟨s10, s11⟩ := u12
      replace hP : va_P D vwCl (wX7 K h0 a0 hs r0 ++ (wX1 K (a0 0) a1 r1 ++ (wX6 K (a0 9) a2 s11 ++ (wX5 K (a0 11) a3 s10)))) H := hP
      replace hD : va_D A (wX7 K h0 a0 hs r0 ++ (wX1 K (a0 0) a1 r1 ++ (wX6 K (a0 9) a2 s11 ++ (wX5 K (a0 11) a3 s10)))) := hD
      refine lv_iconst (v := -1) hx hb dX7_halves_52 (by decide) ?_
      refine lv_istore (lv' := [(4, .int (-1 : Int32)), (0, .ref h0), (1, .int p1), (2, .int p2), (3, .int p3)]) hx hb dX7_halves_53 hl (by decide) rfl (fun ls hl => ?_)
      refine lv_iconst (v := 0) hx hb dX7_halves_55 (by decide) ?_
      refine lv_istore (lv' := [(5, .int (0 : Int32)), (4, .int (-1 : Int32)), (0, .ref h0), (1, .int p1), (2, .int p2), (3, .int p3)]) hx hb dX7_halves_56 hl (by decide) rfl (fun ls hl => ?_)
      obtain ⟨n0, h⟩ := h
      exact t_X7_halves_58 C hA n0 _ _ _ _ _ _ _ _ (lv_sub hl [2, 1, 0] rfl) hP hD hS h
    · replace h := And.left h c6
      exact t_X7_halves_16 C hA _ _ _ _ _ _ (lv_sub hl [0] rfl) hP hD hS h

def wb_X7_must_58 (r1 : zS) (p1 : Int32) (p2 : Int32) (post : Int32 → (zS) → (zS) → Prop) (ih : (zS) → (zS) → Int32 → Int32 → Prop) (r0 : zS) (r2 : zS) (x3 : Int32) (x4 : Int32) : Prop :=
  ((r2.1 0) ≤ x4 → post x3 r0 r2) ∧ (¬ (r2.1 0) ≤ x4 → wp_X6_betweenOf r2 x4 (fun v8 => ∀ v9 : Int32, v9 = (x3 &&& v8) → ∀ v10 : Int32, v10 = x4 + (1 : Int32) → ih r0 r2 v9 v10))
def wp_X7_must_58 (r1 : zS) (p1 : Int32) (p2 : Int32) (post : Int32 → (zS) → (zS) → Prop) (n : Nat) : (zS) → (zS) → Int32 → Int32 → Prop := Nat.rec (motive := fun _ => (zS) → (zS) → Int32 → Int32 → Prop) (fun _ _ _ _ => False) (fun _ ih => wb_X7_must_58 r1 p1 p2 post ih) n
theorem wu_X7_must_58 (r1 : zS) (p1 : Int32) (p2 : Int32) (post : Int32 → (zS) → (zS) → Prop) (n : Nat) (r0 : zS) (r2 : zS) (x3 : Int32) (x4 : Int32) : wp_X7_must_58 r1 p1 p2 post (n + 1) r0 r2 x3 x4 = wb_X7_must_58 r1 p1 p2 post (wp_X7_must_58 r1 p1 p2 post n) r0 r2 x3 x4 := rfl
def wp_X7_must (r0 : zS) (r1 : zS) (r2 : zS) (p1 : Int32) (p2 : Int32) (post : Int32 → (zS) → (zS) → Prop) : Prop :=
  wp_X7_isPair r0 r1 p1 p2 (fun v1 => (v1 = 0 → wp_X7_refuse r0 (-2 : Int32) (fun v13 s14 => post v13 s14 r2)) ∧ (¬ v1 = 0 → wp_X6_find r2 r1 p1 p2 (fun s4 => ((s4.1 0) = 0 → wp_X7_refuse r0 (-5 : Int32) (fun v11 s12 => post v11 s12 s4)) ∧ (¬ (s4.1 0) = 0 → wp_X6_betweenOf s4 (0 : Int32) (fun v6 => ∃ n : Nat, wp_X7_must_58 r1 p1 p2 post n r0 s4 v6 (1 : Int32))))))
set_option maxHeartbeats 4000000 in
set_option maxRecDepth 100000 in
theorem t_X7_must_58 {p : Program} {l : Launch} {e : Env} {s : State} {m : MethodId} {args : Array Value} {below : List Frame} {meth : Method} {c : Code} {D : va_G} {K : Nat → ClassId} {h0 : Nat} {a0 : Nat → Nat} {hs : Nat → Nat} {a1 : Nat → Nat} {r1 : zS} {a2 : Nat → Nat} {p1 : Int32} {p2 : Int32} {post : Int32 → (zS) → (zS) → Prop} {A : Nat → Prop} (C : xC p s m args meth c cX7_must RX7 5 (some .int) D vwCl (xty K)) (hA : ∀ q, s.heap.size ≤ q → A q) : ∀ (n : Nat) (r0 : zS) (r2 : zS) (x3 : Int32) (x4 : Int32) (H : Heap) (locs : List Loc) (ls : Array Slot), lv_has ls 5 [(0, .ref h0), (3, .int x3), (4, .int x4)] → va_P D vwCl (wX7 K h0 a0 hs r0 ++ (wX1 K (a0 0) a1 r1 ++ (wX6 K (a0 9) a2 r2))) H → va_D A (wX7 K h0 a0 hs r0 ++ (wX1 K (a0 0) a1 r1 ++ (wX6 K (a0 9) a2 r2))) → va_S A s.heap H locs → wp_X7_must_58 r1 p1 p2 post n r0 r2 x3 x4 → W p l e ({ frames := 15, cells := 0, slots := 0, locals := 591 } : Room) s m args below meth c H locs 0 0 (MQ below (va_Qi (fun r (u : (zS) × (zS)) => post r u.1 u.2) (fun (u : (zS) × (zS)) t => va_P D vwCl (wX7 K h0 a0 hs u.1 ++ (wX1 K (a0 0) a1 r1 ++ (wX6 K (a0 9) a2 u.2))) t.heap) A) args s 0 0 A) (F0 m 58 ls []) := by
  obtain ⟨hx, hb, hr, hml, hown, hts, hlocks, hK, hT⟩ := id C
  intro n
  induction n with
  | zero =>
    intro r0 r2 x3 x4 H locs ls hl hP hD hS h
    exact False.elim h
  | succ n ihn =>
    intro r0 r2 x3 x4 H locs ls hl hP hD hS h
    rw [wu_X7_must_58] at h
    unfold wb_X7_must_58 at h
    refine lv_iload hx hb dX7_must_58 (lv_at hl 2 rfl) ?_
    refine lv_aload_n hx hb dX7_must_60 rfl (lv_at hl 0 rfl) ?_
    refine va_get (D := D) (ci := 7) (v := .ref (a0 9)) (C := RX7) (T := TX7) (N := 13) hx hb hts inlX7 hown hK hP 0 rfl rfl 9 (by decide) (hts (.fieldLink RX7 61 "UnderTheDesks" "paths" "LUnderTheDesks$Ways;") mw_38) (fun _ h9 => h9) rfl dX7_must_61 ?_
    refine va_get (D := D) (ci := 6) (v := .int (r2.1 0)) (C := RX6) (T := TX6) (N := 5) hx hb hts inlX6 hown hK hP 9 rfl rfl 0 (by decide) (hts (.fieldLink RX7 250 "UnderTheDesks$Ways" "count" "I") mw_755) (fun _ h9 => h9) rfl dX7_must_64 ?_
    refine lv_icmp_ge (tgt := 88) hx hb dX7_must_67 (by decide) (fun c7 => ?_) (fun c7 => ?_)
    · replace h := And.left h c7
      refine lv_iload_n hx hb dX7_must_88 rfl (lv_at hl 1 rfl) ?_
      exact xrw_i C (r0, r2) h hP hS dX7_must_89
    · replace h := And.right h c7
      refine lv_iload_n hx hb dX7_must_70 rfl (lv_at hl 1 rfl) ?_
      refine lv_aload_n hx hb dX7_must_71 rfl (lv_at hl 0 rfl) ?_
      refine va_get (D := D) (ci := 7) (v := .ref (a0 9)) (C := RX7) (T := TX7) (N := 13) hx hb hts inlX7 hown hK hP 0 rfl rfl 9 (by decide) (hts (.fieldLink RX7 61 "UnderTheDesks" "paths" "LUnderTheDesks$Ways;") mw_38) (fun _ h9 => h9) rfl dX7_must_72 ?_
      refine lv_iload hx hb dX7_must_75 (lv_at hl 2 rfl) ?_
      refine xend_ro_i (xRunV (wc := (wX6 K (a0 9) a2 r2)) (As := [.int x4]) (rest := [.int x3]) C (c_X6_betweenOf h) k_X6_betweenOf mw_884 ⟨rfl, rfl⟩ ⟨Nat.le_of_ble_eq_true rfl, Nat.le_of_ble_eq_true rfl⟩ hP hD [9, 10, 11, 12, 13] rfl rfl rfl rfl hl rfl rfl (Nat.le_of_ble_eq_true rfl) dX7_must_77 ⟨Nat.le_refl _, Nat.le_refl _⟩) (fun v8 h => ?_)
      refine lv_iand hx hb dX7_must_80 ?_
      refine lv_topi (fun v9 ev9 => ?_)
      replace h := h v9 ev9
      refine lv_istore_n (lv' := [(3, .int v9), (0, .ref h0), (4, .int x4)]) hx hb dX7_must_81 rfl hl (by decide) rfl (fun ls hl => ?_)
      obtain ⟨v10, ev10⟩ : ∃ y : Int32, y = x4 + (1 : Int32) := ⟨_, rfl⟩
      replace h := h v10 ev10
      refine lv_iinc (v := v10) (lv' := [(4, .int v10), (3, .int v9), (0, .ref h0)]) hx hb dX7_must_82 hl (k := 2) rfl (by rw [ev10]; rfl) (by decide) rfl (fun ls hl => ?_)
      refine lv_goto (tgt := 58) hx hb dX7_must_85 (by decide) ?_
      exact ihn _ _ _ _ _ _ _ (lv_sub hl [2, 1, 0] rfl) hP hD hS h
set_option maxHeartbeats 4000000 in
set_option maxRecDepth 100000 in
theorem c_X7_must {l : Launch} {D : va_G} {K : Nat → ClassId} {h0 : Nat} {a0 : Nat → Nat} {hs : Nat → Nat} {r0 : zS} {a1 : Nat → Nat} {r1 : zS} {a2 : Nat → Nat} {r2 : zS} {p1 : Int32} {p2 : Int32} {sz : Nat} {post : Int32 → (zS) → (zS) → Prop}   (h : wp_X7_must r0 r1 r2 p1 p2 post) : Met l yX7_must (Cond.code yX7_must cX7_must 5 (some .int) :: wsL_law) ({ frames := 15, cells := 0, slots := 0, locals := 591 } : Room) (va_Pc [.ref h0, .int p1, .int p2] (xPre D vwCl (xty K) (wX7 K h0 a0 hs r0 ++ (wX1 K (a0 0) a1 r1 ++ (wX6 K (a0 9) a2 r2))) sz)) (va_Qi (fun r (u : (zS) × (zS)) => post r u.1 u.2) (fun (u : (zS) × (zS)) t => va_P D vwCl (wX7 K h0 a0 hs u.1 ++ (wX1 K (a0 0) a1 r1 ++ (wX6 K (a0 9) a2 u.2))) t.heap) (va_A (wX7 K h0 a0 hs r0 ++ (wX1 K (a0 0) a1 r1 ++ (wX6 K (a0 9) a2 r2))) sz)) 0 0 (va_A (wX7 K h0 a0 hs r0 ++ (wX1 K (a0 0) a1 r1 ++ (wX6 K (a0 9) a2 r2))) sz) := by
  refine xMet (by decide) rfl (Nat.le_of_ble_eq_true rfl) (fun p e s m args below meth c C hnm hP hD hsz ls hl => ?_)
  have hl : lv_has ls 5 [(0, .ref h0), (1, .int p1), (2, .int p2)] := hl
  obtain ⟨hx, hb, hr, hml, hown, hts, hlocks, hK, hT⟩ := id C
  subst hsz
  generalize hAe : va_A (wX7 K h0 a0 hs r0 ++ (wX1 K (a0 0) a1 r1 ++ (wX6 K (a0 9) a2 r2))) s.heap.size = A at hD ⊢
  have hA : ∀ q : Nat, s.heap.size ≤ q → A q := fun q h => by rw [← hAe]; exact Or.inr h
  have hS : va_S A s.heap s.heap [] := va_S.rf
  have hP : va_P D vwCl (wX7 K h0 a0 hs r0 ++ (wX1 K (a0 0) a1 r1 ++ (wX6 K (a0 9) a2 r2))) s.heap := hP
  unfold wp_X7_must at h
  refine lv_aload_n hx hb dX7_must_0 rfl (lv_at hl 0 rfl) ?_
  refine lv_iload_n hx hb dX7_must_1 rfl (lv_at hl 1 rfl) ?_
  refine lv_iload_n hx hb dX7_must_2 rfl (lv_at hl 2 rfl) ?_
  refine xend_ro_i (xRunV (wc := (wX7 K h0 a0 hs r0 ++ (wX1 K (a0 0) a1 r1))) (As := [.int p1, .int p2]) (rest := []) C (c_X7_isPair h) k_X7_isPair mw_429 ⟨rfl, rfl⟩ ⟨Nat.le_of_ble_eq_true rfl, Nat.le_of_ble_eq_true rfl⟩ hP hD [0, 1, 2, 3, 4, 5, 6, 7, 8] rfl rfl rfl rfl hl rfl rfl (Nat.le_of_ble_eq_true rfl) dX7_must_3 ⟨Nat.le_refl _, Nat.le_refl _⟩) (fun v1 h => ?_)
  refine lv_if_ne (tgt := 16) hx hb dX7_must_6 (by decide) (fun c2 => ?_) (fun c2 => ?_)
  · replace h := And.right h c2
    refine lv_aload_n hx hb dX7_must_16 rfl (lv_at hl 0 rfl) ?_
    refine va_get (D := D) (ci := 7) (v := .ref (a0 9)) (C := RX7) (T := TX7) (N := 13) hx hb hts inlX7 hown hK hP 0 rfl rfl 9 (by decide) (hts (.fieldLink RX7 61 "UnderTheDesks" "paths" "LUnderTheDesks$Ways;") mw_38) (fun _ h9 => h9) rfl dX7_must_17 ?_
    refine lv_aload_n hx hb dX7_must_20 rfl (lv_at hl 0 rfl) ?_
    refine va_get (D := D) (ci := 7) (v := .ref (a0 0)) (C := RX7) (T := TX7) (N := 13) hx hb hts inlX7 hown hK hP 0 rfl rfl 0 (by decide) (hts (.fieldLink RX7 10 "UnderTheDesks" "room" "LUnderTheDesks$Room;") mw_16) (fun _ h9 => h9) rfl dX7_must_21 ?_
    refine lv_iload_n hx hb dX7_must_24 rfl (lv_at hl 1 rfl) ?_
    refine lv_iload_n hx hb dX7_must_25 rfl (lv_at hl 2 rfl) ?_
    refine xend_rw_v (wf := fun (u : (zS)) => (wX6 K (a0 9) a2 u ++ (wX1 K (a0 0) a1 r1))) (xRunV (wc := (wX6 K (a0 9) a2 r2 ++ (wX1 K (a0 0) a1 r1))) (As := [.ref (a0 0), .int p1, .int p2]) (rest := []) C (c_X6_find h) k_X6_find mw_756 ⟨rfl, rfl⟩ ⟨Nat.le_of_ble_eq_true rfl, Nat.le_of_ble_eq_true rfl⟩ hP hD [9, 10, 11, 12, 13, 3, 4, 5, 6, 7, 8] rfl rfl rfl rfl hl rfl rfl (Nat.le_of_ble_eq_true rfl) dX7_must_26 ⟨Nat.le_refl _, Nat.le_refl _⟩) hP hD hS hA [9, 10, 11, 12, 13, 3, 4, 5, 6, 7, 8] rfl rfl (fun _ => rfl) (fun s4 H locs h hP hD hS => ?_)
    replace hP : va_P D vwCl (wX7 K h0 a0 hs r0 ++ (wX1 K (a0 0) a1 r1 ++ (wX6 K (a0 9) a2 s4))) H := hP
    replace hD : va_D A (wX7 K h0 a0 hs r0 ++ (wX1 K (a0 0) a1 r1 ++ (wX6 K (a0 9) a2 s4))) := hD
    refine lv_aload_n hx hb dX7_must_29 rfl (lv_at hl 0 rfl) ?_
    refine va_get (D := D) (ci := 7) (v := .ref (a0 9)) (C := RX7) (T := TX7) (N := 13) hx hb hts inlX7 hown hK hP 0 rfl rfl 9 (by decide) (hts (.fieldLink RX7 61 "UnderTheDesks" "paths" "LUnderTheDesks$Ways;") mw_38) (fun _ h9 => h9) rfl dX7_must_30 ?_
    refine va_get (D := D) (ci := 6) (v := .int (s4.1 0)) (C := RX6) (T := TX6) (N := 5) hx hb hts inlX6 hown hK hP 9 rfl rfl 0 (by decide) (hts (.fieldLink RX7 250 "UnderTheDesks$Ways" "count" "I") mw_755) (fun _ h9 => h9) rfl dX7_must_33 ?_
    refine lv_if_ne (tgt := 46) hx hb dX7_must_36 (by decide) (fun c5 => ?_) (fun c5 => ?_)
    · replace h := And.right h c5
      refine lv_aload_n hx hb dX7_must_46 rfl (lv_at hl 0 rfl) ?_
      refine va_get (D := D) (ci := 7) (v := .ref (a0 9)) (C := RX7) (T := TX7) (N := 13) hx hb hts inlX7 hown hK hP 0 rfl rfl 9 (by decide) (hts (.fieldLink RX7 61 "UnderTheDesks" "paths" "LUnderTheDesks$Ways;") mw_38) (fun _ h9 => h9) rfl dX7_must_47 ?_
      refine lv_iconst (v := 0) hx hb dX7_must_50 (by decide) ?_
      refine xend_ro_i (xRunV (wc := (wX6 K (a0 9) a2 s4)) (As := [.int (0 : Int32)]) (rest := []) C (c_X6_betweenOf h) k_X6_betweenOf mw_884 ⟨rfl, rfl⟩ ⟨Nat.le_of_ble_eq_true rfl, Nat.le_of_ble_eq_true rfl⟩ hP hD [9, 10, 11, 12, 13] rfl rfl rfl rfl hl rfl rfl (Nat.le_of_ble_eq_true rfl) dX7_must_51 ⟨Nat.le_refl _, Nat.le_refl _⟩) (fun v6 h => ?_)
      refine lv_istore_n (lv' := [(3, .int v6), (0, .ref h0), (1, .int p1), (2, .int p2)]) hx hb dX7_must_54 rfl hl (by decide) rfl (fun ls hl => ?_)
      refine lv_iconst (v := 1) hx hb dX7_must_55 (by decide) ?_
      refine lv_istore (lv' := [(4, .int (1 : Int32)), (3, .int v6), (0, .ref h0), (1, .int p1), (2, .int p2)]) hx hb dX7_must_56 hl (by decide) rfl (fun ls hl => ?_)
      obtain ⟨n0, h⟩ := h
      exact t_X7_must_58 C hA n0 _ _ _ _ _ _ _ (lv_sub hl [2, 1, 0] rfl) hP hD hS h
    · replace h := And.left h c5
      refine lv_aload_n hx hb dX7_must_39 rfl (lv_at hl 0 rfl) ?_
      refine lv_bipush (v := -5) hx hb dX7_must_40 (by decide) ?_
      refine xend_rw_i (wf := fun (u : (zS)) => (wX7 K h0 a0 hs u)) (xRunV (wc := (wX7 K h0 a0 hs r0)) (As := [.int (-5 : Int32)]) (rest := []) C (c_X7_refuse h) k_X7_refuse mw_147 ⟨rfl, rfl⟩ ⟨Nat.le_of_ble_eq_true rfl, Nat.le_of_ble_eq_true rfl⟩ hP hD [0, 1, 2] rfl rfl rfl rfl hl rfl rfl (Nat.le_of_ble_eq_true rfl) dX7_must_42 ⟨Nat.le_refl _, Nat.le_refl _⟩) hP hD hS hA [0, 1, 2] rfl rfl (fun _ => rfl) (fun v11 s12 H locs h hP hD hS => ?_)
      replace hP : va_P D vwCl (wX7 K h0 a0 hs s12 ++ (wX1 K (a0 0) a1 r1 ++ (wX6 K (a0 9) a2 s4))) H := hP
      replace hD : va_D A (wX7 K h0 a0 hs s12 ++ (wX1 K (a0 0) a1 r1 ++ (wX6 K (a0 9) a2 s4))) := hD
      exact xrw_i C (s12, s4) h hP hS dX7_must_45
  · replace h := And.left h c2
    refine lv_aload_n hx hb dX7_must_9 rfl (lv_at hl 0 rfl) ?_
    refine lv_bipush (v := -2) hx hb dX7_must_10 (by decide) ?_
    refine xend_rw_i (wf := fun (u : (zS)) => (wX7 K h0 a0 hs u)) (xRunV (wc := (wX7 K h0 a0 hs r0)) (As := [.int (-2 : Int32)]) (rest := []) C (c_X7_refuse h) k_X7_refuse mw_147 ⟨rfl, rfl⟩ ⟨Nat.le_of_ble_eq_true rfl, Nat.le_of_ble_eq_true rfl⟩ hP hD [0, 1, 2] rfl rfl rfl rfl hl rfl rfl (Nat.le_of_ble_eq_true rfl) dX7_must_12 ⟨Nat.le_refl _, Nat.le_refl _⟩) hP hD hS hA [0, 1, 2] rfl rfl (fun _ => rfl) (fun v13 s14 H locs h hP hD hS => ?_)
    replace hP : va_P D vwCl (wX7 K h0 a0 hs s14 ++ (wX1 K (a0 0) a1 r1 ++ (wX6 K (a0 9) a2 r2))) H := hP
    replace hD : va_D A (wX7 K h0 a0 hs s14 ++ (wX1 K (a0 0) a1 r1 ++ (wX6 K (a0 9) a2 r2))) := hD
    exact xrw_i C (s14, r2) h hP hS dX7_must_15

def wp_X7_cut_121 (r1 : zS) (p1 : Int32) (p2 : Int32) (post : Int32 → (zS) → Prop) (k65 : (zS) → Int32 → Int32 → Int32 → Prop) (r0 : zS) (x3 : Int32) (x4 : Int32) (x5 : Int32) : Prop :=
  ∀ v11 : Int32, v11 = x5 + (1 : Int32) → k65 r0 x3 x4 v11
def wb_X7_cut_65 (r1 : zS) (p1 : Int32) (p2 : Int32) (post : Int32 → (zS) → Prop) (ih : (zS) → Int32 → Int32 → Int32 → Prop) (r0 : zS) (x3 : Int32) (x4 : Int32) (x5 : Int32) : Prop :=
  (((1 : Int32) <<< ((r1.1 1) &&& 31)) ≤ x5 → post x3 r0) ∧ (¬ ((1 : Int32) <<< ((r1.1 1) &&& 31)) ≤ x5 → ((x5 &&& x4) = 0 → wp_J6_bitCount_0f7a4 x5 (fun v12 => (x3 ≤ v12 → wp_X7_cut_121 r1 p1 p2 post ih r0 x3 x4 x5) ∧ (¬ x3 ≤ v12 → wp_X1_reachOf r1 p1 (x5 ^^^ (-1 : Int32)) (fun v14 => (((v14 >>> (p2 &&& 31)) &&& (1 : Int32)) = 0 → wp_J6_bitCount_0f7a4 x5 (fun v16 => wp_X7_cut_121 r1 p1 p2 post ih r0 v16 x4 x5)) ∧ (¬ ((v14 >>> (p2 &&& 31)) &&& (1 : Int32)) = 0 → wp_X7_cut_121 r1 p1 p2 post ih r0 x3 x4 x5))))) ∧ (¬ (x5 &&& x4) = 0 → wp_X7_cut_121 r1 p1 p2 post ih r0 x3 x4 x5))
def wp_X7_cut_65 (r1 : zS) (p1 : Int32) (p2 : Int32) (post : Int32 → (zS) → Prop) (n : Nat) : (zS) → Int32 → Int32 → Int32 → Prop := Nat.rec (motive := fun _ => (zS) → Int32 → Int32 → Int32 → Prop) (fun _ _ _ _ => False) (fun _ ih => wb_X7_cut_65 r1 p1 p2 post ih) n
theorem wu_X7_cut_65 (r1 : zS) (p1 : Int32) (p2 : Int32) (post : Int32 → (zS) → Prop) (n : Nat) (r0 : zS) (x3 : Int32) (x4 : Int32) (x5 : Int32) : wp_X7_cut_65 r1 p1 p2 post (n + 1) r0 x3 x4 x5 = wb_X7_cut_65 r1 p1 p2 post (wp_X7_cut_65 r1 p1 p2 post n) r0 x3 x4 x5 := rfl
def wp_X7_cut (r0 : zS) (r1 : zS) (p1 : Int32) (p2 : Int32) (post : Int32 → (zS) → Prop) : Prop :=
  wp_X7_isPair r0 r1 p1 p2 (fun v1 => (v1 = 0 → wp_X7_refuse r0 (-2 : Int32) (fun v17 s18 => post v17 s18)) ∧ (¬ v1 = 0 → wp_X1_nearOf r1 p1 (fun v3 => (((v3 >>> (p2 &&& 31)) &&& (1 : Int32)) = 0 → wp_X1_neighboursOf r1 p1 (fun v5 => wp_X1_neighboursOf r1 p2 (fun v6 => ∀ v7 : Int32, v7 = (if v6 < v5 then v6 else v5) → ∀ v8 : Int32, v8 = (((1 : Int32) <<< (p1 &&& 31)) ||| ((1 : Int32) <<< (p2 &&& 31))) → ∃ n : Nat, wp_X7_cut_65 r1 p1 p2 post n r0 v7 v8 (0 : Int32)))) ∧ (¬ ((v3 >>> (p2 &&& 31)) &&& (1 : Int32)) = 0 → post (-1 : Int32) r0))))
set_option maxHeartbeats 4000000 in
set_option maxRecDepth 100000 in
theorem t_X7_cut_121 {p : Program} {l : Launch} {e : Env} {s : State} {m : MethodId} {args : Array Value} {below : List Frame} {meth : Method} {c : Code} {D : va_G} {K : Nat → ClassId} {h0 : Nat} {a0 : Nat → Nat} {hs : Nat → Nat} {a1 : Nat → Nat} {r1 : zS} {p1 : Int32} {p2 : Int32} {post : Int32 → (zS) → Prop} {A : Nat → Prop} (C : xC p s m args meth c cX7_cut RX7 6 (some .int) D vwCl (xty K)) (hA : ∀ q, s.heap.size ≤ q → A q) {k65 : (zS) → Int32 → Int32 → Int32 → Prop} (hk65 : ∀ (r0 : zS) (x3 : Int32) (x4 : Int32) (x5 : Int32) (H : Heap) (locs : List Loc) (ls : Array Slot), lv_has ls 6 [(0, .ref h0), (1, .int p1), (2, .int p2), (3, .int x3), (4, .int x4), (5, .int x5)] → va_P D vwCl (wX7 K h0 a0 hs r0 ++ (wX1 K (a0 0) a1 r1)) H → va_D A (wX7 K h0 a0 hs r0 ++ (wX1 K (a0 0) a1 r1)) → va_S A s.heap H locs → k65 r0 x3 x4 x5  → W p l e ({ frames := 3, cells := 0, slots := 0, locals := 80 } : Room) s m args below meth c H locs 0 0 (MQ below (va_Qi (fun r (u : (zS)) => post r u) (fun (u : (zS)) t => va_P D vwCl (wX7 K h0 a0 hs u ++ (wX1 K (a0 0) a1 r1)) t.heap) A) args s 0 0 A) (F0 m 65 ls [])) : ∀ (r0 : zS) (x3 : Int32) (x4 : Int32) (x5 : Int32) (H : Heap) (locs : List Loc) (ls : Array Slot), lv_has ls 6 [(0, .ref h0), (1, .int p1), (2, .int p2), (3, .int x3), (4, .int x4), (5, .int x5)] → va_P D vwCl (wX7 K h0 a0 hs r0 ++ (wX1 K (a0 0) a1 r1)) H → va_D A (wX7 K h0 a0 hs r0 ++ (wX1 K (a0 0) a1 r1)) → va_S A s.heap H locs → wp_X7_cut_121 r1 p1 p2 post k65 r0 x3 x4 x5 → W p l e ({ frames := 3, cells := 0, slots := 0, locals := 80 } : Room) s m args below meth c H locs 0 0 (MQ below (va_Qi (fun r (u : (zS)) => post r u) (fun (u : (zS)) t => va_P D vwCl (wX7 K h0 a0 hs u ++ (wX1 K (a0 0) a1 r1)) t.heap) A) args s 0 0 A) (F0 m 121 ls []) := by
  obtain ⟨hx, hb, hr, hml, hown, hts, hlocks, hK, hT⟩ := id C
  intro r0 x3 x4 x5 H locs ls hl hP hD hS h
  unfold wp_X7_cut_121 at h
  obtain ⟨v11, ev11⟩ : ∃ y : Int32, y = x5 + (1 : Int32) := ⟨_, rfl⟩
  replace h := h v11 ev11
  refine lv_iinc (v := v11) (lv' := [(5, .int v11), (0, .ref h0), (1, .int p1), (2, .int p2), (3, .int x3), (4, .int x4)]) hx hb dX7_cut_121 hl (k := 5) rfl (by rw [ev11]; rfl) (by decide) rfl (fun ls hl => ?_)
  refine lv_goto (tgt := 65) hx hb dX7_cut_124 (by decide) ?_
  exact hk65 _ _ _ _ _ _ _ (lv_sub hl [1, 2, 3, 4, 5, 0] rfl) hP hD hS h
set_option maxHeartbeats 4000000 in
set_option maxRecDepth 100000 in
theorem t_X7_cut_65 {p : Program} {l : Launch} {e : Env} {s : State} {m : MethodId} {args : Array Value} {below : List Frame} {meth : Method} {c : Code} {D : va_G} {K : Nat → ClassId} {h0 : Nat} {a0 : Nat → Nat} {hs : Nat → Nat} {a1 : Nat → Nat} {r1 : zS} {p1 : Int32} {p2 : Int32} {post : Int32 → (zS) → Prop} {A : Nat → Prop} (C : xC p s m args meth c cX7_cut RX7 6 (some .int) D vwCl (xty K)) (hA : ∀ q, s.heap.size ≤ q → A q) : ∀ (n : Nat) (r0 : zS) (x3 : Int32) (x4 : Int32) (x5 : Int32) (H : Heap) (locs : List Loc) (ls : Array Slot), lv_has ls 6 [(0, .ref h0), (1, .int p1), (2, .int p2), (3, .int x3), (4, .int x4), (5, .int x5)] → va_P D vwCl (wX7 K h0 a0 hs r0 ++ (wX1 K (a0 0) a1 r1)) H → va_D A (wX7 K h0 a0 hs r0 ++ (wX1 K (a0 0) a1 r1)) → va_S A s.heap H locs → wp_X7_cut_65 r1 p1 p2 post n r0 x3 x4 x5 → W p l e ({ frames := 3, cells := 0, slots := 0, locals := 80 } : Room) s m args below meth c H locs 0 0 (MQ below (va_Qi (fun r (u : (zS)) => post r u) (fun (u : (zS)) t => va_P D vwCl (wX7 K h0 a0 hs u ++ (wX1 K (a0 0) a1 r1)) t.heap) A) args s 0 0 A) (F0 m 65 ls []) := by
  obtain ⟨hx, hb, hr, hml, hown, hts, hlocks, hK, hT⟩ := id C
  intro n
  induction n with
  | zero =>
    intro r0 x3 x4 x5 H locs ls hl hP hD hS h
    exact False.elim h
  | succ n ihn =>
    intro r0 x3 x4 x5 H locs ls hl hP hD hS h
    rw [wu_X7_cut_65] at h
    unfold wb_X7_cut_65 at h
    refine lv_iload hx hb dX7_cut_65 (lv_at hl 5 rfl) ?_
    refine lv_iconst (v := 1) hx hb dX7_cut_67 (by decide) ?_
    refine lv_aload_n hx hb dX7_cut_68 rfl (lv_at hl 0 rfl) ?_
    refine va_get (D := D) (ci := 7) (v := .ref (a0 0)) (C := RX7) (T := TX7) (N := 13) hx hb hts inlX7 hown hK hP 0 rfl rfl 0 (by decide) (hts (.fieldLink RX7 10 "UnderTheDesks" "room" "LUnderTheDesks$Room;") mw_16) (fun _ h9 => h9) rfl dX7_cut_69 ?_
    refine va_get (D := D) (ci := 1) (v := .int (r1.1 1)) (C := RX1) (T := TX1) (N := 10) hx hb hts inlX1 hown hK hP 3 rfl rfl 1 (by decide) (hts (.fieldLink RX7 161 "UnderTheDesks$Room" "count" "I") mw_360) (fun _ h9 => h9) rfl dX7_cut_72 ?_
    refine lv_ishl hx hb dX7_cut_75 ?_
    refine lv_icmp_ge (tgt := 127) hx hb dX7_cut_76 (by decide) (fun c9 => ?_) (fun c9 => ?_)
    · replace h := And.left h c9
      refine lv_iload_n hx hb dX7_cut_127 rfl (lv_at hl 3 rfl) ?_
      exact xrw_i C r0 h hP hS dX7_cut_128
    · replace h := And.right h c9
      refine lv_iload hx hb dX7_cut_79 (lv_at hl 5 rfl) ?_
      refine lv_iload hx hb dX7_cut_81 (lv_at hl 4 rfl) ?_
      refine lv_iand hx hb dX7_cut_83 ?_
      refine lv_if_ne (tgt := 121) hx hb dX7_cut_84 (by decide) (fun c10 => ?_) (fun c10 => ?_)
      · replace h := And.right h c10
        exact t_X7_cut_121 C hA ihn _ _ _ _ _ _ _ (lv_sub hl [0, 1, 2, 3, 4, 5] rfl) hP hD hS h
      · replace h := And.left h c10
        refine lv_iload hx hb dX7_cut_87 (lv_at hl 5 rfl) ?_
        refine xend_ro_i (xRunS (wc := ([] : va_W)) (As := [.int x5]) (rest := []) C (c_J6_bitCount_0f7a4 h) k_J6_bitCount_0f7a4 mw_886 ⟨rfl, rfl⟩ ⟨Nat.le_of_ble_eq_true rfl, Nat.le_of_ble_eq_true rfl⟩ hP hD [] rfl rfl hl rfl rfl (Nat.le_of_ble_eq_true rfl) dX7_cut_89 ⟨Nat.le_refl _, Nat.le_refl _⟩) (fun v12 h => ?_)
        refine lv_iload_n hx hb dX7_cut_92 rfl (lv_at hl 3 rfl) ?_
        refine lv_icmp_ge (tgt := 121) hx hb dX7_cut_93 (by decide) (fun c13 => ?_) (fun c13 => ?_)
        · replace h := And.left h c13
          exact t_X7_cut_121 C hA ihn _ _ _ _ _ _ _ (lv_sub hl [0, 1, 2, 3, 4, 5] rfl) hP hD hS h
        · replace h := And.right h c13
          refine lv_aload_n hx hb dX7_cut_96 rfl (lv_at hl 0 rfl) ?_
          refine va_get (D := D) (ci := 7) (v := .ref (a0 0)) (C := RX7) (T := TX7) (N := 13) hx hb hts inlX7 hown hK hP 0 rfl rfl 0 (by decide) (hts (.fieldLink RX7 10 "UnderTheDesks" "room" "LUnderTheDesks$Room;") mw_16) (fun _ h9 => h9) rfl dX7_cut_97 ?_
          refine lv_iload_n hx hb dX7_cut_100 rfl (lv_at hl 1 rfl) ?_
          refine lv_iload hx hb dX7_cut_101 (lv_at hl 5 rfl) ?_
          refine lv_iconst (v := -1) hx hb dX7_cut_103 (by decide) ?_
          refine lv_ixor hx hb dX7_cut_104 ?_
          refine xend_ro_i (xRunV (wc := (wX1 K (a0 0) a1 r1)) (As := [.int p1, .int (x5 ^^^ (-1 : Int32))]) (rest := []) C (c_X1_reachOf h) k_X1_reachOf mw_1012 ⟨rfl, rfl⟩ ⟨Nat.le_of_ble_eq_true rfl, Nat.le_of_ble_eq_true rfl⟩ hP hD [3, 4, 5, 6, 7, 8] rfl rfl rfl rfl hl rfl rfl (Nat.le_of_ble_eq_true rfl) dX7_cut_105 ⟨Nat.le_refl _, Nat.le_refl _⟩) (fun v14 h => ?_)
          refine lv_iload_n hx hb dX7_cut_108 rfl (lv_at hl 2 rfl) ?_
          refine lv_ishr hx hb dX7_cut_109 ?_
          refine lv_iconst (v := 1) hx hb dX7_cut_110 (by decide) ?_
          refine lv_iand hx hb dX7_cut_111 ?_
          refine lv_if_ne (tgt := 121) hx hb dX7_cut_112 (by decide) (fun c15 => ?_) (fun c15 => ?_)
          · replace h := And.right h c15
            exact t_X7_cut_121 C hA ihn _ _ _ _ _ _ _ (lv_sub hl [0, 1, 2, 3, 4, 5] rfl) hP hD hS h
          · replace h := And.left h c15
            refine lv_iload hx hb dX7_cut_115 (lv_at hl 5 rfl) ?_
            refine xend_ro_i (xRunS (wc := ([] : va_W)) (As := [.int x5]) (rest := []) C (c_J6_bitCount_0f7a4 h) k_J6_bitCount_0f7a4 mw_886 ⟨rfl, rfl⟩ ⟨Nat.le_of_ble_eq_true rfl, Nat.le_of_ble_eq_true rfl⟩ hP hD [] rfl rfl hl rfl rfl (Nat.le_of_ble_eq_true rfl) dX7_cut_117 ⟨Nat.le_refl _, Nat.le_refl _⟩) (fun v16 h => ?_)
            refine lv_istore_n (lv' := [(3, .int v16), (0, .ref h0), (1, .int p1), (2, .int p2), (4, .int x4), (5, .int x5)]) hx hb dX7_cut_120 rfl hl (by decide) rfl (fun ls hl => ?_)
            exact t_X7_cut_121 C hA ihn _ _ _ _ _ _ _ (lv_sub hl [1, 2, 3, 0, 4, 5] rfl) hP hD hS h
set_option maxHeartbeats 4000000 in
set_option maxRecDepth 100000 in
theorem c_X7_cut {l : Launch} {D : va_G} {K : Nat → ClassId} {h0 : Nat} {a0 : Nat → Nat} {hs : Nat → Nat} {r0 : zS} {a1 : Nat → Nat} {r1 : zS} {p1 : Int32} {p2 : Int32} {sz : Nat} {post : Int32 → (zS) → Prop}   (h : wp_X7_cut r0 r1 p1 p2 post) : Met l yX7_cut (Cond.code yX7_cut cX7_cut 6 (some .int) :: wsL_law) ({ frames := 3, cells := 0, slots := 0, locals := 80 } : Room) (va_Pc [.ref h0, .int p1, .int p2] (xPre D vwCl (xty K) (wX7 K h0 a0 hs r0 ++ (wX1 K (a0 0) a1 r1)) sz)) (va_Qi (fun r (u : (zS)) => post r u) (fun (u : (zS)) t => va_P D vwCl (wX7 K h0 a0 hs u ++ (wX1 K (a0 0) a1 r1)) t.heap) (va_A (wX7 K h0 a0 hs r0 ++ (wX1 K (a0 0) a1 r1)) sz)) 0 0 (va_A (wX7 K h0 a0 hs r0 ++ (wX1 K (a0 0) a1 r1)) sz) := by
  refine xMet (by decide) rfl (Nat.le_of_ble_eq_true rfl) (fun p e s m args below meth c C hnm hP hD hsz ls hl => ?_)
  have hl : lv_has ls 6 [(0, .ref h0), (1, .int p1), (2, .int p2)] := hl
  obtain ⟨hx, hb, hr, hml, hown, hts, hlocks, hK, hT⟩ := id C
  subst hsz
  generalize hAe : va_A (wX7 K h0 a0 hs r0 ++ (wX1 K (a0 0) a1 r1)) s.heap.size = A at hD ⊢
  have hA : ∀ q : Nat, s.heap.size ≤ q → A q := fun q h => by rw [← hAe]; exact Or.inr h
  have hS : va_S A s.heap s.heap [] := va_S.rf
  have hP : va_P D vwCl (wX7 K h0 a0 hs r0 ++ (wX1 K (a0 0) a1 r1)) s.heap := hP
  unfold wp_X7_cut at h
  refine lv_aload_n hx hb dX7_cut_0 rfl (lv_at hl 0 rfl) ?_
  refine lv_iload_n hx hb dX7_cut_1 rfl (lv_at hl 1 rfl) ?_
  refine lv_iload_n hx hb dX7_cut_2 rfl (lv_at hl 2 rfl) ?_
  refine xend_ro_i (xRunV_id (As := [.int p1, .int p2]) (rest := []) C (c_X7_isPair h) k_X7_isPair mw_429 ⟨rfl, rfl⟩ ⟨Nat.le_of_ble_eq_true rfl, Nat.le_of_ble_eq_true rfl⟩ hP hD rfl rfl hl rfl rfl (Nat.le_of_ble_eq_true rfl) dX7_cut_3 ⟨Nat.le_refl _, Nat.le_refl _⟩) (fun v1 h => ?_)
  refine lv_if_ne (tgt := 16) hx hb dX7_cut_6 (by decide) (fun c2 => ?_) (fun c2 => ?_)
  · replace h := And.right h c2
    refine lv_aload_n hx hb dX7_cut_16 rfl (lv_at hl 0 rfl) ?_
    refine va_get (D := D) (ci := 7) (v := .ref (a0 0)) (C := RX7) (T := TX7) (N := 13) hx hb hts inlX7 hown hK hP 0 rfl rfl 0 (by decide) (hts (.fieldLink RX7 10 "UnderTheDesks" "room" "LUnderTheDesks$Room;") mw_16) (fun _ h9 => h9) rfl dX7_cut_17 ?_
    refine lv_iload_n hx hb dX7_cut_20 rfl (lv_at hl 1 rfl) ?_
    refine xend_ro_i (xRunV (wc := (wX1 K (a0 0) a1 r1)) (As := [.int p1]) (rest := []) C (c_X1_nearOf h) k_X1_nearOf mw_707 ⟨rfl, rfl⟩ ⟨Nat.le_of_ble_eq_true rfl, Nat.le_of_ble_eq_true rfl⟩ hP hD [3, 4, 5, 6, 7, 8] rfl rfl rfl rfl hl rfl rfl (Nat.le_of_ble_eq_true rfl) dX7_cut_21 ⟨Nat.le_refl _, Nat.le_refl _⟩) (fun v3 h => ?_)
    refine lv_iload_n hx hb dX7_cut_24 rfl (lv_at hl 2 rfl) ?_
    refine lv_ishr hx hb dX7_cut_25 ?_
    refine lv_iconst (v := 1) hx hb dX7_cut_26 (by decide) ?_
    refine lv_iand hx hb dX7_cut_27 ?_
    refine lv_if_eq (tgt := 33) hx hb dX7_cut_28 (by decide) (fun c4 => ?_) (fun c4 => ?_)
    · replace h := And.left h c4
      refine lv_aload_n hx hb dX7_cut_33 rfl (lv_at hl 0 rfl) ?_
      refine va_get (D := D) (ci := 7) (v := .ref (a0 0)) (C := RX7) (T := TX7) (N := 13) hx hb hts inlX7 hown hK hP 0 rfl rfl 0 (by decide) (hts (.fieldLink RX7 10 "UnderTheDesks" "room" "LUnderTheDesks$Room;") mw_16) (fun _ h9 => h9) rfl dX7_cut_34 ?_
      refine lv_iload_n hx hb dX7_cut_37 rfl (lv_at hl 1 rfl) ?_
      refine xend_ro_i (xRunV (wc := (wX1 K (a0 0) a1 r1)) (As := [.int p1]) (rest := []) C (c_X1_neighboursOf h) k_X1_neighboursOf mw_298 ⟨rfl, rfl⟩ ⟨Nat.le_of_ble_eq_true rfl, Nat.le_of_ble_eq_true rfl⟩ hP hD [3, 4, 5, 6, 7, 8] rfl rfl rfl rfl hl rfl rfl (Nat.le_of_ble_eq_true rfl) dX7_cut_38 ⟨Nat.le_refl _, Nat.le_refl _⟩) (fun v5 h => ?_)
      refine lv_aload_n hx hb dX7_cut_41 rfl (lv_at hl 0 rfl) ?_
      refine va_get (D := D) (ci := 7) (v := .ref (a0 0)) (C := RX7) (T := TX7) (N := 13) hx hb hts inlX7 hown hK hP 0 rfl rfl 0 (by decide) (hts (.fieldLink RX7 10 "UnderTheDesks" "room" "LUnderTheDesks$Room;") mw_16) (fun _ h9 => h9) rfl dX7_cut_42 ?_
      refine lv_iload_n hx hb dX7_cut_45 rfl (lv_at hl 2 rfl) ?_
      refine xend_ro_i (xRunV (wc := (wX1 K (a0 0) a1 r1)) (As := [.int p2]) (rest := [.int v5]) C (c_X1_neighboursOf h) k_X1_neighboursOf mw_298 ⟨rfl, rfl⟩ ⟨Nat.le_of_ble_eq_true rfl, Nat.le_of_ble_eq_true rfl⟩ hP hD [3, 4, 5, 6, 7, 8] rfl rfl rfl rfl hl rfl rfl (Nat.le_of_ble_eq_true rfl) dX7_cut_46 ⟨Nat.le_refl _, Nat.le_refl _⟩) (fun v6 h => ?_)
      refine va_mmin hx hb (by rw [hml]; exact hl.1.symm) hown (hts _ mw_475) (hts _ mw_476) (hts _ mw_406) (hts _ mw_477) (Nat.le_of_ble_eq_true rfl) (Nat.le_of_ble_eq_true rfl) (Nat.le_of_ble_eq_true rfl) (Nat.le_of_ble_eq_true rfl) dX7_cut_49 ?_
      refine lv_topi (fun v7 ev7 => ?_)
      replace h := h v7 ev7
      refine lv_istore_n (lv' := [(3, .int v7), (0, .ref h0), (1, .int p1), (2, .int p2)]) hx hb dX7_cut_52 rfl hl (by decide) rfl (fun ls hl => ?_)
      refine lv_iconst (v := 1) hx hb dX7_cut_53 (by decide) ?_
      refine lv_iload_n hx hb dX7_cut_54 rfl (lv_at hl 2 rfl) ?_
      refine lv_ishl hx hb dX7_cut_55 ?_
      refine lv_iconst (v := 1) hx hb dX7_cut_56 (by decide) ?_
      refine lv_iload_n hx hb dX7_cut_57 rfl (lv_at hl 3 rfl) ?_
      refine lv_ishl hx hb dX7_cut_58 ?_
      refine lv_ior hx hb dX7_cut_59 ?_
      refine lv_topi (fun v8 ev8 => ?_)
      replace h := h v8 ev8
      refine lv_istore (lv' := [(4, .int v8), (3, .int v7), (0, .ref h0), (1, .int p1), (2, .int p2)]) hx hb dX7_cut_60 hl (by decide) rfl (fun ls hl => ?_)
      refine lv_iconst (v := 0) hx hb dX7_cut_62 (by decide) ?_
      refine lv_istore (lv' := [(5, .int (0 : Int32)), (4, .int v8), (3, .int v7), (0, .ref h0), (1, .int p1), (2, .int p2)]) hx hb dX7_cut_63 hl (by decide) rfl (fun ls hl => ?_)
      obtain ⟨n0, h⟩ := h
      exact t_X7_cut_65 C hA n0 _ _ _ _ _ _ _ (lv_sub hl [3, 4, 5, 2, 1, 0] rfl) hP hD hS h
    · replace h := And.right h c4
      refine lv_iconst (v := -1) hx hb dX7_cut_31 (by decide) ?_
      exact xrw_i C r0 h hP hS dX7_cut_32
  · replace h := And.left h c2
    refine lv_aload_n hx hb dX7_cut_9 rfl (lv_at hl 0 rfl) ?_
    refine lv_bipush (v := -2) hx hb dX7_cut_10 (by decide) ?_
    refine xend_rw_i (wf := fun (u : (zS)) => (wX7 K h0 a0 hs u)) (xRunV (wc := (wX7 K h0 a0 hs r0)) (As := [.int (-2 : Int32)]) (rest := []) C (c_X7_refuse h) k_X7_refuse mw_147 ⟨rfl, rfl⟩ ⟨Nat.le_of_ble_eq_true rfl, Nat.le_of_ble_eq_true rfl⟩ hP hD [0, 1, 2] rfl rfl rfl rfl hl rfl rfl (Nat.le_of_ble_eq_true rfl) dX7_cut_12 ⟨Nat.le_refl _, Nat.le_refl _⟩) hP hD hS hA [0, 1, 2] rfl rfl (fun _ => rfl) (fun v17 s18 H locs h hP hD hS => ?_)
    replace hP : va_P D vwCl (wX7 K h0 a0 hs s18 ++ (wX1 K (a0 0) a1 r1)) H := hP
    replace hD : va_D A (wX7 K h0 a0 hs s18 ++ (wX1 K (a0 0) a1 r1)) := hD
    exact xrw_i C s18 h hP hS dX7_cut_15

def wp_X7_reach (r0 : zS) (r1 : zS) (p1 : Int32) (post : Int32 → (zS) → Prop) : Prop :=
  wp_X1_has r1 p1 (fun v1 => (v1 = 0 → wp_X7_refuse r0 (-2 : Int32) (fun v6 s7 => post v6 s7)) ∧ (¬ v1 = 0 → wp_X1_everybody r1 (fun v3 => wp_X1_readersAmong r1 v3 (fun v4 => wp_X1_reachOf r1 p1 (v4 ^^^ (-1 : Int32)) (fun v5 => post v5 r0)))))
set_option maxHeartbeats 4000000 in
set_option maxRecDepth 100000 in
theorem c_X7_reach {l : Launch} {D : va_G} {K : Nat → ClassId} {h0 : Nat} {a0 : Nat → Nat} {hs : Nat → Nat} {r0 : zS} {a1 : Nat → Nat} {r1 : zS} {p1 : Int32} {sz : Nat} {post : Int32 → (zS) → Prop}   (h : wp_X7_reach r0 r1 p1 post) : Met l yX7_reach (Cond.code yX7_reach cX7_reach 2 (some .int) :: wsL_law) ({ frames := 3, cells := 0, slots := 0, locals := 67 } : Room) (va_Pc [.ref h0, .int p1] (xPre D vwCl (xty K) (wX7 K h0 a0 hs r0 ++ (wX1 K (a0 0) a1 r1)) sz)) (va_Qi (fun r (u : (zS)) => post r u) (fun (u : (zS)) t => va_P D vwCl (wX7 K h0 a0 hs u ++ (wX1 K (a0 0) a1 r1)) t.heap) (va_A (wX7 K h0 a0 hs r0 ++ (wX1 K (a0 0) a1 r1)) sz)) 0 0 (va_A (wX7 K h0 a0 hs r0 ++ (wX1 K (a0 0) a1 r1)) sz) := by
  refine xMet (by decide) rfl (Nat.le_of_ble_eq_true rfl) (fun p e s m args below meth c C hnm hP hD hsz ls hl => ?_)
  have hl : lv_has ls 2 [(0, .ref h0), (1, .int p1)] := hl
  obtain ⟨hx, hb, hr, hml, hown, hts, hlocks, hK, hT⟩ := id C
  subst hsz
  generalize hAe : va_A (wX7 K h0 a0 hs r0 ++ (wX1 K (a0 0) a1 r1)) s.heap.size = A at hD ⊢
  have hA : ∀ q : Nat, s.heap.size ≤ q → A q := fun q h => by rw [← hAe]; exact Or.inr h
  have hS : va_S A s.heap s.heap [] := va_S.rf
  have hP : va_P D vwCl (wX7 K h0 a0 hs r0 ++ (wX1 K (a0 0) a1 r1)) s.heap := hP
  unfold wp_X7_reach at h
  refine lv_aload_n hx hb dX7_reach_0 rfl (lv_at hl 0 rfl) ?_
  refine va_get (D := D) (ci := 7) (v := .ref (a0 0)) (C := RX7) (T := TX7) (N := 13) hx hb hts inlX7 hown hK hP 0 rfl rfl 0 (by decide) (hts (.fieldLink RX7 10 "UnderTheDesks" "room" "LUnderTheDesks$Room;") mw_16) (fun _ h9 => h9) rfl dX7_reach_1 ?_
  refine lv_iload_n hx hb dX7_reach_4 rfl (lv_at hl 1 rfl) ?_
  refine xend_ro_i (xRunV (wc := (wX1 K (a0 0) a1 r1)) (As := [.int p1]) (rest := []) C (c_X1_has h) k_X1_has mw_250 ⟨rfl, rfl⟩ ⟨Nat.le_of_ble_eq_true rfl, Nat.le_of_ble_eq_true rfl⟩ hP hD [3, 4, 5, 6, 7, 8] rfl rfl rfl rfl hl rfl rfl (Nat.le_of_ble_eq_true rfl) dX7_reach_5 ⟨Nat.le_refl _, Nat.le_refl _⟩) (fun v1 h => ?_)
  refine lv_if_ne (tgt := 18) hx hb dX7_reach_8 (by decide) (fun c2 => ?_) (fun c2 => ?_)
  · replace h := And.right h c2
    refine lv_aload_n hx hb dX7_reach_18 rfl (lv_at hl 0 rfl) ?_
    refine va_get (D := D) (ci := 7) (v := .ref (a0 0)) (C := RX7) (T := TX7) (N := 13) hx hb hts inlX7 hown hK hP 0 rfl rfl 0 (by decide) (hts (.fieldLink RX7 10 "UnderTheDesks" "room" "LUnderTheDesks$Room;") mw_16) (fun _ h9 => h9) rfl dX7_reach_19 ?_
    refine lv_iload_n hx hb dX7_reach_22 rfl (lv_at hl 1 rfl) ?_
    refine lv_aload_n hx hb dX7_reach_23 rfl (lv_at hl 0 rfl) ?_
    refine va_get (D := D) (ci := 7) (v := .ref (a0 0)) (C := RX7) (T := TX7) (N := 13) hx hb hts inlX7 hown hK hP 0 rfl rfl 0 (by decide) (hts (.fieldLink RX7 10 "UnderTheDesks" "room" "LUnderTheDesks$Room;") mw_16) (fun _ h9 => h9) rfl dX7_reach_24 ?_
    refine lv_aload_n hx hb dX7_reach_27 rfl (lv_at hl 0 rfl) ?_
    refine va_get (D := D) (ci := 7) (v := .ref (a0 0)) (C := RX7) (T := TX7) (N := 13) hx hb hts inlX7 hown hK hP 0 rfl rfl 0 (by decide) (hts (.fieldLink RX7 10 "UnderTheDesks" "room" "LUnderTheDesks$Room;") mw_16) (fun _ h9 => h9) rfl dX7_reach_28 ?_
    refine xend_ro_i (xRunV (wc := (wX1 K (a0 0) a1 r1)) (As := []) (rest := [.ref (a0 0), .int p1, .ref (a0 0)]) C (c_X1_everybody h) k_X1_everybody mw_1028 ⟨rfl, rfl⟩ ⟨Nat.le_of_ble_eq_true rfl, Nat.le_of_ble_eq_true rfl⟩ hP hD [3, 4, 5, 6, 7, 8] rfl rfl rfl rfl hl rfl rfl (Nat.le_of_ble_eq_true rfl) dX7_reach_31 ⟨Nat.le_refl _, Nat.le_refl _⟩) (fun v3 h => ?_)
    refine xend_ro_i (xRunV (wc := (wX1 K (a0 0) a1 r1)) (As := [.int v3]) (rest := [.int p1, .ref (a0 0)]) C (c_X1_readersAmong h) k_X1_readersAmong mw_885 ⟨rfl, rfl⟩ ⟨Nat.le_of_ble_eq_true rfl, Nat.le_of_ble_eq_true rfl⟩ hP hD [3, 4, 5, 6, 7, 8] rfl rfl rfl rfl hl rfl rfl (Nat.le_of_ble_eq_true rfl) dX7_reach_34 ⟨Nat.le_refl _, Nat.le_refl _⟩) (fun v4 h => ?_)
    refine lv_iconst (v := -1) hx hb dX7_reach_37 (by decide) ?_
    refine lv_ixor hx hb dX7_reach_38 ?_
    refine xend_ro_i (xRunV (wc := (wX1 K (a0 0) a1 r1)) (As := [.int p1, .int (v4 ^^^ (-1 : Int32))]) (rest := []) C (c_X1_reachOf h) k_X1_reachOf mw_1012 ⟨rfl, rfl⟩ ⟨Nat.le_of_ble_eq_true rfl, Nat.le_of_ble_eq_true rfl⟩ hP hD [3, 4, 5, 6, 7, 8] rfl rfl rfl rfl hl rfl rfl (Nat.le_of_ble_eq_true rfl) dX7_reach_39 ⟨Nat.le_refl _, Nat.le_refl _⟩) (fun v5 h => ?_)
    exact xrw_i C r0 h hP hS dX7_reach_42
  · replace h := And.left h c2
    refine lv_aload_n hx hb dX7_reach_11 rfl (lv_at hl 0 rfl) ?_
    refine lv_bipush (v := -2) hx hb dX7_reach_12 (by decide) ?_
    refine xend_rw_i (wf := fun (u : (zS)) => (wX7 K h0 a0 hs u)) (xRunV (wc := (wX7 K h0 a0 hs r0)) (As := [.int (-2 : Int32)]) (rest := []) C (c_X7_refuse h) k_X7_refuse mw_147 ⟨rfl, rfl⟩ ⟨Nat.le_of_ble_eq_true rfl, Nat.le_of_ble_eq_true rfl⟩ hP hD [0, 1, 2] rfl rfl rfl rfl hl rfl rfl (Nat.le_of_ble_eq_true rfl) dX7_reach_14 ⟨Nat.le_refl _, Nat.le_refl _⟩) hP hD hS hA [0, 1, 2] rfl rfl (fun _ => rfl) (fun v6 s7 H locs h hP hD hS => ?_)
    replace hP : va_P D vwCl (wX7 K h0 a0 hs s7 ++ (wX1 K (a0 0) a1 r1)) H := hP
    replace hD : va_D A (wX7 K h0 a0 hs s7 ++ (wX1 K (a0 0) a1 r1)) := hD
    exact xrw_i C s7 h hP hS dX7_reach_17

def wp_X7_wrongIn_86 (r0 : zS) (sh : Nat → zS) (r2 : zS) (p1 : Nat) (p2 : Int32) (post : Int32 → Prop) (k8 : Int32 → Int32 → Int32 → Prop) (x3 : Int32) (x5 : Int32) (x8 : Int32) : Prop :=
  ∀ v8 : Int32, v8 = (x3 ||| ((1 : Int32) <<< (x8 &&& 31))) → ∀ v9 : Int32, v9 = x5 + (1 : Int32) → k8 v8 x8 v9
def wb_X7_wrongIn_8 (r0 : zS) (sh : Nat → zS) (r2 : zS) (p1 : Nat) (p2 : Int32) (post : Int32 → Prop) (ih : Int32 → Int32 → Int32 → Prop) (x3 : Int32) (x4 : Int32) (x5 : Int32) : Prop :=
  (p2 ≤ x5 → post (-1 : Int32) ) ∧ (¬ p2 ≤ x5 → wp_X2_cell (sh p1) x5 (fun v2 => ((lg_cmp v2 (0 : Int64)) < 0 → post x5 ) ∧ (¬ (lg_cmp v2 (0 : Int64)) < 0 → ((lg_cmp v2 ((r2.1 1).toInt64)) < 0 → ∀ v5 : Int32, v5 = (v2.toInt32) → (((x3 >>> (v5 &&& 31)) &&& (1 : Int32)) = 0 → (x4 = (-1 : Int32) → wp_X7_wrongIn_86 r0 sh r2 p1 p2 post ih x3 x5 v5) ∧ (¬ x4 = (-1 : Int32) → wp_X1_nearOf r2 x4 (fun v10 => (((v10 >>> (v5 &&& 31)) &&& (1 : Int32)) = 0 → post x5 ) ∧ (¬ ((v10 >>> (v5 &&& 31)) &&& (1 : Int32)) = 0 → wp_X7_wrongIn_86 r0 sh r2 p1 p2 post ih x3 x5 v5)))) ∧ (¬ ((x3 >>> (v5 &&& 31)) &&& (1 : Int32)) = 0 → post x5 )) ∧ (¬ (lg_cmp v2 ((r2.1 1).toInt64)) < 0 → post x5 ))))
def wp_X7_wrongIn_8 (r0 : zS) (sh : Nat → zS) (r2 : zS) (p1 : Nat) (p2 : Int32) (post : Int32 → Prop) (n : Nat) : Int32 → Int32 → Int32 → Prop := Nat.rec (motive := fun _ => Int32 → Int32 → Int32 → Prop) (fun _ _ _ => False) (fun _ ih => wb_X7_wrongIn_8 r0 sh r2 p1 p2 post ih) n
theorem wu_X7_wrongIn_8 (r0 : zS) (sh : Nat → zS) (r2 : zS) (p1 : Nat) (p2 : Int32) (post : Int32 → Prop) (n : Nat) (x3 : Int32) (x4 : Int32) (x5 : Int32) : wp_X7_wrongIn_8 r0 sh r2 p1 p2 post (n + 1) x3 x4 x5 = wb_X7_wrongIn_8 r0 sh r2 p1 p2 post (wp_X7_wrongIn_8 r0 sh r2 p1 p2 post n) x3 x4 x5 := rfl
def wp_X7_wrongIn (r0 : zS) (sh : Nat → zS) (r2 : zS) (p1 : Nat) (p2 : Int32) (post : Int32 → Prop) : Prop :=
  ∃ n : Nat, wp_X7_wrongIn_8 r0 sh r2 p1 p2 post n (0 : Int32) (-1 : Int32) (0 : Int32)
set_option maxHeartbeats 4000000 in
set_option maxRecDepth 100000 in
theorem t_X7_wrongIn_86 {p : Program} {l : Launch} {e : Env} {s : State} {m : MethodId} {args : Array Value} {below : List Frame} {meth : Method} {c : Code} {D : va_G} {K : Nat → ClassId} {h0 : Nat} {a0 : Nat → Nat} {hs : Nat → Nat} {r0 : zS} {as : Nat → Nat → Nat} {sh : Nat → zS} {a2 : Nat → Nat} {r2 : zS} {p1 : Nat} {p2 : Int32} {post : Int32 → Prop} (C : xC p s m args meth c cX7_wrongIn RX7 9 (some .int) D vwCl (xty K)) (hr1 : p1 < 8) (hP : va_P D vwCl (wX7 K h0 a0 hs r0 ++ (wPl K hs as sh ++ (wX1 K (a0 0) a2 r2))) s.heap) (hD : va_D (va_A (wX7 K h0 a0 hs r0 ++ (wPl K hs as sh ++ (wX1 K (a0 0) a2 r2))) s.heap.size) (wX7 K h0 a0 hs r0 ++ (wPl K hs as sh ++ (wX1 K (a0 0) a2 r2)))) {k8 : Int32 → Int32 → Int32 → Prop} (hk8 : ∀ (x3 : Int32) (x4 : Int32) (x5 : Int32) (ls : Array Slot), lv_has ls 9 [(0, .ref h0), (1, .ref (hs p1)), (2, .int p2), (3, .int x3), (4, .int x4), (5, .int x5)] → k8  x3 x4 x5  → W p l e ({ frames := 2, cells := 0, slots := 0, locals := 42 } : Room) s m args below meth c s.heap [] 0 0 (MQ below (roI post) args s 0 0 (fun _ => False)) (F0 m 8 ls [])) : ∀ (x3 : Int32) (x5 : Int32) (x8 : Int32) (ls : Array Slot), lv_has ls 9 [(0, .ref h0), (1, .ref (hs p1)), (2, .int p2), (3, .int x3), (5, .int x5), (8, .int x8)] → wp_X7_wrongIn_86 r0 sh r2 p1 p2 post k8 x3 x5 x8 → W p l e ({ frames := 2, cells := 0, slots := 0, locals := 42 } : Room) s m args below meth c s.heap [] 0 0 (MQ below (roI post) args s 0 0 (fun _ => False)) (F0 m 86 ls []) := by
  obtain ⟨hx, hb, hr, hml, hown, hts, hlocks, hK, hT⟩ := id C
  intro x3 x5 x8 ls hl h
  unfold wp_X7_wrongIn_86 at h
  refine lv_iload_n hx hb dX7_wrongIn_86 rfl (lv_at hl 3 rfl) ?_
  refine lv_iconst (v := 1) hx hb dX7_wrongIn_87 (by decide) ?_
  refine lv_iload hx hb dX7_wrongIn_88 (lv_at hl 5 rfl) ?_
  refine lv_ishl hx hb dX7_wrongIn_90 ?_
  refine lv_ior hx hb dX7_wrongIn_91 ?_
  refine lv_topi (fun v8 ev8 => ?_)
  replace h := h v8 ev8
  refine lv_istore_n (lv' := [(3, .int v8), (0, .ref h0), (1, .ref (hs p1)), (2, .int p2), (5, .int x5), (8, .int x8)]) hx hb dX7_wrongIn_92 rfl hl (by decide) rfl (fun ls hl => ?_)
  refine lv_iload hx hb dX7_wrongIn_93 (lv_at hl 5 rfl) ?_
  refine lv_istore (lv' := [(4, .int x8), (3, .int v8), (0, .ref h0), (1, .ref (hs p1)), (2, .int p2), (5, .int x5), (8, .int x8)]) hx hb dX7_wrongIn_95 hl (by decide) rfl (fun ls hl => ?_)
  obtain ⟨v9, ev9⟩ : ∃ y : Int32, y = x5 + (1 : Int32) := ⟨_, rfl⟩
  replace h := h v9 ev9
  refine lv_iinc (v := v9) (lv' := [(5, .int v9), (4, .int x8), (3, .int v8), (0, .ref h0), (1, .ref (hs p1)), (2, .int p2), (8, .int x8)]) hx hb dX7_wrongIn_97 hl (k := 5) rfl (by rw [ev9]; rfl) (by decide) rfl (fun ls hl => ?_)
  refine lv_goto (tgt := 8) hx hb dX7_wrongIn_100 (by decide) ?_
  exact hk8 _ _ _ _ (lv_sub hl [3, 4, 5, 2, 1, 0] rfl) h
set_option maxHeartbeats 4000000 in
set_option maxRecDepth 100000 in
theorem t_X7_wrongIn_8 {p : Program} {l : Launch} {e : Env} {s : State} {m : MethodId} {args : Array Value} {below : List Frame} {meth : Method} {c : Code} {D : va_G} {K : Nat → ClassId} {h0 : Nat} {a0 : Nat → Nat} {hs : Nat → Nat} {r0 : zS} {as : Nat → Nat → Nat} {sh : Nat → zS} {a2 : Nat → Nat} {r2 : zS} {p1 : Nat} {p2 : Int32} {post : Int32 → Prop} (C : xC p s m args meth c cX7_wrongIn RX7 9 (some .int) D vwCl (xty K)) (hr1 : p1 < 8) (hP : va_P D vwCl (wX7 K h0 a0 hs r0 ++ (wPl K hs as sh ++ (wX1 K (a0 0) a2 r2))) s.heap) (hD : va_D (va_A (wX7 K h0 a0 hs r0 ++ (wPl K hs as sh ++ (wX1 K (a0 0) a2 r2))) s.heap.size) (wX7 K h0 a0 hs r0 ++ (wPl K hs as sh ++ (wX1 K (a0 0) a2 r2)))) : ∀ (n : Nat) (x3 : Int32) (x4 : Int32) (x5 : Int32) (ls : Array Slot), lv_has ls 9 [(0, .ref h0), (1, .ref (hs p1)), (2, .int p2), (3, .int x3), (4, .int x4), (5, .int x5)] → wp_X7_wrongIn_8 r0 sh r2 p1 p2 post n x3 x4 x5 → W p l e ({ frames := 2, cells := 0, slots := 0, locals := 42 } : Room) s m args below meth c s.heap [] 0 0 (MQ below (roI post) args s 0 0 (fun _ => False)) (F0 m 8 ls []) := by
  obtain ⟨hx, hb, hr, hml, hown, hts, hlocks, hK, hT⟩ := id C
  intro n
  induction n with
  | zero =>
    intro x3 x4 x5 ls hl h
    exact False.elim h
  | succ n ihn =>
    intro x3 x4 x5 ls hl h
    rw [wu_X7_wrongIn_8] at h
    unfold wb_X7_wrongIn_8 at h
    refine lv_iload hx hb dX7_wrongIn_8 (lv_at hl 5 rfl) ?_
    refine lv_iload_n hx hb dX7_wrongIn_10 rfl (lv_at hl 2 rfl) ?_
    refine lv_icmp_ge (tgt := 103) hx hb dX7_wrongIn_11 (by decide) (fun c1 => ?_) (fun c1 => ?_)
    · replace h := And.left h c1
      refine lv_iconst (v := -1) hx hb dX7_wrongIn_103 (by decide) ?_
      exact xro_i C h dX7_wrongIn_104
    · replace h := And.right h c1
      refine lv_aload_n hx hb dX7_wrongIn_14 rfl (lv_at hl 1 rfl) ?_
      refine lv_iload hx hb dX7_wrongIn_15 (lv_at hl 5 rfl) ?_
      refine xend_ro_l (xRunV (wc := (wX2 K (hs p1) (as p1) (sh p1))) (As := [.int x5]) (rest := []) C (c_X2_cell h) k_X2_cell mw_230 ⟨rfl, rfl⟩ ⟨Nat.le_of_ble_eq_true rfl, Nat.le_of_ble_eq_true rfl⟩ hP hD [3 + 2 * p1, 4 + 2 * p1] (wPl_C hr1) (xnd2 _) rfl rfl hl rfl rfl (Nat.le_of_ble_eq_true rfl) dX7_wrongIn_17 ⟨Nat.le_refl _, Nat.le_refl _⟩) (fun v2 h => ?_)
      refine lv_lstore (lv' := [(6, .long v2), (0, .ref h0), (1, .ref (hs p1)), (2, .int p2), (3, .int x3), (4, .int x4), (5, .int x5)]) hx hb dX7_wrongIn_20 hl (by decide) rfl (fun ls hl => ?_)
      refine lv_lload hx hb dX7_wrongIn_22 (lv_at hl 0 rfl) ?_
      refine lv_lconst (v := 0) hx hb dX7_wrongIn_24 (by decide) ?_
      refine W.lcmp hx hb dX7_wrongIn_25 ?_
      refine lv_if_lt (tgt := 43) hx hb dX7_wrongIn_26 (by decide) (fun c3 => ?_) (fun c3 => ?_)
      · replace h := And.left h c3
        refine lv_iload hx hb dX7_wrongIn_43 (lv_at hl 6 rfl) ?_
        exact xro_i C h dX7_wrongIn_45
      · replace h := And.right h c3
        refine lv_lload hx hb dX7_wrongIn_29 (lv_at hl 0 rfl) ?_
        refine lv_aload_n hx hb dX7_wrongIn_31 rfl (lv_at hl 1 rfl) ?_
        refine va_get (D := D) (ci := 7) (v := .ref (a0 0)) (C := RX7) (T := TX7) (N := 13) hx hb hts inlX7 hown hK hP 0 rfl rfl 0 (by decide) (hts (.fieldLink RX7 10 "UnderTheDesks" "room" "LUnderTheDesks$Room;") mw_16) (fun _ h9 => h9) rfl dX7_wrongIn_32 ?_
        refine va_get (D := D) (ci := 1) (v := .int (r2.1 1)) (C := RX1) (T := TX1) (N := 10) hx hb hts inlX1 hown hK hP 19 rfl rfl 1 (by decide) (hts (.fieldLink RX7 161 "UnderTheDesks$Room" "count" "I") mw_360) (fun _ h9 => h9) rfl dX7_wrongIn_35 ?_
        refine lv_i2l hx hb dX7_wrongIn_38 rfl ?_
        refine W.lcmp hx hb dX7_wrongIn_39 ?_
        refine lv_if_lt (tgt := 46) hx hb dX7_wrongIn_40 (by decide) (fun c4 => ?_) (fun c4 => ?_)
        · replace h := And.left h c4
          refine lv_lload hx hb dX7_wrongIn_46 (lv_at hl 0 rfl) ?_
          refine lv_l2i hx hb dX7_wrongIn_48 rfl ?_
          refine lv_topi (fun v5 ev5 => ?_)
          replace h := h v5 ev5
          refine lv_istore (lv' := [(8, .int v5), (6, .long v2), (0, .ref h0), (1, .ref (hs p1)), (2, .int p2), (3, .int x3), (4, .int x4), (5, .int x5)]) hx hb dX7_wrongIn_49 hl (by decide) rfl (fun ls hl => ?_)
          refine lv_iload_n hx hb dX7_wrongIn_51 rfl (lv_at hl 5 rfl) ?_
          refine lv_iload hx hb dX7_wrongIn_52 (lv_at hl 0 rfl) ?_
          refine lv_ishr hx hb dX7_wrongIn_54 ?_
          refine lv_iconst (v := 1) hx hb dX7_wrongIn_55 (by decide) ?_
          refine lv_iand hx hb dX7_wrongIn_56 ?_
          refine lv_if_ne (tgt := 83) hx hb dX7_wrongIn_57 (by decide) (fun c6 => ?_) (fun c6 => ?_)
          · replace h := And.right h c6
            refine lv_iload hx hb dX7_wrongIn_83 (lv_at hl 7 rfl) ?_
            exact xro_i C h dX7_wrongIn_85
          · replace h := And.left h c6
            refine lv_iload hx hb dX7_wrongIn_60 (lv_at hl 6 rfl) ?_
            refine lv_iconst (v := -1) hx hb dX7_wrongIn_62 (by decide) ?_
            refine lv_icmp_eq (tgt := 86) hx hb dX7_wrongIn_63 (by decide) (fun c7 => ?_) (fun c7 => ?_)
            · replace h := And.left h c7
              exact t_X7_wrongIn_86 C hr1 hP hD ihn _ _ _ _ (lv_sub hl [2, 3, 4, 5, 7, 0] rfl) h
            · replace h := And.right h c7
              refine lv_aload_n hx hb dX7_wrongIn_66 rfl (lv_at hl 2 rfl) ?_
              refine va_get (D := D) (ci := 7) (v := .ref (a0 0)) (C := RX7) (T := TX7) (N := 13) hx hb hts inlX7 hown hK hP 0 rfl rfl 0 (by decide) (hts (.fieldLink RX7 10 "UnderTheDesks" "room" "LUnderTheDesks$Room;") mw_16) (fun _ h9 => h9) rfl dX7_wrongIn_67 ?_
              refine lv_iload hx hb dX7_wrongIn_70 (lv_at hl 6 rfl) ?_
              refine xend_ro_i (xRunV (wc := (wX1 K (a0 0) a2 r2)) (As := [.int x4]) (rest := []) C (c_X1_nearOf h) k_X1_nearOf mw_707 ⟨rfl, rfl⟩ ⟨Nat.le_of_ble_eq_true rfl, Nat.le_of_ble_eq_true rfl⟩ hP hD [19, 20, 21, 22, 23, 24] rfl rfl rfl rfl hl rfl rfl (Nat.le_of_ble_eq_true rfl) dX7_wrongIn_72 ⟨Nat.le_refl _, Nat.le_refl _⟩) (fun v10 h => ?_)
              refine lv_iload hx hb dX7_wrongIn_75 (lv_at hl 0 rfl) ?_
              refine lv_ishr hx hb dX7_wrongIn_77 ?_
              refine lv_iconst (v := 1) hx hb dX7_wrongIn_78 (by decide) ?_
              refine lv_iand hx hb dX7_wrongIn_79 ?_
              refine lv_if_ne (tgt := 86) hx hb dX7_wrongIn_80 (by decide) (fun c11 => ?_) (fun c11 => ?_)
              · replace h := And.right h c11
                exact t_X7_wrongIn_86 C hr1 hP hD ihn _ _ _ _ (lv_sub hl [2, 3, 4, 5, 7, 0] rfl) h
              · replace h := And.left h c11
                refine lv_iload hx hb dX7_wrongIn_83 (lv_at hl 7 rfl) ?_
                exact xro_i C h dX7_wrongIn_85
        · replace h := And.right h c4
          refine lv_iload hx hb dX7_wrongIn_43 (lv_at hl 6 rfl) ?_
          exact xro_i C h dX7_wrongIn_45
set_option maxHeartbeats 4000000 in
set_option maxRecDepth 100000 in
theorem c_X7_wrongIn {l : Launch} {D : va_G} {K : Nat → ClassId} {h0 : Nat} {a0 : Nat → Nat} {hs : Nat → Nat} {r0 : zS} {as : Nat → Nat → Nat} {sh : Nat → zS} {a2 : Nat → Nat} {r2 : zS} {p1 : Nat} {p2 : Int32} {sz : Nat} {post : Int32 → Prop}  (hr1 : p1 < 8) (h : wp_X7_wrongIn r0 sh r2 p1 p2 post) : Met l yX7_wrongIn (Cond.code yX7_wrongIn cX7_wrongIn 9 (some .int) :: wsL_law) ({ frames := 2, cells := 0, slots := 0, locals := 42 } : Room) (va_Pc [.ref h0, .ref (hs p1), .int p2] (xPre D vwCl (xty K) (wX7 K h0 a0 hs r0 ++ (wPl K hs as sh ++ (wX1 K (a0 0) a2 r2))) sz)) (roI post) 0 0 (fun _ => False) := by
  refine xMet (by decide) rfl (Nat.le_of_ble_eq_true rfl) (fun p e s m args below meth c C hnm hP hD hsz ls hl => ?_)
  have hl : lv_has ls 9 [(0, .ref h0), (1, .ref (hs p1)), (2, .int p2)] := hl
  obtain ⟨hx, hb, hr, hml, hown, hts, hlocks, hK, hT⟩ := id C
  unfold wp_X7_wrongIn at h
  refine lv_iconst (v := 0) hx hb dX7_wrongIn_0 (by decide) ?_
  refine lv_istore_n (lv' := [(3, .int (0 : Int32)), (0, .ref h0), (1, .ref (hs p1)), (2, .int p2)]) hx hb dX7_wrongIn_1 rfl hl (by decide) rfl (fun ls hl => ?_)
  refine lv_iconst (v := -1) hx hb dX7_wrongIn_2 (by decide) ?_
  refine lv_istore (lv' := [(4, .int (-1 : Int32)), (3, .int (0 : Int32)), (0, .ref h0), (1, .ref (hs p1)), (2, .int p2)]) hx hb dX7_wrongIn_3 hl (by decide) rfl (fun ls hl => ?_)
  refine lv_iconst (v := 0) hx hb dX7_wrongIn_5 (by decide) ?_
  refine lv_istore (lv' := [(5, .int (0 : Int32)), (4, .int (-1 : Int32)), (3, .int (0 : Int32)), (0, .ref h0), (1, .ref (hs p1)), (2, .int p2)]) hx hb dX7_wrongIn_6 hl (by decide) rfl (fun ls hl => ?_)
  obtain ⟨n0, h⟩ := h
  exact t_X7_wrongIn_8 C hr1 hP hD n0 _ _ _ _ (lv_sub hl [3, 4, 5, 2, 1, 0] rfl) h

def wp_X7_judge_17 (sh : Nat → zS) (r2 : zS) (p1 : Int32) (p2 : Int32) (post : Int32 → (zS) → Prop) (r0 : zS) : Prop :=
  wp_X7_refuse r0 (-2 : Int32) (fun v3 s4 => post v3 s4)
def wp_X7_judge (r0 : zS) (sh : Nat → zS) (r2 : zS) (p1 : Int32) (p2 : Int32) (post : Int32 → (zS) → Prop) : Prop :=
  wp_X7_isShelf p1 (fun v1 => (v1 = 0 → wp_X7_judge_17 sh r2 p1 p2 post r0) ∧ (¬ v1 = 0 → (p2 < 0 → wp_X7_judge_17 sh r2 p1 p2 post r0) ∧ (¬ p2 < 0 → (p2 ≤ (9 : Int32) → wp_X7_rowFault r0 sh p1 (fun v7 => (v7 = 0 → vp_in p1 8 ∧ (∀ k9 : Nat, k9 = p1.toNatClampNeg → (p2 ≤ ((sh k9).1 1) → vp_in p1 8 ∧ (∀ k11 : Nat, k11 = p1.toNatClampNeg → wp_X7_wrongIn r0 sh r2 k11 p2 (fun v12 => post v12 r0))) ∧ (¬ p2 ≤ ((sh k9).1 1) → wp_X7_refuse r0 (-2 : Int32) (fun v13 s14 => post v13 s14)))) ∧ (¬ v7 = 0 → wp_X7_refuse r0 v7 (fun v15 s16 => post v15 s16)))) ∧ (¬ p2 ≤ (9 : Int32) → wp_X7_judge_17 sh r2 p1 p2 post r0))))
set_option maxHeartbeats 4000000 in
set_option maxRecDepth 100000 in
theorem t_X7_judge_17 {p : Program} {l : Launch} {e : Env} {s : State} {m : MethodId} {args : Array Value} {below : List Frame} {meth : Method} {c : Code} {D : va_G} {K : Nat → ClassId} {h0 : Nat} {a0 : Nat → Nat} {hs : Nat → Nat} {as : Nat → Nat → Nat} {sh : Nat → zS} {a2 : Nat → Nat} {r2 : zS} {p1 : Int32} {p2 : Int32} {post : Int32 → (zS) → Prop} {A : Nat → Prop} (C : xC p s m args meth c cX7_judge RX7 4 (some .int) D vwCl (xty K)) (hA : ∀ q, s.heap.size ≤ q → A q) : ∀ (r0 : zS) (H : Heap) (locs : List Loc) (ls : Array Slot), lv_has ls 4 [(0, .ref h0)] → va_P D vwCl (wX7 K h0 a0 hs r0 ++ (wPl K hs as sh ++ (wX1 K (a0 0) a2 r2))) H → va_D A (wX7 K h0 a0 hs r0 ++ (wPl K hs as sh ++ (wX1 K (a0 0) a2 r2))) → va_S A s.heap H locs → wp_X7_judge_17 sh r2 p1 p2 post r0 → W p l e ({ frames := 3, cells := 0, slots := 0, locals := 70 } : Room) s m args below meth c H locs 0 0 (MQ below (va_Qi (fun r (u : (zS)) => post r u) (fun (u : (zS)) t => va_P D vwCl (wX7 K h0 a0 hs u ++ (wPl K hs as sh ++ (wX1 K (a0 0) a2 r2))) t.heap) A) args s 0 0 A) (F0 m 17 ls []) := by
  obtain ⟨hx, hb, hr, hml, hown, hts, hlocks, hK, hT⟩ := id C
  intro r0 H locs ls hl hP hD hS h
  unfold wp_X7_judge_17 at h
  refine lv_aload_n hx hb dX7_judge_17 rfl (lv_at hl 0 rfl) ?_
  refine lv_bipush (v := -2) hx hb dX7_judge_18 (by decide) ?_
  refine xend_rw_i (wf := fun (u : (zS)) => (wX7 K h0 a0 hs u)) (xRunV (wc := (wX7 K h0 a0 hs r0)) (As := [.int (-2 : Int32)]) (rest := []) C (c_X7_refuse h) k_X7_refuse mw_147 ⟨rfl, rfl⟩ ⟨Nat.le_of_ble_eq_true rfl, Nat.le_of_ble_eq_true rfl⟩ hP hD [0, 1, 2] rfl rfl rfl rfl hl rfl rfl (Nat.le_of_ble_eq_true rfl) dX7_judge_20 ⟨Nat.le_refl _, Nat.le_refl _⟩) hP hD hS hA [0, 1, 2] rfl rfl (fun _ => rfl) (fun v3 s4 H locs h hP hD hS => ?_)
  replace hP : va_P D vwCl (wX7 K h0 a0 hs s4 ++ (wPl K hs as sh ++ (wX1 K (a0 0) a2 r2))) H := hP
  replace hD : va_D A (wX7 K h0 a0 hs s4 ++ (wPl K hs as sh ++ (wX1 K (a0 0) a2 r2))) := hD
  exact xrw_i C s4 h hP hS dX7_judge_23
set_option maxHeartbeats 4000000 in
set_option maxRecDepth 100000 in
theorem c_X7_judge {l : Launch} {D : va_G} {K : Nat → ClassId} {h0 : Nat} {a0 : Nat → Nat} {hs : Nat → Nat} {r0 : zS} {as : Nat → Nat → Nat} {sh : Nat → zS} {a2 : Nat → Nat} {r2 : zS} {p1 : Int32} {p2 : Int32} {sz : Nat} {post : Int32 → (zS) → Prop}   (h : wp_X7_judge r0 sh r2 p1 p2 post) : Met l yX7_judge (Cond.code yX7_judge cX7_judge 4 (some .int) :: wsL_law) ({ frames := 3, cells := 0, slots := 0, locals := 70 } : Room) (va_Pc [.ref h0, .int p1, .int p2] (xPre D vwCl (xty K) (wX7 K h0 a0 hs r0 ++ (wPl K hs as sh ++ (wX1 K (a0 0) a2 r2))) sz)) (va_Qi (fun r (u : (zS)) => post r u) (fun (u : (zS)) t => va_P D vwCl (wX7 K h0 a0 hs u ++ (wPl K hs as sh ++ (wX1 K (a0 0) a2 r2))) t.heap) (va_A (wX7 K h0 a0 hs r0 ++ (wPl K hs as sh ++ (wX1 K (a0 0) a2 r2))) sz)) 0 0 (va_A (wX7 K h0 a0 hs r0 ++ (wPl K hs as sh ++ (wX1 K (a0 0) a2 r2))) sz) := by
  refine xMet (by decide) rfl (Nat.le_of_ble_eq_true rfl) (fun p e s m args below meth c C hnm hP hD hsz ls hl => ?_)
  have hl : lv_has ls 4 [(0, .ref h0), (1, .int p1), (2, .int p2)] := hl
  obtain ⟨hx, hb, hr, hml, hown, hts, hlocks, hK, hT⟩ := id C
  subst hsz
  generalize hAe : va_A (wX7 K h0 a0 hs r0 ++ (wPl K hs as sh ++ (wX1 K (a0 0) a2 r2))) s.heap.size = A at hD ⊢
  have hA : ∀ q : Nat, s.heap.size ≤ q → A q := fun q h => by rw [← hAe]; exact Or.inr h
  have hS : va_S A s.heap s.heap [] := va_S.rf
  have hP : va_P D vwCl (wX7 K h0 a0 hs r0 ++ (wPl K hs as sh ++ (wX1 K (a0 0) a2 r2))) s.heap := hP
  unfold wp_X7_judge at h
  refine lv_iload_n hx hb dX7_judge_0 rfl (lv_at hl 1 rfl) ?_
  refine xend_ro_i (xRunS (wc := ([] : va_W)) (As := [.int p1]) (rest := []) C (c_X7_isShelf h) k_X7_isShelf mw_144 ⟨rfl, rfl⟩ ⟨Nat.le_of_ble_eq_true rfl, Nat.le_of_ble_eq_true rfl⟩ hP hD [] rfl rfl hl rfl rfl (Nat.le_of_ble_eq_true rfl) dX7_judge_1 ⟨Nat.le_refl _, Nat.le_refl _⟩) (fun v1 h => ?_)
  refine lv_if_eq (tgt := 17) hx hb dX7_judge_4 (by decide) (fun c2 => ?_) (fun c2 => ?_)
  · replace h := And.left h c2
    exact t_X7_judge_17 C hA _ _ _ _ (lv_sub hl [0] rfl) hP hD hS h
  · replace h := And.right h c2
    refine lv_iload_n hx hb dX7_judge_7 rfl (lv_at hl 2 rfl) ?_
    refine lv_if_lt (tgt := 17) hx hb dX7_judge_8 (by decide) (fun c5 => ?_) (fun c5 => ?_)
    · replace h := And.left h c5
      exact t_X7_judge_17 C hA _ _ _ _ (lv_sub hl [0] rfl) hP hD hS h
    · replace h := And.right h c5
      refine lv_iload_n hx hb dX7_judge_11 rfl (lv_at hl 2 rfl) ?_
      refine lv_bipush (v := 9) hx hb dX7_judge_12 (by decide) ?_
      refine lv_icmp_le (tgt := 24) hx hb dX7_judge_14 (by decide) (fun c6 => ?_) (fun c6 => ?_)
      · replace h := And.left h c6
        refine lv_aload_n hx hb dX7_judge_24 rfl (lv_at hl 0 rfl) ?_
        refine lv_iload_n hx hb dX7_judge_25 rfl (lv_at hl 1 rfl) ?_
        refine xend_ro_i (xRunV (wc := (wX7 K h0 a0 hs r0 ++ (wPl K hs as sh ++ (([] : va_W))))) (As := [.int p1]) (rest := []) C (c_X7_rowFault h) k_X7_rowFault mw_174 ⟨rfl, rfl⟩ ⟨Nat.le_of_ble_eq_true rfl, Nat.le_of_ble_eq_true rfl⟩ hP hD [0, 1, 2, 3, 4, 5, 6, 7, 8, 9, 10, 11, 12, 13, 14, 15, 16, 17, 18] rfl rfl rfl rfl hl rfl rfl (Nat.le_of_ble_eq_true rfl) dX7_judge_26 ⟨Nat.le_refl _, Nat.le_refl _⟩) (fun v7 h => ?_)
        refine lv_istore_n (lv' := [(3, .int v7), (0, .ref h0), (1, .int p1), (2, .int p2)]) hx hb dX7_judge_29 rfl hl (by decide) rfl (fun ls hl => ?_)
        refine lv_iload_n hx hb dX7_judge_30 rfl (lv_at hl 0 rfl) ?_
        refine lv_if_eq (tgt := 40) hx hb dX7_judge_31 (by decide) (fun c8 => ?_) (fun c8 => ?_)
        · replace h := And.left h c8
          refine lv_iload_n hx hb dX7_judge_40 rfl (lv_at hl 3 rfl) ?_
          refine lv_aload_n hx hb dX7_judge_41 rfl (lv_at hl 1 rfl) ?_
          refine va_get (D := D) (ci := 7) (v := .ref (a0 6)) (C := RX7) (T := TX7) (N := 13) hx hb hts inlX7 hown hK hP 0 rfl rfl 6 (by decide) (hts (.fieldLink RX7 38 "UnderTheDesks" "shelves" "[LUnderTheDesks$Shelf;") mw_26) (fun _ h9 => h9) rfl dX7_judge_42 ?_
          refine lv_iload_n hx hb dX7_judge_45 rfl (lv_at hl 2 rfl) ?_
          have hin := And.left h
          obtain ⟨k9, ek9⟩ : ∃ j : Nat, j = p1.toNatClampNeg := ⟨_, rfl⟩
          replace h := And.right h k9 ek9
          have hk9 : k9 < 8 := by rw [ek9]; exact Nat.not_le.mp (fun q => hin (Or.inr q))
          refine xaldq hx hb hK hP 1 2 rfl rfl hin ek9 dX7_judge_46 ?_
          refine va_get (D := D) (ci := 2) (v := .int ((sh k9).1 1)) (C := RX2) (T := TX2) (N := 3) hx hb hts inlX2 hown hK hP (3 + 2 * k9) (wPl_obj hk9) rfl 1 (by decide) (hts (.fieldLink RX7 95 "UnderTheDesks$Shelf" "size" "I") mw_173) (fun _ h9 => h9) rfl dX7_judge_47 ?_
          refine lv_icmp_le (tgt := 60) hx hb dX7_judge_50 (by decide) (fun c10 => ?_) (fun c10 => ?_)
          · replace h := And.left h c10
            refine lv_aload_n hx hb dX7_judge_60 rfl (lv_at hl 1 rfl) ?_
            refine lv_aload_n hx hb dX7_judge_61 rfl (lv_at hl 1 rfl) ?_
            refine va_get (D := D) (ci := 7) (v := .ref (a0 6)) (C := RX7) (T := TX7) (N := 13) hx hb hts inlX7 hown hK hP 0 rfl rfl 6 (by decide) (hts (.fieldLink RX7 38 "UnderTheDesks" "shelves" "[LUnderTheDesks$Shelf;") mw_26) (fun _ h9 => h9) rfl dX7_judge_62 ?_
            refine lv_iload_n hx hb dX7_judge_65 rfl (lv_at hl 2 rfl) ?_
            have hin := And.left h
            obtain ⟨k11, ek11⟩ : ∃ j : Nat, j = p1.toNatClampNeg := ⟨_, rfl⟩
            replace h := And.right h k11 ek11
            have hk11 : k11 < 8 := by rw [ek11]; exact Nat.not_le.mp (fun q => hin (Or.inr q))
            refine xaldq hx hb hK hP 1 2 rfl rfl hin ek11 dX7_judge_66 ?_
            refine lv_iload_n hx hb dX7_judge_67 rfl (lv_at hl 3 rfl) ?_
            refine xend_ro_i (xRunV_id (As := [.ref (hs k11), .int p2]) (rest := []) C (c_X7_wrongIn hk11 h) k_X7_wrongIn mw_1040 ⟨rfl, rfl⟩ ⟨Nat.le_of_ble_eq_true rfl, Nat.le_of_ble_eq_true rfl⟩ hP hD rfl rfl hl rfl rfl (Nat.le_of_ble_eq_true rfl) dX7_judge_68 ⟨Nat.le_refl _, Nat.le_refl _⟩) (fun v12 h => ?_)
            exact xrw_i C r0 h hP hS dX7_judge_71
          · replace h := And.right h c10
            refine lv_aload_n hx hb dX7_judge_53 rfl (lv_at hl 1 rfl) ?_
            refine lv_bipush (v := -2) hx hb dX7_judge_54 (by decide) ?_
            refine xend_rw_i (wf := fun (u : (zS)) => (wX7 K h0 a0 hs u)) (xRunV (wc := (wX7 K h0 a0 hs r0)) (As := [.int (-2 : Int32)]) (rest := []) C (c_X7_refuse h) k_X7_refuse mw_147 ⟨rfl, rfl⟩ ⟨Nat.le_of_ble_eq_true rfl, Nat.le_of_ble_eq_true rfl⟩ hP hD [0, 1, 2] rfl rfl rfl rfl hl rfl rfl (Nat.le_of_ble_eq_true rfl) dX7_judge_56 ⟨Nat.le_refl _, Nat.le_refl _⟩) hP hD hS hA [0, 1, 2] rfl rfl (fun _ => rfl) (fun v13 s14 H locs h hP hD hS => ?_)
            replace hP : va_P D vwCl (wX7 K h0 a0 hs s14 ++ (wPl K hs as sh ++ (wX1 K (a0 0) a2 r2))) H := hP
            replace hD : va_D A (wX7 K h0 a0 hs s14 ++ (wPl K hs as sh ++ (wX1 K (a0 0) a2 r2))) := hD
            exact xrw_i C s14 h hP hS dX7_judge_59
        · replace h := And.right h c8
          refine lv_aload_n hx hb dX7_judge_34 rfl (lv_at hl 1 rfl) ?_
          refine lv_iload_n hx hb dX7_judge_35 rfl (lv_at hl 0 rfl) ?_
          refine xend_rw_i (wf := fun (u : (zS)) => (wX7 K h0 a0 hs u)) (xRunV (wc := (wX7 K h0 a0 hs r0)) (As := [.int v7]) (rest := []) C (c_X7_refuse h) k_X7_refuse mw_147 ⟨rfl, rfl⟩ ⟨Nat.le_of_ble_eq_true rfl, Nat.le_of_ble_eq_true rfl⟩ hP hD [0, 1, 2] rfl rfl rfl rfl hl rfl rfl (Nat.le_of_ble_eq_true rfl) dX7_judge_36 ⟨Nat.le_refl _, Nat.le_refl _⟩) hP hD hS hA [0, 1, 2] rfl rfl (fun _ => rfl) (fun v15 s16 H locs h hP hD hS => ?_)
          replace hP : va_P D vwCl (wX7 K h0 a0 hs s16 ++ (wPl K hs as sh ++ (wX1 K (a0 0) a2 r2))) H := hP
          replace hD : va_D A (wX7 K h0 a0 hs s16 ++ (wPl K hs as sh ++ (wX1 K (a0 0) a2 r2))) := hD
          exact xrw_i C s16 h hP hS dX7_judge_39
      · replace h := And.right h c6
        exact t_X7_judge_17 C hA _ _ _ _ (lv_sub hl [0] rfl) hP hD hS h

def wp_X7_told_36 (sh : Nat → zS) (r2 : zS) (p1 : Int32) (p2 : Int32) (p3 : Int32) (p4 : Int32) (post : Int32 → (zS) → (zS) → (zS) → Prop) (r0 : zS) (r3 : zS) (r4 : zS) : Prop :=
  wp_X7_refuse r0 (-2 : Int32) (fun v3 s4 => post v3 s4 r3 r4)
def wp_X7_told (r0 : zS) (sh : Nat → zS) (r2 : zS) (r3 : zS) (r4 : zS) (p1 : Int32) (p2 : Int32) (p3 : Int32) (p4 : Int32) (post : Int32 → (zS) → (zS) → (zS) → Prop) : Prop :=
  wp_X7_isShelf p1 (fun v1 => (v1 = 0 → wp_X7_told_36 sh r2 p1 p2 p3 p4 post r0 r3 r4) ∧ (¬ v1 = 0 → (p2 < (2 : Int32) → wp_X7_told_36 sh r2 p1 p2 p3 p4 post r0 r3 r4) ∧ (¬ p2 < (2 : Int32) → ((9 : Int32) < p2 → wp_X7_told_36 sh r2 p1 p2 p3 p4 post r0 r3 r4) ∧ (¬ (9 : Int32) < p2 → wp_X7_isSecond p3 (fun v7 => (v7 = 0 → wp_X7_told_36 sh r2 p1 p2 p3 p4 post r0 r3 r4) ∧ (¬ v7 = 0 → (p4 < 0 → wp_X7_told_36 sh r2 p1 p2 p3 p4 post r0 r3 r4) ∧ (¬ p4 < 0 → (p4 ≤ (2 : Int32) → wp_X7_rowFault r0 sh p1 (fun v11 => (v11 = 0 → vp_in p1 8 ∧ (∀ k13 : Nat, k13 = p1.toNatClampNeg → (p2 ≤ ((sh k13).1 1) → vp_in p1 8 ∧ (∀ k15 : Nat, k15 = p1.toNatClampNeg → wp_X7_wrongIn r0 sh r2 k15 p2 (fun v16 => (v16 = (-1 : Int32) → vp_in p1 8 ∧ (∀ k18 : Nat, k18 = p1.toNatClampNeg → wp_X6_takeTold r3 (sh k18) p2 (fun s20 => wp_X5_take r4 r2 s20 (0 : Int32) p3 (fun s22 => (p4 = 0 → post (s22.1 1) r0 s20 s22) ∧ (¬ p4 = 0 → (p4 = (1 : Int32) → post (s22.1 2) r0 s20 s22) ∧ (¬ p4 = (1 : Int32) → wp_X6_betweenOf s20 (0 : Int32) (fun v25 => wp_X1_readersAmong r2 v25 (fun v26 => post v26 r0 s20 s22)))))))) ∧ (¬ v16 = (-1 : Int32) → wp_X7_refuse r0 (-5 : Int32) (fun v27 s28 => post v27 s28 r3 r4))))) ∧ (¬ p2 ≤ ((sh k13).1 1) → wp_X7_refuse r0 (-2 : Int32) (fun v29 s30 => post v29 s30 r3 r4)))) ∧ (¬ v11 = 0 → wp_X7_refuse r0 v11 (fun v31 s32 => post v31 s32 r3 r4)))) ∧ (¬ p4 ≤ (2 : Int32) → wp_X7_told_36 sh r2 p1 p2 p3 p4 post r0 r3 r4))))))))
set_option maxHeartbeats 4000000 in
set_option maxRecDepth 100000 in
theorem t_X7_told_36 {p : Program} {l : Launch} {e : Env} {s : State} {m : MethodId} {args : Array Value} {below : List Frame} {meth : Method} {c : Code} {D : va_G} {K : Nat → ClassId} {h0 : Nat} {a0 : Nat → Nat} {hs : Nat → Nat} {as : Nat → Nat → Nat} {sh : Nat → zS} {a2 : Nat → Nat} {r2 : zS} {a3 : Nat → Nat} {a4 : Nat → Nat} {p1 : Int32} {p2 : Int32} {p3 : Int32} {p4 : Int32} {post : Int32 → (zS) → (zS) → (zS) → Prop} {A : Nat → Prop} (C : xC p s m args meth c cX7_told RX7 6 (some .int) D vwCl (xty K)) (hA : ∀ q, s.heap.size ≤ q → A q) : ∀ (r0 : zS) (r3 : zS) (r4 : zS) (H : Heap) (locs : List Loc) (ls : Array Slot), lv_has ls 6 [(0, .ref h0)] → va_P D vwCl (wX7 K h0 a0 hs r0 ++ (wPl K hs as sh ++ (wX1 K (a0 0) a2 r2 ++ (wX6 K (a0 9) a3 r3 ++ (wX5 K (a0 11) a4 r4))))) H → va_D A (wX7 K h0 a0 hs r0 ++ (wPl K hs as sh ++ (wX1 K (a0 0) a2 r2 ++ (wX6 K (a0 9) a3 r3 ++ (wX5 K (a0 11) a4 r4))))) → va_S A s.heap H locs → wp_X7_told_36 sh r2 p1 p2 p3 p4 post r0 r3 r4 → W p l e ({ frames := 4, cells := 0, slots := 0, locals := 132 } : Room) s m args below meth c H locs 0 0 (MQ below (va_Qi (fun r (u : (zS) × (zS) × (zS)) => post r u.1 u.2.1 u.2.2) (fun (u : (zS) × (zS) × (zS)) t => va_P D vwCl (wX7 K h0 a0 hs u.1 ++ (wPl K hs as sh ++ (wX1 K (a0 0) a2 r2 ++ (wX6 K (a0 9) a3 u.2.1 ++ (wX5 K (a0 11) a4 u.2.2))))) t.heap) A) args s 0 0 A) (F0 m 36 ls []) := by
  obtain ⟨hx, hb, hr, hml, hown, hts, hlocks, hK, hT⟩ := id C
  intro r0 r3 r4 H locs ls hl hP hD hS h
  unfold wp_X7_told_36 at h
  refine lv_aload_n hx hb dX7_told_36 rfl (lv_at hl 0 rfl) ?_
  refine lv_bipush (v := -2) hx hb dX7_told_37 (by decide) ?_
  refine xend_rw_i (wf := fun (u : (zS)) => (wX7 K h0 a0 hs u)) (xRunV (wc := (wX7 K h0 a0 hs r0)) (As := [.int (-2 : Int32)]) (rest := []) C (c_X7_refuse h) k_X7_refuse mw_147 ⟨rfl, rfl⟩ ⟨Nat.le_of_ble_eq_true rfl, Nat.le_of_ble_eq_true rfl⟩ hP hD [0, 1, 2] rfl rfl rfl rfl hl rfl rfl (Nat.le_of_ble_eq_true rfl) dX7_told_39 ⟨Nat.le_refl _, Nat.le_refl _⟩) hP hD hS hA [0, 1, 2] rfl rfl (fun _ => rfl) (fun v3 s4 H locs h hP hD hS => ?_)
  replace hP : va_P D vwCl (wX7 K h0 a0 hs s4 ++ (wPl K hs as sh ++ (wX1 K (a0 0) a2 r2 ++ (wX6 K (a0 9) a3 r3 ++ (wX5 K (a0 11) a4 r4))))) H := hP
  replace hD : va_D A (wX7 K h0 a0 hs s4 ++ (wPl K hs as sh ++ (wX1 K (a0 0) a2 r2 ++ (wX6 K (a0 9) a3 r3 ++ (wX5 K (a0 11) a4 r4))))) := hD
  exact xrw_i C (s4, r3, r4) h hP hS dX7_told_42
set_option maxHeartbeats 4000000 in
set_option maxRecDepth 100000 in
theorem c_X7_told {l : Launch} {D : va_G} {K : Nat → ClassId} {h0 : Nat} {a0 : Nat → Nat} {hs : Nat → Nat} {r0 : zS} {as : Nat → Nat → Nat} {sh : Nat → zS} {a2 : Nat → Nat} {r2 : zS} {a3 : Nat → Nat} {r3 : zS} {a4 : Nat → Nat} {r4 : zS} {p1 : Int32} {p2 : Int32} {p3 : Int32} {p4 : Int32} {sz : Nat} {post : Int32 → (zS) → (zS) → (zS) → Prop}   (h : wp_X7_told r0 sh r2 r3 r4 p1 p2 p3 p4 post) : Met l yX7_told (Cond.code yX7_told cX7_told 6 (some .int) :: wsL_law) ({ frames := 4, cells := 0, slots := 0, locals := 132 } : Room) (va_Pc [.ref h0, .int p1, .int p2, .int p3, .int p4] (xPre D vwCl (xty K) (wX7 K h0 a0 hs r0 ++ (wPl K hs as sh ++ (wX1 K (a0 0) a2 r2 ++ (wX6 K (a0 9) a3 r3 ++ (wX5 K (a0 11) a4 r4))))) sz)) (va_Qi (fun r (u : (zS) × (zS) × (zS)) => post r u.1 u.2.1 u.2.2) (fun (u : (zS) × (zS) × (zS)) t => va_P D vwCl (wX7 K h0 a0 hs u.1 ++ (wPl K hs as sh ++ (wX1 K (a0 0) a2 r2 ++ (wX6 K (a0 9) a3 u.2.1 ++ (wX5 K (a0 11) a4 u.2.2))))) t.heap) (va_A (wX7 K h0 a0 hs r0 ++ (wPl K hs as sh ++ (wX1 K (a0 0) a2 r2 ++ (wX6 K (a0 9) a3 r3 ++ (wX5 K (a0 11) a4 r4))))) sz)) 0 0 (va_A (wX7 K h0 a0 hs r0 ++ (wPl K hs as sh ++ (wX1 K (a0 0) a2 r2 ++ (wX6 K (a0 9) a3 r3 ++ (wX5 K (a0 11) a4 r4))))) sz) := by
  refine xMet (by decide) rfl (Nat.le_of_ble_eq_true rfl) (fun p e s m args below meth c C hnm hP hD hsz ls hl => ?_)
  have hl : lv_has ls 6 [(0, .ref h0), (1, .int p1), (2, .int p2), (3, .int p3), (4, .int p4)] := hl
  obtain ⟨hx, hb, hr, hml, hown, hts, hlocks, hK, hT⟩ := id C
  subst hsz
  generalize hAe : va_A (wX7 K h0 a0 hs r0 ++ (wPl K hs as sh ++ (wX1 K (a0 0) a2 r2 ++ (wX6 K (a0 9) a3 r3 ++ (wX5 K (a0 11) a4 r4))))) s.heap.size = A at hD ⊢
  have hA : ∀ q : Nat, s.heap.size ≤ q → A q := fun q h => by rw [← hAe]; exact Or.inr h
  have hS : va_S A s.heap s.heap [] := va_S.rf
  have hP : va_P D vwCl (wX7 K h0 a0 hs r0 ++ (wPl K hs as sh ++ (wX1 K (a0 0) a2 r2 ++ (wX6 K (a0 9) a3 r3 ++ (wX5 K (a0 11) a4 r4))))) s.heap := hP
  unfold wp_X7_told at h
  refine lv_iload_n hx hb dX7_told_0 rfl (lv_at hl 1 rfl) ?_
  refine xend_ro_i (xRunS (wc := ([] : va_W)) (As := [.int p1]) (rest := []) C (c_X7_isShelf h) k_X7_isShelf mw_144 ⟨rfl, rfl⟩ ⟨Nat.le_of_ble_eq_true rfl, Nat.le_of_ble_eq_true rfl⟩ hP hD [] rfl rfl hl rfl rfl (Nat.le_of_ble_eq_true rfl) dX7_told_1 ⟨Nat.le_refl _, Nat.le_refl _⟩) (fun v1 h => ?_)
  refine lv_if_eq (tgt := 36) hx hb dX7_told_4 (by decide) (fun c2 => ?_) (fun c2 => ?_)
  · replace h := And.left h c2
    exact t_X7_told_36 C hA _ _ _ _ _ _ (lv_sub hl [0] rfl) hP hD hS h
  · replace h := And.right h c2
    refine lv_iload_n hx hb dX7_told_7 rfl (lv_at hl 2 rfl) ?_
    refine lv_iconst (v := 2) hx hb dX7_told_8 (by decide) ?_
    refine lv_icmp_lt (tgt := 36) hx hb dX7_told_9 (by decide) (fun c5 => ?_) (fun c5 => ?_)
    · replace h := And.left h c5
      exact t_X7_told_36 C hA _ _ _ _ _ _ (lv_sub hl [0] rfl) hP hD hS h
    · replace h := And.right h c5
      refine lv_iload_n hx hb dX7_told_12 rfl (lv_at hl 2 rfl) ?_
      refine lv_bipush (v := 9) hx hb dX7_told_13 (by decide) ?_
      refine lv_icmp_gt (tgt := 36) hx hb dX7_told_15 (by decide) (fun c6 => ?_) (fun c6 => ?_)
      · replace h := And.left h c6
        exact t_X7_told_36 C hA _ _ _ _ _ _ (lv_sub hl [0] rfl) hP hD hS h
      · replace h := And.right h c6
        refine lv_iload_n hx hb dX7_told_18 rfl (lv_at hl 3 rfl) ?_
        refine xend_ro_i (xRunS (wc := ([] : va_W)) (As := [.int p3]) (rest := []) C (c_X7_isSecond h) k_X7_isSecond mw_725 ⟨rfl, rfl⟩ ⟨Nat.le_of_ble_eq_true rfl, Nat.le_of_ble_eq_true rfl⟩ hP hD [] rfl rfl hl rfl rfl (Nat.le_of_ble_eq_true rfl) dX7_told_19 ⟨Nat.le_refl _, Nat.le_refl _⟩) (fun v7 h => ?_)
        refine lv_if_eq (tgt := 36) hx hb dX7_told_22 (by decide) (fun c8 => ?_) (fun c8 => ?_)
        · replace h := And.left h c8
          exact t_X7_told_36 C hA _ _ _ _ _ _ (lv_sub hl [0] rfl) hP hD hS h
        · replace h := And.right h c8
          refine lv_iload hx hb dX7_told_25 (lv_at hl 4 rfl) ?_
          refine lv_if_lt (tgt := 36) hx hb dX7_told_27 (by decide) (fun c9 => ?_) (fun c9 => ?_)
          · replace h := And.left h c9
            exact t_X7_told_36 C hA _ _ _ _ _ _ (lv_sub hl [0] rfl) hP hD hS h
          · replace h := And.right h c9
            refine lv_iload hx hb dX7_told_30 (lv_at hl 4 rfl) ?_
            refine lv_iconst (v := 2) hx hb dX7_told_32 (by decide) ?_
            refine lv_icmp_le (tgt := 43) hx hb dX7_told_33 (by decide) (fun c10 => ?_) (fun c10 => ?_)
            · replace h := And.left h c10
              refine lv_aload_n hx hb dX7_told_43 rfl (lv_at hl 0 rfl) ?_
              refine lv_iload_n hx hb dX7_told_44 rfl (lv_at hl 1 rfl) ?_
              refine xend_ro_i (xRunV (wc := (wX7 K h0 a0 hs r0 ++ (wPl K hs as sh ++ (([] : va_W))))) (As := [.int p1]) (rest := []) C (c_X7_rowFault h) k_X7_rowFault mw_174 ⟨rfl, rfl⟩ ⟨Nat.le_of_ble_eq_true rfl, Nat.le_of_ble_eq_true rfl⟩ hP hD [0, 1, 2, 3, 4, 5, 6, 7, 8, 9, 10, 11, 12, 13, 14, 15, 16, 17, 18] rfl rfl rfl rfl hl rfl rfl (Nat.le_of_ble_eq_true rfl) dX7_told_45 ⟨Nat.le_refl _, Nat.le_refl _⟩) (fun v11 h => ?_)
              refine lv_istore (lv' := [(5, .int v11), (0, .ref h0), (1, .int p1), (2, .int p2), (3, .int p3), (4, .int p4)]) hx hb dX7_told_48 hl (by decide) rfl (fun ls hl => ?_)
              refine lv_iload hx hb dX7_told_50 (lv_at hl 0 rfl) ?_
              refine lv_if_eq (tgt := 62) hx hb dX7_told_52 (by decide) (fun c12 => ?_) (fun c12 => ?_)
              · replace h := And.left h c12
                refine lv_iload_n hx hb dX7_told_62 rfl (lv_at hl 3 rfl) ?_
                refine lv_aload_n hx hb dX7_told_63 rfl (lv_at hl 1 rfl) ?_
                refine va_get (D := D) (ci := 7) (v := .ref (a0 6)) (C := RX7) (T := TX7) (N := 13) hx hb hts inlX7 hown hK hP 0 rfl rfl 6 (by decide) (hts (.fieldLink RX7 38 "UnderTheDesks" "shelves" "[LUnderTheDesks$Shelf;") mw_26) (fun _ h9 => h9) rfl dX7_told_64 ?_
                refine lv_iload_n hx hb dX7_told_67 rfl (lv_at hl 2 rfl) ?_
                have hin := And.left h
                obtain ⟨k13, ek13⟩ : ∃ j : Nat, j = p1.toNatClampNeg := ⟨_, rfl⟩
                replace h := And.right h k13 ek13
                have hk13 : k13 < 8 := by rw [ek13]; exact Nat.not_le.mp (fun q => hin (Or.inr q))
                refine xaldq hx hb hK hP 1 2 rfl rfl hin ek13 dX7_told_68 ?_
                refine va_get (D := D) (ci := 2) (v := .int ((sh k13).1 1)) (C := RX2) (T := TX2) (N := 3) hx hb hts inlX2 hown hK hP (3 + 2 * k13) (wPl_obj hk13) rfl 1 (by decide) (hts (.fieldLink RX7 95 "UnderTheDesks$Shelf" "size" "I") mw_173) (fun _ h9 => h9) rfl dX7_told_69 ?_
                refine lv_icmp_le (tgt := 82) hx hb dX7_told_72 (by decide) (fun c14 => ?_) (fun c14 => ?_)
                · replace h := And.left h c14
                  refine lv_aload_n hx hb dX7_told_82 rfl (lv_at hl 1 rfl) ?_
                  refine lv_aload_n hx hb dX7_told_83 rfl (lv_at hl 1 rfl) ?_
                  refine va_get (D := D) (ci := 7) (v := .ref (a0 6)) (C := RX7) (T := TX7) (N := 13) hx hb hts inlX7 hown hK hP 0 rfl rfl 6 (by decide) (hts (.fieldLink RX7 38 "UnderTheDesks" "shelves" "[LUnderTheDesks$Shelf;") mw_26) (fun _ h9 => h9) rfl dX7_told_84 ?_
                  refine lv_iload_n hx hb dX7_told_87 rfl (lv_at hl 2 rfl) ?_
                  have hin := And.left h
                  obtain ⟨k15, ek15⟩ : ∃ j : Nat, j = p1.toNatClampNeg := ⟨_, rfl⟩
                  replace h := And.right h k15 ek15
                  have hk15 : k15 < 8 := by rw [ek15]; exact Nat.not_le.mp (fun q => hin (Or.inr q))
                  refine xaldq hx hb hK hP 1 2 rfl rfl hin ek15 dX7_told_88 ?_
                  refine lv_iload_n hx hb dX7_told_89 rfl (lv_at hl 3 rfl) ?_
                  refine xend_ro_i (xRunV (wc := (wX7 K h0 a0 hs r0 ++ (wPl K hs as sh ++ (wX1 K (a0 0) a2 r2)))) (As := [.ref (hs k15), .int p2]) (rest := []) C (c_X7_wrongIn hk15 h) k_X7_wrongIn mw_1040 ⟨rfl, rfl⟩ ⟨Nat.le_of_ble_eq_true rfl, Nat.le_of_ble_eq_true rfl⟩ hP hD [0, 1, 2, 3, 4, 5, 6, 7, 8, 9, 10, 11, 12, 13, 14, 15, 16, 17, 18, 19, 20, 21, 22, 23, 24] rfl rfl rfl rfl hl rfl rfl (Nat.le_of_ble_eq_true rfl) dX7_told_90 ⟨Nat.le_refl _, Nat.le_refl _⟩) (fun v16 h => ?_)
                  refine lv_iconst (v := -1) hx hb dX7_told_93 (by decide) ?_
                  refine lv_icmp_eq (tgt := 104) hx hb dX7_told_94 (by decide) (fun c17 => ?_) (fun c17 => ?_)
                  · replace h := And.left h c17
                    refine lv_aload_n hx hb dX7_told_104 rfl (lv_at hl 1 rfl) ?_
                    refine va_get (D := D) (ci := 7) (v := .ref (a0 9)) (C := RX7) (T := TX7) (N := 13) hx hb hts inlX7 hown hK hP 0 rfl rfl 9 (by decide) (hts (.fieldLink RX7 61 "UnderTheDesks" "paths" "LUnderTheDesks$Ways;") mw_38) (fun _ h9 => h9) rfl dX7_told_105 ?_
                    refine lv_aload_n hx hb dX7_told_108 rfl (lv_at hl 1 rfl) ?_
                    refine va_get (D := D) (ci := 7) (v := .ref (a0 6)) (C := RX7) (T := TX7) (N := 13) hx hb hts inlX7 hown hK hP 0 rfl rfl 6 (by decide) (hts (.fieldLink RX7 38 "UnderTheDesks" "shelves" "[LUnderTheDesks$Shelf;") mw_26) (fun _ h9 => h9) rfl dX7_told_109 ?_
                    refine lv_iload_n hx hb dX7_told_112 rfl (lv_at hl 2 rfl) ?_
                    have hin := And.left h
                    obtain ⟨k18, ek18⟩ : ∃ j : Nat, j = p1.toNatClampNeg := ⟨_, rfl⟩
                    replace h := And.right h k18 ek18
                    have hk18 : k18 < 8 := by rw [ek18]; exact Nat.not_le.mp (fun q => hin (Or.inr q))
                    refine xaldq hx hb hK hP 1 2 rfl rfl hin ek18 dX7_told_113 ?_
                    refine lv_iload_n hx hb dX7_told_114 rfl (lv_at hl 3 rfl) ?_
                    refine xend_rw_v (wf := fun (u : (zS)) => (wX6 K (a0 9) a3 u ++ (wX2 K (hs k18) (as k18) (sh k18)))) (xRunV (wc := (wX6 K (a0 9) a3 r3 ++ (wX2 K (hs k18) (as k18) (sh k18)))) (As := [.ref (hs k18), .int p2]) (rest := []) C (c_X6_takeTold h) k_X6_takeTold mw_1060 ⟨rfl, rfl⟩ ⟨Nat.le_of_ble_eq_true rfl, Nat.le_of_ble_eq_true rfl⟩ hP hD [25, 26, 27, 28, 29, 3 + 2 * k18, 4 + 2 * k18] (x8 (P := fun k => [25, 26, 27, 28, 29, 3 + 2 * k, 4 + 2 * k].map (fun i => (wX7 K h0 a0 hs r0 ++ (wPl K hs as sh ++ (wX1 K (a0 0) a2 r2 ++ (wX6 K (a0 9) a3 r3 ++ (wX5 K (a0 11) a4 r4)))))[i]?) = (wX6 K (a0 9) a3 r3 ++ (wX2 K (hs k) (as k) (sh k))).map some) rfl rfl rfl rfl rfl rfl rfl rfl hk18) (x8 (P := fun k => va_nd [25, 26, 27, 28, 29, 3 + 2 * k, 4 + 2 * k] = true) rfl rfl rfl rfl rfl rfl rfl rfl hk18) rfl rfl hl rfl rfl (Nat.le_of_ble_eq_true rfl) dX7_told_115 ⟨Nat.le_refl _, Nat.le_refl _⟩) hP hD hS hA [25, 26, 27, 28, 29, 3 + 2 * k18, 4 + 2 * k18] (x8 (P := fun k => [25, 26, 27, 28, 29, 3 + 2 * k, 4 + 2 * k].map (fun i => (wX7 K h0 a0 hs r0 ++ (wPl K hs as sh ++ (wX1 K (a0 0) a2 r2 ++ (wX6 K (a0 9) a3 r3 ++ (wX5 K (a0 11) a4 r4)))))[i]?) = (wX6 K (a0 9) a3 r3 ++ (wX2 K (hs k) (as k) (sh k))).map some) rfl rfl rfl rfl rfl rfl rfl rfl hk18) (x8 (P := fun k => va_nd [25, 26, 27, 28, 29, 3 + 2 * k, 4 + 2 * k] = true) rfl rfl rfl rfl rfl rfl rfl rfl hk18) (fun _ => rfl) (fun s20 H locs h hP hD hS => ?_)
                    have hset := x8 (P := fun k => xset (wX7 K h0 a0 hs r0 ++ (wPl K hs as sh ++ (wX1 K (a0 0) a2 r2 ++ (wX6 K (a0 9) a3 r3 ++ (wX5 K (a0 11) a4 r4))))) [25, 26, 27, 28, 29, 3 + 2 * k, 4 + 2 * k] (wX6 K (a0 9) a3 s20 ++ (wX2 K (hs k) (as k) (sh k))) = (wX7 K h0 a0 hs r0 ++ (wPl K hs as sh ++ (wX1 K (a0 0) a2 r2 ++ (wX6 K (a0 9) a3 s20 ++ (wX5 K (a0 11) a4 r4)))))) rfl rfl rfl rfl rfl rfl rfl rfl hk18
                    rw [hset] at hP hD
                    replace hP : va_P D vwCl (wX7 K h0 a0 hs r0 ++ (wPl K hs as sh ++ (wX1 K (a0 0) a2 r2 ++ (wX6 K (a0 9) a3 s20 ++ (wX5 K (a0 11) a4 r4))))) H := hP
                    replace hD : va_D A (wX7 K h0 a0 hs r0 ++ (wPl K hs as sh ++ (wX1 K (a0 0) a2 r2 ++ (wX6 K (a0 9) a3 s20 ++ (wX5 K (a0 11) a4 r4))))) := hD
                    refine lv_aload_n hx hb dX7_told_118 rfl (lv_at hl 1 rfl) ?_
                    refine va_get (D := D) (ci := 7) (v := .ref (a0 11)) (C := RX7) (T := TX7) (N := 13) hx hb hts inlX7 hown hK hP 0 rfl rfl 11 (by decide) (hts (.fieldLink RX7 71 "UnderTheDesks" "walk" "LUnderTheDesks$Walk;") mw_43) (fun _ h9 => h9) rfl dX7_told_119 ?_
                    refine lv_aload_n hx hb dX7_told_122 rfl (lv_at hl 1 rfl) ?_
                    refine va_get (D := D) (ci := 7) (v := .ref (a0 0)) (C := RX7) (T := TX7) (N := 13) hx hb hts inlX7 hown hK hP 0 rfl rfl 0 (by decide) (hts (.fieldLink RX7 10 "UnderTheDesks" "room" "LUnderTheDesks$Room;") mw_16) (fun _ h9 => h9) rfl dX7_told_123 ?_
                    refine lv_aload_n hx hb dX7_told_126 rfl (lv_at hl 1 rfl) ?_
                    refine va_get (D := D) (ci := 7) (v := .ref (a0 9)) (C := RX7) (T := TX7) (N := 13) hx hb hts inlX7 hown hK hP 0 rfl rfl 9 (by decide) (hts (.fieldLink RX7 61 "UnderTheDesks" "paths" "LUnderTheDesks$Ways;") mw_38) (fun _ h9 => h9) rfl dX7_told_127 ?_
                    refine lv_iconst (v := 0) hx hb dX7_told_130 (by decide) ?_
                    refine lv_iload_n hx hb dX7_told_131 rfl (lv_at hl 4 rfl) ?_
                    refine xend_rw_v (wf := fun (u : (zS)) => (wX5 K (a0 11) a4 u ++ (wX1 K (a0 0) a2 r2 ++ (wX6 K (a0 9) a3 s20)))) (xRunV (wc := (wX5 K (a0 11) a4 r4 ++ (wX1 K (a0 0) a2 r2 ++ (wX6 K (a0 9) a3 s20)))) (As := [.ref (a0 0), .ref (a0 9), .int (0 : Int32), .int p3]) (rest := []) C (c_X5_take h) k_X5_take mw_1065 ⟨rfl, rfl⟩ ⟨Nat.le_of_ble_eq_true rfl, Nat.le_of_ble_eq_true rfl⟩ hP hD [30, 19, 20, 21, 22, 23, 24, 25, 26, 27, 28, 29] rfl rfl rfl rfl hl rfl rfl (Nat.le_of_ble_eq_true rfl) dX7_told_132 ⟨Nat.le_refl _, Nat.le_refl _⟩) hP hD hS hA [30, 19, 20, 21, 22, 23, 24, 25, 26, 27, 28, 29] rfl rfl (fun _ => rfl) (fun s22 H locs h hP hD hS => ?_)
                    replace hP : va_P D vwCl (wX7 K h0 a0 hs r0 ++ (wPl K hs as sh ++ (wX1 K (a0 0) a2 r2 ++ (wX6 K (a0 9) a3 s20 ++ (wX5 K (a0 11) a4 s22))))) H := hP
                    replace hD : va_D A (wX7 K h0 a0 hs r0 ++ (wPl K hs as sh ++ (wX1 K (a0 0) a2 r2 ++ (wX6 K (a0 9) a3 s20 ++ (wX5 K (a0 11) a4 s22))))) := hD
                    refine lv_iload hx hb dX7_told_135 (lv_at hl 5 rfl) ?_
                    refine lv_if_ne (tgt := 148) hx hb dX7_told_137 (by decide) (fun c23 => ?_) (fun c23 => ?_)
                    · replace h := And.right h c23
                      refine lv_iload hx hb dX7_told_148 (lv_at hl 5 rfl) ?_
                      refine lv_iconst (v := 1) hx hb dX7_told_150 (by decide) ?_
                      refine lv_icmp_ne (tgt := 164) hx hb dX7_told_151 (by decide) (fun c24 => ?_) (fun c24 => ?_)
                      · replace h := And.right h c24
                        refine lv_aload_n hx hb dX7_told_164 rfl (lv_at hl 1 rfl) ?_
                        refine va_get (D := D) (ci := 7) (v := .ref (a0 0)) (C := RX7) (T := TX7) (N := 13) hx hb hts inlX7 hown hK hP 0 rfl rfl 0 (by decide) (hts (.fieldLink RX7 10 "UnderTheDesks" "room" "LUnderTheDesks$Room;") mw_16) (fun _ h9 => h9) rfl dX7_told_165 ?_
                        refine lv_aload_n hx hb dX7_told_168 rfl (lv_at hl 1 rfl) ?_
                        refine va_get (D := D) (ci := 7) (v := .ref (a0 9)) (C := RX7) (T := TX7) (N := 13) hx hb hts inlX7 hown hK hP 0 rfl rfl 9 (by decide) (hts (.fieldLink RX7 61 "UnderTheDesks" "paths" "LUnderTheDesks$Ways;") mw_38) (fun _ h9 => h9) rfl dX7_told_169 ?_
                        refine lv_iconst (v := 0) hx hb dX7_told_172 (by decide) ?_
                        refine xend_ro_i (xRunV (wc := (wX6 K (a0 9) a3 s20)) (As := [.int (0 : Int32)]) (rest := [.ref (a0 0)]) C (c_X6_betweenOf h) k_X6_betweenOf mw_884 ⟨rfl, rfl⟩ ⟨Nat.le_of_ble_eq_true rfl, Nat.le_of_ble_eq_true rfl⟩ hP hD [25, 26, 27, 28, 29] rfl rfl rfl rfl hl rfl rfl (Nat.le_of_ble_eq_true rfl) dX7_told_173 ⟨Nat.le_refl _, Nat.le_refl _⟩) (fun v25 h => ?_)
                        refine xend_ro_i (xRunV (wc := (wX1 K (a0 0) a2 r2)) (As := [.int v25]) (rest := []) C (c_X1_readersAmong h) k_X1_readersAmong mw_885 ⟨rfl, rfl⟩ ⟨Nat.le_of_ble_eq_true rfl, Nat.le_of_ble_eq_true rfl⟩ hP hD [19, 20, 21, 22, 23, 24] rfl rfl rfl rfl hl rfl rfl (Nat.le_of_ble_eq_true rfl) dX7_told_176 ⟨Nat.le_refl _, Nat.le_refl _⟩) (fun v26 h => ?_)
                        exact xrw_i C (r0, s20, s22) h hP hS dX7_told_179
                      · replace h := And.left h c24
                        refine lv_aload_n hx hb dX7_told_154 rfl (lv_at hl 1 rfl) ?_
                        refine va_get (D := D) (ci := 7) (v := .ref (a0 11)) (C := RX7) (T := TX7) (N := 13) hx hb hts inlX7 hown hK hP 0 rfl rfl 11 (by decide) (hts (.fieldLink RX7 71 "UnderTheDesks" "walk" "LUnderTheDesks$Walk;") mw_43) (fun _ h9 => h9) rfl dX7_told_155 ?_
                        refine va_get (D := D) (ci := 5) (v := .int (s22.1 2)) (C := RX5) (T := TX5) (N := 4) hx hb hts inlX5 hown hK hP 30 rfl rfl 2 (by decide) (hts (.fieldLink RX7 299 "UnderTheDesks$Walk" "seconds" "I") mw_987) (fun _ h9 => h9) rfl dX7_told_158 ?_
                        refine lv_goto (tgt := 179) hx hb dX7_told_161 (by decide) ?_
                        exact xrw_i C (r0, s20, s22) h hP hS dX7_told_179
                    · replace h := And.left h c23
                      refine lv_aload_n hx hb dX7_told_140 rfl (lv_at hl 1 rfl) ?_
                      refine va_get (D := D) (ci := 7) (v := .ref (a0 11)) (C := RX7) (T := TX7) (N := 13) hx hb hts inlX7 hown hK hP 0 rfl rfl 11 (by decide) (hts (.fieldLink RX7 71 "UnderTheDesks" "walk" "LUnderTheDesks$Walk;") mw_43) (fun _ h9 => h9) rfl dX7_told_141 ?_
                      refine va_get (D := D) (ci := 5) (v := .int (s22.1 1)) (C := RX5) (T := TX5) (N := 4) hx hb hts inlX5 hown hK hP 30 rfl rfl 1 (by decide) (hts (.fieldLink RX7 296 "UnderTheDesks$Walk" "chance" "I") mw_821) (fun _ h9 => h9) rfl dX7_told_144 ?_
                      exact xrw_i C (r0, s20, s22) h hP hS dX7_told_147
                  · replace h := And.right h c17
                    refine lv_aload_n hx hb dX7_told_97 rfl (lv_at hl 1 rfl) ?_
                    refine lv_bipush (v := -5) hx hb dX7_told_98 (by decide) ?_
                    refine xend_rw_i (wf := fun (u : (zS)) => (wX7 K h0 a0 hs u)) (xRunV (wc := (wX7 K h0 a0 hs r0)) (As := [.int (-5 : Int32)]) (rest := []) C (c_X7_refuse h) k_X7_refuse mw_147 ⟨rfl, rfl⟩ ⟨Nat.le_of_ble_eq_true rfl, Nat.le_of_ble_eq_true rfl⟩ hP hD [0, 1, 2] rfl rfl rfl rfl hl rfl rfl (Nat.le_of_ble_eq_true rfl) dX7_told_100 ⟨Nat.le_refl _, Nat.le_refl _⟩) hP hD hS hA [0, 1, 2] rfl rfl (fun _ => rfl) (fun v27 s28 H locs h hP hD hS => ?_)
                    replace hP : va_P D vwCl (wX7 K h0 a0 hs s28 ++ (wPl K hs as sh ++ (wX1 K (a0 0) a2 r2 ++ (wX6 K (a0 9) a3 r3 ++ (wX5 K (a0 11) a4 r4))))) H := hP
                    replace hD : va_D A (wX7 K h0 a0 hs s28 ++ (wPl K hs as sh ++ (wX1 K (a0 0) a2 r2 ++ (wX6 K (a0 9) a3 r3 ++ (wX5 K (a0 11) a4 r4))))) := hD
                    exact xrw_i C (s28, r3, r4) h hP hS dX7_told_103
                · replace h := And.right h c14
                  refine lv_aload_n hx hb dX7_told_75 rfl (lv_at hl 1 rfl) ?_
                  refine lv_bipush (v := -2) hx hb dX7_told_76 (by decide) ?_
                  refine xend_rw_i (wf := fun (u : (zS)) => (wX7 K h0 a0 hs u)) (xRunV (wc := (wX7 K h0 a0 hs r0)) (As := [.int (-2 : Int32)]) (rest := []) C (c_X7_refuse h) k_X7_refuse mw_147 ⟨rfl, rfl⟩ ⟨Nat.le_of_ble_eq_true rfl, Nat.le_of_ble_eq_true rfl⟩ hP hD [0, 1, 2] rfl rfl rfl rfl hl rfl rfl (Nat.le_of_ble_eq_true rfl) dX7_told_78 ⟨Nat.le_refl _, Nat.le_refl _⟩) hP hD hS hA [0, 1, 2] rfl rfl (fun _ => rfl) (fun v29 s30 H locs h hP hD hS => ?_)
                  replace hP : va_P D vwCl (wX7 K h0 a0 hs s30 ++ (wPl K hs as sh ++ (wX1 K (a0 0) a2 r2 ++ (wX6 K (a0 9) a3 r3 ++ (wX5 K (a0 11) a4 r4))))) H := hP
                  replace hD : va_D A (wX7 K h0 a0 hs s30 ++ (wPl K hs as sh ++ (wX1 K (a0 0) a2 r2 ++ (wX6 K (a0 9) a3 r3 ++ (wX5 K (a0 11) a4 r4))))) := hD
                  exact xrw_i C (s30, r3, r4) h hP hS dX7_told_81
              · replace h := And.right h c12
                refine lv_aload_n hx hb dX7_told_55 rfl (lv_at hl 1 rfl) ?_
                refine lv_iload hx hb dX7_told_56 (lv_at hl 0 rfl) ?_
                refine xend_rw_i (wf := fun (u : (zS)) => (wX7 K h0 a0 hs u)) (xRunV (wc := (wX7 K h0 a0 hs r0)) (As := [.int v11]) (rest := []) C (c_X7_refuse h) k_X7_refuse mw_147 ⟨rfl, rfl⟩ ⟨Nat.le_of_ble_eq_true rfl, Nat.le_of_ble_eq_true rfl⟩ hP hD [0, 1, 2] rfl rfl rfl rfl hl rfl rfl (Nat.le_of_ble_eq_true rfl) dX7_told_58 ⟨Nat.le_refl _, Nat.le_refl _⟩) hP hD hS hA [0, 1, 2] rfl rfl (fun _ => rfl) (fun v31 s32 H locs h hP hD hS => ?_)
                replace hP : va_P D vwCl (wX7 K h0 a0 hs s32 ++ (wPl K hs as sh ++ (wX1 K (a0 0) a2 r2 ++ (wX6 K (a0 9) a3 r3 ++ (wX5 K (a0 11) a4 r4))))) H := hP
                replace hD : va_D A (wX7 K h0 a0 hs s32 ++ (wPl K hs as sh ++ (wX1 K (a0 0) a2 r2 ++ (wX6 K (a0 9) a3 r3 ++ (wX5 K (a0 11) a4 r4))))) := hD
                exact xrw_i C (s32, r3, r4) h hP hS dX7_told_61
            · replace h := And.right h c10
              exact t_X7_told_36 C hA _ _ _ _ _ _ (lv_sub hl [0] rfl) hP hD hS h

def wp_X7_change_16 (r1 : zS) (p1 : Int32) (p2 : Int32) (p3 : Int32) (post : Int32 → (zS) → (zS) → (zS) → (zS) → Prop) (r0 : zS) (r2 : zS) (r3 : zS) (r4 : zS) : Prop :=
  wp_X7_refuse r0 (-2 : Int32) (fun v3 s4 => post v3 s4 r2 r3 r4)
def wp_X7_change_152 (r1 : zS) (p1 : Int32) (p2 : Int32) (p3 : Int32) (post : Int32 → (zS) → (zS) → (zS) → (zS) → Prop) (k42 : (zS) → (zS) → (zS) → (zS) → Int32 → Int32 → Int32 → Prop) (k60 : (zS) → (zS) → (zS) → (zS) → Int32 → Int32 → Int32 → Int32 → Prop) (r0 : zS) (r2 : zS) (r3 : zS) (r4 : zS) (x4 : Int32) (x5 : Int32) (x6 : Int32) (x7 : Int32) : Prop :=
  ∀ v16 : Int32, v16 = x7 + (1 : Int32) → k60 r0 r2 r3 r4 x4 x5 x6 v16
def wb_X7_change_60 (r1 : zS) (p1 : Int32) (p2 : Int32) (p3 : Int32) (post : Int32 → (zS) → (zS) → (zS) → (zS) → Prop) (k42 : (zS) → (zS) → (zS) → (zS) → Int32 → Int32 → Int32 → Prop) (ih : (zS) → (zS) → (zS) → (zS) → Int32 → Int32 → Int32 → Int32 → Prop) (r0 : zS) (r2 : zS) (r3 : zS) (r4 : zS) (x4 : Int32) (x5 : Int32) (x6 : Int32) (x7 : Int32) : Prop :=
  ((r1.1 1) ≤ x7 → ∀ v14 : Int32, v14 = x6 + (1 : Int32) → k42 r0 r2 r3 r4 x4 x5 v14) ∧ (¬ (r1.1 1) ≤ x7 → (x6 = p1 → wp_X7_change_152 r1 p1 p2 p3 post k42 ih r0 r2 r3 r4 x4 x5 x6 x7) ∧ (¬ x6 = p1 → (x6 = p2 → wp_X7_change_152 r1 p1 p2 p3 post k42 ih r0 r2 r3 r4 x4 x5 x6 x7) ∧ (¬ x6 = p2 → (x7 = p1 → wp_X7_change_152 r1 p1 p2 p3 post k42 ih r0 r2 r3 r4 x4 x5 x6 x7) ∧ (¬ x7 = p1 → (x7 = p2 → wp_X7_change_152 r1 p1 p2 p3 post k42 ih r0 r2 r3 r4 x4 x5 x6 x7) ∧ (¬ x7 = p2 → wp_X1_takeOver r4 r1 (fun s21 => wp_X1_exchange s21 x6 x7 (fun s23 => wp_X7_chanceIn r0 s23 r2 r3 p1 p2 p3 (fun v24 s25 s26 => (v24 ≤ x5 → wp_X7_change_152 r1 p1 p2 p3 post k42 ih r0 s25 s26 s23 x4 x5 x6 x7) ∧ (¬ v24 ≤ x5 → ∀ v29 : Int32, v29 = (((100 : Int32) * x6) + x7) → wp_X7_change_152 r1 p1 p2 p3 post k42 ih r0 s25 s26 s23 v29 v24 x6 x7)))))))))
def wp_X7_change_60 (r1 : zS) (p1 : Int32) (p2 : Int32) (p3 : Int32) (post : Int32 → (zS) → (zS) → (zS) → (zS) → Prop) (k42 : (zS) → (zS) → (zS) → (zS) → Int32 → Int32 → Int32 → Prop) (n : Nat) : (zS) → (zS) → (zS) → (zS) → Int32 → Int32 → Int32 → Int32 → Prop := Nat.rec (motive := fun _ => (zS) → (zS) → (zS) → (zS) → Int32 → Int32 → Int32 → Int32 → Prop) (fun _ _ _ _ _ _ _ _ => False) (fun _ ih => wb_X7_change_60 r1 p1 p2 p3 post k42 ih) n
theorem wu_X7_change_60 (r1 : zS) (p1 : Int32) (p2 : Int32) (p3 : Int32) (post : Int32 → (zS) → (zS) → (zS) → (zS) → Prop) (k42 : (zS) → (zS) → (zS) → (zS) → Int32 → Int32 → Int32 → Prop) (n : Nat) (r0 : zS) (r2 : zS) (r3 : zS) (r4 : zS) (x4 : Int32) (x5 : Int32) (x6 : Int32) (x7 : Int32) : wp_X7_change_60 r1 p1 p2 p3 post k42 (n + 1) r0 r2 r3 r4 x4 x5 x6 x7 = wb_X7_change_60 r1 p1 p2 p3 post k42 (wp_X7_change_60 r1 p1 p2 p3 post k42 n) r0 r2 r3 r4 x4 x5 x6 x7 := rfl
def wb_X7_change_42 (r1 : zS) (p1 : Int32) (p2 : Int32) (p3 : Int32) (post : Int32 → (zS) → (zS) → (zS) → (zS) → Prop) (ih : (zS) → (zS) → (zS) → (zS) → Int32 → Int32 → Int32 → Prop) (r0 : zS) (r2 : zS) (r3 : zS) (r4 : zS) (x4 : Int32) (x5 : Int32) (x6 : Int32) : Prop :=
  ((r1.1 1) ≤ x6 → post x4 r0 r2 r3 r4) ∧ (¬ (r1.1 1) ≤ x6 → ∀ v12 : Int32, v12 = (x6 + (1 : Int32)) → ∃ n : Nat, wp_X7_change_60 r1 p1 p2 p3 post ih n r0 r2 r3 r4 x4 x5 x6 v12)
def wp_X7_change_42 (r1 : zS) (p1 : Int32) (p2 : Int32) (p3 : Int32) (post : Int32 → (zS) → (zS) → (zS) → (zS) → Prop) (n : Nat) : (zS) → (zS) → (zS) → (zS) → Int32 → Int32 → Int32 → Prop := Nat.rec (motive := fun _ => (zS) → (zS) → (zS) → (zS) → Int32 → Int32 → Int32 → Prop) (fun _ _ _ _ _ _ _ => False) (fun _ ih => wb_X7_change_42 r1 p1 p2 p3 post ih) n
theorem wu_X7_change_42 (r1 : zS) (p1 : Int32) (p2 : Int32) (p3 : Int32) (post : Int32 → (zS) → (zS) → (zS) → (zS) → Prop) (n : Nat) (r0 : zS) (r2 : zS) (r3 : zS) (r4 : zS) (x4 : Int32) (x5 : Int32) (x6 : Int32) : wp_X7_change_42 r1 p1 p2 p3 post (n + 1) r0 r2 r3 r4 x4 x5 x6 = wb_X7_change_42 r1 p1 p2 p3 post (wp_X7_change_42 r1 p1 p2 p3 post n) r0 r2 r3 r4 x4 x5 x6 := rfl
def wp_X7_change (r0 : zS) (r1 : zS) (r2 : zS) (r3 : zS) (r4 : zS) (p1 : Int32) (p2 : Int32) (p3 : Int32) (post : Int32 → (zS) → (zS) → (zS) → (zS) → Prop) : Prop :=
  wp_X7_isPair r0 r1 p1 p2 (fun v1 => (v1 = 0 → wp_X7_change_16 r1 p1 p2 p3 post r0 r2 r3 r4) ∧ (¬ v1 = 0 → wp_X7_isSecond p3 (fun v5 => (v5 = 0 → wp_X7_change_16 r1 p1 p2 p3 post r0 r2 r3 r4) ∧ (¬ v5 = 0 → wp_X7_chanceIn r0 r1 r2 r3 p1 p2 p3 (fun v7 s8 s9 => ∃ n : Nat, wp_X7_change_42 r1 p1 p2 p3 post n r0 s8 s9 r4 (-1 : Int32) v7 (0 : Int32))))))
set_option maxHeartbeats 4000000 in
set_option maxRecDepth 100000 in
theorem t_X7_change_16 {p : Program} {l : Launch} {e : Env} {s : State} {m : MethodId} {args : Array Value} {below : List Frame} {meth : Method} {c : Code} {D : va_G} {K : Nat → ClassId} {h0 : Nat} {a0 : Nat → Nat} {hs : Nat → Nat} {a1 : Nat → Nat} {r1 : zS} {a2 : Nat → Nat} {a3 : Nat → Nat} {a4 : Nat → Nat} {p1 : Int32} {p2 : Int32} {p3 : Int32} {post : Int32 → (zS) → (zS) → (zS) → (zS) → Prop} {A : Nat → Prop} (C : xC p s m args meth c cX7_change RX7 9 (some .int) D vwCl (xty K)) (hA : ∀ q, s.heap.size ≤ q → A q) : ∀ (r0 : zS) (r2 : zS) (r3 : zS) (r4 : zS) (H : Heap) (locs : List Loc) (ls : Array Slot), lv_has ls 9 [(0, .ref h0)] → va_P D vwCl (wX7 K h0 a0 hs r0 ++ (wX1 K (a0 0) a1 r1 ++ (wX6 K (a0 9) a2 r2 ++ (wX5 K (a0 11) a3 r3 ++ (wX1 K (a0 1) a4 r4))))) H → va_D A (wX7 K h0 a0 hs r0 ++ (wX1 K (a0 0) a1 r1 ++ (wX6 K (a0 9) a2 r2 ++ (wX5 K (a0 11) a3 r3 ++ (wX1 K (a0 1) a4 r4))))) → va_S A s.heap H locs → wp_X7_change_16 r1 p1 p2 p3 post r0 r2 r3 r4 → W p l e ({ frames := 16, cells := 0, slots := 0, locals := 615 } : Room) s m args below meth c H locs 0 0 (MQ below (va_Qi (fun r (u : (zS) × (zS) × (zS) × (zS)) => post r u.1 u.2.1 u.2.2.1 u.2.2.2) (fun (u : (zS) × (zS) × (zS) × (zS)) t => va_P D vwCl (wX7 K h0 a0 hs u.1 ++ (wX1 K (a0 0) a1 r1 ++ (wX6 K (a0 9) a2 u.2.1 ++ (wX5 K (a0 11) a3 u.2.2.1 ++ (wX1 K (a0 1) a4 u.2.2.2))))) t.heap) A) args s 0 0 A) (F0 m 16 ls []) := by
  obtain ⟨hx, hb, hr, hml, hown, hts, hlocks, hK, hT⟩ := id C
  intro r0 r2 r3 r4 H locs ls hl hP hD hS h
  unfold wp_X7_change_16 at h
  refine lv_aload_n hx hb dX7_change_16 rfl (lv_at hl 0 rfl) ?_
  refine lv_bipush (v := -2) hx hb dX7_change_17 (by decide) ?_
  refine xend_rw_i (wf := fun (u : (zS)) => (wX7 K h0 a0 hs u)) (xRunV (wc := (wX7 K h0 a0 hs r0)) (As := [.int (-2 : Int32)]) (rest := []) C (c_X7_refuse h) k_X7_refuse mw_147 ⟨rfl, rfl⟩ ⟨Nat.le_of_ble_eq_true rfl, Nat.le_of_ble_eq_true rfl⟩ hP hD [0, 1, 2] rfl rfl rfl rfl hl rfl rfl (Nat.le_of_ble_eq_true rfl) dX7_change_19 ⟨Nat.le_refl _, Nat.le_refl _⟩) hP hD hS hA [0, 1, 2] rfl rfl (fun _ => rfl) (fun v3 s4 H locs h hP hD hS => ?_)
  replace hP : va_P D vwCl (wX7 K h0 a0 hs s4 ++ (wX1 K (a0 0) a1 r1 ++ (wX6 K (a0 9) a2 r2 ++ (wX5 K (a0 11) a3 r3 ++ (wX1 K (a0 1) a4 r4))))) H := hP
  replace hD : va_D A (wX7 K h0 a0 hs s4 ++ (wX1 K (a0 0) a1 r1 ++ (wX6 K (a0 9) a2 r2 ++ (wX5 K (a0 11) a3 r3 ++ (wX1 K (a0 1) a4 r4))))) := hD
  exact xrw_i C (s4, r2, r3, r4) h hP hS dX7_change_22
set_option maxHeartbeats 4000000 in
set_option maxRecDepth 100000 in
theorem t_X7_change_152 {p : Program} {l : Launch} {e : Env} {s : State} {m : MethodId} {args : Array Value} {below : List Frame} {meth : Method} {c : Code} {D : va_G} {K : Nat → ClassId} {h0 : Nat} {a0 : Nat → Nat} {hs : Nat → Nat} {a1 : Nat → Nat} {r1 : zS} {a2 : Nat → Nat} {a3 : Nat → Nat} {a4 : Nat → Nat} {p1 : Int32} {p2 : Int32} {p3 : Int32} {post : Int32 → (zS) → (zS) → (zS) → (zS) → Prop} {A : Nat → Prop} (C : xC p s m args meth c cX7_change RX7 9 (some .int) D vwCl (xty K)) (hA : ∀ q, s.heap.size ≤ q → A q) {k42 : (zS) → (zS) → (zS) → (zS) → Int32 → Int32 → Int32 → Prop} (hk42 : ∀ (r0 : zS) (r2 : zS) (r3 : zS) (r4 : zS) (x4 : Int32) (x5 : Int32) (x6 : Int32) (H : Heap) (locs : List Loc) (ls : Array Slot), lv_has ls 9 [(0, .ref h0), (1, .int p1), (2, .int p2), (3, .int p3), (4, .int x4), (5, .int x5), (6, .int x6)] → va_P D vwCl (wX7 K h0 a0 hs r0 ++ (wX1 K (a0 0) a1 r1 ++ (wX6 K (a0 9) a2 r2 ++ (wX5 K (a0 11) a3 r3 ++ (wX1 K (a0 1) a4 r4))))) H → va_D A (wX7 K h0 a0 hs r0 ++ (wX1 K (a0 0) a1 r1 ++ (wX6 K (a0 9) a2 r2 ++ (wX5 K (a0 11) a3 r3 ++ (wX1 K (a0 1) a4 r4))))) → va_S A s.heap H locs → k42 r0 r2 r3 r4 x4 x5 x6  → W p l e ({ frames := 16, cells := 0, slots := 0, locals := 615 } : Room) s m args below meth c H locs 0 0 (MQ below (va_Qi (fun r (u : (zS) × (zS) × (zS) × (zS)) => post r u.1 u.2.1 u.2.2.1 u.2.2.2) (fun (u : (zS) × (zS) × (zS) × (zS)) t => va_P D vwCl (wX7 K h0 a0 hs u.1 ++ (wX1 K (a0 0) a1 r1 ++ (wX6 K (a0 9) a2 u.2.1 ++ (wX5 K (a0 11) a3 u.2.2.1 ++ (wX1 K (a0 1) a4 u.2.2.2))))) t.heap) A) args s 0 0 A) (F0 m 42 ls [])) {k60 : (zS) → (zS) → (zS) → (zS) → Int32 → Int32 → Int32 → Int32 → Prop} (hk60 : ∀ (r0 : zS) (r2 : zS) (r3 : zS) (r4 : zS) (x4 : Int32) (x5 : Int32) (x6 : Int32) (x7 : Int32) (H : Heap) (locs : List Loc) (ls : Array Slot), lv_has ls 9 [(0, .ref h0), (1, .int p1), (2, .int p2), (3, .int p3), (4, .int x4), (5, .int x5), (6, .int x6), (7, .int x7)] → va_P D vwCl (wX7 K h0 a0 hs r0 ++ (wX1 K (a0 0) a1 r1 ++ (wX6 K (a0 9) a2 r2 ++ (wX5 K (a0 11) a3 r3 ++ (wX1 K (a0 1) a4 r4))))) H → va_D A (wX7 K h0 a0 hs r0 ++ (wX1 K (a0 0) a1 r1 ++ (wX6 K (a0 9) a2 r2 ++ (wX5 K (a0 11) a3 r3 ++ (wX1 K (a0 1) a4 r4))))) → va_S A s.heap H locs → k60 r0 r2 r3 r4 x4 x5 x6 x7  → W p l e ({ frames := 16, cells := 0, slots := 0, locals := 615 } : Room) s m args below meth c H locs 0 0 (MQ below (va_Qi (fun r (u : (zS) × (zS) × (zS) × (zS)) => post r u.1 u.2.1 u.2.2.1 u.2.2.2) (fun (u : (zS) × (zS) × (zS) × (zS)) t => va_P D vwCl (wX7 K h0 a0 hs u.1 ++ (wX1 K (a0 0) a1 r1 ++ (wX6 K (a0 9) a2 u.2.1 ++ (wX5 K (a0 11) a3 u.2.2.1 ++ (wX1 K (a0 1) a4 u.2.2.2))))) t.heap) A) args s 0 0 A) (F0 m 60 ls [])) : ∀ (r0 : zS) (r2 : zS) (r3 : zS) (r4 : zS) (x4 : Int32) (x5 : Int32) (x6 : Int32) (x7 : Int32) (H : Heap) (locs : List Loc) (ls : Array Slot), lv_has ls 9 [(0, .ref h0), (1, .int p1), (2, .int p2), (3, .int p3), (4, .int x4), (5, .int x5), (6, .int x6), (7, .int x7)] → va_P D vwCl (wX7 K h0 a0 hs r0 ++ (wX1 K (a0 0) a1 r1 ++ (wX6 K (a0 9) a2 r2 ++ (wX5 K (a0 11) a3 r3 ++ (wX1 K (a0 1) a4 r4))))) H → va_D A (wX7 K h0 a0 hs r0 ++ (wX1 K (a0 0) a1 r1 ++ (wX6 K (a0 9) a2 r2 ++ (wX5 K (a0 11) a3 r3 ++ (wX1 K (a0 1) a4 r4))))) → va_S A s.heap H locs → wp_X7_change_152 r1 p1 p2 p3 post k42 k60 r0 r2 r3 r4 x4 x5 x6 x7 → W p l e ({ frames := 16, cells := 0, slots := 0, locals := 615 } : Room) s m args below meth c H locs 0 0 (MQ below (va_Qi (fun r (u : (zS) × (zS) × (zS) × (zS)) => post r u.1 u.2.1 u.2.2.1 u.2.2.2) (fun (u : (zS) × (zS) × (zS) × (zS)) t => va_P D vwCl (wX7 K h0 a0 hs u.1 ++ (wX1 K (a0 0) a1 r1 ++ (wX6 K (a0 9) a2 u.2.1 ++ (wX5 K (a0 11) a3 u.2.2.1 ++ (wX1 K (a0 1) a4 u.2.2.2))))) t.heap) A) args s 0 0 A) (F0 m 152 ls []) := by
  obtain ⟨hx, hb, hr, hml, hown, hts, hlocks, hK, hT⟩ := id C
  intro r0 r2 r3 r4 x4 x5 x6 x7 H locs ls hl hP hD hS h
  unfold wp_X7_change_152 at h
  obtain ⟨v16, ev16⟩ : ∃ y : Int32, y = x7 + (1 : Int32) := ⟨_, rfl⟩
  replace h := h v16 ev16
  refine lv_iinc (v := v16) (lv' := [(7, .int v16), (0, .ref h0), (1, .int p1), (2, .int p2), (3, .int p3), (4, .int x4), (5, .int x5), (6, .int x6)]) hx hb dX7_change_152 hl (k := 7) rfl (by rw [ev16]; rfl) (by decide) rfl (fun ls hl => ?_)
  refine lv_goto (tgt := 60) hx hb dX7_change_155 (by decide) ?_
  exact hk60 _ _ _ _ _ _ _ _ _ _ _ (lv_sub hl [1, 2, 3, 4, 5, 6, 7, 0] rfl) hP hD hS h
set_option maxHeartbeats 4000000 in
set_option maxRecDepth 100000 in
theorem t_X7_change_60 {p : Program} {l : Launch} {e : Env} {s : State} {m : MethodId} {args : Array Value} {below : List Frame} {meth : Method} {c : Code} {D : va_G} {K : Nat → ClassId} {h0 : Nat} {a0 : Nat → Nat} {hs : Nat → Nat} {a1 : Nat → Nat} {r1 : zS} {a2 : Nat → Nat} {a3 : Nat → Nat} {a4 : Nat → Nat} {p1 : Int32} {p2 : Int32} {p3 : Int32} {post : Int32 → (zS) → (zS) → (zS) → (zS) → Prop} {A : Nat → Prop} (C : xC p s m args meth c cX7_change RX7 9 (some .int) D vwCl (xty K)) (hA : ∀ q, s.heap.size ≤ q → A q) {k42 : (zS) → (zS) → (zS) → (zS) → Int32 → Int32 → Int32 → Prop} (hk42 : ∀ (r0 : zS) (r2 : zS) (r3 : zS) (r4 : zS) (x4 : Int32) (x5 : Int32) (x6 : Int32) (H : Heap) (locs : List Loc) (ls : Array Slot), lv_has ls 9 [(0, .ref h0), (1, .int p1), (2, .int p2), (3, .int p3), (4, .int x4), (5, .int x5), (6, .int x6)] → va_P D vwCl (wX7 K h0 a0 hs r0 ++ (wX1 K (a0 0) a1 r1 ++ (wX6 K (a0 9) a2 r2 ++ (wX5 K (a0 11) a3 r3 ++ (wX1 K (a0 1) a4 r4))))) H → va_D A (wX7 K h0 a0 hs r0 ++ (wX1 K (a0 0) a1 r1 ++ (wX6 K (a0 9) a2 r2 ++ (wX5 K (a0 11) a3 r3 ++ (wX1 K (a0 1) a4 r4))))) → va_S A s.heap H locs → k42 r0 r2 r3 r4 x4 x5 x6  → W p l e ({ frames := 16, cells := 0, slots := 0, locals := 615 } : Room) s m args below meth c H locs 0 0 (MQ below (va_Qi (fun r (u : (zS) × (zS) × (zS) × (zS)) => post r u.1 u.2.1 u.2.2.1 u.2.2.2) (fun (u : (zS) × (zS) × (zS) × (zS)) t => va_P D vwCl (wX7 K h0 a0 hs u.1 ++ (wX1 K (a0 0) a1 r1 ++ (wX6 K (a0 9) a2 u.2.1 ++ (wX5 K (a0 11) a3 u.2.2.1 ++ (wX1 K (a0 1) a4 u.2.2.2))))) t.heap) A) args s 0 0 A) (F0 m 42 ls [])) : ∀ (n : Nat) (r0 : zS) (r2 : zS) (r3 : zS) (r4 : zS) (x4 : Int32) (x5 : Int32) (x6 : Int32) (x7 : Int32) (H : Heap) (locs : List Loc) (ls : Array Slot), lv_has ls 9 [(0, .ref h0), (1, .int p1), (2, .int p2), (3, .int p3), (4, .int x4), (5, .int x5), (6, .int x6), (7, .int x7)] → va_P D vwCl (wX7 K h0 a0 hs r0 ++ (wX1 K (a0 0) a1 r1 ++ (wX6 K (a0 9) a2 r2 ++ (wX5 K (a0 11) a3 r3 ++ (wX1 K (a0 1) a4 r4))))) H → va_D A (wX7 K h0 a0 hs r0 ++ (wX1 K (a0 0) a1 r1 ++ (wX6 K (a0 9) a2 r2 ++ (wX5 K (a0 11) a3 r3 ++ (wX1 K (a0 1) a4 r4))))) → va_S A s.heap H locs → wp_X7_change_60 r1 p1 p2 p3 post k42 n r0 r2 r3 r4 x4 x5 x6 x7 → W p l e ({ frames := 16, cells := 0, slots := 0, locals := 615 } : Room) s m args below meth c H locs 0 0 (MQ below (va_Qi (fun r (u : (zS) × (zS) × (zS) × (zS)) => post r u.1 u.2.1 u.2.2.1 u.2.2.2) (fun (u : (zS) × (zS) × (zS) × (zS)) t => va_P D vwCl (wX7 K h0 a0 hs u.1 ++ (wX1 K (a0 0) a1 r1 ++ (wX6 K (a0 9) a2 u.2.1 ++ (wX5 K (a0 11) a3 u.2.2.1 ++ (wX1 K (a0 1) a4 u.2.2.2))))) t.heap) A) args s 0 0 A) (F0 m 60 ls []) := by
  obtain ⟨hx, hb, hr, hml, hown, hts, hlocks, hK, hT⟩ := id C
  intro n
  induction n with
  | zero =>
    intro r0 r2 r3 r4 x4 x5 x6 x7 H locs ls hl hP hD hS h
    exact False.elim h
  | succ n ihn =>
    intro r0 r2 r3 r4 x4 x5 x6 x7 H locs ls hl hP hD hS h
    rw [wu_X7_change_60] at h
    unfold wb_X7_change_60 at h
    refine lv_iload hx hb dX7_change_60 (lv_at hl 7 rfl) ?_
    refine lv_aload_n hx hb dX7_change_62 rfl (lv_at hl 0 rfl) ?_
    refine va_get (D := D) (ci := 7) (v := .ref (a0 0)) (C := RX7) (T := TX7) (N := 13) hx hb hts inlX7 hown hK hP 0 rfl rfl 0 (by decide) (hts (.fieldLink RX7 10 "UnderTheDesks" "room" "LUnderTheDesks$Room;") mw_16) (fun _ h9 => h9) rfl dX7_change_63 ?_
    refine va_get (D := D) (ci := 1) (v := .int (r1.1 1)) (C := RX1) (T := TX1) (N := 10) hx hb hts inlX1 hown hK hP 3 rfl rfl 1 (by decide) (hts (.fieldLink RX7 161 "UnderTheDesks$Room" "count" "I") mw_360) (fun _ h9 => h9) rfl dX7_change_66 ?_
    refine lv_icmp_ge (tgt := 158) hx hb dX7_change_69 (by decide) (fun c13 => ?_) (fun c13 => ?_)
    · replace h := And.left h c13
      obtain ⟨v14, ev14⟩ : ∃ y : Int32, y = x6 + (1 : Int32) := ⟨_, rfl⟩
      replace h := h v14 ev14
      refine lv_iinc (v := v14) (lv' := [(6, .int v14), (0, .ref h0), (1, .int p1), (2, .int p2), (3, .int p3), (4, .int x4), (5, .int x5), (7, .int x7)]) hx hb dX7_change_158 hl (k := 6) rfl (by rw [ev14]; rfl) (by decide) rfl (fun ls hl => ?_)
      refine lv_goto (tgt := 42) hx hb dX7_change_161 (by decide) ?_
      exact hk42 _ _ _ _ _ _ _ _ _ _ (lv_sub hl [1, 2, 3, 4, 5, 6, 0] rfl) hP hD hS h
    · replace h := And.right h c13
      refine lv_iload hx hb dX7_change_72 (lv_at hl 6 rfl) ?_
      refine lv_iload_n hx hb dX7_change_74 rfl (lv_at hl 1 rfl) ?_
      refine lv_icmp_eq (tgt := 152) hx hb dX7_change_75 (by decide) (fun c15 => ?_) (fun c15 => ?_)
      · replace h := And.left h c15
        exact t_X7_change_152 C hA hk42 ihn _ _ _ _ _ _ _ _ _ _ _ (lv_sub hl [0, 1, 2, 3, 4, 5, 6, 7] rfl) hP hD hS h
      · replace h := And.right h c15
        refine lv_iload hx hb dX7_change_78 (lv_at hl 6 rfl) ?_
        refine lv_iload_n hx hb dX7_change_80 rfl (lv_at hl 2 rfl) ?_
        refine lv_icmp_eq (tgt := 152) hx hb dX7_change_81 (by decide) (fun c17 => ?_) (fun c17 => ?_)
        · replace h := And.left h c17
          exact t_X7_change_152 C hA hk42 ihn _ _ _ _ _ _ _ _ _ _ _ (lv_sub hl [0, 1, 2, 3, 4, 5, 6, 7] rfl) hP hD hS h
        · replace h := And.right h c17
          refine lv_iload hx hb dX7_change_84 (lv_at hl 7 rfl) ?_
          refine lv_iload_n hx hb dX7_change_86 rfl (lv_at hl 1 rfl) ?_
          refine lv_icmp_eq (tgt := 152) hx hb dX7_change_87 (by decide) (fun c18 => ?_) (fun c18 => ?_)
          · replace h := And.left h c18
            exact t_X7_change_152 C hA hk42 ihn _ _ _ _ _ _ _ _ _ _ _ (lv_sub hl [0, 1, 2, 3, 4, 5, 6, 7] rfl) hP hD hS h
          · replace h := And.right h c18
            refine lv_iload hx hb dX7_change_90 (lv_at hl 7 rfl) ?_
            refine lv_iload_n hx hb dX7_change_92 rfl (lv_at hl 2 rfl) ?_
            refine lv_icmp_eq (tgt := 152) hx hb dX7_change_93 (by decide) (fun c19 => ?_) (fun c19 => ?_)
            · replace h := And.left h c19
              exact t_X7_change_152 C hA hk42 ihn _ _ _ _ _ _ _ _ _ _ _ (lv_sub hl [0, 1, 2, 3, 4, 5, 6, 7] rfl) hP hD hS h
            · replace h := And.right h c19
              refine lv_aload_n hx hb dX7_change_96 rfl (lv_at hl 0 rfl) ?_
              refine va_get (D := D) (ci := 7) (v := .ref (a0 1)) (C := RX7) (T := TX7) (N := 13) hx hb hts inlX7 hown hK hP 0 rfl rfl 1 (by decide) (hts (.fieldLink RX7 16 "UnderTheDesks" "trial" "LUnderTheDesks$Room;") mw_17) (fun _ h9 => h9) rfl dX7_change_97 ?_
              refine lv_aload_n hx hb dX7_change_100 rfl (lv_at hl 0 rfl) ?_
              refine va_get (D := D) (ci := 7) (v := .ref (a0 0)) (C := RX7) (T := TX7) (N := 13) hx hb hts inlX7 hown hK hP 0 rfl rfl 0 (by decide) (hts (.fieldLink RX7 10 "UnderTheDesks" "room" "LUnderTheDesks$Room;") mw_16) (fun _ h9 => h9) rfl dX7_change_101 ?_
              refine xend_rw_v (wf := fun (u : (zS)) => (wX1 K (a0 1) a4 u ++ (wX1 K (a0 0) a1 r1))) (xRunV (wc := (wX1 K (a0 1) a4 r4 ++ (wX1 K (a0 0) a1 r1))) (As := [.ref (a0 0)]) (rest := []) C (c_X1_takeOver h) k_X1_takeOver mw_517 ⟨rfl, rfl⟩ ⟨Nat.le_of_ble_eq_true rfl, Nat.le_of_ble_eq_true rfl⟩ hP hD [15, 16, 17, 18, 19, 20, 3, 4, 5, 6, 7, 8] rfl rfl rfl rfl hl rfl rfl (Nat.le_of_ble_eq_true rfl) dX7_change_104 ⟨Nat.le_refl _, Nat.le_refl _⟩) hP hD hS hA [15, 16, 17, 18, 19, 20, 3, 4, 5, 6, 7, 8] rfl rfl (fun _ => rfl) (fun s21 H locs h hP hD hS => ?_)
              replace hP : va_P D vwCl (wX7 K h0 a0 hs r0 ++ (wX1 K (a0 0) a1 r1 ++ (wX6 K (a0 9) a2 r2 ++ (wX5 K (a0 11) a3 r3 ++ (wX1 K (a0 1) a4 s21))))) H := hP
              replace hD : va_D A (wX7 K h0 a0 hs r0 ++ (wX1 K (a0 0) a1 r1 ++ (wX6 K (a0 9) a2 r2 ++ (wX5 K (a0 11) a3 r3 ++ (wX1 K (a0 1) a4 s21))))) := hD
              refine lv_aload_n hx hb dX7_change_107 rfl (lv_at hl 0 rfl) ?_
              refine va_get (D := D) (ci := 7) (v := .ref (a0 1)) (C := RX7) (T := TX7) (N := 13) hx hb hts inlX7 hown hK hP 0 rfl rfl 1 (by decide) (hts (.fieldLink RX7 16 "UnderTheDesks" "trial" "LUnderTheDesks$Room;") mw_17) (fun _ h9 => h9) rfl dX7_change_108 ?_
              refine lv_iload hx hb dX7_change_111 (lv_at hl 6 rfl) ?_
              refine lv_iload hx hb dX7_change_113 (lv_at hl 7 rfl) ?_
              refine xend_rw_v (wf := fun (u : (zS)) => (wX1 K (a0 1) a4 u)) (xRunV (wc := (wX1 K (a0 1) a4 s21)) (As := [.int x6, .int x7]) (rest := []) C (c_X1_exchange h) k_X1_exchange mw_1074 ⟨rfl, rfl⟩ ⟨Nat.le_of_ble_eq_true rfl, Nat.le_of_ble_eq_true rfl⟩ hP hD [15, 16, 17, 18, 19, 20] rfl rfl rfl rfl hl rfl rfl (Nat.le_of_ble_eq_true rfl) dX7_change_115 ⟨Nat.le_refl _, Nat.le_refl _⟩) hP hD hS hA [15, 16, 17, 18, 19, 20] rfl rfl (fun _ => rfl) (fun s23 H locs h hP hD hS => ?_)
              replace hP : va_P D vwCl (wX7 K h0 a0 hs r0 ++ (wX1 K (a0 0) a1 r1 ++ (wX6 K (a0 9) a2 r2 ++ (wX5 K (a0 11) a3 r3 ++ (wX1 K (a0 1) a4 s23))))) H := hP
              replace hD : va_D A (wX7 K h0 a0 hs r0 ++ (wX1 K (a0 0) a1 r1 ++ (wX6 K (a0 9) a2 r2 ++ (wX5 K (a0 11) a3 r3 ++ (wX1 K (a0 1) a4 s23))))) := hD
              refine lv_aload_n hx hb dX7_change_118 rfl (lv_at hl 0 rfl) ?_
              refine lv_aload_n hx hb dX7_change_119 rfl (lv_at hl 0 rfl) ?_
              refine va_get (D := D) (ci := 7) (v := .ref (a0 1)) (C := RX7) (T := TX7) (N := 13) hx hb hts inlX7 hown hK hP 0 rfl rfl 1 (by decide) (hts (.fieldLink RX7 16 "UnderTheDesks" "trial" "LUnderTheDesks$Room;") mw_17) (fun _ h9 => h9) rfl dX7_change_120 ?_
              refine lv_iload_n hx hb dX7_change_123 rfl (lv_at hl 1 rfl) ?_
              refine lv_iload_n hx hb dX7_change_124 rfl (lv_at hl 2 rfl) ?_
              refine lv_iload_n hx hb dX7_change_125 rfl (lv_at hl 3 rfl) ?_
              refine xend_rw_i (wf := fun (u : (zS) × (zS)) => (wX7 K h0 a0 hs r0 ++ (wX1 K (a0 1) a4 s23 ++ (wX6 K (a0 9) a2 u.1 ++ (wX5 K (a0 11) a3 u.2))))) (xRunV (wc := (wX7 K h0 a0 hs r0 ++ (wX1 K (a0 1) a4 s23 ++ (wX6 K (a0 9) a2 r2 ++ (wX5 K (a0 11) a3 r3))))) (As := [.ref (a0 1), .int p1, .int p2, .int p3]) (rest := []) C (c_X7_chanceIn h) k_X7_chanceIn mw_931 ⟨rfl, rfl⟩ ⟨Nat.le_of_ble_eq_true rfl, Nat.le_of_ble_eq_true rfl⟩ hP hD [0, 1, 2, 15, 16, 17, 18, 19, 20, 9, 10, 11, 12, 13, 14] rfl rfl rfl rfl hl rfl rfl (Nat.le_of_ble_eq_true rfl) dX7_change_126 ⟨Nat.le_refl _, Nat.le_refl _⟩) hP hD hS hA [0, 1, 2, 15, 16, 17, 18, 19, 20, 9, 10, 11, 12, 13, 14] rfl rfl (fun _ => rfl) (fun v24 u27 H locs h hP hD hS => ?_)
              obtain ⟨s25, s26⟩ := u27
              replace hP : va_P D vwCl (wX7 K h0 a0 hs r0 ++ (wX1 K (a0 0) a1 r1 ++ (wX6 K (a0 9) a2 s25 ++ (wX5 K (a0 11) a3 s26 ++ (wX1 K (a0 1) a4 s23))))) H := hP
              replace hD : va_D A (wX7 K h0 a0 hs r0 ++ (wX1 K (a0 0) a1 r1 ++ (wX6 K (a0 9) a2 s25 ++ (wX5 K (a0 11) a3 s26 ++ (wX1 K (a0 1) a4 s23))))) := hD
              refine lv_istore (lv' := [(8, .int v24), (0, .ref h0), (1, .int p1), (2, .int p2), (3, .int p3), (4, .int x4), (5, .int x5), (6, .int x6), (7, .int x7)]) hx hb dX7_change_129 hl (by decide) rfl (fun ls hl => ?_)
              refine lv_iload hx hb dX7_change_131 (lv_at hl 0 rfl) ?_
              refine lv_iload hx hb dX7_change_133 (lv_at hl 6 rfl) ?_
              refine lv_icmp_le (tgt := 152) hx hb dX7_change_135 (by decide) (fun c28 => ?_) (fun c28 => ?_)
              · replace h := And.left h c28
                exact t_X7_change_152 C hA hk42 ihn _ _ _ _ _ _ _ _ _ _ _ (lv_sub hl [1, 2, 3, 4, 5, 6, 7, 8] rfl) hP hD hS h
              · replace h := And.right h c28
                refine lv_iload hx hb dX7_change_138 (lv_at hl 0 rfl) ?_
                refine lv_istore (lv' := [(5, .int v24), (8, .int v24), (0, .ref h0), (1, .int p1), (2, .int p2), (3, .int p3), (4, .int x4), (6, .int x6), (7, .int x7)]) hx hb dX7_change_140 hl (by decide) rfl (fun ls hl => ?_)
                refine lv_bipush (v := 100) hx hb dX7_change_142 (by decide) ?_
                refine lv_iload hx hb dX7_change_144 (lv_at hl 7 rfl) ?_
                refine lv_imul hx hb dX7_change_146 ?_
                refine lv_iload hx hb dX7_change_147 (lv_at hl 8 rfl) ?_
                refine lv_iadd hx hb dX7_change_149 ?_
                refine lv_topi (fun v29 ev29 => ?_)
                replace h := h v29 ev29
                refine lv_istore (lv' := [(4, .int v29), (5, .int v24), (8, .int v24), (0, .ref h0), (1, .int p1), (2, .int p2), (3, .int p3), (6, .int x6), (7, .int x7)]) hx hb dX7_change_150 hl (by decide) rfl (fun ls hl => ?_)
                exact t_X7_change_152 C hA hk42 ihn _ _ _ _ _ _ _ _ _ _ _ (lv_sub hl [3, 4, 5, 6, 0, 1, 7, 8] rfl) hP hD hS h
set_option maxHeartbeats 4000000 in
set_option maxRecDepth 100000 in
theorem t_X7_change_42 {p : Program} {l : Launch} {e : Env} {s : State} {m : MethodId} {args : Array Value} {below : List Frame} {meth : Method} {c : Code} {D : va_G} {K : Nat → ClassId} {h0 : Nat} {a0 : Nat → Nat} {hs : Nat → Nat} {a1 : Nat → Nat} {r1 : zS} {a2 : Nat → Nat} {a3 : Nat → Nat} {a4 : Nat → Nat} {p1 : Int32} {p2 : Int32} {p3 : Int32} {post : Int32 → (zS) → (zS) → (zS) → (zS) → Prop} {A : Nat → Prop} (C : xC p s m args meth c cX7_change RX7 9 (some .int) D vwCl (xty K)) (hA : ∀ q, s.heap.size ≤ q → A q) : ∀ (n : Nat) (r0 : zS) (r2 : zS) (r3 : zS) (r4 : zS) (x4 : Int32) (x5 : Int32) (x6 : Int32) (H : Heap) (locs : List Loc) (ls : Array Slot), lv_has ls 9 [(0, .ref h0), (1, .int p1), (2, .int p2), (3, .int p3), (4, .int x4), (5, .int x5), (6, .int x6)] → va_P D vwCl (wX7 K h0 a0 hs r0 ++ (wX1 K (a0 0) a1 r1 ++ (wX6 K (a0 9) a2 r2 ++ (wX5 K (a0 11) a3 r3 ++ (wX1 K (a0 1) a4 r4))))) H → va_D A (wX7 K h0 a0 hs r0 ++ (wX1 K (a0 0) a1 r1 ++ (wX6 K (a0 9) a2 r2 ++ (wX5 K (a0 11) a3 r3 ++ (wX1 K (a0 1) a4 r4))))) → va_S A s.heap H locs → wp_X7_change_42 r1 p1 p2 p3 post n r0 r2 r3 r4 x4 x5 x6 → W p l e ({ frames := 16, cells := 0, slots := 0, locals := 615 } : Room) s m args below meth c H locs 0 0 (MQ below (va_Qi (fun r (u : (zS) × (zS) × (zS) × (zS)) => post r u.1 u.2.1 u.2.2.1 u.2.2.2) (fun (u : (zS) × (zS) × (zS) × (zS)) t => va_P D vwCl (wX7 K h0 a0 hs u.1 ++ (wX1 K (a0 0) a1 r1 ++ (wX6 K (a0 9) a2 u.2.1 ++ (wX5 K (a0 11) a3 u.2.2.1 ++ (wX1 K (a0 1) a4 u.2.2.2))))) t.heap) A) args s 0 0 A) (F0 m 42 ls []) := by
  obtain ⟨hx, hb, hr, hml, hown, hts, hlocks, hK, hT⟩ := id C
  intro n
  induction n with
  | zero =>
    intro r0 r2 r3 r4 x4 x5 x6 H locs ls hl hP hD hS h
    exact False.elim h
  | succ n ihn =>
    intro r0 r2 r3 r4 x4 x5 x6 H locs ls hl hP hD hS h
    rw [wu_X7_change_42] at h
    unfold wb_X7_change_42 at h
    refine lv_iload hx hb dX7_change_42 (lv_at hl 6 rfl) ?_
    refine lv_aload_n hx hb dX7_change_44 rfl (lv_at hl 0 rfl) ?_
    refine va_get (D := D) (ci := 7) (v := .ref (a0 0)) (C := RX7) (T := TX7) (N := 13) hx hb hts inlX7 hown hK hP 0 rfl rfl 0 (by decide) (hts (.fieldLink RX7 10 "UnderTheDesks" "room" "LUnderTheDesks$Room;") mw_16) (fun _ h9 => h9) rfl dX7_change_45 ?_
    refine va_get (D := D) (ci := 1) (v := .int (r1.1 1)) (C := RX1) (T := TX1) (N := 10) hx hb hts inlX1 hown hK hP 3 rfl rfl 1 (by decide) (hts (.fieldLink RX7 161 "UnderTheDesks$Room" "count" "I") mw_360) (fun _ h9 => h9) rfl dX7_change_48 ?_
    refine lv_icmp_ge (tgt := 164) hx hb dX7_change_51 (by decide) (fun c11 => ?_) (fun c11 => ?_)
    · replace h := And.left h c11
      refine lv_iload hx hb dX7_change_164 (lv_at hl 4 rfl) ?_
      exact xrw_i C (r0, r2, r3, r4) h hP hS dX7_change_166
    · replace h := And.right h c11
      refine lv_iload hx hb dX7_change_54 (lv_at hl 6 rfl) ?_
      refine lv_iconst (v := 1) hx hb dX7_change_56 (by decide) ?_
      refine lv_iadd hx hb dX7_change_57 ?_
      refine lv_topi (fun v12 ev12 => ?_)
      replace h := h v12 ev12
      refine lv_istore (lv' := [(7, .int v12), (0, .ref h0), (1, .int p1), (2, .int p2), (3, .int p3), (4, .int x4), (5, .int x5), (6, .int x6)]) hx hb dX7_change_58 hl (by decide) rfl (fun ls hl => ?_)
      obtain ⟨n0, h⟩ := h
      exact t_X7_change_60 C hA ihn n0 _ _ _ _ _ _ _ _ _ _ _ (lv_sub hl [1, 2, 3, 4, 5, 6, 7, 0] rfl) hP hD hS h
set_option maxHeartbeats 4000000 in
set_option maxRecDepth 100000 in
theorem c_X7_change {l : Launch} {D : va_G} {K : Nat → ClassId} {h0 : Nat} {a0 : Nat → Nat} {hs : Nat → Nat} {r0 : zS} {a1 : Nat → Nat} {r1 : zS} {a2 : Nat → Nat} {r2 : zS} {a3 : Nat → Nat} {r3 : zS} {a4 : Nat → Nat} {r4 : zS} {p1 : Int32} {p2 : Int32} {p3 : Int32} {sz : Nat} {post : Int32 → (zS) → (zS) → (zS) → (zS) → Prop}   (h : wp_X7_change r0 r1 r2 r3 r4 p1 p2 p3 post) : Met l yX7_change (Cond.code yX7_change cX7_change 9 (some .int) :: wsL_law) ({ frames := 16, cells := 0, slots := 0, locals := 615 } : Room) (va_Pc [.ref h0, .int p1, .int p2, .int p3] (xPre D vwCl (xty K) (wX7 K h0 a0 hs r0 ++ (wX1 K (a0 0) a1 r1 ++ (wX6 K (a0 9) a2 r2 ++ (wX5 K (a0 11) a3 r3 ++ (wX1 K (a0 1) a4 r4))))) sz)) (va_Qi (fun r (u : (zS) × (zS) × (zS) × (zS)) => post r u.1 u.2.1 u.2.2.1 u.2.2.2) (fun (u : (zS) × (zS) × (zS) × (zS)) t => va_P D vwCl (wX7 K h0 a0 hs u.1 ++ (wX1 K (a0 0) a1 r1 ++ (wX6 K (a0 9) a2 u.2.1 ++ (wX5 K (a0 11) a3 u.2.2.1 ++ (wX1 K (a0 1) a4 u.2.2.2))))) t.heap) (va_A (wX7 K h0 a0 hs r0 ++ (wX1 K (a0 0) a1 r1 ++ (wX6 K (a0 9) a2 r2 ++ (wX5 K (a0 11) a3 r3 ++ (wX1 K (a0 1) a4 r4))))) sz)) 0 0 (va_A (wX7 K h0 a0 hs r0 ++ (wX1 K (a0 0) a1 r1 ++ (wX6 K (a0 9) a2 r2 ++ (wX5 K (a0 11) a3 r3 ++ (wX1 K (a0 1) a4 r4))))) sz) := by
  refine xMet (by decide) rfl (Nat.le_of_ble_eq_true rfl) (fun p e s m args below meth c C hnm hP hD hsz ls hl => ?_)
  have hl : lv_has ls 9 [(0, .ref h0), (1, .int p1), (2, .int p2), (3, .int p3)] := hl
  obtain ⟨hx, hb, hr, hml, hown, hts, hlocks, hK, hT⟩ := id C
  subst hsz
  generalize hAe : va_A (wX7 K h0 a0 hs r0 ++ (wX1 K (a0 0) a1 r1 ++ (wX6 K (a0 9) a2 r2 ++ (wX5 K (a0 11) a3 r3 ++ (wX1 K (a0 1) a4 r4))))) s.heap.size = A at hD ⊢
  have hA : ∀ q : Nat, s.heap.size ≤ q → A q := fun q h => by rw [← hAe]; exact Or.inr h
  have hS : va_S A s.heap s.heap [] := va_S.rf
  have hP : va_P D vwCl (wX7 K h0 a0 hs r0 ++ (wX1 K (a0 0) a1 r1 ++ (wX6 K (a0 9) a2 r2 ++ (wX5 K (a0 11) a3 r3 ++ (wX1 K (a0 1) a4 r4))))) s.heap := hP
  unfold wp_X7_change at h
  refine lv_aload_n hx hb dX7_change_0 rfl (lv_at hl 0 rfl) ?_
  refine lv_iload_n hx hb dX7_change_1 rfl (lv_at hl 1 rfl) ?_
  refine lv_iload_n hx hb dX7_change_2 rfl (lv_at hl 2 rfl) ?_
  refine xend_ro_i (xRunV (wc := (wX7 K h0 a0 hs r0 ++ (wX1 K (a0 0) a1 r1))) (As := [.int p1, .int p2]) (rest := []) C (c_X7_isPair h) k_X7_isPair mw_429 ⟨rfl, rfl⟩ ⟨Nat.le_of_ble_eq_true rfl, Nat.le_of_ble_eq_true rfl⟩ hP hD [0, 1, 2, 3, 4, 5, 6, 7, 8] rfl rfl rfl rfl hl rfl rfl (Nat.le_of_ble_eq_true rfl) dX7_change_3 ⟨Nat.le_refl _, Nat.le_refl _⟩) (fun v1 h => ?_)
  refine lv_if_eq (tgt := 16) hx hb dX7_change_6 (by decide) (fun c2 => ?_) (fun c2 => ?_)
  · replace h := And.left h c2
    exact t_X7_change_16 C hA _ _ _ _ _ _ _ (lv_sub hl [0] rfl) hP hD hS h
  · replace h := And.right h c2
    refine lv_iload_n hx hb dX7_change_9 rfl (lv_at hl 3 rfl) ?_
    refine xend_ro_i (xRunS (wc := ([] : va_W)) (As := [.int p3]) (rest := []) C (c_X7_isSecond h) k_X7_isSecond mw_725 ⟨rfl, rfl⟩ ⟨Nat.le_of_ble_eq_true rfl, Nat.le_of_ble_eq_true rfl⟩ hP hD [] rfl rfl hl rfl rfl (Nat.le_of_ble_eq_true rfl) dX7_change_10 ⟨Nat.le_refl _, Nat.le_refl _⟩) (fun v5 h => ?_)
    refine lv_if_ne (tgt := 23) hx hb dX7_change_13 (by decide) (fun c6 => ?_) (fun c6 => ?_)
    · replace h := And.right h c6
      refine lv_iconst (v := -1) hx hb dX7_change_23 (by decide) ?_
      refine lv_istore (lv' := [(4, .int (-1 : Int32)), (0, .ref h0), (1, .int p1), (2, .int p2), (3, .int p3)]) hx hb dX7_change_24 hl (by decide) rfl (fun ls hl => ?_)
      refine lv_aload_n hx hb dX7_change_26 rfl (lv_at hl 1 rfl) ?_
      refine lv_aload_n hx hb dX7_change_27 rfl (lv_at hl 1 rfl) ?_
      refine va_get (D := D) (ci := 7) (v := .ref (a0 0)) (C := RX7) (T := TX7) (N := 13) hx hb hts inlX7 hown hK hP 0 rfl rfl 0 (by decide) (hts (.fieldLink RX7 10 "UnderTheDesks" "room" "LUnderTheDesks$Room;") mw_16) (fun _ h9 => h9) rfl dX7_change_28 ?_
      refine lv_iload_n hx hb dX7_change_31 rfl (lv_at hl 2 rfl) ?_
      refine lv_iload_n hx hb dX7_change_32 rfl (lv_at hl 3 rfl) ?_
      refine lv_iload_n hx hb dX7_change_33 rfl (lv_at hl 4 rfl) ?_
      refine xend_rw_i (wf := fun (u : (zS) × (zS)) => (wX7 K h0 a0 hs r0 ++ (wX1 K (a0 0) a1 r1 ++ (wX6 K (a0 9) a2 u.1 ++ (wX5 K (a0 11) a3 u.2))))) (xRunV (wc := (wX7 K h0 a0 hs r0 ++ (wX1 K (a0 0) a1 r1 ++ (wX6 K (a0 9) a2 r2 ++ (wX5 K (a0 11) a3 r3))))) (As := [.ref (a0 0), .int p1, .int p2, .int p3]) (rest := []) C (c_X7_chanceIn h) k_X7_chanceIn mw_931 ⟨rfl, rfl⟩ ⟨Nat.le_of_ble_eq_true rfl, Nat.le_of_ble_eq_true rfl⟩ hP hD [0, 1, 2, 3, 4, 5, 6, 7, 8, 9, 10, 11, 12, 13, 14] rfl rfl rfl rfl hl rfl rfl (Nat.le_of_ble_eq_true rfl) dX7_change_34 ⟨Nat.le_refl _, Nat.le_refl _⟩) hP hD hS hA [0, 1, 2, 3, 4, 5, 6, 7, 8, 9, 10, 11, 12, 13, 14] rfl rfl (fun _ => rfl) (fun v7 u10 H locs h hP hD hS => ?_)
      obtain ⟨s8, s9⟩ := u10
      replace hP : va_P D vwCl (wX7 K h0 a0 hs r0 ++ (wX1 K (a0 0) a1 r1 ++ (wX6 K (a0 9) a2 s8 ++ (wX5 K (a0 11) a3 s9 ++ (wX1 K (a0 1) a4 r4))))) H := hP
      replace hD : va_D A (wX7 K h0 a0 hs r0 ++ (wX1 K (a0 0) a1 r1 ++ (wX6 K (a0 9) a2 s8 ++ (wX5 K (a0 11) a3 s9 ++ (wX1 K (a0 1) a4 r4))))) := hD
      refine lv_istore (lv' := [(5, .int v7), (4, .int (-1 : Int32)), (0, .ref h0), (1, .int p1), (2, .int p2), (3, .int p3)]) hx hb dX7_change_37 hl (by decide) rfl (fun ls hl => ?_)
      refine lv_iconst (v := 0) hx hb dX7_change_39 (by decide) ?_
      refine lv_istore (lv' := [(6, .int (0 : Int32)), (5, .int v7), (4, .int (-1 : Int32)), (0, .ref h0), (1, .int p1), (2, .int p2), (3, .int p3)]) hx hb dX7_change_40 hl (by decide) rfl (fun ls hl => ?_)
      obtain ⟨n0, h⟩ := h
      exact t_X7_change_42 C hA n0 _ _ _ _ _ _ _ _ _ _ (lv_sub hl [3, 4, 5, 6, 2, 1, 0] rfl) hP hD hS h
    · replace h := And.left h c6
      exact t_X7_change_16 C hA _ _ _ _ _ _ _ (lv_sub hl [0] rfl) hP hD hS h

def wp_X7_code_24 (p1 : Int32) (p2 : Int32) (p3 : Int32) (post : Int32 → (zS) → (Nat → zS) → Prop) (r0 : zS) (sh : Nat → zS) : Prop :=
  wp_X7_refuse r0 (-2 : Int32) (fun v3 s4 => post v3 s4 sh)
def wp_X7_code_98 (p1 : Int32) (p2 : Int32) (p3 : Int32) (post : Int32 → (zS) → (Nat → zS) → Prop) (r0 : zS) (sh : Nat → zS) : Prop :=
  wp_X7_refuse r0 (-2 : Int32) (fun v14 s15 => post v14 s15 sh)
def wb_X7_code_124 (p1 : Int32) (p2 : Int32) (p3 : Int32) (post : Int32 → (zS) → (Nat → zS) → Prop) (ih : (zS) → (Nat → zS) → Nat → Nat → Int32 → Prop) (r0 : zS) (sh : Nat → zS) (x5 : Nat) (x6 : Nat) (x7 : Int32) : Prop :=
  (p3 ≤ x7 → post p3 r0 sh) ∧ (¬ p3 ≤ x7 → wp_X2_cell (sh x5) x7 (fun v22 => ¬ ((sh x6).1 1) = 0 ∧ (wp_X2_cell (sh x6) (x7 - x7 / ((sh x6).1 1) * ((sh x6).1 1)) (fun v23 => wp_X2_put (sh x5) x7 ((v22 + v23) - (v22 + v23) / (26 : Int64) * (26 : Int64)) (fun s25 => ∀ v26 : Int32, v26 = x7 + (1 : Int32) → ih r0 (va_up sh x5 s25) x5 x6 v26)))))
def wp_X7_code_124 (p1 : Int32) (p2 : Int32) (p3 : Int32) (post : Int32 → (zS) → (Nat → zS) → Prop) (n : Nat) : (zS) → (Nat → zS) → Nat → Nat → Int32 → Prop := Nat.rec (motive := fun _ => (zS) → (Nat → zS) → Nat → Nat → Int32 → Prop) (fun _ _ _ _ _ => False) (fun _ ih => wb_X7_code_124 p1 p2 p3 post ih) n
theorem wu_X7_code_124 (p1 : Int32) (p2 : Int32) (p3 : Int32) (post : Int32 → (zS) → (Nat → zS) → Prop) (n : Nat) (r0 : zS) (sh : Nat → zS) (x5 : Nat) (x6 : Nat) (x7 : Int32) : wp_X7_code_124 p1 p2 p3 post (n + 1) r0 sh x5 x6 x7 = wb_X7_code_124 p1 p2 p3 post (wp_X7_code_124 p1 p2 p3 post n) r0 sh x5 x6 x7 := rfl
def wp_X7_code (r0 : zS) (sh : Nat → zS) (p1 : Int32) (p2 : Int32) (p3 : Int32) (post : Int32 → (zS) → (Nat → zS) → Prop) : Prop :=
  wp_X7_isShelf p1 (fun v1 => (v1 = 0 → wp_X7_code_24 p1 p2 p3 post r0 sh) ∧ (¬ v1 = 0 → wp_X7_isShelf p2 (fun v5 => (v5 = 0 → wp_X7_code_24 p1 p2 p3 post r0 sh) ∧ (¬ v5 = 0 → (p3 < 0 → wp_X7_code_24 p1 p2 p3 post r0 sh) ∧ (¬ p3 < 0 → (p3 ≤ (40 : Int32) → wp_X7_rowsFault r0 sh p1 p2 (fun v9 => (v9 = 0 → vp_in p1 8 ∧ (∀ k11 : Nat, k11 = p1.toNatClampNeg → vp_in p2 8 ∧ (∀ k12 : Nat, k12 = p2.toNatClampNeg → (((sh k11).1 1) < p3 → wp_X7_code_98 p1 p2 p3 post r0 sh) ∧ (¬ ((sh k11).1 1) < p3 → wp_X2_hasLetters (sh k11) p3 (fun v16 => (v16 = 0 → wp_X7_code_98 p1 p2 p3 post r0 sh) ∧ (¬ v16 = 0 → wp_X2_hasLetters (sh k12) ((sh k12).1 1) (fun v18 => (v18 = 0 → wp_X7_code_98 p1 p2 p3 post r0 sh) ∧ (¬ v18 = 0 → ((1 : Int32) ≤ ((sh k12).1 1) → ∃ n : Nat, wp_X7_code_124 p1 p2 p3 post n r0 sh k11 k12 (0 : Int32)) ∧ (¬ (1 : Int32) ≤ ((sh k12).1 1) → wp_X7_refuse r0 (-5 : Int32) (fun v27 s28 => post v27 s28 sh)))))))))) ∧ (¬ v9 = 0 → wp_X7_refuse r0 v9 (fun v29 s30 => post v29 s30 sh)))) ∧ (¬ p3 ≤ (40 : Int32) → wp_X7_code_24 p1 p2 p3 post r0 sh))))))
set_option maxHeartbeats 4000000 in
set_option maxRecDepth 100000 in
theorem t_X7_code_24 {p : Program} {l : Launch} {e : Env} {s : State} {m : MethodId} {args : Array Value} {below : List Frame} {meth : Method} {c : Code} {D : va_G} {K : Nat → ClassId} {h0 : Nat} {a0 : Nat → Nat} {hs : Nat → Nat} {as : Nat → Nat → Nat} {p1 : Int32} {p2 : Int32} {p3 : Int32} {post : Int32 → (zS) → (Nat → zS) → Prop} {A : Nat → Prop} (C : xC p s m args meth c cX7_code RX7 8 (some .int) D vwCl (xty K)) (hA : ∀ q, s.heap.size ≤ q → A q) : ∀ (r0 : zS) (sh : Nat → zS) (H : Heap) (locs : List Loc) (ls : Array Slot), lv_has ls 8 [(0, .ref h0)] → va_P D vwCl (wX7 K h0 a0 hs r0 ++ (wPl K hs as sh ++ (([] : va_W)))) H → va_D A (wX7 K h0 a0 hs r0 ++ (wPl K hs as sh ++ (([] : va_W)))) → va_S A s.heap H locs → wp_X7_code_24 p1 p2 p3 post r0 sh → W p l e ({ frames := 2, cells := 0, slots := 0, locals := 45 } : Room) s m args below meth c H locs 0 0 (MQ below (va_Qi (fun r (u : (zS) × (Nat → zS)) => post r u.1 u.2) (fun (u : (zS) × (Nat → zS)) t => va_P D vwCl (wX7 K h0 a0 hs u.1 ++ (wPl K hs as u.2 ++ (([] : va_W)))) t.heap) A) args s 0 0 A) (F0 m 24 ls []) := by
  obtain ⟨hx, hb, hr, hml, hown, hts, hlocks, hK, hT⟩ := id C
  intro r0 sh H locs ls hl hP hD hS h
  unfold wp_X7_code_24 at h
  refine lv_aload_n hx hb dX7_code_24 rfl (lv_at hl 0 rfl) ?_
  refine lv_bipush (v := -2) hx hb dX7_code_25 (by decide) ?_
  refine xend_rw_i (wf := fun (u : (zS)) => (wX7 K h0 a0 hs u)) (xRunV (wc := (wX7 K h0 a0 hs r0)) (As := [.int (-2 : Int32)]) (rest := []) C (c_X7_refuse h) k_X7_refuse mw_147 ⟨rfl, rfl⟩ ⟨Nat.le_of_ble_eq_true rfl, Nat.le_of_ble_eq_true rfl⟩ hP hD [0, 1, 2] rfl rfl rfl rfl hl rfl rfl (Nat.le_of_ble_eq_true rfl) dX7_code_27 ⟨Nat.le_refl _, Nat.le_refl _⟩) hP hD hS hA [0, 1, 2] rfl rfl (fun _ => rfl) (fun v3 s4 H locs h hP hD hS => ?_)
  replace hP : va_P D vwCl (wX7 K h0 a0 hs s4 ++ (wPl K hs as sh ++ (([] : va_W)))) H := hP
  replace hD : va_D A (wX7 K h0 a0 hs s4 ++ (wPl K hs as sh ++ (([] : va_W)))) := hD
  exact xrw_i C (s4, sh) h hP hS dX7_code_30
set_option maxHeartbeats 4000000 in
set_option maxRecDepth 100000 in
theorem t_X7_code_98 {p : Program} {l : Launch} {e : Env} {s : State} {m : MethodId} {args : Array Value} {below : List Frame} {meth : Method} {c : Code} {D : va_G} {K : Nat → ClassId} {h0 : Nat} {a0 : Nat → Nat} {hs : Nat → Nat} {as : Nat → Nat → Nat} {p1 : Int32} {p2 : Int32} {p3 : Int32} {post : Int32 → (zS) → (Nat → zS) → Prop} {A : Nat → Prop} (C : xC p s m args meth c cX7_code RX7 8 (some .int) D vwCl (xty K)) (hA : ∀ q, s.heap.size ≤ q → A q) : ∀ (r0 : zS) (sh : Nat → zS) (H : Heap) (locs : List Loc) (ls : Array Slot), lv_has ls 8 [(0, .ref h0)] → va_P D vwCl (wX7 K h0 a0 hs r0 ++ (wPl K hs as sh ++ (([] : va_W)))) H → va_D A (wX7 K h0 a0 hs r0 ++ (wPl K hs as sh ++ (([] : va_W)))) → va_S A s.heap H locs → wp_X7_code_98 p1 p2 p3 post r0 sh → W p l e ({ frames := 2, cells := 0, slots := 0, locals := 45 } : Room) s m args below meth c H locs 0 0 (MQ below (va_Qi (fun r (u : (zS) × (Nat → zS)) => post r u.1 u.2) (fun (u : (zS) × (Nat → zS)) t => va_P D vwCl (wX7 K h0 a0 hs u.1 ++ (wPl K hs as u.2 ++ (([] : va_W)))) t.heap) A) args s 0 0 A) (F0 m 98 ls []) := by
  obtain ⟨hx, hb, hr, hml, hown, hts, hlocks, hK, hT⟩ := id C
  intro r0 sh H locs ls hl hP hD hS h
  unfold wp_X7_code_98 at h
  refine lv_aload_n hx hb dX7_code_98 rfl (lv_at hl 0 rfl) ?_
  refine lv_bipush (v := -2) hx hb dX7_code_99 (by decide) ?_
  refine xend_rw_i (wf := fun (u : (zS)) => (wX7 K h0 a0 hs u)) (xRunV (wc := (wX7 K h0 a0 hs r0)) (As := [.int (-2 : Int32)]) (rest := []) C (c_X7_refuse h) k_X7_refuse mw_147 ⟨rfl, rfl⟩ ⟨Nat.le_of_ble_eq_true rfl, Nat.le_of_ble_eq_true rfl⟩ hP hD [0, 1, 2] rfl rfl rfl rfl hl rfl rfl (Nat.le_of_ble_eq_true rfl) dX7_code_101 ⟨Nat.le_refl _, Nat.le_refl _⟩) hP hD hS hA [0, 1, 2] rfl rfl (fun _ => rfl) (fun v14 s15 H locs h hP hD hS => ?_)
  replace hP : va_P D vwCl (wX7 K h0 a0 hs s15 ++ (wPl K hs as sh ++ (([] : va_W)))) H := hP
  replace hD : va_D A (wX7 K h0 a0 hs s15 ++ (wPl K hs as sh ++ (([] : va_W)))) := hD
  exact xrw_i C (s15, sh) h hP hS dX7_code_104
set_option maxHeartbeats 4000000 in
set_option maxRecDepth 100000 in
theorem t_X7_code_124 {p : Program} {l : Launch} {e : Env} {s : State} {m : MethodId} {args : Array Value} {below : List Frame} {meth : Method} {c : Code} {D : va_G} {K : Nat → ClassId} {h0 : Nat} {a0 : Nat → Nat} {hs : Nat → Nat} {as : Nat → Nat → Nat} {p1 : Int32} {p2 : Int32} {p3 : Int32} {post : Int32 → (zS) → (Nat → zS) → Prop} {A : Nat → Prop} (C : xC p s m args meth c cX7_code RX7 8 (some .int) D vwCl (xty K)) (hA : ∀ q, s.heap.size ≤ q → A q) : ∀ (n : Nat) (r0 : zS) (sh : Nat → zS) (x5 : Nat) (x6 : Nat) (x7 : Int32) (H : Heap) (locs : List Loc) (ls : Array Slot), x5 < 8 → x6 < 8 → lv_has ls 8 [(3, .int p3), (5, .ref (hs x5)), (6, .ref (hs x6)), (7, .int x7)] → va_P D vwCl (wX7 K h0 a0 hs r0 ++ (wPl K hs as sh ++ (([] : va_W)))) H → va_D A (wX7 K h0 a0 hs r0 ++ (wPl K hs as sh ++ (([] : va_W)))) → va_S A s.heap H locs → wp_X7_code_124 p1 p2 p3 post n r0 sh x5 x6 x7 → W p l e ({ frames := 2, cells := 0, slots := 0, locals := 45 } : Room) s m args below meth c H locs 0 0 (MQ below (va_Qi (fun r (u : (zS) × (Nat → zS)) => post r u.1 u.2) (fun (u : (zS) × (Nat → zS)) t => va_P D vwCl (wX7 K h0 a0 hs u.1 ++ (wPl K hs as u.2 ++ (([] : va_W)))) t.heap) A) args s 0 0 A) (F0 m 124 ls []) := by
  obtain ⟨hx, hb, hr, hml, hown, hts, hlocks, hK, hT⟩ := id C
  intro n
  induction n with
  | zero =>
    intro r0 sh x5 x6 x7 H locs ls hi5 hi6 hl hP hD hS h
    exact False.elim h
  | succ n ihn =>
    intro r0 sh x5 x6 x7 H locs ls hi5 hi6 hl hP hD hS h
    rw [wu_X7_code_124] at h
    unfold wb_X7_code_124 at h
    refine lv_iload hx hb dX7_code_124 (lv_at hl 3 rfl) ?_
    refine lv_iload_n hx hb dX7_code_126 rfl (lv_at hl 0 rfl) ?_
    refine lv_icmp_ge (tgt := 168) hx hb dX7_code_127 (by decide) (fun c21 => ?_) (fun c21 => ?_)
    · replace h := And.left h c21
      refine lv_iload_n hx hb dX7_code_168 rfl (lv_at hl 0 rfl) ?_
      exact xrw_i C (r0, sh) h hP hS dX7_code_169
    · replace h := And.right h c21
      refine lv_aload hx hb dX7_code_130 (lv_at hl 1 rfl) ?_
      refine lv_iload hx hb dX7_code_132 (lv_at hl 3 rfl) ?_
      refine lv_aload hx hb dX7_code_134 (lv_at hl 1 rfl) ?_
      refine lv_iload hx hb dX7_code_136 (lv_at hl 3 rfl) ?_
      refine xend_ro_l (xRunV (wc := (wX2 K (hs x5) (as x5) (sh x5))) (As := [.int x7]) (rest := [.int x7, .ref (hs x5)]) C (c_X2_cell h) k_X2_cell mw_230 ⟨rfl, rfl⟩ ⟨Nat.le_of_ble_eq_true rfl, Nat.le_of_ble_eq_true rfl⟩ hP hD [3 + 2 * x5, 4 + 2 * x5] (wPl_C hi5) (xnd2 _) rfl rfl hl rfl rfl (Nat.le_of_ble_eq_true rfl) dX7_code_138 ⟨Nat.le_refl _, Nat.le_refl _⟩) (fun v22 h => ?_)
      refine lv_aload hx hb dX7_code_141 (lv_at hl 2 rfl) ?_
      refine lv_iload hx hb dX7_code_143 (lv_at hl 3 rfl) ?_
      refine lv_aload hx hb dX7_code_145 (lv_at hl 2 rfl) ?_
      refine va_get (D := D) (ci := 2) (v := .int ((sh x6).1 1)) (C := RX2) (T := TX2) (N := 3) hx hb hts inlX2 hown hK hP (3 + 2 * x6) (wPl_obj hi6) rfl 1 (by decide) (hts (.fieldLink RX7 95 "UnderTheDesks$Shelf" "size" "I") mw_173) (fun _ h9 => h9) rfl dX7_code_147 ?_
      have hne := And.left h
      replace h := And.right h
      refine lv_irem hx hb dX7_code_150 hne ?_
      refine xend_ro_l (xRunV (wc := (wX2 K (hs x6) (as x6) (sh x6))) (As := [.int (x7 - x7 / ((sh x6).1 1) * ((sh x6).1 1))]) (rest := [.long v22, .int x7, .ref (hs x5)]) C (c_X2_cell h) k_X2_cell mw_230 ⟨rfl, rfl⟩ ⟨Nat.le_of_ble_eq_true rfl, Nat.le_of_ble_eq_true rfl⟩ hP hD [3 + 2 * x6, 4 + 2 * x6] (wPl_C hi6) (xnd2 _) rfl rfl hl rfl rfl (Nat.le_of_ble_eq_true rfl) dX7_code_151 ⟨Nat.le_refl _, Nat.le_refl _⟩) (fun v23 h => ?_)
      refine lv_ladd hx hb dX7_code_154 ?_
      refine lv_ldc2 hx hb hown (hts _ mw_1090) dX7_code_155 ?_
      refine lv_lrem hx hb dX7_code_158 (by decide) ?_
      refine xend_rw_v (wf := fun (u : (zS)) => (wX2 K (hs x5) (as x5) u)) (xRunV (wc := (wX2 K (hs x5) (as x5) (sh x5))) (As := [.int x7, .long ((v22 + v23) - (v22 + v23) / (26 : Int64) * (26 : Int64))]) (rest := []) C (c_X2_put h) k_X2_put mw_190 ⟨rfl, rfl⟩ ⟨Nat.le_of_ble_eq_true rfl, Nat.le_of_ble_eq_true rfl⟩ hP hD [3 + 2 * x5, 4 + 2 * x5] (wPl_C hi5) (xnd2 _) rfl rfl hl rfl rfl (Nat.le_of_ble_eq_true rfl) dX7_code_159 ⟨Nat.le_refl _, Nat.le_refl _⟩) hP hD hS hA [3 + 2 * x5, 4 + 2 * x5] (wPl_C hi5) (xnd2 _) (fun _ => rfl) (fun s25 H locs h hP hD hS => ?_)
      rw [wPl_set hi5] at hP hD
      replace hP : va_P D vwCl (wX7 K h0 a0 hs r0 ++ (wPl K hs as (va_up sh x5 s25) ++ (([] : va_W)))) H := hP
      replace hD : va_D A (wX7 K h0 a0 hs r0 ++ (wPl K hs as (va_up sh x5 s25) ++ (([] : va_W)))) := hD
      obtain ⟨v26, ev26⟩ : ∃ y : Int32, y = x7 + (1 : Int32) := ⟨_, rfl⟩
      replace h := h v26 ev26
      refine lv_iinc (v := v26) (lv' := [(7, .int v26), (3, .int p3), (5, .ref (hs x5)), (6, .ref (hs x6))]) hx hb dX7_code_162 hl (k := 3) rfl (by rw [ev26]; rfl) (by decide) rfl (fun ls hl => ?_)
      refine lv_goto (tgt := 124) hx hb dX7_code_165 (by decide) ?_
      exact ihn _ _ _ _ _ _ _ _ hi5 hi6 (lv_sub hl [1, 2, 3, 0] rfl) hP hD hS h
set_option maxHeartbeats 4000000 in
set_option maxRecDepth 100000 in
theorem c_X7_code {l : Launch} {D : va_G} {K : Nat → ClassId} {h0 : Nat} {a0 : Nat → Nat} {hs : Nat → Nat} {r0 : zS} {as : Nat → Nat → Nat} {sh : Nat → zS} {p1 : Int32} {p2 : Int32} {p3 : Int32} {sz : Nat} {post : Int32 → (zS) → (Nat → zS) → Prop}   (h : wp_X7_code r0 sh p1 p2 p3 post) : Met l yX7_code (Cond.code yX7_code cX7_code 8 (some .int) :: wsL_law) ({ frames := 2, cells := 0, slots := 0, locals := 45 } : Room) (va_Pc [.ref h0, .int p1, .int p2, .int p3] (xPre D vwCl (xty K) (wX7 K h0 a0 hs r0 ++ (wPl K hs as sh ++ (([] : va_W)))) sz)) (va_Qi (fun r (u : (zS) × (Nat → zS)) => post r u.1 u.2) (fun (u : (zS) × (Nat → zS)) t => va_P D vwCl (wX7 K h0 a0 hs u.1 ++ (wPl K hs as u.2 ++ (([] : va_W)))) t.heap) (va_A (wX7 K h0 a0 hs r0 ++ (wPl K hs as sh ++ (([] : va_W)))) sz)) 0 0 (va_A (wX7 K h0 a0 hs r0 ++ (wPl K hs as sh ++ (([] : va_W)))) sz) := by
  refine xMet (by decide) rfl (Nat.le_of_ble_eq_true rfl) (fun p e s m args below meth c C hnm hP hD hsz ls hl => ?_)
  have hl : lv_has ls 8 [(0, .ref h0), (1, .int p1), (2, .int p2), (3, .int p3)] := hl
  obtain ⟨hx, hb, hr, hml, hown, hts, hlocks, hK, hT⟩ := id C
  subst hsz
  generalize hAe : va_A (wX7 K h0 a0 hs r0 ++ (wPl K hs as sh ++ (([] : va_W)))) s.heap.size = A at hD ⊢
  have hA : ∀ q : Nat, s.heap.size ≤ q → A q := fun q h => by rw [← hAe]; exact Or.inr h
  have hS : va_S A s.heap s.heap [] := va_S.rf
  have hP : va_P D vwCl (wX7 K h0 a0 hs r0 ++ (wPl K hs as sh ++ (([] : va_W)))) s.heap := hP
  unfold wp_X7_code at h
  refine lv_iload_n hx hb dX7_code_0 rfl (lv_at hl 1 rfl) ?_
  refine xend_ro_i (xRunS (wc := ([] : va_W)) (As := [.int p1]) (rest := []) C (c_X7_isShelf h) k_X7_isShelf mw_144 ⟨rfl, rfl⟩ ⟨Nat.le_of_ble_eq_true rfl, Nat.le_of_ble_eq_true rfl⟩ hP hD [] rfl rfl hl rfl rfl (Nat.le_of_ble_eq_true rfl) dX7_code_1 ⟨Nat.le_refl _, Nat.le_refl _⟩) (fun v1 h => ?_)
  refine lv_if_eq (tgt := 24) hx hb dX7_code_4 (by decide) (fun c2 => ?_) (fun c2 => ?_)
  · replace h := And.left h c2
    exact t_X7_code_24 C hA _ _ _ _ _ (lv_sub hl [0] rfl) hP hD hS h
  · replace h := And.right h c2
    refine lv_iload_n hx hb dX7_code_7 rfl (lv_at hl 2 rfl) ?_
    refine xend_ro_i (xRunS (wc := ([] : va_W)) (As := [.int p2]) (rest := []) C (c_X7_isShelf h) k_X7_isShelf mw_144 ⟨rfl, rfl⟩ ⟨Nat.le_of_ble_eq_true rfl, Nat.le_of_ble_eq_true rfl⟩ hP hD [] rfl rfl hl rfl rfl (Nat.le_of_ble_eq_true rfl) dX7_code_8 ⟨Nat.le_refl _, Nat.le_refl _⟩) (fun v5 h => ?_)
    refine lv_if_eq (tgt := 24) hx hb dX7_code_11 (by decide) (fun c6 => ?_) (fun c6 => ?_)
    · replace h := And.left h c6
      exact t_X7_code_24 C hA _ _ _ _ _ (lv_sub hl [0] rfl) hP hD hS h
    · replace h := And.right h c6
      refine lv_iload_n hx hb dX7_code_14 rfl (lv_at hl 3 rfl) ?_
      refine lv_if_lt (tgt := 24) hx hb dX7_code_15 (by decide) (fun c7 => ?_) (fun c7 => ?_)
      · replace h := And.left h c7
        exact t_X7_code_24 C hA _ _ _ _ _ (lv_sub hl [0] rfl) hP hD hS h
      · replace h := And.right h c7
        refine lv_iload_n hx hb dX7_code_18 rfl (lv_at hl 3 rfl) ?_
        refine lv_bipush (v := 40) hx hb dX7_code_19 (by decide) ?_
        refine lv_icmp_le (tgt := 31) hx hb dX7_code_21 (by decide) (fun c8 => ?_) (fun c8 => ?_)
        · replace h := And.left h c8
          refine lv_aload_n hx hb dX7_code_31 rfl (lv_at hl 0 rfl) ?_
          refine lv_iload_n hx hb dX7_code_32 rfl (lv_at hl 1 rfl) ?_
          refine lv_iload_n hx hb dX7_code_33 rfl (lv_at hl 2 rfl) ?_
          refine xend_ro_i (xRunV_id (As := [.int p1, .int p2]) (rest := []) C (c_X7_rowsFault h) k_X7_rowsFault mw_178 ⟨rfl, rfl⟩ ⟨Nat.le_of_ble_eq_true rfl, Nat.le_of_ble_eq_true rfl⟩ hP hD rfl rfl hl rfl rfl (Nat.le_of_ble_eq_true rfl) dX7_code_34 ⟨Nat.le_refl _, Nat.le_refl _⟩) (fun v9 h => ?_)
          refine lv_istore (lv' := [(4, .int v9), (0, .ref h0), (1, .int p1), (2, .int p2), (3, .int p3)]) hx hb dX7_code_37 hl (by decide) rfl (fun ls hl => ?_)
          refine lv_iload hx hb dX7_code_39 (lv_at hl 0 rfl) ?_
          refine lv_if_eq (tgt := 51) hx hb dX7_code_41 (by decide) (fun c10 => ?_) (fun c10 => ?_)
          · replace h := And.left h c10
            refine lv_aload_n hx hb dX7_code_51 rfl (lv_at hl 1 rfl) ?_
            refine va_get (D := D) (ci := 7) (v := .ref (a0 6)) (C := RX7) (T := TX7) (N := 13) hx hb hts inlX7 hown hK hP 0 rfl rfl 6 (by decide) (hts (.fieldLink RX7 38 "UnderTheDesks" "shelves" "[LUnderTheDesks$Shelf;") mw_26) (fun _ h9 => h9) rfl dX7_code_52 ?_
            refine lv_iload_n hx hb dX7_code_55 rfl (lv_at hl 2 rfl) ?_
            have hin := And.left h
            obtain ⟨k11, ek11⟩ : ∃ j : Nat, j = p1.toNatClampNeg := ⟨_, rfl⟩
            replace h := And.right h k11 ek11
            have hk11 : k11 < 8 := by rw [ek11]; exact Nat.not_le.mp (fun q => hin (Or.inr q))
            refine xaldq hx hb hK hP 1 2 rfl rfl hin ek11 dX7_code_56 ?_
            refine lv_astore (lv' := [(5, .ref (hs k11)), (4, .int v9), (0, .ref h0), (1, .int p1), (2, .int p2), (3, .int p3)]) hx hb dX7_code_57 hl (by decide) rfl (fun ls hl => ?_)
            refine lv_aload_n hx hb dX7_code_59 rfl (lv_at hl 2 rfl) ?_
            refine va_get (D := D) (ci := 7) (v := .ref (a0 6)) (C := RX7) (T := TX7) (N := 13) hx hb hts inlX7 hown hK hP 0 rfl rfl 6 (by decide) (hts (.fieldLink RX7 38 "UnderTheDesks" "shelves" "[LUnderTheDesks$Shelf;") mw_26) (fun _ h9 => h9) rfl dX7_code_60 ?_
            refine lv_iload_n hx hb dX7_code_63 rfl (lv_at hl 4 rfl) ?_
            have hin := And.left h
            obtain ⟨k12, ek12⟩ : ∃ j : Nat, j = p2.toNatClampNeg := ⟨_, rfl⟩
            replace h := And.right h k12 ek12
            have hk12 : k12 < 8 := by rw [ek12]; exact Nat.not_le.mp (fun q => hin (Or.inr q))
            refine xaldq hx hb hK hP 1 2 rfl rfl hin ek12 dX7_code_64 ?_
            refine lv_astore (lv' := [(6, .ref (hs k12)), (5, .ref (hs k11)), (4, .int v9), (0, .ref h0), (1, .int p1), (2, .int p2), (3, .int p3)]) hx hb dX7_code_65 hl (by decide) rfl (fun ls hl => ?_)
            refine lv_iload_n hx hb dX7_code_67 rfl (lv_at hl 6 rfl) ?_
            refine lv_aload hx hb dX7_code_68 (lv_at hl 1 rfl) ?_
            refine va_get (D := D) (ci := 2) (v := .int ((sh k11).1 1)) (C := RX2) (T := TX2) (N := 3) hx hb hts inlX2 hown hK hP (3 + 2 * k11) (wPl_obj hk11) rfl 1 (by decide) (hts (.fieldLink RX7 95 "UnderTheDesks$Shelf" "size" "I") mw_173) (fun _ h9 => h9) rfl dX7_code_70 ?_
            refine lv_icmp_gt (tgt := 98) hx hb dX7_code_73 (by decide) (fun c13 => ?_) (fun c13 => ?_)
            · replace h := And.left h c13
              exact t_X7_code_98 C hA _ _ _ _ _ (lv_sub hl [3] rfl) hP hD hS h
            · replace h := And.right h c13
              refine lv_aload hx hb dX7_code_76 (lv_at hl 1 rfl) ?_
              refine lv_iload_n hx hb dX7_code_78 rfl (lv_at hl 6 rfl) ?_
              refine xend_ro_i (xRunV (wc := (wX2 K (hs k11) (as k11) (sh k11))) (As := [.int p3]) (rest := []) C (c_X2_hasLetters h) k_X2_hasLetters mw_1091 ⟨rfl, rfl⟩ ⟨Nat.le_of_ble_eq_true rfl, Nat.le_of_ble_eq_true rfl⟩ hP hD [3 + 2 * k11, 4 + 2 * k11] (wPl_C hk11) (xnd2 _) rfl rfl hl rfl rfl (Nat.le_of_ble_eq_true rfl) dX7_code_79 ⟨Nat.le_refl _, Nat.le_refl _⟩) (fun v16 h => ?_)
              refine lv_if_eq (tgt := 98) hx hb dX7_code_82 (by decide) (fun c17 => ?_) (fun c17 => ?_)
              · replace h := And.left h c17
                exact t_X7_code_98 C hA _ _ _ _ _ (lv_sub hl [3] rfl) hP hD hS h
              · replace h := And.right h c17
                refine lv_aload hx hb dX7_code_85 (lv_at hl 0 rfl) ?_
                refine lv_aload hx hb dX7_code_87 (lv_at hl 0 rfl) ?_
                refine va_get (D := D) (ci := 2) (v := .int ((sh k12).1 1)) (C := RX2) (T := TX2) (N := 3) hx hb hts inlX2 hown hK hP (3 + 2 * k12) (wPl_obj hk12) rfl 1 (by decide) (hts (.fieldLink RX7 95 "UnderTheDesks$Shelf" "size" "I") mw_173) (fun _ h9 => h9) rfl dX7_code_89 ?_
                refine xend_ro_i (xRunV (wc := (wX2 K (hs k12) (as k12) (sh k12))) (As := [.int ((sh k12).1 1)]) (rest := []) C (c_X2_hasLetters h) k_X2_hasLetters mw_1091 ⟨rfl, rfl⟩ ⟨Nat.le_of_ble_eq_true rfl, Nat.le_of_ble_eq_true rfl⟩ hP hD [3 + 2 * k12, 4 + 2 * k12] (wPl_C hk12) (xnd2 _) rfl rfl hl rfl rfl (Nat.le_of_ble_eq_true rfl) dX7_code_92 ⟨Nat.le_refl _, Nat.le_refl _⟩) (fun v18 h => ?_)
                refine lv_if_ne (tgt := 105) hx hb dX7_code_95 (by decide) (fun c19 => ?_) (fun c19 => ?_)
                · replace h := And.right h c19
                  refine lv_aload hx hb dX7_code_105 (lv_at hl 0 rfl) ?_
                  refine va_get (D := D) (ci := 2) (v := .int ((sh k12).1 1)) (C := RX2) (T := TX2) (N := 3) hx hb hts inlX2 hown hK hP (3 + 2 * k12) (wPl_obj hk12) rfl 1 (by decide) (hts (.fieldLink RX7 95 "UnderTheDesks$Shelf" "size" "I") mw_173) (fun _ h9 => h9) rfl dX7_code_107 ?_
                  refine lv_iconst (v := 1) hx hb dX7_code_110 (by decide) ?_
                  refine lv_icmp_ge (tgt := 121) hx hb dX7_code_111 (by decide) (fun c20 => ?_) (fun c20 => ?_)
                  · replace h := And.left h c20
                    refine lv_iconst (v := 0) hx hb dX7_code_121 (by decide) ?_
                    refine lv_istore (lv' := [(7, .int (0 : Int32)), (6, .ref (hs k12)), (5, .ref (hs k11)), (4, .int v9), (0, .ref h0), (1, .int p1), (2, .int p2), (3, .int p3)]) hx hb dX7_code_122 hl (by decide) rfl (fun ls hl => ?_)
                    obtain ⟨n0, h⟩ := h
                    exact t_X7_code_124 C hA n0 _ _ _ _ _ _ _ _ hk11 hk12 (lv_sub hl [7, 2, 1, 0] rfl) hP hD hS h
                  · replace h := And.right h c20
                    refine lv_aload_n hx hb dX7_code_114 rfl (lv_at hl 3 rfl) ?_
                    refine lv_bipush (v := -5) hx hb dX7_code_115 (by decide) ?_
                    refine xend_rw_i (wf := fun (u : (zS)) => (wX7 K h0 a0 hs u)) (xRunV (wc := (wX7 K h0 a0 hs r0)) (As := [.int (-5 : Int32)]) (rest := []) C (c_X7_refuse h) k_X7_refuse mw_147 ⟨rfl, rfl⟩ ⟨Nat.le_of_ble_eq_true rfl, Nat.le_of_ble_eq_true rfl⟩ hP hD [0, 1, 2] rfl rfl rfl rfl hl rfl rfl (Nat.le_of_ble_eq_true rfl) dX7_code_117 ⟨Nat.le_refl _, Nat.le_refl _⟩) hP hD hS hA [0, 1, 2] rfl rfl (fun _ => rfl) (fun v27 s28 H locs h hP hD hS => ?_)
                    replace hP : va_P D vwCl (wX7 K h0 a0 hs s28 ++ (wPl K hs as sh ++ (([] : va_W)))) H := hP
                    replace hD : va_D A (wX7 K h0 a0 hs s28 ++ (wPl K hs as sh ++ (([] : va_W)))) := hD
                    exact xrw_i C (s28, sh) h hP hS dX7_code_120
                · replace h := And.left h c19
                  exact t_X7_code_98 C hA _ _ _ _ _ (lv_sub hl [3] rfl) hP hD hS h
          · replace h := And.right h c10
            refine lv_aload_n hx hb dX7_code_44 rfl (lv_at hl 1 rfl) ?_
            refine lv_iload hx hb dX7_code_45 (lv_at hl 0 rfl) ?_
            refine xend_rw_i (wf := fun (u : (zS)) => (wX7 K h0 a0 hs u)) (xRunV (wc := (wX7 K h0 a0 hs r0)) (As := [.int v9]) (rest := []) C (c_X7_refuse h) k_X7_refuse mw_147 ⟨rfl, rfl⟩ ⟨Nat.le_of_ble_eq_true rfl, Nat.le_of_ble_eq_true rfl⟩ hP hD [0, 1, 2] rfl rfl rfl rfl hl rfl rfl (Nat.le_of_ble_eq_true rfl) dX7_code_47 ⟨Nat.le_refl _, Nat.le_refl _⟩) hP hD hS hA [0, 1, 2] rfl rfl (fun _ => rfl) (fun v29 s30 H locs h hP hD hS => ?_)
            replace hP : va_P D vwCl (wX7 K h0 a0 hs s30 ++ (wPl K hs as sh ++ (([] : va_W)))) H := hP
            replace hD : va_D A (wX7 K h0 a0 hs s30 ++ (wPl K hs as sh ++ (([] : va_W)))) := hD
            exact xrw_i C (s30, sh) h hP hS dX7_code_50
        · replace h := And.right h c8
          exact t_X7_code_24 C hA _ _ _ _ _ (lv_sub hl [0] rfl) hP hD hS h

def wb_X7_keyWouldDo_3 (r0 : zS) (sh : Nat → zS) (p0 : Nat) (p1 : Nat) (p2 : Int32) (p3 : Int32) (post : Int32 → Prop) (ih : Int32 → Prop) (x4 : Int32) : Prop :=
  (p2 ≤ x4 → post (1 : Int32) ) ∧ (¬ p2 ≤ x4 → wp_X2_cell (sh p1) x4 (fun v2 => wp_X2_cell (sh p0) x4 (fun v3 => ∀ v4 : Int64, v4 = (v2 - v3) → wp_X2_cell (sh p1) (x4 - p3) (fun v5 => wp_X2_cell (sh p0) (x4 - p3) (fun v6 => ∀ v7 : Int64, v7 = (v5 - v6) → ((lg_cmp ((v4 - v7) - (v4 - v7) / (26 : Int64) * (26 : Int64)) (0 : Int64)) = 0 → ∀ v9 : Int32, v9 = x4 + (1 : Int32) → ih v9) ∧ (¬ (lg_cmp ((v4 - v7) - (v4 - v7) / (26 : Int64) * (26 : Int64)) (0 : Int64)) = 0 → post (0 : Int32) ))))))
def wp_X7_keyWouldDo_3 (r0 : zS) (sh : Nat → zS) (p0 : Nat) (p1 : Nat) (p2 : Int32) (p3 : Int32) (post : Int32 → Prop) (n : Nat) : Int32 → Prop := Nat.rec (motive := fun _ => Int32 → Prop) (fun _ => False) (fun _ ih => wb_X7_keyWouldDo_3 r0 sh p0 p1 p2 p3 post ih) n
theorem wu_X7_keyWouldDo_3 (r0 : zS) (sh : Nat → zS) (p0 : Nat) (p1 : Nat) (p2 : Int32) (p3 : Int32) (post : Int32 → Prop) (n : Nat) (x4 : Int32) : wp_X7_keyWouldDo_3 r0 sh p0 p1 p2 p3 post (n + 1) x4 = wb_X7_keyWouldDo_3 r0 sh p0 p1 p2 p3 post (wp_X7_keyWouldDo_3 r0 sh p0 p1 p2 p3 post n) x4 := rfl
def wp_X7_keyWouldDo (r0 : zS) (sh : Nat → zS) (p0 : Nat) (p1 : Nat) (p2 : Int32) (p3 : Int32) (post : Int32 → Prop) : Prop :=
  ∃ n : Nat, wp_X7_keyWouldDo_3 r0 sh p0 p1 p2 p3 post n p3
set_option maxHeartbeats 4000000 in
set_option maxRecDepth 100000 in
theorem t_X7_keyWouldDo_3 {p : Program} {l : Launch} {e : Env} {s : State} {m : MethodId} {args : Array Value} {below : List Frame} {meth : Method} {c : Code} {D : va_G} {K : Nat → ClassId} {h0 : Nat} {a0 : Nat → Nat} {hs : Nat → Nat} {r0 : zS} {as : Nat → Nat → Nat} {sh : Nat → zS} {p0 : Nat} {p1 : Nat} {p2 : Int32} {p3 : Int32} {post : Int32 → Prop} (C : xC p s m args meth c cX7_keyWouldDo RX7 9 (some .boolean) D vwCl (xty K)) (hr0 : p0 < 8) (hr1 : p1 < 8) (hP : va_P D vwCl (wX7 K h0 a0 hs r0 ++ (wPl K hs as sh ++ (([] : va_W)))) s.heap) (hD : va_D (va_A (wX7 K h0 a0 hs r0 ++ (wPl K hs as sh ++ (([] : va_W)))) s.heap.size) (wX7 K h0 a0 hs r0 ++ (wPl K hs as sh ++ (([] : va_W))))) : ∀ (n : Nat) (x4 : Int32) (ls : Array Slot), lv_has ls 9 [(0, .ref (hs p0)), (1, .ref (hs p1)), (2, .int p2), (3, .int p3), (4, .int x4)] → wp_X7_keyWouldDo_3 r0 sh p0 p1 p2 p3 post n x4 → W p l e ({ frames := 1, cells := 0, slots := 0, locals := 21 } : Room) s m args below meth c s.heap [] 0 0 (MQ below (roI post) args s 0 0 (fun _ => False)) (F0 m 3 ls []) := by
  obtain ⟨hx, hb, hr, hml, hown, hts, hlocks, hK, hT⟩ := id C
  intro n
  induction n with
  | zero =>
    intro x4 ls hl h
    exact False.elim h
  | succ n ihn =>
    intro x4 ls hl h
    rw [wu_X7_keyWouldDo_3] at h
    unfold wb_X7_keyWouldDo_3 at h
    refine lv_iload hx hb dX7_keyWouldDo_3 (lv_at hl 4 rfl) ?_
    refine lv_iload_n hx hb dX7_keyWouldDo_5 rfl (lv_at hl 2 rfl) ?_
    refine lv_icmp_ge (tgt := 65) hx hb dX7_keyWouldDo_6 (by decide) (fun c1 => ?_) (fun c1 => ?_)
    · replace h := And.left h c1
      refine lv_iconst (v := 1) hx hb dX7_keyWouldDo_65 (by decide) ?_
      exact xro_z C rfl h dX7_keyWouldDo_66
    · replace h := And.right h c1
      refine lv_aload_n hx hb dX7_keyWouldDo_9 rfl (lv_at hl 1 rfl) ?_
      refine lv_iload hx hb dX7_keyWouldDo_10 (lv_at hl 4 rfl) ?_
      refine xend_ro_l (xRunV (wc := (wX2 K (hs p1) (as p1) (sh p1))) (As := [.int x4]) (rest := []) C (c_X2_cell h) k_X2_cell mw_230 ⟨rfl, rfl⟩ ⟨Nat.le_of_ble_eq_true rfl, Nat.le_of_ble_eq_true rfl⟩ hP hD [3 + 2 * p1, 4 + 2 * p1] (wPl_C hr1) (xnd2 _) rfl rfl hl rfl rfl (Nat.le_of_ble_eq_true rfl) dX7_keyWouldDo_12 ⟨Nat.le_refl _, Nat.le_refl _⟩) (fun v2 h => ?_)
      refine lv_aload_n hx hb dX7_keyWouldDo_15 rfl (lv_at hl 0 rfl) ?_
      refine lv_iload hx hb dX7_keyWouldDo_16 (lv_at hl 4 rfl) ?_
      refine xend_ro_l (xRunV (wc := (wX2 K (hs p0) (as p0) (sh p0))) (As := [.int x4]) (rest := [.long v2]) C (c_X2_cell h) k_X2_cell mw_230 ⟨rfl, rfl⟩ ⟨Nat.le_of_ble_eq_true rfl, Nat.le_of_ble_eq_true rfl⟩ hP hD [3 + 2 * p0, 4 + 2 * p0] (wPl_C hr0) (xnd2 _) rfl rfl hl rfl rfl (Nat.le_of_ble_eq_true rfl) dX7_keyWouldDo_18 ⟨Nat.le_refl _, Nat.le_refl _⟩) (fun v3 h => ?_)
      refine lv_lsub hx hb dX7_keyWouldDo_21 ?_
      refine lv_topl (fun v4 ev4 => ?_)
      replace h := h v4 ev4
      refine lv_lstore (lv' := [(5, .long v4), (0, .ref (hs p0)), (1, .ref (hs p1)), (2, .int p2), (3, .int p3), (4, .int x4)]) hx hb dX7_keyWouldDo_22 hl (by decide) rfl (fun ls hl => ?_)
      refine lv_aload_n hx hb dX7_keyWouldDo_24 rfl (lv_at hl 2 rfl) ?_
      refine lv_iload hx hb dX7_keyWouldDo_25 (lv_at hl 5 rfl) ?_
      refine lv_iload_n hx hb dX7_keyWouldDo_27 rfl (lv_at hl 4 rfl) ?_
      refine lv_isub hx hb dX7_keyWouldDo_28 ?_
      refine xend_ro_l (xRunV (wc := (wX2 K (hs p1) (as p1) (sh p1))) (As := [.int (x4 - p3)]) (rest := []) C (c_X2_cell h) k_X2_cell mw_230 ⟨rfl, rfl⟩ ⟨Nat.le_of_ble_eq_true rfl, Nat.le_of_ble_eq_true rfl⟩ hP hD [3 + 2 * p1, 4 + 2 * p1] (wPl_C hr1) (xnd2 _) rfl rfl hl rfl rfl (Nat.le_of_ble_eq_true rfl) dX7_keyWouldDo_29 ⟨Nat.le_refl _, Nat.le_refl _⟩) (fun v5 h => ?_)
      refine lv_aload_n hx hb dX7_keyWouldDo_32 rfl (lv_at hl 1 rfl) ?_
      refine lv_iload hx hb dX7_keyWouldDo_33 (lv_at hl 5 rfl) ?_
      refine lv_iload_n hx hb dX7_keyWouldDo_35 rfl (lv_at hl 4 rfl) ?_
      refine lv_isub hx hb dX7_keyWouldDo_36 ?_
      refine xend_ro_l (xRunV (wc := (wX2 K (hs p0) (as p0) (sh p0))) (As := [.int (x4 - p3)]) (rest := [.long v5]) C (c_X2_cell h) k_X2_cell mw_230 ⟨rfl, rfl⟩ ⟨Nat.le_of_ble_eq_true rfl, Nat.le_of_ble_eq_true rfl⟩ hP hD [3 + 2 * p0, 4 + 2 * p0] (wPl_C hr0) (xnd2 _) rfl rfl hl rfl rfl (Nat.le_of_ble_eq_true rfl) dX7_keyWouldDo_37 ⟨Nat.le_refl _, Nat.le_refl _⟩) (fun v6 h => ?_)
      refine lv_lsub hx hb dX7_keyWouldDo_40 ?_
      refine lv_topl (fun v7 ev7 => ?_)
      replace h := h v7 ev7
      refine lv_lstore (lv' := [(7, .long v7), (5, .long v4), (0, .ref (hs p0)), (1, .ref (hs p1)), (2, .int p2), (3, .int p3), (4, .int x4)]) hx hb dX7_keyWouldDo_41 hl (by decide) rfl (fun ls hl => ?_)
      refine lv_lload hx hb dX7_keyWouldDo_43 (lv_at hl 1 rfl) ?_
      refine lv_lload hx hb dX7_keyWouldDo_45 (lv_at hl 0 rfl) ?_
      refine lv_lsub hx hb dX7_keyWouldDo_47 ?_
      refine lv_ldc2 hx hb hown (hts _ mw_1090) dX7_keyWouldDo_48 ?_
      refine lv_lrem hx hb dX7_keyWouldDo_51 (by decide) ?_
      refine lv_lconst (v := 0) hx hb dX7_keyWouldDo_52 (by decide) ?_
      refine W.lcmp hx hb dX7_keyWouldDo_53 ?_
      refine lv_if_eq (tgt := 59) hx hb dX7_keyWouldDo_54 (by decide) (fun c8 => ?_) (fun c8 => ?_)
      · replace h := And.left h c8
        obtain ⟨v9, ev9⟩ : ∃ y : Int32, y = x4 + (1 : Int32) := ⟨_, rfl⟩
        replace h := h v9 ev9
        refine lv_iinc (v := v9) (lv' := [(4, .int v9), (7, .long v7), (5, .long v4), (0, .ref (hs p0)), (1, .ref (hs p1)), (2, .int p2), (3, .int p3)]) hx hb dX7_keyWouldDo_59 hl (k := 6) rfl (by rw [ev9]; rfl) (by decide) rfl (fun ls hl => ?_)
        refine lv_goto (tgt := 3) hx hb dX7_keyWouldDo_62 (by decide) ?_
        exact ihn _ _ (lv_sub hl [3, 4, 5, 6, 0] rfl) h
      · replace h := And.right h c8
        refine lv_iconst (v := 0) hx hb dX7_keyWouldDo_57 (by decide) ?_
        exact xro_z C rfl h dX7_keyWouldDo_58
set_option maxHeartbeats 4000000 in
set_option maxRecDepth 100000 in
theorem c_X7_keyWouldDo {l : Launch} {D : va_G} {K : Nat → ClassId} {h0 : Nat} {a0 : Nat → Nat} {hs : Nat → Nat} {r0 : zS} {as : Nat → Nat → Nat} {sh : Nat → zS} {p0 : Nat} {p1 : Nat} {p2 : Int32} {p3 : Int32} {sz : Nat} {post : Int32 → Prop}  (hr0 : p0 < 8) (hr1 : p1 < 8) (h : wp_X7_keyWouldDo r0 sh p0 p1 p2 p3 post) : Met l yX7_keyWouldDo (Cond.code yX7_keyWouldDo cX7_keyWouldDo 9 (some .boolean) :: wsL_law) ({ frames := 1, cells := 0, slots := 0, locals := 21 } : Room) (va_Pc [.ref (hs p0), .ref (hs p1), .int p2, .int p3] (xPre D vwCl (xty K) (wX7 K h0 a0 hs r0 ++ (wPl K hs as sh ++ (([] : va_W)))) sz)) (roI post) 0 0 (fun _ => False) := by
  refine xMet (by decide) rfl (Nat.le_of_ble_eq_true rfl) (fun p e s m args below meth c C hnm hP hD hsz ls hl => ?_)
  have hl : lv_has ls 9 [(0, .ref (hs p0)), (1, .ref (hs p1)), (2, .int p2), (3, .int p3)] := hl
  obtain ⟨hx, hb, hr, hml, hown, hts, hlocks, hK, hT⟩ := id C
  unfold wp_X7_keyWouldDo at h
  refine lv_iload_n hx hb dX7_keyWouldDo_0 rfl (lv_at hl 3 rfl) ?_
  refine lv_istore (lv' := [(4, .int p3), (0, .ref (hs p0)), (1, .ref (hs p1)), (2, .int p2), (3, .int p3)]) hx hb dX7_keyWouldDo_1 hl (by decide) rfl (fun ls hl => ?_)
  obtain ⟨n0, h⟩ := h
  exact t_X7_keyWouldDo_3 C hr0 hr1 hP hD n0 _ _ (lv_sub hl [1, 2, 3, 4, 0] rfl) h

def wp_X7_keyLength_24 (sh : Nat → zS) (p1 : Int32) (p2 : Int32) (p3 : Int32) (post : Int32 → (zS) → Prop) (r0 : zS) : Prop :=
  wp_X7_refuse r0 (-2 : Int32) (fun v3 s4 => post v3 s4)
def wp_X7_keyLength_103 (sh : Nat → zS) (p1 : Int32) (p2 : Int32) (p3 : Int32) (post : Int32 → (zS) → Prop) (r0 : zS) : Prop :=
  wp_X7_refuse r0 (-2 : Int32) (fun v14 s15 => post v14 s15)
def wb_X7_keyLength_113 (sh : Nat → zS) (p1 : Int32) (p2 : Int32) (p3 : Int32) (post : Int32 → (zS) → Prop) (ih : (zS) → Nat → Nat → Int32 → Prop) (r0 : zS) (x5 : Nat) (x6 : Nat) (x7 : Int32) : Prop :=
  (p3 ≤ x7 → post p3 r0) ∧ (¬ p3 ≤ x7 → wp_X7_keyWouldDo r0 sh x5 x6 p3 x7 (fun v22 => (v22 = 0 → ∀ v24 : Int32, v24 = x7 + (1 : Int32) → ih r0 x5 x6 v24) ∧ (¬ v22 = 0 → post x7 r0)))
def wp_X7_keyLength_113 (sh : Nat → zS) (p1 : Int32) (p2 : Int32) (p3 : Int32) (post : Int32 → (zS) → Prop) (n : Nat) : (zS) → Nat → Nat → Int32 → Prop := Nat.rec (motive := fun _ => (zS) → Nat → Nat → Int32 → Prop) (fun _ _ _ _ => False) (fun _ ih => wb_X7_keyLength_113 sh p1 p2 p3 post ih) n
theorem wu_X7_keyLength_113 (sh : Nat → zS) (p1 : Int32) (p2 : Int32) (p3 : Int32) (post : Int32 → (zS) → Prop) (n : Nat) (r0 : zS) (x5 : Nat) (x6 : Nat) (x7 : Int32) : wp_X7_keyLength_113 sh p1 p2 p3 post (n + 1) r0 x5 x6 x7 = wb_X7_keyLength_113 sh p1 p2 p3 post (wp_X7_keyLength_113 sh p1 p2 p3 post n) r0 x5 x6 x7 := rfl
def wp_X7_keyLength (r0 : zS) (sh : Nat → zS) (p1 : Int32) (p2 : Int32) (p3 : Int32) (post : Int32 → (zS) → Prop) : Prop :=
  wp_X7_isShelf p1 (fun v1 => (v1 = 0 → wp_X7_keyLength_24 sh p1 p2 p3 post r0) ∧ (¬ v1 = 0 → wp_X7_isShelf p2 (fun v5 => (v5 = 0 → wp_X7_keyLength_24 sh p1 p2 p3 post r0) ∧ (¬ v5 = 0 → (p3 < 0 → wp_X7_keyLength_24 sh p1 p2 p3 post r0) ∧ (¬ p3 < 0 → (p3 ≤ (40 : Int32) → wp_X7_rowsFault r0 sh p1 p2 (fun v9 => (v9 = 0 → vp_in p1 8 ∧ (∀ k11 : Nat, k11 = p1.toNatClampNeg → vp_in p2 8 ∧ (∀ k12 : Nat, k12 = p2.toNatClampNeg → (((sh k11).1 1) < p3 → wp_X7_keyLength_103 sh p1 p2 p3 post r0) ∧ (¬ ((sh k11).1 1) < p3 → (((sh k12).1 1) < p3 → wp_X7_keyLength_103 sh p1 p2 p3 post r0) ∧ (¬ ((sh k12).1 1) < p3 → wp_X2_hasLetters (sh k11) p3 (fun v17 => (v17 = 0 → wp_X7_keyLength_103 sh p1 p2 p3 post r0) ∧ (¬ v17 = 0 → wp_X2_hasLetters (sh k12) p3 (fun v19 => (v19 = 0 → wp_X7_keyLength_103 sh p1 p2 p3 post r0) ∧ (¬ v19 = 0 → ∃ n : Nat, wp_X7_keyLength_113 sh p1 p2 p3 post n r0 k11 k12 (1 : Int32)))))))))) ∧ (¬ v9 = 0 → wp_X7_refuse r0 v9 (fun v25 s26 => post v25 s26)))) ∧ (¬ p3 ≤ (40 : Int32) → wp_X7_keyLength_24 sh p1 p2 p3 post r0))))))
set_option maxHeartbeats 4000000 in
set_option maxRecDepth 100000 in
theorem t_X7_keyLength_24 {p : Program} {l : Launch} {e : Env} {s : State} {m : MethodId} {args : Array Value} {below : List Frame} {meth : Method} {c : Code} {D : va_G} {K : Nat → ClassId} {h0 : Nat} {a0 : Nat → Nat} {hs : Nat → Nat} {as : Nat → Nat → Nat} {sh : Nat → zS} {p1 : Int32} {p2 : Int32} {p3 : Int32} {post : Int32 → (zS) → Prop} {A : Nat → Prop} (C : xC p s m args meth c cX7_keyLength RX7 8 (some .int) D vwCl (xty K)) (hA : ∀ q, s.heap.size ≤ q → A q) : ∀ (r0 : zS) (H : Heap) (locs : List Loc) (ls : Array Slot), lv_has ls 8 [(0, .ref h0)] → va_P D vwCl (wX7 K h0 a0 hs r0 ++ (wPl K hs as sh ++ (([] : va_W)))) H → va_D A (wX7 K h0 a0 hs r0 ++ (wPl K hs as sh ++ (([] : va_W)))) → va_S A s.heap H locs → wp_X7_keyLength_24 sh p1 p2 p3 post r0 → W p l e ({ frames := 2, cells := 0, slots := 0, locals := 49 } : Room) s m args below meth c H locs 0 0 (MQ below (va_Qi (fun r (u : (zS)) => post r u) (fun (u : (zS)) t => va_P D vwCl (wX7 K h0 a0 hs u ++ (wPl K hs as sh ++ (([] : va_W)))) t.heap) A) args s 0 0 A) (F0 m 24 ls []) := by
  obtain ⟨hx, hb, hr, hml, hown, hts, hlocks, hK, hT⟩ := id C
  intro r0 H locs ls hl hP hD hS h
  unfold wp_X7_keyLength_24 at h
  refine lv_aload_n hx hb dX7_keyLength_24 rfl (lv_at hl 0 rfl) ?_
  refine lv_bipush (v := -2) hx hb dX7_keyLength_25 (by decide) ?_
  refine xend_rw_i (wf := fun (u : (zS)) => (wX7 K h0 a0 hs u)) (xRunV (wc := (wX7 K h0 a0 hs r0)) (As := [.int (-2 : Int32)]) (rest := []) C (c_X7_refuse h) k_X7_refuse mw_147 ⟨rfl, rfl⟩ ⟨Nat.le_of_ble_eq_true rfl, Nat.le_of_ble_eq_true rfl⟩ hP hD [0, 1, 2] rfl rfl rfl rfl hl rfl rfl (Nat.le_of_ble_eq_true rfl) dX7_keyLength_27 ⟨Nat.le_refl _, Nat.le_refl _⟩) hP hD hS hA [0, 1, 2] rfl rfl (fun _ => rfl) (fun v3 s4 H locs h hP hD hS => ?_)
  replace hP : va_P D vwCl (wX7 K h0 a0 hs s4 ++ (wPl K hs as sh ++ (([] : va_W)))) H := hP
  replace hD : va_D A (wX7 K h0 a0 hs s4 ++ (wPl K hs as sh ++ (([] : va_W)))) := hD
  exact xrw_i C s4 h hP hS dX7_keyLength_30
set_option maxHeartbeats 4000000 in
set_option maxRecDepth 100000 in
theorem t_X7_keyLength_103 {p : Program} {l : Launch} {e : Env} {s : State} {m : MethodId} {args : Array Value} {below : List Frame} {meth : Method} {c : Code} {D : va_G} {K : Nat → ClassId} {h0 : Nat} {a0 : Nat → Nat} {hs : Nat → Nat} {as : Nat → Nat → Nat} {sh : Nat → zS} {p1 : Int32} {p2 : Int32} {p3 : Int32} {post : Int32 → (zS) → Prop} {A : Nat → Prop} (C : xC p s m args meth c cX7_keyLength RX7 8 (some .int) D vwCl (xty K)) (hA : ∀ q, s.heap.size ≤ q → A q) : ∀ (r0 : zS) (H : Heap) (locs : List Loc) (ls : Array Slot), lv_has ls 8 [(0, .ref h0)] → va_P D vwCl (wX7 K h0 a0 hs r0 ++ (wPl K hs as sh ++ (([] : va_W)))) H → va_D A (wX7 K h0 a0 hs r0 ++ (wPl K hs as sh ++ (([] : va_W)))) → va_S A s.heap H locs → wp_X7_keyLength_103 sh p1 p2 p3 post r0 → W p l e ({ frames := 2, cells := 0, slots := 0, locals := 49 } : Room) s m args below meth c H locs 0 0 (MQ below (va_Qi (fun r (u : (zS)) => post r u) (fun (u : (zS)) t => va_P D vwCl (wX7 K h0 a0 hs u ++ (wPl K hs as sh ++ (([] : va_W)))) t.heap) A) args s 0 0 A) (F0 m 103 ls []) := by
  obtain ⟨hx, hb, hr, hml, hown, hts, hlocks, hK, hT⟩ := id C
  intro r0 H locs ls hl hP hD hS h
  unfold wp_X7_keyLength_103 at h
  refine lv_aload_n hx hb dX7_keyLength_103 rfl (lv_at hl 0 rfl) ?_
  refine lv_bipush (v := -2) hx hb dX7_keyLength_104 (by decide) ?_
  refine xend_rw_i (wf := fun (u : (zS)) => (wX7 K h0 a0 hs u)) (xRunV (wc := (wX7 K h0 a0 hs r0)) (As := [.int (-2 : Int32)]) (rest := []) C (c_X7_refuse h) k_X7_refuse mw_147 ⟨rfl, rfl⟩ ⟨Nat.le_of_ble_eq_true rfl, Nat.le_of_ble_eq_true rfl⟩ hP hD [0, 1, 2] rfl rfl rfl rfl hl rfl rfl (Nat.le_of_ble_eq_true rfl) dX7_keyLength_106 ⟨Nat.le_refl _, Nat.le_refl _⟩) hP hD hS hA [0, 1, 2] rfl rfl (fun _ => rfl) (fun v14 s15 H locs h hP hD hS => ?_)
  replace hP : va_P D vwCl (wX7 K h0 a0 hs s15 ++ (wPl K hs as sh ++ (([] : va_W)))) H := hP
  replace hD : va_D A (wX7 K h0 a0 hs s15 ++ (wPl K hs as sh ++ (([] : va_W)))) := hD
  exact xrw_i C s15 h hP hS dX7_keyLength_109
set_option maxHeartbeats 4000000 in
set_option maxRecDepth 100000 in
theorem t_X7_keyLength_113 {p : Program} {l : Launch} {e : Env} {s : State} {m : MethodId} {args : Array Value} {below : List Frame} {meth : Method} {c : Code} {D : va_G} {K : Nat → ClassId} {h0 : Nat} {a0 : Nat → Nat} {hs : Nat → Nat} {as : Nat → Nat → Nat} {sh : Nat → zS} {p1 : Int32} {p2 : Int32} {p3 : Int32} {post : Int32 → (zS) → Prop} {A : Nat → Prop} (C : xC p s m args meth c cX7_keyLength RX7 8 (some .int) D vwCl (xty K)) (hA : ∀ q, s.heap.size ≤ q → A q) : ∀ (n : Nat) (r0 : zS) (x5 : Nat) (x6 : Nat) (x7 : Int32) (H : Heap) (locs : List Loc) (ls : Array Slot), x5 < 8 → x6 < 8 → lv_has ls 8 [(3, .int p3), (5, .ref (hs x5)), (6, .ref (hs x6)), (7, .int x7)] → va_P D vwCl (wX7 K h0 a0 hs r0 ++ (wPl K hs as sh ++ (([] : va_W)))) H → va_D A (wX7 K h0 a0 hs r0 ++ (wPl K hs as sh ++ (([] : va_W)))) → va_S A s.heap H locs → wp_X7_keyLength_113 sh p1 p2 p3 post n r0 x5 x6 x7 → W p l e ({ frames := 2, cells := 0, slots := 0, locals := 49 } : Room) s m args below meth c H locs 0 0 (MQ below (va_Qi (fun r (u : (zS)) => post r u) (fun (u : (zS)) t => va_P D vwCl (wX7 K h0 a0 hs u ++ (wPl K hs as sh ++ (([] : va_W)))) t.heap) A) args s 0 0 A) (F0 m 113 ls []) := by
  obtain ⟨hx, hb, hr, hml, hown, hts, hlocks, hK, hT⟩ := id C
  intro n
  induction n with
  | zero =>
    intro r0 x5 x6 x7 H locs ls hi5 hi6 hl hP hD hS h
    exact False.elim h
  | succ n ihn =>
    intro r0 x5 x6 x7 H locs ls hi5 hi6 hl hP hD hS h
    rw [wu_X7_keyLength_113] at h
    unfold wb_X7_keyLength_113 at h
    refine lv_iload hx hb dX7_keyLength_113 (lv_at hl 3 rfl) ?_
    refine lv_iload_n hx hb dX7_keyLength_115 rfl (lv_at hl 0 rfl) ?_
    refine lv_icmp_ge (tgt := 141) hx hb dX7_keyLength_116 (by decide) (fun c21 => ?_) (fun c21 => ?_)
    · replace h := And.left h c21
      refine lv_iload_n hx hb dX7_keyLength_141 rfl (lv_at hl 0 rfl) ?_
      exact xrw_i C r0 h hP hS dX7_keyLength_142
    · replace h := And.right h c21
      refine lv_aload hx hb dX7_keyLength_119 (lv_at hl 1 rfl) ?_
      refine lv_aload hx hb dX7_keyLength_121 (lv_at hl 2 rfl) ?_
      refine lv_iload_n hx hb dX7_keyLength_123 rfl (lv_at hl 0 rfl) ?_
      refine lv_iload hx hb dX7_keyLength_124 (lv_at hl 3 rfl) ?_
      refine xend_ro_i (xRunS (wc := (wX7 K h0 a0 hs r0 ++ (wPl K hs as sh ++ (([] : va_W))))) (As := [.ref (hs x5), .ref (hs x6), .int p3, .int x7]) (rest := []) C (c_X7_keyWouldDo hi5 hi6 h) k_X7_keyWouldDo mw_1115 ⟨rfl, rfl⟩ ⟨Nat.le_of_ble_eq_true rfl, Nat.le_of_ble_eq_true rfl⟩ hP hD [0, 1, 2, 3, 4, 5, 6, 7, 8, 9, 10, 11, 12, 13, 14, 15, 16, 17, 18] rfl rfl hl rfl rfl (Nat.le_of_ble_eq_true rfl) dX7_keyLength_126 ⟨Nat.le_refl _, Nat.le_refl _⟩) (fun v22 h => ?_)
      refine lv_if_eq (tgt := 135) hx hb dX7_keyLength_129 (by decide) (fun c23 => ?_) (fun c23 => ?_)
      · replace h := And.left h c23
        obtain ⟨v24, ev24⟩ : ∃ y : Int32, y = x7 + (1 : Int32) := ⟨_, rfl⟩
        replace h := h v24 ev24
        refine lv_iinc (v := v24) (lv' := [(7, .int v24), (3, .int p3), (5, .ref (hs x5)), (6, .ref (hs x6))]) hx hb dX7_keyLength_135 hl (k := 3) rfl (by rw [ev24]; rfl) (by decide) rfl (fun ls hl => ?_)
        refine lv_goto (tgt := 113) hx hb dX7_keyLength_138 (by decide) ?_
        exact ihn _ _ _ _ _ _ _ hi5 hi6 (lv_sub hl [1, 2, 3, 0] rfl) hP hD hS h
      · replace h := And.right h c23
        refine lv_iload hx hb dX7_keyLength_132 (lv_at hl 3 rfl) ?_
        exact xrw_i C r0 h hP hS dX7_keyLength_134
set_option maxHeartbeats 4000000 in
set_option maxRecDepth 100000 in
theorem c_X7_keyLength {l : Launch} {D : va_G} {K : Nat → ClassId} {h0 : Nat} {a0 : Nat → Nat} {hs : Nat → Nat} {r0 : zS} {as : Nat → Nat → Nat} {sh : Nat → zS} {p1 : Int32} {p2 : Int32} {p3 : Int32} {sz : Nat} {post : Int32 → (zS) → Prop}   (h : wp_X7_keyLength r0 sh p1 p2 p3 post) : Met l yX7_keyLength (Cond.code yX7_keyLength cX7_keyLength 8 (some .int) :: wsL_law) ({ frames := 2, cells := 0, slots := 0, locals := 49 } : Room) (va_Pc [.ref h0, .int p1, .int p2, .int p3] (xPre D vwCl (xty K) (wX7 K h0 a0 hs r0 ++ (wPl K hs as sh ++ (([] : va_W)))) sz)) (va_Qi (fun r (u : (zS)) => post r u) (fun (u : (zS)) t => va_P D vwCl (wX7 K h0 a0 hs u ++ (wPl K hs as sh ++ (([] : va_W)))) t.heap) (va_A (wX7 K h0 a0 hs r0 ++ (wPl K hs as sh ++ (([] : va_W)))) sz)) 0 0 (va_A (wX7 K h0 a0 hs r0 ++ (wPl K hs as sh ++ (([] : va_W)))) sz) := by
  refine xMet (by decide) rfl (Nat.le_of_ble_eq_true rfl) (fun p e s m args below meth c C hnm hP hD hsz ls hl => ?_)
  have hl : lv_has ls 8 [(0, .ref h0), (1, .int p1), (2, .int p2), (3, .int p3)] := hl
  obtain ⟨hx, hb, hr, hml, hown, hts, hlocks, hK, hT⟩ := id C
  subst hsz
  generalize hAe : va_A (wX7 K h0 a0 hs r0 ++ (wPl K hs as sh ++ (([] : va_W)))) s.heap.size = A at hD ⊢
  have hA : ∀ q : Nat, s.heap.size ≤ q → A q := fun q h => by rw [← hAe]; exact Or.inr h
  have hS : va_S A s.heap s.heap [] := va_S.rf
  have hP : va_P D vwCl (wX7 K h0 a0 hs r0 ++ (wPl K hs as sh ++ (([] : va_W)))) s.heap := hP
  unfold wp_X7_keyLength at h
  refine lv_iload_n hx hb dX7_keyLength_0 rfl (lv_at hl 1 rfl) ?_
  refine xend_ro_i (xRunS (wc := ([] : va_W)) (As := [.int p1]) (rest := []) C (c_X7_isShelf h) k_X7_isShelf mw_144 ⟨rfl, rfl⟩ ⟨Nat.le_of_ble_eq_true rfl, Nat.le_of_ble_eq_true rfl⟩ hP hD [] rfl rfl hl rfl rfl (Nat.le_of_ble_eq_true rfl) dX7_keyLength_1 ⟨Nat.le_refl _, Nat.le_refl _⟩) (fun v1 h => ?_)
  refine lv_if_eq (tgt := 24) hx hb dX7_keyLength_4 (by decide) (fun c2 => ?_) (fun c2 => ?_)
  · replace h := And.left h c2
    exact t_X7_keyLength_24 C hA _ _ _ _ (lv_sub hl [0] rfl) hP hD hS h
  · replace h := And.right h c2
    refine lv_iload_n hx hb dX7_keyLength_7 rfl (lv_at hl 2 rfl) ?_
    refine xend_ro_i (xRunS (wc := ([] : va_W)) (As := [.int p2]) (rest := []) C (c_X7_isShelf h) k_X7_isShelf mw_144 ⟨rfl, rfl⟩ ⟨Nat.le_of_ble_eq_true rfl, Nat.le_of_ble_eq_true rfl⟩ hP hD [] rfl rfl hl rfl rfl (Nat.le_of_ble_eq_true rfl) dX7_keyLength_8 ⟨Nat.le_refl _, Nat.le_refl _⟩) (fun v5 h => ?_)
    refine lv_if_eq (tgt := 24) hx hb dX7_keyLength_11 (by decide) (fun c6 => ?_) (fun c6 => ?_)
    · replace h := And.left h c6
      exact t_X7_keyLength_24 C hA _ _ _ _ (lv_sub hl [0] rfl) hP hD hS h
    · replace h := And.right h c6
      refine lv_iload_n hx hb dX7_keyLength_14 rfl (lv_at hl 3 rfl) ?_
      refine lv_if_lt (tgt := 24) hx hb dX7_keyLength_15 (by decide) (fun c7 => ?_) (fun c7 => ?_)
      · replace h := And.left h c7
        exact t_X7_keyLength_24 C hA _ _ _ _ (lv_sub hl [0] rfl) hP hD hS h
      · replace h := And.right h c7
        refine lv_iload_n hx hb dX7_keyLength_18 rfl (lv_at hl 3 rfl) ?_
        refine lv_bipush (v := 40) hx hb dX7_keyLength_19 (by decide) ?_
        refine lv_icmp_le (tgt := 31) hx hb dX7_keyLength_21 (by decide) (fun c8 => ?_) (fun c8 => ?_)
        · replace h := And.left h c8
          refine lv_aload_n hx hb dX7_keyLength_31 rfl (lv_at hl 0 rfl) ?_
          refine lv_iload_n hx hb dX7_keyLength_32 rfl (lv_at hl 1 rfl) ?_
          refine lv_iload_n hx hb dX7_keyLength_33 rfl (lv_at hl 2 rfl) ?_
          refine xend_ro_i (xRunV_id (As := [.int p1, .int p2]) (rest := []) C (c_X7_rowsFault h) k_X7_rowsFault mw_178 ⟨rfl, rfl⟩ ⟨Nat.le_of_ble_eq_true rfl, Nat.le_of_ble_eq_true rfl⟩ hP hD rfl rfl hl rfl rfl (Nat.le_of_ble_eq_true rfl) dX7_keyLength_34 ⟨Nat.le_refl _, Nat.le_refl _⟩) (fun v9 h => ?_)
          refine lv_istore (lv' := [(4, .int v9), (0, .ref h0), (1, .int p1), (2, .int p2), (3, .int p3)]) hx hb dX7_keyLength_37 hl (by decide) rfl (fun ls hl => ?_)
          refine lv_iload hx hb dX7_keyLength_39 (lv_at hl 0 rfl) ?_
          refine lv_if_eq (tgt := 51) hx hb dX7_keyLength_41 (by decide) (fun c10 => ?_) (fun c10 => ?_)
          · replace h := And.left h c10
            refine lv_aload_n hx hb dX7_keyLength_51 rfl (lv_at hl 1 rfl) ?_
            refine va_get (D := D) (ci := 7) (v := .ref (a0 6)) (C := RX7) (T := TX7) (N := 13) hx hb hts inlX7 hown hK hP 0 rfl rfl 6 (by decide) (hts (.fieldLink RX7 38 "UnderTheDesks" "shelves" "[LUnderTheDesks$Shelf;") mw_26) (fun _ h9 => h9) rfl dX7_keyLength_52 ?_
            refine lv_iload_n hx hb dX7_keyLength_55 rfl (lv_at hl 2 rfl) ?_
            have hin := And.left h
            obtain ⟨k11, ek11⟩ : ∃ j : Nat, j = p1.toNatClampNeg := ⟨_, rfl⟩
            replace h := And.right h k11 ek11
            have hk11 : k11 < 8 := by rw [ek11]; exact Nat.not_le.mp (fun q => hin (Or.inr q))
            refine xaldq hx hb hK hP 1 2 rfl rfl hin ek11 dX7_keyLength_56 ?_
            refine lv_astore (lv' := [(5, .ref (hs k11)), (4, .int v9), (0, .ref h0), (1, .int p1), (2, .int p2), (3, .int p3)]) hx hb dX7_keyLength_57 hl (by decide) rfl (fun ls hl => ?_)
            refine lv_aload_n hx hb dX7_keyLength_59 rfl (lv_at hl 2 rfl) ?_
            refine va_get (D := D) (ci := 7) (v := .ref (a0 6)) (C := RX7) (T := TX7) (N := 13) hx hb hts inlX7 hown hK hP 0 rfl rfl 6 (by decide) (hts (.fieldLink RX7 38 "UnderTheDesks" "shelves" "[LUnderTheDesks$Shelf;") mw_26) (fun _ h9 => h9) rfl dX7_keyLength_60 ?_
            refine lv_iload_n hx hb dX7_keyLength_63 rfl (lv_at hl 4 rfl) ?_
            have hin := And.left h
            obtain ⟨k12, ek12⟩ : ∃ j : Nat, j = p2.toNatClampNeg := ⟨_, rfl⟩
            replace h := And.right h k12 ek12
            have hk12 : k12 < 8 := by rw [ek12]; exact Nat.not_le.mp (fun q => hin (Or.inr q))
            refine xaldq hx hb hK hP 1 2 rfl rfl hin ek12 dX7_keyLength_64 ?_
            refine lv_astore (lv' := [(6, .ref (hs k12)), (5, .ref (hs k11)), (4, .int v9), (0, .ref h0), (1, .int p1), (2, .int p2), (3, .int p3)]) hx hb dX7_keyLength_65 hl (by decide) rfl (fun ls hl => ?_)
            refine lv_iload_n hx hb dX7_keyLength_67 rfl (lv_at hl 6 rfl) ?_
            refine lv_aload hx hb dX7_keyLength_68 (lv_at hl 1 rfl) ?_
            refine va_get (D := D) (ci := 2) (v := .int ((sh k11).1 1)) (C := RX2) (T := TX2) (N := 3) hx hb hts inlX2 hown hK hP (3 + 2 * k11) (wPl_obj hk11) rfl 1 (by decide) (hts (.fieldLink RX7 95 "UnderTheDesks$Shelf" "size" "I") mw_173) (fun _ h9 => h9) rfl dX7_keyLength_70 ?_
            refine lv_icmp_gt (tgt := 103) hx hb dX7_keyLength_73 (by decide) (fun c13 => ?_) (fun c13 => ?_)
            · replace h := And.left h c13
              exact t_X7_keyLength_103 C hA _ _ _ _ (lv_sub hl [3] rfl) hP hD hS h
            · replace h := And.right h c13
              refine lv_iload_n hx hb dX7_keyLength_76 rfl (lv_at hl 6 rfl) ?_
              refine lv_aload hx hb dX7_keyLength_77 (lv_at hl 0 rfl) ?_
              refine va_get (D := D) (ci := 2) (v := .int ((sh k12).1 1)) (C := RX2) (T := TX2) (N := 3) hx hb hts inlX2 hown hK hP (3 + 2 * k12) (wPl_obj hk12) rfl 1 (by decide) (hts (.fieldLink RX7 95 "UnderTheDesks$Shelf" "size" "I") mw_173) (fun _ h9 => h9) rfl dX7_keyLength_79 ?_
              refine lv_icmp_gt (tgt := 103) hx hb dX7_keyLength_82 (by decide) (fun c16 => ?_) (fun c16 => ?_)
              · replace h := And.left h c16
                exact t_X7_keyLength_103 C hA _ _ _ _ (lv_sub hl [3] rfl) hP hD hS h
              · replace h := And.right h c16
                refine lv_aload hx hb dX7_keyLength_85 (lv_at hl 1 rfl) ?_
                refine lv_iload_n hx hb dX7_keyLength_87 rfl (lv_at hl 6 rfl) ?_
                refine xend_ro_i (xRunV (wc := (wX2 K (hs k11) (as k11) (sh k11))) (As := [.int p3]) (rest := []) C (c_X2_hasLetters h) k_X2_hasLetters mw_1091 ⟨rfl, rfl⟩ ⟨Nat.le_of_ble_eq_true rfl, Nat.le_of_ble_eq_true rfl⟩ hP hD [3 + 2 * k11, 4 + 2 * k11] (wPl_C hk11) (xnd2 _) rfl rfl hl rfl rfl (Nat.le_of_ble_eq_true rfl) dX7_keyLength_88 ⟨Nat.le_refl _, Nat.le_refl _⟩) (fun v17 h => ?_)
                refine lv_if_eq (tgt := 103) hx hb dX7_keyLength_91 (by decide) (fun c18 => ?_) (fun c18 => ?_)
                · replace h := And.left h c18
                  exact t_X7_keyLength_103 C hA _ _ _ _ (lv_sub hl [3] rfl) hP hD hS h
                · replace h := And.right h c18
                  refine lv_aload hx hb dX7_keyLength_94 (lv_at hl 0 rfl) ?_
                  refine lv_iload_n hx hb dX7_keyLength_96 rfl (lv_at hl 6 rfl) ?_
                  refine xend_ro_i (xRunV (wc := (wX2 K (hs k12) (as k12) (sh k12))) (As := [.int p3]) (rest := []) C (c_X2_hasLetters h) k_X2_hasLetters mw_1091 ⟨rfl, rfl⟩ ⟨Nat.le_of_ble_eq_true rfl, Nat.le_of_ble_eq_true rfl⟩ hP hD [3 + 2 * k12, 4 + 2 * k12] (wPl_C hk12) (xnd2 _) rfl rfl hl rfl rfl (Nat.le_of_ble_eq_true rfl) dX7_keyLength_97 ⟨Nat.le_refl _, Nat.le_refl _⟩) (fun v19 h => ?_)
                  refine lv_if_ne (tgt := 110) hx hb dX7_keyLength_100 (by decide) (fun c20 => ?_) (fun c20 => ?_)
                  · replace h := And.right h c20
                    refine lv_iconst (v := 1) hx hb dX7_keyLength_110 (by decide) ?_
                    refine lv_istore (lv' := [(7, .int (1 : Int32)), (6, .ref (hs k12)), (5, .ref (hs k11)), (4, .int v9), (0, .ref h0), (1, .int p1), (2, .int p2), (3, .int p3)]) hx hb dX7_keyLength_111 hl (by decide) rfl (fun ls hl => ?_)
                    obtain ⟨n0, h⟩ := h
                    exact t_X7_keyLength_113 C hA n0 _ _ _ _ _ _ _ hk11 hk12 (lv_sub hl [7, 2, 1, 0] rfl) hP hD hS h
                  · replace h := And.left h c20
                    exact t_X7_keyLength_103 C hA _ _ _ _ (lv_sub hl [3] rfl) hP hD hS h
          · replace h := And.right h c10
            refine lv_aload_n hx hb dX7_keyLength_44 rfl (lv_at hl 1 rfl) ?_
            refine lv_iload hx hb dX7_keyLength_45 (lv_at hl 0 rfl) ?_
            refine xend_rw_i (wf := fun (u : (zS)) => (wX7 K h0 a0 hs u)) (xRunV (wc := (wX7 K h0 a0 hs r0)) (As := [.int v9]) (rest := []) C (c_X7_refuse h) k_X7_refuse mw_147 ⟨rfl, rfl⟩ ⟨Nat.le_of_ble_eq_true rfl, Nat.le_of_ble_eq_true rfl⟩ hP hD [0, 1, 2] rfl rfl rfl rfl hl rfl rfl (Nat.le_of_ble_eq_true rfl) dX7_keyLength_47 ⟨Nat.le_refl _, Nat.le_refl _⟩) hP hD hS hA [0, 1, 2] rfl rfl (fun _ => rfl) (fun v25 s26 H locs h hP hD hS => ?_)
            replace hP : va_P D vwCl (wX7 K h0 a0 hs s26 ++ (wPl K hs as sh ++ (([] : va_W)))) H := hP
            replace hD : va_D A (wX7 K h0 a0 hs s26 ++ (wPl K hs as sh ++ (([] : va_W)))) := hD
            exact xrw_i C s26 h hP hS dX7_keyLength_50
        · replace h := And.right h c8
          exact t_X7_keyLength_24 C hA _ _ _ _ (lv_sub hl [0] rfl) hP hD hS h

def wp_X7_send (r0 : zS) (r1 : zS) (r2 : zS) (r3 : zS) (r4 : zS) (p1 : Int32) (p2 : Int32) (post : Int32 → (zS) → (zS) → (zS) → (zS) → Prop) : Prop :=
  wp_X7_isPair r0 r1 p1 p2 (fun v1 => (v1 = 0 → wp_X7_refuse r0 (-2 : Int32) (fun v13 s14 => post v13 s14 r2 r3 r4)) ∧ (¬ v1 = 0 → wp_X6_find r2 r1 p1 p2 (fun s4 => wp_X5_takeSurest r4 r1 s4 (r3.1 0) (0 : Int32) (fun v5 s6 => (v5 = 0 → wp_X7_refuse r0 (-5 : Int32) (fun v11 s12 => post v11 s12 s4 r3 s6)) ∧ (¬ v5 = 0 → wp_X4_pass r3 r1 s4 (s6.1 0) (fun v8 s9 => (v8 = 0 → post (0 : Int32) r0 s4 s9 s6) ∧ (¬ v8 = 0 → post (1 : Int32) r0 s4 s9 s6)))))))
set_option maxHeartbeats 4000000 in
set_option maxRecDepth 100000 in
theorem c_X7_send {l : Launch} {D : va_G} {K : Nat → ClassId} {h0 : Nat} {a0 : Nat → Nat} {hs : Nat → Nat} {r0 : zS} {a1 : Nat → Nat} {r1 : zS} {a2 : Nat → Nat} {r2 : zS} {a3 : Nat → Nat} {r3 : zS} {a4 : Nat → Nat} {r4 : zS} {p1 : Int32} {p2 : Int32} {sz : Nat} {post : Int32 → (zS) → (zS) → (zS) → (zS) → Prop}   (h : wp_X7_send r0 r1 r2 r3 r4 p1 p2 post) : Met l yX7_send (Cond.code yX7_send cX7_send 3 (some .int) :: wsL_law) ({ frames := 15, cells := 0, slots := 0, locals := 591 } : Room) (va_Pc [.ref h0, .int p1, .int p2] (xPre D vwCl (xty K) (wX7 K h0 a0 hs r0 ++ (wX1 K (a0 0) a1 r1 ++ (wX6 K (a0 9) a2 r2 ++ (wX4 K (a0 3) a3 r3 ++ (wX5 K (a0 11) a4 r4))))) sz)) (va_Qi (fun r (u : (zS) × (zS) × (zS) × (zS)) => post r u.1 u.2.1 u.2.2.1 u.2.2.2) (fun (u : (zS) × (zS) × (zS) × (zS)) t => va_P D vwCl (wX7 K h0 a0 hs u.1 ++ (wX1 K (a0 0) a1 r1 ++ (wX6 K (a0 9) a2 u.2.1 ++ (wX4 K (a0 3) a3 u.2.2.1 ++ (wX5 K (a0 11) a4 u.2.2.2))))) t.heap) (va_A (wX7 K h0 a0 hs r0 ++ (wX1 K (a0 0) a1 r1 ++ (wX6 K (a0 9) a2 r2 ++ (wX4 K (a0 3) a3 r3 ++ (wX5 K (a0 11) a4 r4))))) sz)) 0 0 (va_A (wX7 K h0 a0 hs r0 ++ (wX1 K (a0 0) a1 r1 ++ (wX6 K (a0 9) a2 r2 ++ (wX4 K (a0 3) a3 r3 ++ (wX5 K (a0 11) a4 r4))))) sz) := by
  refine xMet (by decide) rfl (Nat.le_of_ble_eq_true rfl) (fun p e s m args below meth c C hnm hP hD hsz ls hl => ?_)
  have hl : lv_has ls 3 [(0, .ref h0), (1, .int p1), (2, .int p2)] := hl
  obtain ⟨hx, hb, hr, hml, hown, hts, hlocks, hK, hT⟩ := id C
  subst hsz
  generalize hAe : va_A (wX7 K h0 a0 hs r0 ++ (wX1 K (a0 0) a1 r1 ++ (wX6 K (a0 9) a2 r2 ++ (wX4 K (a0 3) a3 r3 ++ (wX5 K (a0 11) a4 r4))))) s.heap.size = A at hD ⊢
  have hA : ∀ q : Nat, s.heap.size ≤ q → A q := fun q h => by rw [← hAe]; exact Or.inr h
  have hS : va_S A s.heap s.heap [] := va_S.rf
  have hP : va_P D vwCl (wX7 K h0 a0 hs r0 ++ (wX1 K (a0 0) a1 r1 ++ (wX6 K (a0 9) a2 r2 ++ (wX4 K (a0 3) a3 r3 ++ (wX5 K (a0 11) a4 r4))))) s.heap := hP
  unfold wp_X7_send at h
  refine lv_aload_n hx hb dX7_send_0 rfl (lv_at hl 0 rfl) ?_
  refine lv_iload_n hx hb dX7_send_1 rfl (lv_at hl 1 rfl) ?_
  refine lv_iload_n hx hb dX7_send_2 rfl (lv_at hl 2 rfl) ?_
  refine xend_ro_i (xRunV (wc := (wX7 K h0 a0 hs r0 ++ (wX1 K (a0 0) a1 r1))) (As := [.int p1, .int p2]) (rest := []) C (c_X7_isPair h) k_X7_isPair mw_429 ⟨rfl, rfl⟩ ⟨Nat.le_of_ble_eq_true rfl, Nat.le_of_ble_eq_true rfl⟩ hP hD [0, 1, 2, 3, 4, 5, 6, 7, 8] rfl rfl rfl rfl hl rfl rfl (Nat.le_of_ble_eq_true rfl) dX7_send_3 ⟨Nat.le_refl _, Nat.le_refl _⟩) (fun v1 h => ?_)
  refine lv_if_ne (tgt := 16) hx hb dX7_send_6 (by decide) (fun c2 => ?_) (fun c2 => ?_)
  · replace h := And.right h c2
    refine lv_aload_n hx hb dX7_send_16 rfl (lv_at hl 0 rfl) ?_
    refine va_get (D := D) (ci := 7) (v := .ref (a0 9)) (C := RX7) (T := TX7) (N := 13) hx hb hts inlX7 hown hK hP 0 rfl rfl 9 (by decide) (hts (.fieldLink RX7 61 "UnderTheDesks" "paths" "LUnderTheDesks$Ways;") mw_38) (fun _ h9 => h9) rfl dX7_send_17 ?_
    refine lv_aload_n hx hb dX7_send_20 rfl (lv_at hl 0 rfl) ?_
    refine va_get (D := D) (ci := 7) (v := .ref (a0 0)) (C := RX7) (T := TX7) (N := 13) hx hb hts inlX7 hown hK hP 0 rfl rfl 0 (by decide) (hts (.fieldLink RX7 10 "UnderTheDesks" "room" "LUnderTheDesks$Room;") mw_16) (fun _ h9 => h9) rfl dX7_send_21 ?_
    refine lv_iload_n hx hb dX7_send_24 rfl (lv_at hl 1 rfl) ?_
    refine lv_iload_n hx hb dX7_send_25 rfl (lv_at hl 2 rfl) ?_
    refine xend_rw_v (wf := fun (u : (zS)) => (wX6 K (a0 9) a2 u ++ (wX1 K (a0 0) a1 r1))) (xRunV (wc := (wX6 K (a0 9) a2 r2 ++ (wX1 K (a0 0) a1 r1))) (As := [.ref (a0 0), .int p1, .int p2]) (rest := []) C (c_X6_find h) k_X6_find mw_756 ⟨rfl, rfl⟩ ⟨Nat.le_of_ble_eq_true rfl, Nat.le_of_ble_eq_true rfl⟩ hP hD [9, 10, 11, 12, 13, 3, 4, 5, 6, 7, 8] rfl rfl rfl rfl hl rfl rfl (Nat.le_of_ble_eq_true rfl) dX7_send_26 ⟨Nat.le_refl _, Nat.le_refl _⟩) hP hD hS hA [9, 10, 11, 12, 13, 3, 4, 5, 6, 7, 8] rfl rfl (fun _ => rfl) (fun s4 H locs h hP hD hS => ?_)
    replace hP : va_P D vwCl (wX7 K h0 a0 hs r0 ++ (wX1 K (a0 0) a1 r1 ++ (wX6 K (a0 9) a2 s4 ++ (wX4 K (a0 3) a3 r3 ++ (wX5 K (a0 11) a4 r4))))) H := hP
    replace hD : va_D A (wX7 K h0 a0 hs r0 ++ (wX1 K (a0 0) a1 r1 ++ (wX6 K (a0 9) a2 s4 ++ (wX4 K (a0 3) a3 r3 ++ (wX5 K (a0 11) a4 r4))))) := hD
    refine lv_aload_n hx hb dX7_send_29 rfl (lv_at hl 0 rfl) ?_
    refine va_get (D := D) (ci := 7) (v := .ref (a0 11)) (C := RX7) (T := TX7) (N := 13) hx hb hts inlX7 hown hK hP 0 rfl rfl 11 (by decide) (hts (.fieldLink RX7 71 "UnderTheDesks" "walk" "LUnderTheDesks$Walk;") mw_43) (fun _ h9 => h9) rfl dX7_send_30 ?_
    refine lv_aload_n hx hb dX7_send_33 rfl (lv_at hl 0 rfl) ?_
    refine va_get (D := D) (ci := 7) (v := .ref (a0 0)) (C := RX7) (T := TX7) (N := 13) hx hb hts inlX7 hown hK hP 0 rfl rfl 0 (by decide) (hts (.fieldLink RX7 10 "UnderTheDesks" "room" "LUnderTheDesks$Room;") mw_16) (fun _ h9 => h9) rfl dX7_send_34 ?_
    refine lv_aload_n hx hb dX7_send_37 rfl (lv_at hl 0 rfl) ?_
    refine va_get (D := D) (ci := 7) (v := .ref (a0 9)) (C := RX7) (T := TX7) (N := 13) hx hb hts inlX7 hown hK hP 0 rfl rfl 9 (by decide) (hts (.fieldLink RX7 61 "UnderTheDesks" "paths" "LUnderTheDesks$Ways;") mw_38) (fun _ h9 => h9) rfl dX7_send_38 ?_
    refine lv_aload_n hx hb dX7_send_41 rfl (lv_at hl 0 rfl) ?_
    refine va_get (D := D) (ci := 7) (v := .ref (a0 3)) (C := RX7) (T := TX7) (N := 13) hx hb hts inlX7 hown hK hP 0 rfl rfl 3 (by decide) (hts (.fieldLink RX7 25 "UnderTheDesks" "truth" "LUnderTheDesks$Truth;") mw_22) (fun _ h9 => h9) rfl dX7_send_42 ?_
    refine va_get (D := D) (ci := 4) (v := .int (r3.1 0)) (C := RX4) (T := TX4) (N := 8) hx hb hts inlX4 hown hK hP 14 rfl rfl 0 (by decide) (hts (.fieldLink RX7 332 "UnderTheDesks$Truth" "second" "I") mw_1126) (fun _ h9 => h9) rfl dX7_send_45 ?_
    refine lv_iconst (v := 0) hx hb dX7_send_48 (by decide) ?_
    refine xend_rw_i (wf := fun (u : (zS)) => (wX5 K (a0 11) a4 u ++ (wX1 K (a0 0) a1 r1 ++ (wX6 K (a0 9) a2 s4)))) (xRunV (wc := (wX5 K (a0 11) a4 r4 ++ (wX1 K (a0 0) a1 r1 ++ (wX6 K (a0 9) a2 s4)))) (As := [.ref (a0 0), .ref (a0 9), .int (r3.1 0), .int (0 : Int32)]) (rest := []) C (c_X5_takeSurest h) k_X5_takeSurest mw_823 ⟨rfl, rfl⟩ ⟨Nat.le_of_ble_eq_true rfl, Nat.le_of_ble_eq_true rfl⟩ hP hD [18, 3, 4, 5, 6, 7, 8, 9, 10, 11, 12, 13] rfl rfl rfl rfl hl rfl rfl (Nat.le_of_ble_eq_true rfl) dX7_send_49 ⟨Nat.le_refl _, Nat.le_refl _⟩) hP hD hS hA [18, 3, 4, 5, 6, 7, 8, 9, 10, 11, 12, 13] rfl rfl (fun _ => rfl) (fun v5 s6 H locs h hP hD hS => ?_)
    replace hP : va_P D vwCl (wX7 K h0 a0 hs r0 ++ (wX1 K (a0 0) a1 r1 ++ (wX6 K (a0 9) a2 s4 ++ (wX4 K (a0 3) a3 r3 ++ (wX5 K (a0 11) a4 s6))))) H := hP
    replace hD : va_D A (wX7 K h0 a0 hs r0 ++ (wX1 K (a0 0) a1 r1 ++ (wX6 K (a0 9) a2 s4 ++ (wX4 K (a0 3) a3 r3 ++ (wX5 K (a0 11) a4 s6))))) := hD
    refine lv_if_ne (tgt := 62) hx hb dX7_send_52 (by decide) (fun c7 => ?_) (fun c7 => ?_)
    · replace h := And.right h c7
      refine lv_aload_n hx hb dX7_send_62 rfl (lv_at hl 0 rfl) ?_
      refine va_get (D := D) (ci := 7) (v := .ref (a0 3)) (C := RX7) (T := TX7) (N := 13) hx hb hts inlX7 hown hK hP 0 rfl rfl 3 (by decide) (hts (.fieldLink RX7 25 "UnderTheDesks" "truth" "LUnderTheDesks$Truth;") mw_22) (fun _ h9 => h9) rfl dX7_send_63 ?_
      refine lv_aload_n hx hb dX7_send_66 rfl (lv_at hl 0 rfl) ?_
      refine va_get (D := D) (ci := 7) (v := .ref (a0 0)) (C := RX7) (T := TX7) (N := 13) hx hb hts inlX7 hown hK hP 0 rfl rfl 0 (by decide) (hts (.fieldLink RX7 10 "UnderTheDesks" "room" "LUnderTheDesks$Room;") mw_16) (fun _ h9 => h9) rfl dX7_send_67 ?_
      refine lv_aload_n hx hb dX7_send_70 rfl (lv_at hl 0 rfl) ?_
      refine va_get (D := D) (ci := 7) (v := .ref (a0 9)) (C := RX7) (T := TX7) (N := 13) hx hb hts inlX7 hown hK hP 0 rfl rfl 9 (by decide) (hts (.fieldLink RX7 61 "UnderTheDesks" "paths" "LUnderTheDesks$Ways;") mw_38) (fun _ h9 => h9) rfl dX7_send_71 ?_
      refine lv_aload_n hx hb dX7_send_74 rfl (lv_at hl 0 rfl) ?_
      refine va_get (D := D) (ci := 7) (v := .ref (a0 11)) (C := RX7) (T := TX7) (N := 13) hx hb hts inlX7 hown hK hP 0 rfl rfl 11 (by decide) (hts (.fieldLink RX7 71 "UnderTheDesks" "walk" "LUnderTheDesks$Walk;") mw_43) (fun _ h9 => h9) rfl dX7_send_75 ?_
      refine va_get (D := D) (ci := 5) (v := .int (s6.1 0)) (C := RX5) (T := TX5) (N := 4) hx hb hts inlX5 hown hK hP 18 rfl rfl 0 (by decide) (hts (.fieldLink RX7 335 "UnderTheDesks$Walk" "way" "I") mw_822) (fun _ h9 => h9) rfl dX7_send_78 ?_
      refine xend_rw_i (wf := fun (u : (zS)) => (wX4 K (a0 3) a3 u ++ (wX1 K (a0 0) a1 r1 ++ (wX6 K (a0 9) a2 s4)))) (xRunV (wc := (wX4 K (a0 3) a3 r3 ++ (wX1 K (a0 0) a1 r1 ++ (wX6 K (a0 9) a2 s4)))) (As := [.ref (a0 0), .ref (a0 9), .int (s6.1 0)]) (rest := []) C (c_X4_pass h) k_X4_pass mw_1127 ⟨rfl, rfl⟩ ⟨Nat.le_of_ble_eq_true rfl, Nat.le_of_ble_eq_true rfl⟩ hP hD [14, 15, 16, 17, 3, 4, 5, 6, 7, 8, 9, 10, 11, 12, 13] rfl rfl rfl rfl hl rfl rfl (Nat.le_of_ble_eq_true rfl) dX7_send_81 ⟨Nat.le_refl _, Nat.le_refl _⟩) hP hD hS hA [14, 15, 16, 17, 3, 4, 5, 6, 7, 8, 9, 10, 11, 12, 13] rfl rfl (fun _ => rfl) (fun v8 s9 H locs h hP hD hS => ?_)
      replace hP : va_P D vwCl (wX7 K h0 a0 hs r0 ++ (wX1 K (a0 0) a1 r1 ++ (wX6 K (a0 9) a2 s4 ++ (wX4 K (a0 3) a3 s9 ++ (wX5 K (a0 11) a4 s6))))) H := hP
      replace hD : va_D A (wX7 K h0 a0 hs r0 ++ (wX1 K (a0 0) a1 r1 ++ (wX6 K (a0 9) a2 s4 ++ (wX4 K (a0 3) a3 s9 ++ (wX5 K (a0 11) a4 s6))))) := hD
      refine lv_if_eq (tgt := 91) hx hb dX7_send_84 (by decide) (fun c10 => ?_) (fun c10 => ?_)
      · replace h := And.left h c10
        refine lv_iconst (v := 0) hx hb dX7_send_91 (by decide) ?_
        exact xrw_i C (r0, s4, s9, s6) h hP hS dX7_send_92
      · replace h := And.right h c10
        refine lv_iconst (v := 1) hx hb dX7_send_87 (by decide) ?_
        refine lv_goto (tgt := 92) hx hb dX7_send_88 (by decide) ?_
        exact xrw_i C (r0, s4, s9, s6) h hP hS dX7_send_92
    · replace h := And.left h c7
      refine lv_aload_n hx hb dX7_send_55 rfl (lv_at hl 0 rfl) ?_
      refine lv_bipush (v := -5) hx hb dX7_send_56 (by decide) ?_
      refine xend_rw_i (wf := fun (u : (zS)) => (wX7 K h0 a0 hs u)) (xRunV (wc := (wX7 K h0 a0 hs r0)) (As := [.int (-5 : Int32)]) (rest := []) C (c_X7_refuse h) k_X7_refuse mw_147 ⟨rfl, rfl⟩ ⟨Nat.le_of_ble_eq_true rfl, Nat.le_of_ble_eq_true rfl⟩ hP hD [0, 1, 2] rfl rfl rfl rfl hl rfl rfl (Nat.le_of_ble_eq_true rfl) dX7_send_58 ⟨Nat.le_refl _, Nat.le_refl _⟩) hP hD hS hA [0, 1, 2] rfl rfl (fun _ => rfl) (fun v11 s12 H locs h hP hD hS => ?_)
      replace hP : va_P D vwCl (wX7 K h0 a0 hs s12 ++ (wX1 K (a0 0) a1 r1 ++ (wX6 K (a0 9) a2 s4 ++ (wX4 K (a0 3) a3 r3 ++ (wX5 K (a0 11) a4 s6))))) H := hP
      replace hD : va_D A (wX7 K h0 a0 hs s12 ++ (wX1 K (a0 0) a1 r1 ++ (wX6 K (a0 9) a2 s4 ++ (wX4 K (a0 3) a3 r3 ++ (wX5 K (a0 11) a4 s6))))) := hD
      exact xrw_i C (s12, s4, r3, s6) h hP hS dX7_send_61
  · replace h := And.left h c2
    refine lv_aload_n hx hb dX7_send_9 rfl (lv_at hl 0 rfl) ?_
    refine lv_bipush (v := -2) hx hb dX7_send_10 (by decide) ?_
    refine xend_rw_i (wf := fun (u : (zS)) => (wX7 K h0 a0 hs u)) (xRunV (wc := (wX7 K h0 a0 hs r0)) (As := [.int (-2 : Int32)]) (rest := []) C (c_X7_refuse h) k_X7_refuse mw_147 ⟨rfl, rfl⟩ ⟨Nat.le_of_ble_eq_true rfl, Nat.le_of_ble_eq_true rfl⟩ hP hD [0, 1, 2] rfl rfl rfl rfl hl rfl rfl (Nat.le_of_ble_eq_true rfl) dX7_send_12 ⟨Nat.le_refl _, Nat.le_refl _⟩) hP hD hS hA [0, 1, 2] rfl rfl (fun _ => rfl) (fun v13 s14 H locs h hP hD hS => ?_)
    replace hP : va_P D vwCl (wX7 K h0 a0 hs s14 ++ (wX1 K (a0 0) a1 r1 ++ (wX6 K (a0 9) a2 r2 ++ (wX4 K (a0 3) a3 r3 ++ (wX5 K (a0 11) a4 r4))))) H := hP
    replace hD : va_D A (wX7 K h0 a0 hs s14 ++ (wX1 K (a0 0) a1 r1 ++ (wX6 K (a0 9) a2 r2 ++ (wX4 K (a0 3) a3 r3 ++ (wX5 K (a0 11) a4 r4))))) := hD
    exact xrw_i C (s14, r2, r3, r4) h hP hS dX7_send_15

def wp_X7_note (r0 : zS) (r1 : zS) (p1 : Int32) (post : Int32 → (zS) → Prop) : Prop :=
  ((-1 : Int32) ≤ p1 → (p1 = (-1 : Int32) → post (r1.1 4) r0) ∧ (¬ p1 = (-1 : Int32) → wp_X4_hasNote r1 p1 (fun v3 => (v3 = 0 → wp_X7_refuse r0 (-5 : Int32) (fun v5 s6 => post v5 s6)) ∧ (¬ v3 = 0 → wp_X4_allOf r1 p1 (fun v7 => post v7 r0))))) ∧ (¬ (-1 : Int32) ≤ p1 → wp_X7_refuse r0 (-2 : Int32) (fun v8 s9 => post v8 s9))
set_option maxHeartbeats 4000000 in
set_option maxRecDepth 100000 in
theorem c_X7_note {l : Launch} {D : va_G} {K : Nat → ClassId} {h0 : Nat} {a0 : Nat → Nat} {hs : Nat → Nat} {r0 : zS} {a1 : Nat → Nat} {r1 : zS} {p1 : Int32} {sz : Nat} {post : Int32 → (zS) → Prop}   (h : wp_X7_note r0 r1 p1 post) : Met l yX7_note (Cond.code yX7_note cX7_note 2 (some .int) :: wsL_law) ({ frames := 2, cells := 0, slots := 0, locals := 42 } : Room) (va_Pc [.ref h0, .int p1] (xPre D vwCl (xty K) (wX7 K h0 a0 hs r0 ++ (wX4 K (a0 3) a1 r1)) sz)) (va_Qi (fun r (u : (zS)) => post r u) (fun (u : (zS)) t => va_P D vwCl (wX7 K h0 a0 hs u ++ (wX4 K (a0 3) a1 r1)) t.heap) (va_A (wX7 K h0 a0 hs r0 ++ (wX4 K (a0 3) a1 r1)) sz)) 0 0 (va_A (wX7 K h0 a0 hs r0 ++ (wX4 K (a0 3) a1 r1)) sz) := by
  refine xMet (by decide) rfl (Nat.le_of_ble_eq_true rfl) (fun p e s m args below meth c C hnm hP hD hsz ls hl => ?_)
  have hl : lv_has ls 2 [(0, .ref h0), (1, .int p1)] := hl
  obtain ⟨hx, hb, hr, hml, hown, hts, hlocks, hK, hT⟩ := id C
  subst hsz
  generalize hAe : va_A (wX7 K h0 a0 hs r0 ++ (wX4 K (a0 3) a1 r1)) s.heap.size = A at hD ⊢
  have hA : ∀ q : Nat, s.heap.size ≤ q → A q := fun q h => by rw [← hAe]; exact Or.inr h
  have hS : va_S A s.heap s.heap [] := va_S.rf
  have hP : va_P D vwCl (wX7 K h0 a0 hs r0 ++ (wX4 K (a0 3) a1 r1)) s.heap := hP
  unfold wp_X7_note at h
  refine lv_iload_n hx hb dX7_note_0 rfl (lv_at hl 1 rfl) ?_
  refine lv_iconst (v := -1) hx hb dX7_note_1 (by decide) ?_
  refine lv_icmp_ge (tgt := 12) hx hb dX7_note_2 (by decide) (fun c1 => ?_) (fun c1 => ?_)
  · replace h := And.left h c1
    refine lv_iload_n hx hb dX7_note_12 rfl (lv_at hl 1 rfl) ?_
    refine lv_iconst (v := -1) hx hb dX7_note_13 (by decide) ?_
    refine lv_icmp_ne (tgt := 25) hx hb dX7_note_14 (by decide) (fun c2 => ?_) (fun c2 => ?_)
    · replace h := And.right h c2
      refine lv_aload_n hx hb dX7_note_25 rfl (lv_at hl 0 rfl) ?_
      refine va_get (D := D) (ci := 7) (v := .ref (a0 3)) (C := RX7) (T := TX7) (N := 13) hx hb hts inlX7 hown hK hP 0 rfl rfl 3 (by decide) (hts (.fieldLink RX7 25 "UnderTheDesks" "truth" "LUnderTheDesks$Truth;") mw_22) (fun _ h9 => h9) rfl dX7_note_26 ?_
      refine lv_iload_n hx hb dX7_note_29 rfl (lv_at hl 1 rfl) ?_
      refine xend_ro_i (xRunV (wc := (wX4 K (a0 3) a1 r1)) (As := [.int p1]) (rest := []) C (c_X4_hasNote h) k_X4_hasNote mw_1165 ⟨rfl, rfl⟩ ⟨Nat.le_of_ble_eq_true rfl, Nat.le_of_ble_eq_true rfl⟩ hP hD [3, 4, 5, 6] rfl rfl rfl rfl hl rfl rfl (Nat.le_of_ble_eq_true rfl) dX7_note_30 ⟨Nat.le_refl _, Nat.le_refl _⟩) (fun v3 h => ?_)
      refine lv_if_eq (tgt := 47) hx hb dX7_note_33 (by decide) (fun c4 => ?_) (fun c4 => ?_)
      · replace h := And.left h c4
        refine lv_aload_n hx hb dX7_note_47 rfl (lv_at hl 0 rfl) ?_
        refine lv_bipush (v := -5) hx hb dX7_note_48 (by decide) ?_
        refine xend_rw_i (wf := fun (u : (zS)) => (wX7 K h0 a0 hs u)) (xRunV (wc := (wX7 K h0 a0 hs r0)) (As := [.int (-5 : Int32)]) (rest := []) C (c_X7_refuse h) k_X7_refuse mw_147 ⟨rfl, rfl⟩ ⟨Nat.le_of_ble_eq_true rfl, Nat.le_of_ble_eq_true rfl⟩ hP hD [0, 1, 2] rfl rfl rfl rfl hl rfl rfl (Nat.le_of_ble_eq_true rfl) dX7_note_50 ⟨Nat.le_refl _, Nat.le_refl _⟩) hP hD hS hA [0, 1, 2] rfl rfl (fun _ => rfl) (fun v5 s6 H locs h hP hD hS => ?_)
        replace hP : va_P D vwCl (wX7 K h0 a0 hs s6 ++ (wX4 K (a0 3) a1 r1)) H := hP
        replace hD : va_D A (wX7 K h0 a0 hs s6 ++ (wX4 K (a0 3) a1 r1)) := hD
        exact xrw_i C s6 h hP hS dX7_note_53
      · replace h := And.right h c4
        refine lv_aload_n hx hb dX7_note_36 rfl (lv_at hl 0 rfl) ?_
        refine va_get (D := D) (ci := 7) (v := .ref (a0 3)) (C := RX7) (T := TX7) (N := 13) hx hb hts inlX7 hown hK hP 0 rfl rfl 3 (by decide) (hts (.fieldLink RX7 25 "UnderTheDesks" "truth" "LUnderTheDesks$Truth;") mw_22) (fun _ h9 => h9) rfl dX7_note_37 ?_
        refine lv_iload_n hx hb dX7_note_40 rfl (lv_at hl 1 rfl) ?_
        refine xend_ro_i (xRunV (wc := (wX4 K (a0 3) a1 r1)) (As := [.int p1]) (rest := []) C (c_X4_allOf h) k_X4_allOf mw_1169 ⟨rfl, rfl⟩ ⟨Nat.le_of_ble_eq_true rfl, Nat.le_of_ble_eq_true rfl⟩ hP hD [3, 4, 5, 6] rfl rfl rfl rfl hl rfl rfl (Nat.le_of_ble_eq_true rfl) dX7_note_41 ⟨Nat.le_refl _, Nat.le_refl _⟩) (fun v7 h => ?_)
        refine lv_goto (tgt := 53) hx hb dX7_note_44 (by decide) ?_
        exact xrw_i C r0 h hP hS dX7_note_53
    · replace h := And.left h c2
      refine lv_aload_n hx hb dX7_note_17 rfl (lv_at hl 0 rfl) ?_
      refine va_get (D := D) (ci := 7) (v := .ref (a0 3)) (C := RX7) (T := TX7) (N := 13) hx hb hts inlX7 hown hK hP 0 rfl rfl 3 (by decide) (hts (.fieldLink RX7 25 "UnderTheDesks" "truth" "LUnderTheDesks$Truth;") mw_22) (fun _ h9 => h9) rfl dX7_note_18 ?_
      refine va_get (D := D) (ci := 4) (v := .int (r1.1 4)) (C := RX4) (T := TX4) (N := 8) hx hb hts inlX4 hown hK hP 3 rfl rfl 4 (by decide) (hts (.fieldLink RX7 342 "UnderTheDesks$Truth" "kept" "I") mw_1164) (fun _ h9 => h9) rfl dX7_note_21 ?_
      exact xrw_i C r0 h hP hS dX7_note_24
  · replace h := And.right h c1
    refine lv_aload_n hx hb dX7_note_5 rfl (lv_at hl 0 rfl) ?_
    refine lv_bipush (v := -2) hx hb dX7_note_6 (by decide) ?_
    refine xend_rw_i (wf := fun (u : (zS)) => (wX7 K h0 a0 hs u)) (xRunV (wc := (wX7 K h0 a0 hs r0)) (As := [.int (-2 : Int32)]) (rest := []) C (c_X7_refuse h) k_X7_refuse mw_147 ⟨rfl, rfl⟩ ⟨Nat.le_of_ble_eq_true rfl, Nat.le_of_ble_eq_true rfl⟩ hP hD [0, 1, 2] rfl rfl rfl rfl hl rfl rfl (Nat.le_of_ble_eq_true rfl) dX7_note_8 ⟨Nat.le_refl _, Nat.le_refl _⟩) hP hD hS hA [0, 1, 2] rfl rfl (fun _ => rfl) (fun v8 s9 H locs h hP hD hS => ?_)
    replace hP : va_P D vwCl (wX7 K h0 a0 hs s9 ++ (wX4 K (a0 3) a1 r1)) H := hP
    replace hD : va_D A (wX7 K h0 a0 hs s9 ++ (wX4 K (a0 3) a1 r1)) := hD
    exact xrw_i C s9 h hP hS dX7_note_11

def wp_X7_came (r0 : zS) (r1 : zS) (p1 : Int32) (post : Int32 → (zS) → Prop) : Prop :=
  (0 ≤ p1 → wp_X4_hasNote r1 p1 (fun v2 => (v2 = 0 → wp_X7_refuse r0 (-5 : Int32) (fun v6 s7 => post v6 s7)) ∧ (¬ v2 = 0 → wp_X4_hasCome r1 p1 (fun v4 => (v4 = 0 → post (0 : Int32) r0) ∧ (¬ v4 = 0 → post (1 : Int32) r0))))) ∧ (¬ 0 ≤ p1 → wp_X7_refuse r0 (-2 : Int32) (fun v8 s9 => post v8 s9))
set_option maxHeartbeats 4000000 in
set_option maxRecDepth 100000 in
theorem c_X7_came {l : Launch} {D : va_G} {K : Nat → ClassId} {h0 : Nat} {a0 : Nat → Nat} {hs : Nat → Nat} {r0 : zS} {a1 : Nat → Nat} {r1 : zS} {p1 : Int32} {sz : Nat} {post : Int32 → (zS) → Prop}   (h : wp_X7_came r0 r1 p1 post) : Met l yX7_came (Cond.code yX7_came cX7_came 2 (some .int) :: wsL_law) ({ frames := 2, cells := 0, slots := 0, locals := 42 } : Room) (va_Pc [.ref h0, .int p1] (xPre D vwCl (xty K) (wX7 K h0 a0 hs r0 ++ (wX4 K (a0 3) a1 r1)) sz)) (va_Qi (fun r (u : (zS)) => post r u) (fun (u : (zS)) t => va_P D vwCl (wX7 K h0 a0 hs u ++ (wX4 K (a0 3) a1 r1)) t.heap) (va_A (wX7 K h0 a0 hs r0 ++ (wX4 K (a0 3) a1 r1)) sz)) 0 0 (va_A (wX7 K h0 a0 hs r0 ++ (wX4 K (a0 3) a1 r1)) sz) := by
  refine xMet (by decide) rfl (Nat.le_of_ble_eq_true rfl) (fun p e s m args below meth c C hnm hP hD hsz ls hl => ?_)
  have hl : lv_has ls 2 [(0, .ref h0), (1, .int p1)] := hl
  obtain ⟨hx, hb, hr, hml, hown, hts, hlocks, hK, hT⟩ := id C
  subst hsz
  generalize hAe : va_A (wX7 K h0 a0 hs r0 ++ (wX4 K (a0 3) a1 r1)) s.heap.size = A at hD ⊢
  have hA : ∀ q : Nat, s.heap.size ≤ q → A q := fun q h => by rw [← hAe]; exact Or.inr h
  have hS : va_S A s.heap s.heap [] := va_S.rf
  have hP : va_P D vwCl (wX7 K h0 a0 hs r0 ++ (wX4 K (a0 3) a1 r1)) s.heap := hP
  unfold wp_X7_came at h
  refine lv_iload_n hx hb dX7_came_0 rfl (lv_at hl 1 rfl) ?_
  refine lv_if_ge (tgt := 11) hx hb dX7_came_1 (by decide) (fun c1 => ?_) (fun c1 => ?_)
  · replace h := And.left h c1
    refine lv_aload_n hx hb dX7_came_11 rfl (lv_at hl 0 rfl) ?_
    refine va_get (D := D) (ci := 7) (v := .ref (a0 3)) (C := RX7) (T := TX7) (N := 13) hx hb hts inlX7 hown hK hP 0 rfl rfl 3 (by decide) (hts (.fieldLink RX7 25 "UnderTheDesks" "truth" "LUnderTheDesks$Truth;") mw_22) (fun _ h9 => h9) rfl dX7_came_12 ?_
    refine lv_iload_n hx hb dX7_came_15 rfl (lv_at hl 1 rfl) ?_
    refine xend_ro_i (xRunV (wc := (wX4 K (a0 3) a1 r1)) (As := [.int p1]) (rest := []) C (c_X4_hasNote h) k_X4_hasNote mw_1165 ⟨rfl, rfl⟩ ⟨Nat.le_of_ble_eq_true rfl, Nat.le_of_ble_eq_true rfl⟩ hP hD [3, 4, 5, 6] rfl rfl rfl rfl hl rfl rfl (Nat.le_of_ble_eq_true rfl) dX7_came_16 ⟨Nat.le_refl _, Nat.le_refl _⟩) (fun v2 h => ?_)
    refine lv_if_ne (tgt := 29) hx hb dX7_came_19 (by decide) (fun c3 => ?_) (fun c3 => ?_)
    · replace h := And.right h c3
      refine lv_aload_n hx hb dX7_came_29 rfl (lv_at hl 0 rfl) ?_
      refine va_get (D := D) (ci := 7) (v := .ref (a0 3)) (C := RX7) (T := TX7) (N := 13) hx hb hts inlX7 hown hK hP 0 rfl rfl 3 (by decide) (hts (.fieldLink RX7 25 "UnderTheDesks" "truth" "LUnderTheDesks$Truth;") mw_22) (fun _ h9 => h9) rfl dX7_came_30 ?_
      refine lv_iload_n hx hb dX7_came_33 rfl (lv_at hl 1 rfl) ?_
      refine xend_ro_i (xRunV (wc := (wX4 K (a0 3) a1 r1)) (As := [.int p1]) (rest := []) C (c_X4_hasCome h) k_X4_hasCome mw_1182 ⟨rfl, rfl⟩ ⟨Nat.le_of_ble_eq_true rfl, Nat.le_of_ble_eq_true rfl⟩ hP hD [3, 4, 5, 6] rfl rfl rfl rfl hl rfl rfl (Nat.le_of_ble_eq_true rfl) dX7_came_34 ⟨Nat.le_refl _, Nat.le_refl _⟩) (fun v4 h => ?_)
      refine lv_if_eq (tgt := 44) hx hb dX7_came_37 (by decide) (fun c5 => ?_) (fun c5 => ?_)
      · replace h := And.left h c5
        refine lv_iconst (v := 0) hx hb dX7_came_44 (by decide) ?_
        exact xrw_i C r0 h hP hS dX7_came_45
      · replace h := And.right h c5
        refine lv_iconst (v := 1) hx hb dX7_came_40 (by decide) ?_
        refine lv_goto (tgt := 45) hx hb dX7_came_41 (by decide) ?_
        exact xrw_i C r0 h hP hS dX7_came_45
    · replace h := And.left h c3
      refine lv_aload_n hx hb dX7_came_22 rfl (lv_at hl 0 rfl) ?_
      refine lv_bipush (v := -5) hx hb dX7_came_23 (by decide) ?_
      refine xend_rw_i (wf := fun (u : (zS)) => (wX7 K h0 a0 hs u)) (xRunV (wc := (wX7 K h0 a0 hs r0)) (As := [.int (-5 : Int32)]) (rest := []) C (c_X7_refuse h) k_X7_refuse mw_147 ⟨rfl, rfl⟩ ⟨Nat.le_of_ble_eq_true rfl, Nat.le_of_ble_eq_true rfl⟩ hP hD [0, 1, 2] rfl rfl rfl rfl hl rfl rfl (Nat.le_of_ble_eq_true rfl) dX7_came_25 ⟨Nat.le_refl _, Nat.le_refl _⟩) hP hD hS hA [0, 1, 2] rfl rfl (fun _ => rfl) (fun v6 s7 H locs h hP hD hS => ?_)
      replace hP : va_P D vwCl (wX7 K h0 a0 hs s7 ++ (wX4 K (a0 3) a1 r1)) H := hP
      replace hD : va_D A (wX7 K h0 a0 hs s7 ++ (wX4 K (a0 3) a1 r1)) := hD
      exact xrw_i C s7 h hP hS dX7_came_28
  · replace h := And.right h c1
    refine lv_aload_n hx hb dX7_came_4 rfl (lv_at hl 0 rfl) ?_
    refine lv_bipush (v := -2) hx hb dX7_came_5 (by decide) ?_
    refine xend_rw_i (wf := fun (u : (zS)) => (wX7 K h0 a0 hs u)) (xRunV (wc := (wX7 K h0 a0 hs r0)) (As := [.int (-2 : Int32)]) (rest := []) C (c_X7_refuse h) k_X7_refuse mw_147 ⟨rfl, rfl⟩ ⟨Nat.le_of_ble_eq_true rfl, Nat.le_of_ble_eq_true rfl⟩ hP hD [0, 1, 2] rfl rfl rfl rfl hl rfl rfl (Nat.le_of_ble_eq_true rfl) dX7_came_7 ⟨Nat.le_refl _, Nat.le_refl _⟩) hP hD hS hA [0, 1, 2] rfl rfl (fun _ => rfl) (fun v8 s9 H locs h hP hD hS => ?_)
    replace hP : va_P D vwCl (wX7 K h0 a0 hs s9 ++ (wX4 K (a0 3) a1 r1)) H := hP
    replace hD : va_D A (wX7 K h0 a0 hs s9 ++ (wX4 K (a0 3) a1 r1)) := hD
    exact xrw_i C s9 h hP hS dX7_came_10

def wp_X7_suspect_38 (r0 : zS) (r1 : zS) (r2 : zS) (post : Int32 → Prop) (k6 : Int32 → Int32 → Int32 → Prop) (x1 : Int32) (x2 : Int32) (x3 : Int32) : Prop :=
  ∀ v4 : Int32, v4 = x3 + (1 : Int32) → k6 x1 x2 v4
def wb_X7_suspect_6 (r0 : zS) (r1 : zS) (r2 : zS) (post : Int32 → Prop) (ih : Int32 → Int32 → Int32 → Prop) (x1 : Int32) (x2 : Int32) (x3 : Int32) : Prop :=
  ((r1.1 1) ≤ x3 → post x1 ) ∧ (¬ (r1.1 1) ≤ x3 → wp_X4_lostBy r2 x3 (fun v2 => (v2 ≤ x2 → wp_X7_suspect_38 r0 r1 r2 post ih x1 x2 x3) ∧ (¬ v2 ≤ x2 → wp_X7_suspect_38 r0 r1 r2 post ih x3 v2 x3)))
def wp_X7_suspect_6 (r0 : zS) (r1 : zS) (r2 : zS) (post : Int32 → Prop) (n : Nat) : Int32 → Int32 → Int32 → Prop := Nat.rec (motive := fun _ => Int32 → Int32 → Int32 → Prop) (fun _ _ _ => False) (fun _ ih => wb_X7_suspect_6 r0 r1 r2 post ih) n
theorem wu_X7_suspect_6 (r0 : zS) (r1 : zS) (r2 : zS) (post : Int32 → Prop) (n : Nat) (x1 : Int32) (x2 : Int32) (x3 : Int32) : wp_X7_suspect_6 r0 r1 r2 post (n + 1) x1 x2 x3 = wb_X7_suspect_6 r0 r1 r2 post (wp_X7_suspect_6 r0 r1 r2 post n) x1 x2 x3 := rfl
def wp_X7_suspect (r0 : zS) (r1 : zS) (r2 : zS) (post : Int32 → Prop) : Prop :=
  ∃ n : Nat, wp_X7_suspect_6 r0 r1 r2 post n (-1 : Int32) (0 : Int32) (0 : Int32)
set_option maxHeartbeats 4000000 in
set_option maxRecDepth 100000 in
theorem t_X7_suspect_38 {p : Program} {l : Launch} {e : Env} {s : State} {m : MethodId} {args : Array Value} {below : List Frame} {meth : Method} {c : Code} {D : va_G} {K : Nat → ClassId} {h0 : Nat} {a0 : Nat → Nat} {hs : Nat → Nat} {r0 : zS} {a1 : Nat → Nat} {r1 : zS} {a2 : Nat → Nat} {r2 : zS} {post : Int32 → Prop} (C : xC p s m args meth c cX7_suspect RX7 5 (some .int) D vwCl (xty K)) (hP : va_P D vwCl (wX7 K h0 a0 hs r0 ++ (wX1 K (a0 0) a1 r1 ++ (wX4 K (a0 3) a2 r2))) s.heap) (hD : va_D (va_A (wX7 K h0 a0 hs r0 ++ (wX1 K (a0 0) a1 r1 ++ (wX4 K (a0 3) a2 r2))) s.heap.size) (wX7 K h0 a0 hs r0 ++ (wX1 K (a0 0) a1 r1 ++ (wX4 K (a0 3) a2 r2)))) {k6 : Int32 → Int32 → Int32 → Prop} (hk6 : ∀ (x1 : Int32) (x2 : Int32) (x3 : Int32) (ls : Array Slot), lv_has ls 5 [(0, .ref h0), (1, .int x1), (2, .int x2), (3, .int x3)] → k6  x1 x2 x3  → W p l e ({ frames := 1, cells := 0, slots := 0, locals := 23 } : Room) s m args below meth c s.heap [] 0 0 (MQ below (roI post) args s 0 0 (fun _ => False)) (F0 m 6 ls [])) : ∀ (x1 : Int32) (x2 : Int32) (x3 : Int32) (ls : Array Slot), lv_has ls 5 [(0, .ref h0), (1, .int x1), (2, .int x2), (3, .int x3)] → wp_X7_suspect_38 r0 r1 r2 post k6 x1 x2 x3 → W p l e ({ frames := 1, cells := 0, slots := 0, locals := 23 } : Room) s m args below meth c s.heap [] 0 0 (MQ below (roI post) args s 0 0 (fun _ => False)) (F0 m 38 ls []) := by
  obtain ⟨hx, hb, hr, hml, hown, hts, hlocks, hK, hT⟩ := id C
  intro x1 x2 x3 ls hl h
  unfold wp_X7_suspect_38 at h
  obtain ⟨v4, ev4⟩ : ∃ y : Int32, y = x3 + (1 : Int32) := ⟨_, rfl⟩
  replace h := h v4 ev4
  refine lv_iinc (v := v4) (lv' := [(3, .int v4), (0, .ref h0), (1, .int x1), (2, .int x2)]) hx hb dX7_suspect_38 hl (k := 3) rfl (by rw [ev4]; rfl) (by decide) rfl (fun ls hl => ?_)
  refine lv_goto (tgt := 6) hx hb dX7_suspect_41 (by decide) ?_
  exact hk6 _ _ _ _ (lv_sub hl [1, 2, 3, 0] rfl) h
set_option maxHeartbeats 4000000 in
set_option maxRecDepth 100000 in
theorem t_X7_suspect_6 {p : Program} {l : Launch} {e : Env} {s : State} {m : MethodId} {args : Array Value} {below : List Frame} {meth : Method} {c : Code} {D : va_G} {K : Nat → ClassId} {h0 : Nat} {a0 : Nat → Nat} {hs : Nat → Nat} {r0 : zS} {a1 : Nat → Nat} {r1 : zS} {a2 : Nat → Nat} {r2 : zS} {post : Int32 → Prop} (C : xC p s m args meth c cX7_suspect RX7 5 (some .int) D vwCl (xty K)) (hP : va_P D vwCl (wX7 K h0 a0 hs r0 ++ (wX1 K (a0 0) a1 r1 ++ (wX4 K (a0 3) a2 r2))) s.heap) (hD : va_D (va_A (wX7 K h0 a0 hs r0 ++ (wX1 K (a0 0) a1 r1 ++ (wX4 K (a0 3) a2 r2))) s.heap.size) (wX7 K h0 a0 hs r0 ++ (wX1 K (a0 0) a1 r1 ++ (wX4 K (a0 3) a2 r2)))) : ∀ (n : Nat) (x1 : Int32) (x2 : Int32) (x3 : Int32) (ls : Array Slot), lv_has ls 5 [(0, .ref h0), (1, .int x1), (2, .int x2), (3, .int x3)] → wp_X7_suspect_6 r0 r1 r2 post n x1 x2 x3 → W p l e ({ frames := 1, cells := 0, slots := 0, locals := 23 } : Room) s m args below meth c s.heap [] 0 0 (MQ below (roI post) args s 0 0 (fun _ => False)) (F0 m 6 ls []) := by
  obtain ⟨hx, hb, hr, hml, hown, hts, hlocks, hK, hT⟩ := id C
  intro n
  induction n with
  | zero =>
    intro x1 x2 x3 ls hl h
    exact False.elim h
  | succ n ihn =>
    intro x1 x2 x3 ls hl h
    rw [wu_X7_suspect_6] at h
    unfold wb_X7_suspect_6 at h
    refine lv_iload_n hx hb dX7_suspect_6 rfl (lv_at hl 3 rfl) ?_
    refine lv_aload_n hx hb dX7_suspect_7 rfl (lv_at hl 0 rfl) ?_
    refine va_get (D := D) (ci := 7) (v := .ref (a0 0)) (C := RX7) (T := TX7) (N := 13) hx hb hts inlX7 hown hK hP 0 rfl rfl 0 (by decide) (hts (.fieldLink RX7 10 "UnderTheDesks" "room" "LUnderTheDesks$Room;") mw_16) (fun _ h9 => h9) rfl dX7_suspect_8 ?_
    refine va_get (D := D) (ci := 1) (v := .int (r1.1 1)) (C := RX1) (T := TX1) (N := 10) hx hb hts inlX1 hown hK hP 3 rfl rfl 1 (by decide) (hts (.fieldLink RX7 161 "UnderTheDesks$Room" "count" "I") mw_360) (fun _ h9 => h9) rfl dX7_suspect_11 ?_
    refine lv_icmp_ge (tgt := 44) hx hb dX7_suspect_14 (by decide) (fun c1 => ?_) (fun c1 => ?_)
    · replace h := And.left h c1
      refine lv_iload_n hx hb dX7_suspect_44 rfl (lv_at hl 1 rfl) ?_
      exact xro_i C h dX7_suspect_45
    · replace h := And.right h c1
      refine lv_aload_n hx hb dX7_suspect_17 rfl (lv_at hl 0 rfl) ?_
      refine va_get (D := D) (ci := 7) (v := .ref (a0 3)) (C := RX7) (T := TX7) (N := 13) hx hb hts inlX7 hown hK hP 0 rfl rfl 3 (by decide) (hts (.fieldLink RX7 25 "UnderTheDesks" "truth" "LUnderTheDesks$Truth;") mw_22) (fun _ h9 => h9) rfl dX7_suspect_18 ?_
      refine lv_iload_n hx hb dX7_suspect_21 rfl (lv_at hl 3 rfl) ?_
      refine xend_ro_i (xRunV (wc := (wX4 K (a0 3) a2 r2)) (As := [.int x3]) (rest := []) C (c_X4_lostBy h) k_X4_lostBy mw_1194 ⟨rfl, rfl⟩ ⟨Nat.le_of_ble_eq_true rfl, Nat.le_of_ble_eq_true rfl⟩ hP hD [9, 10, 11, 12] rfl rfl rfl rfl hl rfl rfl (Nat.le_of_ble_eq_true rfl) dX7_suspect_22 ⟨Nat.le_refl _, Nat.le_refl _⟩) (fun v2 h => ?_)
      refine lv_istore (lv' := [(4, .int v2), (0, .ref h0), (1, .int x1), (2, .int x2), (3, .int x3)]) hx hb dX7_suspect_25 hl (by decide) rfl (fun ls hl => ?_)
      refine lv_iload hx hb dX7_suspect_27 (lv_at hl 0 rfl) ?_
      refine lv_iload_n hx hb dX7_suspect_29 rfl (lv_at hl 3 rfl) ?_
      refine lv_icmp_le (tgt := 38) hx hb dX7_suspect_30 (by decide) (fun c3 => ?_) (fun c3 => ?_)
      · replace h := And.left h c3
        exact t_X7_suspect_38 C hP hD ihn _ _ _ _ (lv_sub hl [1, 2, 3, 4] rfl) h
      · replace h := And.right h c3
        refine lv_iload_n hx hb dX7_suspect_33 rfl (lv_at hl 4 rfl) ?_
        refine lv_istore_n (lv' := [(1, .int x3), (4, .int v2), (0, .ref h0), (2, .int x2), (3, .int x3)]) hx hb dX7_suspect_34 rfl hl (by decide) rfl (fun ls hl => ?_)
        refine lv_iload hx hb dX7_suspect_35 (lv_at hl 1 rfl) ?_
        refine lv_istore_n (lv' := [(2, .int v2), (1, .int x3), (4, .int v2), (0, .ref h0), (3, .int x3)]) hx hb dX7_suspect_37 rfl hl (by decide) rfl (fun ls hl => ?_)
        exact t_X7_suspect_38 C hP hD ihn _ _ _ _ (lv_sub hl [3, 1, 0, 4] rfl) h
set_option maxHeartbeats 4000000 in
set_option maxRecDepth 100000 in
theorem c_X7_suspect {l : Launch} {D : va_G} {K : Nat → ClassId} {h0 : Nat} {a0 : Nat → Nat} {hs : Nat → Nat} {r0 : zS} {a1 : Nat → Nat} {r1 : zS} {a2 : Nat → Nat} {r2 : zS}  {sz : Nat} {post : Int32 → Prop}   (h : wp_X7_suspect r0 r1 r2 post) : Met l yX7_suspect (Cond.code yX7_suspect cX7_suspect 5 (some .int) :: wsL_law) ({ frames := 1, cells := 0, slots := 0, locals := 23 } : Room) (va_Pc [.ref h0] (xPre D vwCl (xty K) (wX7 K h0 a0 hs r0 ++ (wX1 K (a0 0) a1 r1 ++ (wX4 K (a0 3) a2 r2))) sz)) (roI post) 0 0 (fun _ => False) := by
  refine xMet (by decide) rfl (Nat.le_of_ble_eq_true rfl) (fun p e s m args below meth c C hnm hP hD hsz ls hl => ?_)
  have hl : lv_has ls 5 [(0, .ref h0)] := hl
  obtain ⟨hx, hb, hr, hml, hown, hts, hlocks, hK, hT⟩ := id C
  unfold wp_X7_suspect at h
  refine lv_iconst (v := -1) hx hb dX7_suspect_0 (by decide) ?_
  refine lv_istore_n (lv' := [(1, .int (-1 : Int32)), (0, .ref h0)]) hx hb dX7_suspect_1 rfl hl (by decide) rfl (fun ls hl => ?_)
  refine lv_iconst (v := 0) hx hb dX7_suspect_2 (by decide) ?_
  refine lv_istore_n (lv' := [(2, .int (0 : Int32)), (1, .int (-1 : Int32)), (0, .ref h0)]) hx hb dX7_suspect_3 rfl hl (by decide) rfl (fun ls hl => ?_)
  refine lv_iconst (v := 0) hx hb dX7_suspect_4 (by decide) ?_
  refine lv_istore_n (lv' := [(3, .int (0 : Int32)), (2, .int (0 : Int32)), (1, .int (-1 : Int32)), (0, .ref h0)]) hx hb dX7_suspect_5 rfl hl (by decide) rfl (fun ls hl => ?_)
  obtain ⟨n0, h⟩ := h
  exact t_X7_suspect_6 C hP hD n0 _ _ _ _ (lv_sub hl [3, 2, 1, 0] rfl) h

def wp_X7_swap_22 (p1 : Int32) (p2 : Int32) (post : Int32 → (zS) → (zS) → Prop) (r0 : zS) (r1 : zS) : Prop :=
  wp_X7_refuse r0 (-2 : Int32) (fun v3 s4 => post v3 s4 r1)
def wp_X7_swap (r0 : zS) (r1 : zS) (p1 : Int32) (p2 : Int32) (post : Int32 → (zS) → (zS) → Prop) : Prop :=
  wp_X1_has r1 p1 (fun v1 => (v1 = 0 → wp_X7_swap_22 p1 p2 post r0 r1) ∧ (¬ v1 = 0 → wp_X1_has r1 p2 (fun v5 => (v5 = 0 → wp_X7_swap_22 p1 p2 post r0 r1) ∧ (¬ v5 = 0 → (p1 = p2 → post (0 : Int32) r0 r1) ∧ (¬ p1 = p2 → wp_X1_exchange r1 p1 p2 (fun s9 => post (1 : Int32) r0 s9))))))
set_option maxHeartbeats 4000000 in
set_option maxRecDepth 100000 in
theorem t_X7_swap_22 {p : Program} {l : Launch} {e : Env} {s : State} {m : MethodId} {args : Array Value} {below : List Frame} {meth : Method} {c : Code} {D : va_G} {K : Nat → ClassId} {h0 : Nat} {a0 : Nat → Nat} {hs : Nat → Nat} {a1 : Nat → Nat} {p1 : Int32} {p2 : Int32} {post : Int32 → (zS) → (zS) → Prop} {A : Nat → Prop} (C : xC p s m args meth c cX7_swap RX7 3 (some .int) D vwCl (xty K)) (hA : ∀ q, s.heap.size ≤ q → A q) : ∀ (r0 : zS) (r1 : zS) (H : Heap) (locs : List Loc) (ls : Array Slot), lv_has ls 3 [(0, .ref h0)] → va_P D vwCl (wX7 K h0 a0 hs r0 ++ (wX1 K (a0 0) a1 r1)) H → va_D A (wX7 K h0 a0 hs r0 ++ (wX1 K (a0 0) a1 r1)) → va_S A s.heap H locs → wp_X7_swap_22 p1 p2 post r0 r1 → W p l e ({ frames := 4, cells := 0, slots := 0, locals := 146 } : Room) s m args below meth c H locs 0 0 (MQ below (va_Qi (fun r (u : (zS) × (zS)) => post r u.1 u.2) (fun (u : (zS) × (zS)) t => va_P D vwCl (wX7 K h0 a0 hs u.1 ++ (wX1 K (a0 0) a1 u.2)) t.heap) A) args s 0 0 A) (F0 m 22 ls []) := by
  obtain ⟨hx, hb, hr, hml, hown, hts, hlocks, hK, hT⟩ := id C
  intro r0 r1 H locs ls hl hP hD hS h
  unfold wp_X7_swap_22 at h
  refine lv_aload_n hx hb dX7_swap_22 rfl (lv_at hl 0 rfl) ?_
  refine lv_bipush (v := -2) hx hb dX7_swap_23 (by decide) ?_
  refine xend_rw_i (wf := fun (u : (zS)) => (wX7 K h0 a0 hs u)) (xRunV (wc := (wX7 K h0 a0 hs r0)) (As := [.int (-2 : Int32)]) (rest := []) C (c_X7_refuse h) k_X7_refuse mw_147 ⟨rfl, rfl⟩ ⟨Nat.le_of_ble_eq_true rfl, Nat.le_of_ble_eq_true rfl⟩ hP hD [0, 1, 2] rfl rfl rfl rfl hl rfl rfl (Nat.le_of_ble_eq_true rfl) dX7_swap_25 ⟨Nat.le_refl _, Nat.le_refl _⟩) hP hD hS hA [0, 1, 2] rfl rfl (fun _ => rfl) (fun v3 s4 H locs h hP hD hS => ?_)
  replace hP : va_P D vwCl (wX7 K h0 a0 hs s4 ++ (wX1 K (a0 0) a1 r1)) H := hP
  replace hD : va_D A (wX7 K h0 a0 hs s4 ++ (wX1 K (a0 0) a1 r1)) := hD
  exact xrw_i C (s4, r1) h hP hS dX7_swap_28
set_option maxHeartbeats 4000000 in
set_option maxRecDepth 100000 in
theorem c_X7_swap {l : Launch} {D : va_G} {K : Nat → ClassId} {h0 : Nat} {a0 : Nat → Nat} {hs : Nat → Nat} {r0 : zS} {a1 : Nat → Nat} {r1 : zS} {p1 : Int32} {p2 : Int32} {sz : Nat} {post : Int32 → (zS) → (zS) → Prop}   (h : wp_X7_swap r0 r1 p1 p2 post) : Met l yX7_swap (Cond.code yX7_swap cX7_swap 3 (some .int) :: wsL_law) ({ frames := 4, cells := 0, slots := 0, locals := 146 } : Room) (va_Pc [.ref h0, .int p1, .int p2] (xPre D vwCl (xty K) (wX7 K h0 a0 hs r0 ++ (wX1 K (a0 0) a1 r1)) sz)) (va_Qi (fun r (u : (zS) × (zS)) => post r u.1 u.2) (fun (u : (zS) × (zS)) t => va_P D vwCl (wX7 K h0 a0 hs u.1 ++ (wX1 K (a0 0) a1 u.2)) t.heap) (va_A (wX7 K h0 a0 hs r0 ++ (wX1 K (a0 0) a1 r1)) sz)) 0 0 (va_A (wX7 K h0 a0 hs r0 ++ (wX1 K (a0 0) a1 r1)) sz) := by
  refine xMet (by decide) rfl (Nat.le_of_ble_eq_true rfl) (fun p e s m args below meth c C hnm hP hD hsz ls hl => ?_)
  have hl : lv_has ls 3 [(0, .ref h0), (1, .int p1), (2, .int p2)] := hl
  obtain ⟨hx, hb, hr, hml, hown, hts, hlocks, hK, hT⟩ := id C
  subst hsz
  generalize hAe : va_A (wX7 K h0 a0 hs r0 ++ (wX1 K (a0 0) a1 r1)) s.heap.size = A at hD ⊢
  have hA : ∀ q : Nat, s.heap.size ≤ q → A q := fun q h => by rw [← hAe]; exact Or.inr h
  have hS : va_S A s.heap s.heap [] := va_S.rf
  have hP : va_P D vwCl (wX7 K h0 a0 hs r0 ++ (wX1 K (a0 0) a1 r1)) s.heap := hP
  unfold wp_X7_swap at h
  refine lv_aload_n hx hb dX7_swap_0 rfl (lv_at hl 0 rfl) ?_
  refine va_get (D := D) (ci := 7) (v := .ref (a0 0)) (C := RX7) (T := TX7) (N := 13) hx hb hts inlX7 hown hK hP 0 rfl rfl 0 (by decide) (hts (.fieldLink RX7 10 "UnderTheDesks" "room" "LUnderTheDesks$Room;") mw_16) (fun _ h9 => h9) rfl dX7_swap_1 ?_
  refine lv_iload_n hx hb dX7_swap_4 rfl (lv_at hl 1 rfl) ?_
  refine xend_ro_i (xRunV (wc := (wX1 K (a0 0) a1 r1)) (As := [.int p1]) (rest := []) C (c_X1_has h) k_X1_has mw_250 ⟨rfl, rfl⟩ ⟨Nat.le_of_ble_eq_true rfl, Nat.le_of_ble_eq_true rfl⟩ hP hD [3, 4, 5, 6, 7, 8] rfl rfl rfl rfl hl rfl rfl (Nat.le_of_ble_eq_true rfl) dX7_swap_5 ⟨Nat.le_refl _, Nat.le_refl _⟩) (fun v1 h => ?_)
  refine lv_if_eq (tgt := 22) hx hb dX7_swap_8 (by decide) (fun c2 => ?_) (fun c2 => ?_)
  · replace h := And.left h c2
    exact t_X7_swap_22 C hA _ _ _ _ _ (lv_sub hl [0] rfl) hP hD hS h
  · replace h := And.right h c2
    refine lv_aload_n hx hb dX7_swap_11 rfl (lv_at hl 0 rfl) ?_
    refine va_get (D := D) (ci := 7) (v := .ref (a0 0)) (C := RX7) (T := TX7) (N := 13) hx hb hts inlX7 hown hK hP 0 rfl rfl 0 (by decide) (hts (.fieldLink RX7 10 "UnderTheDesks" "room" "LUnderTheDesks$Room;") mw_16) (fun _ h9 => h9) rfl dX7_swap_12 ?_
    refine lv_iload_n hx hb dX7_swap_15 rfl (lv_at hl 2 rfl) ?_
    refine xend_ro_i (xRunV (wc := (wX1 K (a0 0) a1 r1)) (As := [.int p2]) (rest := []) C (c_X1_has h) k_X1_has mw_250 ⟨rfl, rfl⟩ ⟨Nat.le_of_ble_eq_true rfl, Nat.le_of_ble_eq_true rfl⟩ hP hD [3, 4, 5, 6, 7, 8] rfl rfl rfl rfl hl rfl rfl (Nat.le_of_ble_eq_true rfl) dX7_swap_16 ⟨Nat.le_refl _, Nat.le_refl _⟩) (fun v5 h => ?_)
    refine lv_if_ne (tgt := 29) hx hb dX7_swap_19 (by decide) (fun c6 => ?_) (fun c6 => ?_)
    · replace h := And.right h c6
      refine lv_iload_n hx hb dX7_swap_29 rfl (lv_at hl 1 rfl) ?_
      refine lv_iload_n hx hb dX7_swap_30 rfl (lv_at hl 2 rfl) ?_
      refine lv_icmp_ne (tgt := 36) hx hb dX7_swap_31 (by decide) (fun c7 => ?_) (fun c7 => ?_)
      · replace h := And.right h c7
        refine lv_aload_n hx hb dX7_swap_36 rfl (lv_at hl 0 rfl) ?_
        refine va_get (D := D) (ci := 7) (v := .ref (a0 0)) (C := RX7) (T := TX7) (N := 13) hx hb hts inlX7 hown hK hP 0 rfl rfl 0 (by decide) (hts (.fieldLink RX7 10 "UnderTheDesks" "room" "LUnderTheDesks$Room;") mw_16) (fun _ h9 => h9) rfl dX7_swap_37 ?_
        refine lv_iload_n hx hb dX7_swap_40 rfl (lv_at hl 1 rfl) ?_
        refine lv_iload_n hx hb dX7_swap_41 rfl (lv_at hl 2 rfl) ?_
        refine xend_rw_v (wf := fun (u : (zS)) => (wX1 K (a0 0) a1 u)) (xRunV (wc := (wX1 K (a0 0) a1 r1)) (As := [.int p1, .int p2]) (rest := []) C (c_X1_exchange h) k_X1_exchange mw_1074 ⟨rfl, rfl⟩ ⟨Nat.le_of_ble_eq_true rfl, Nat.le_of_ble_eq_true rfl⟩ hP hD [3, 4, 5, 6, 7, 8] rfl rfl rfl rfl hl rfl rfl (Nat.le_of_ble_eq_true rfl) dX7_swap_42 ⟨Nat.le_refl _, Nat.le_refl _⟩) hP hD hS hA [3, 4, 5, 6, 7, 8] rfl rfl (fun _ => rfl) (fun s9 H locs h hP hD hS => ?_)
        replace hP : va_P D vwCl (wX7 K h0 a0 hs r0 ++ (wX1 K (a0 0) a1 s9)) H := hP
        replace hD : va_D A (wX7 K h0 a0 hs r0 ++ (wX1 K (a0 0) a1 s9)) := hD
        refine lv_iconst (v := 1) hx hb dX7_swap_45 (by decide) ?_
        exact xrw_i C (r0, s9) h hP hS dX7_swap_46
      · replace h := And.left h c7
        refine lv_iconst (v := 0) hx hb dX7_swap_34 (by decide) ?_
        exact xrw_i C (r0, r1) h hP hS dX7_swap_35
    · replace h := And.left h c6
      exact t_X7_swap_22 C hA _ _ _ _ _ (lv_sub hl [0] rfl) hP hD hS h

def wp_X7_waits_12 (p1 : Int32) (post : Int32 → (zS) → (zS) → Prop) (r0 : zS) (r1 : zS) : Prop :=
  wp_X7_refuse r0 (-2 : Int32) (fun v2 s3 => post v2 s3 r1)
def wp_X7_waits (r0 : zS) (r1 : zS) (p1 : Int32) (post : Int32 → (zS) → (zS) → Prop) : Prop :=
  (p1 < (1 : Int32) → wp_X7_waits_12 p1 post r0 r1) ∧ (¬ p1 < (1 : Int32) → (p1 ≤ (999 : Int32) → ∀ v5 : Int32, v5 = ((r1.1 0) + p1) → post ((zI r1 0 v5).1 0) r0 (zI r1 0 v5)) ∧ (¬ p1 ≤ (999 : Int32) → wp_X7_waits_12 p1 post r0 r1))
set_option maxHeartbeats 4000000 in
set_option maxRecDepth 100000 in
theorem t_X7_waits_12 {p : Program} {l : Launch} {e : Env} {s : State} {m : MethodId} {args : Array Value} {below : List Frame} {meth : Method} {c : Code} {D : va_G} {K : Nat → ClassId} {h0 : Nat} {a0 : Nat → Nat} {hs : Nat → Nat} {a1 : Nat → Nat} {p1 : Int32} {post : Int32 → (zS) → (zS) → Prop} {A : Nat → Prop} (C : xC p s m args meth c cX7_waits RX7 2 (some .int) D vwCl (xty K)) (hA : ∀ q, s.heap.size ≤ q → A q) : ∀ (r0 : zS) (r1 : zS) (H : Heap) (locs : List Loc) (ls : Array Slot), lv_has ls 2 [(0, .ref h0)] → va_P D vwCl (wX7 K h0 a0 hs r0 ++ (wX4 K (a0 3) a1 r1)) H → va_D A (wX7 K h0 a0 hs r0 ++ (wX4 K (a0 3) a1 r1)) → va_S A s.heap H locs → wp_X7_waits_12 p1 post r0 r1 → W p l e ({ frames := 1, cells := 0, slots := 0, locals := 22 } : Room) s m args below meth c H locs 0 0 (MQ below (va_Qi (fun r (u : (zS) × (zS)) => post r u.1 u.2) (fun (u : (zS) × (zS)) t => va_P D vwCl (wX7 K h0 a0 hs u.1 ++ (wX4 K (a0 3) a1 u.2)) t.heap) A) args s 0 0 A) (F0 m 12 ls []) := by
  obtain ⟨hx, hb, hr, hml, hown, hts, hlocks, hK, hT⟩ := id C
  intro r0 r1 H locs ls hl hP hD hS h
  unfold wp_X7_waits_12 at h
  refine lv_aload_n hx hb dX7_waits_12 rfl (lv_at hl 0 rfl) ?_
  refine lv_bipush (v := -2) hx hb dX7_waits_13 (by decide) ?_
  refine xend_rw_i (wf := fun (u : (zS)) => (wX7 K h0 a0 hs u)) (xRunV (wc := (wX7 K h0 a0 hs r0)) (As := [.int (-2 : Int32)]) (rest := []) C (c_X7_refuse h) k_X7_refuse mw_147 ⟨rfl, rfl⟩ ⟨Nat.le_of_ble_eq_true rfl, Nat.le_of_ble_eq_true rfl⟩ hP hD [0, 1, 2] rfl rfl rfl rfl hl rfl rfl (Nat.le_of_ble_eq_true rfl) dX7_waits_15 ⟨Nat.le_refl _, Nat.le_refl _⟩) hP hD hS hA [0, 1, 2] rfl rfl (fun _ => rfl) (fun v2 s3 H locs h hP hD hS => ?_)
  replace hP : va_P D vwCl (wX7 K h0 a0 hs s3 ++ (wX4 K (a0 3) a1 r1)) H := hP
  replace hD : va_D A (wX7 K h0 a0 hs s3 ++ (wX4 K (a0 3) a1 r1)) := hD
  exact xrw_i C (s3, r1) h hP hS dX7_waits_18
set_option maxHeartbeats 4000000 in
set_option maxRecDepth 100000 in
theorem c_X7_waits {l : Launch} {D : va_G} {K : Nat → ClassId} {h0 : Nat} {a0 : Nat → Nat} {hs : Nat → Nat} {r0 : zS} {a1 : Nat → Nat} {r1 : zS} {p1 : Int32} {sz : Nat} {post : Int32 → (zS) → (zS) → Prop}   (h : wp_X7_waits r0 r1 p1 post) : Met l yX7_waits (Cond.code yX7_waits cX7_waits 2 (some .int) :: wsL_law) ({ frames := 1, cells := 0, slots := 0, locals := 22 } : Room) (va_Pc [.ref h0, .int p1] (xPre D vwCl (xty K) (wX7 K h0 a0 hs r0 ++ (wX4 K (a0 3) a1 r1)) sz)) (va_Qi (fun r (u : (zS) × (zS)) => post r u.1 u.2) (fun (u : (zS) × (zS)) t => va_P D vwCl (wX7 K h0 a0 hs u.1 ++ (wX4 K (a0 3) a1 u.2)) t.heap) (va_A (wX7 K h0 a0 hs r0 ++ (wX4 K (a0 3) a1 r1)) sz)) 0 0 (va_A (wX7 K h0 a0 hs r0 ++ (wX4 K (a0 3) a1 r1)) sz) := by
  refine xMet (by decide) rfl (Nat.le_of_ble_eq_true rfl) (fun p e s m args below meth c C hnm hP hD hsz ls hl => ?_)
  have hl : lv_has ls 2 [(0, .ref h0), (1, .int p1)] := hl
  obtain ⟨hx, hb, hr, hml, hown, hts, hlocks, hK, hT⟩ := id C
  subst hsz
  generalize hAe : va_A (wX7 K h0 a0 hs r0 ++ (wX4 K (a0 3) a1 r1)) s.heap.size = A at hD ⊢
  have hA : ∀ q : Nat, s.heap.size ≤ q → A q := fun q h => by rw [← hAe]; exact Or.inr h
  have hS : va_S A s.heap s.heap [] := va_S.rf
  have hP : va_P D vwCl (wX7 K h0 a0 hs r0 ++ (wX4 K (a0 3) a1 r1)) s.heap := hP
  unfold wp_X7_waits at h
  refine lv_iload_n hx hb dX7_waits_0 rfl (lv_at hl 1 rfl) ?_
  refine lv_iconst (v := 1) hx hb dX7_waits_1 (by decide) ?_
  refine lv_icmp_lt (tgt := 12) hx hb dX7_waits_2 (by decide) (fun c1 => ?_) (fun c1 => ?_)
  · replace h := And.left h c1
    exact t_X7_waits_12 C hA _ _ _ _ _ (lv_sub hl [0] rfl) hP hD hS h
  · replace h := And.right h c1
    refine lv_iload_n hx hb dX7_waits_5 rfl (lv_at hl 1 rfl) ?_
    refine lv_sipush (v := 999) hx hb dX7_waits_6 (by decide) ?_
    refine lv_icmp_le (tgt := 19) hx hb dX7_waits_9 (by decide) (fun c4 => ?_) (fun c4 => ?_)
    · replace h := And.left h c4
      refine lv_aload_n hx hb dX7_waits_19 rfl (lv_at hl 0 rfl) ?_
      refine va_get (D := D) (ci := 7) (v := .ref (a0 3)) (C := RX7) (T := TX7) (N := 13) hx hb hts inlX7 hown hK hP 0 rfl rfl 3 (by decide) (hts (.fieldLink RX7 25 "UnderTheDesks" "truth" "LUnderTheDesks$Truth;") mw_22) (fun _ h9 => h9) rfl dX7_waits_20 ?_
      refine lv_dup hx hb dX7_waits_23 rfl ?_
      refine va_get (D := D) (ci := 4) (v := .int (r1.1 0)) (C := RX4) (T := TX4) (N := 8) hx hb hts inlX4 hown hK hP 3 rfl rfl 0 (by decide) (hts (.fieldLink RX7 332 "UnderTheDesks$Truth" "second" "I") mw_1126) (fun _ h9 => h9) rfl dX7_waits_24 ?_
      refine lv_iload_n hx hb dX7_waits_27 rfl (lv_at hl 1 rfl) ?_
      refine lv_iadd hx hb dX7_waits_28 ?_
      refine lv_topi (fun v5 ev5 => ?_)
      replace h := h v5 ev5
      refine va_put (D := D) (ci := 4) (v := .int v5) (ty := .int) (C := RX4) (T := TX4) (N := 8) hx hb hts inlX4 tyX4 tyX4_ok nmX4 hown hK hP hD hS 3 rfl rfl 0 (by decide) (hts (.fieldLink RX7 332 "UnderTheDesks$Truth" "second" "I") mw_1126) (fun _ h9 => h9) rfl (by decide +kernel) rfl rfl (Nat.le_of_ble_eq_true rfl) dX7_waits_29 (fun H locs hP hD hS => ?_)
      replace hP : va_P D vwCl (wX7 K h0 a0 hs r0 ++ (wX4 K (a0 3) a1 (zI r1 0 v5))) H := hP
      replace hD : va_D A (wX7 K h0 a0 hs r0 ++ (wX4 K (a0 3) a1 (zI r1 0 v5))) := hD
      refine lv_aload_n hx hb dX7_waits_32 rfl (lv_at hl 0 rfl) ?_
      refine va_get (D := D) (ci := 7) (v := .ref (a0 3)) (C := RX7) (T := TX7) (N := 13) hx hb hts inlX7 hown hK hP 0 rfl rfl 3 (by decide) (hts (.fieldLink RX7 25 "UnderTheDesks" "truth" "LUnderTheDesks$Truth;") mw_22) (fun _ h9 => h9) rfl dX7_waits_33 ?_
      refine va_get (D := D) (ci := 4) (v := .int ((zI r1 0 v5).1 0)) (C := RX4) (T := TX4) (N := 8) hx hb hts inlX4 hown hK hP 3 rfl rfl 0 (by decide) (hts (.fieldLink RX7 332 "UnderTheDesks$Truth" "second" "I") mw_1126) (fun _ h9 => h9) rfl dX7_waits_36 ?_
      exact xrw_i C (r0, (zI r1 0 v5)) h hP hS dX7_waits_39
    · replace h := And.right h c4
      exact t_X7_waits_12 C hA _ _ _ _ _ (lv_sub hl [0] rfl) hP hD hS h

def wp_X7_seed (r0 : zS) (r1 : zS) (p1 : Int32) (post : Int32 → (zS) → Prop) : Prop :=
  ∀ v1 : Int32, v1 = (r1.1 1) → post v1 (zI r1 1 p1)
set_option maxHeartbeats 4000000 in
set_option maxRecDepth 100000 in
theorem c_X7_seed {l : Launch} {D : va_G} {K : Nat → ClassId} {h0 : Nat} {a0 : Nat → Nat} {hs : Nat → Nat} {r0 : zS} {a1 : Nat → Nat} {r1 : zS} {p1 : Int32} {sz : Nat} {post : Int32 → (zS) → Prop}   (h : wp_X7_seed r0 r1 p1 post) : Met l yX7_seed (Cond.code yX7_seed cX7_seed 3 (some .int) :: wsL_law) ({ frames := 0, cells := 0, slots := 0, locals := 0 } : Room) (va_Pc [.ref h0, .int p1] (xPre D vwCl (xty K) (wX7 K h0 a0 hs r0 ++ (wX4 K (a0 3) a1 r1)) sz)) (va_Qi (fun r (u : (zS)) => post r u) (fun (u : (zS)) t => va_P D vwCl (wX7 K h0 a0 hs r0 ++ (wX4 K (a0 3) a1 u)) t.heap) (va_A (wX7 K h0 a0 hs r0 ++ (wX4 K (a0 3) a1 r1)) sz)) 0 0 (va_A (wX7 K h0 a0 hs r0 ++ (wX4 K (a0 3) a1 r1)) sz) := by
  refine xMet (by decide) rfl (Nat.le_of_ble_eq_true rfl) (fun p e s m args below meth c C hnm hP hD hsz ls hl => ?_)
  have hl : lv_has ls 3 [(0, .ref h0), (1, .int p1)] := hl
  obtain ⟨hx, hb, hr, hml, hown, hts, hlocks, hK, hT⟩ := id C
  subst hsz
  generalize hAe : va_A (wX7 K h0 a0 hs r0 ++ (wX4 K (a0 3) a1 r1)) s.heap.size = A at hD ⊢
  have hA : ∀ q : Nat, s.heap.size ≤ q → A q := fun q h => by rw [← hAe]; exact Or.inr h
  have hS : va_S A s.heap s.heap [] := va_S.rf
  have hP : va_P D vwCl (wX7 K h0 a0 hs r0 ++ (wX4 K (a0 3) a1 r1)) s.heap := hP
  unfold wp_X7_seed at h
  refine lv_aload_n hx hb dX7_seed_0 rfl (lv_at hl 0 rfl) ?_
  refine va_get (D := D) (ci := 7) (v := .ref (a0 3)) (C := RX7) (T := TX7) (N := 13) hx hb hts inlX7 hown hK hP 0 rfl rfl 3 (by decide) (hts (.fieldLink RX7 25 "UnderTheDesks" "truth" "LUnderTheDesks$Truth;") mw_22) (fun _ h9 => h9) rfl dX7_seed_1 ?_
  refine va_get (D := D) (ci := 4) (v := .int (r1.1 1)) (C := RX4) (T := TX4) (N := 8) hx hb hts inlX4 hown hK hP 3 rfl rfl 1 (by decide) (hts (.fieldLink RX7 355 "UnderTheDesks$Truth" "seed" "I") mw_1223) (fun _ h9 => h9) rfl dX7_seed_4 ?_
  refine lv_topi (fun v1 ev1 => ?_)
  replace h := h v1 ev1
  refine lv_istore_n (lv' := [(2, .int v1), (0, .ref h0), (1, .int p1)]) hx hb dX7_seed_7 rfl hl (by decide) rfl (fun ls hl => ?_)
  refine lv_aload_n hx hb dX7_seed_8 rfl (lv_at hl 1 rfl) ?_
  refine va_get (D := D) (ci := 7) (v := .ref (a0 3)) (C := RX7) (T := TX7) (N := 13) hx hb hts inlX7 hown hK hP 0 rfl rfl 3 (by decide) (hts (.fieldLink RX7 25 "UnderTheDesks" "truth" "LUnderTheDesks$Truth;") mw_22) (fun _ h9 => h9) rfl dX7_seed_9 ?_
  refine lv_iload_n hx hb dX7_seed_12 rfl (lv_at hl 2 rfl) ?_
  refine va_put (D := D) (ci := 4) (v := .int p1) (ty := .int) (C := RX4) (T := TX4) (N := 8) hx hb hts inlX4 tyX4 tyX4_ok nmX4 hown hK hP hD hS 3 rfl rfl 1 (by decide) (hts (.fieldLink RX7 355 "UnderTheDesks$Truth" "seed" "I") mw_1223) (fun _ h9 => h9) rfl (by decide +kernel) rfl rfl (Nat.le_of_ble_eq_true rfl) dX7_seed_13 (fun H locs hP hD hS => ?_)
  replace hP : va_P D vwCl (wX7 K h0 a0 hs r0 ++ (wX4 K (a0 3) a1 (zI r1 1 p1))) H := hP
  replace hD : va_D A (wX7 K h0 a0 hs r0 ++ (wX4 K (a0 3) a1 (zI r1 1 p1))) := hD
  refine lv_iload_n hx hb dX7_seed_16 rfl (lv_at hl 0 rfl) ?_
  exact xrw_i C (zI r1 1 p1) h hP hS dX7_seed_17

def wp_X7_image (r0 : zS) (r1 : zS) (r2 : zS) (r3 : zS) (r4 : zS) (post : Int32 → (zS) → (zS) → (zS) → Prop) : Prop :=
  wp_X1_takeOver r1 r2 (fun s2 => wp_X4_takeOver r3 r4 (fun s4 => post (1 : Int32) (zI r0 5 (1 : Int32)) s2 s4))
set_option maxHeartbeats 4000000 in
set_option maxRecDepth 100000 in
theorem c_X7_image {l : Launch} {D : va_G} {K : Nat → ClassId} {h0 : Nat} {a0 : Nat → Nat} {hs : Nat → Nat} {r0 : zS} {a1 : Nat → Nat} {r1 : zS} {a2 : Nat → Nat} {r2 : zS} {a3 : Nat → Nat} {r3 : zS} {a4 : Nat → Nat} {r4 : zS}  {sz : Nat} {post : Int32 → (zS) → (zS) → (zS) → Prop}   (h : wp_X7_image r0 r1 r2 r3 r4 post) : Met l yX7_image (Cond.code yX7_image cX7_image 1 (some .int) :: wsL_law) ({ frames := 2, cells := 0, slots := 0, locals := 101 } : Room) (va_Pc [.ref h0] (xPre D vwCl (xty K) (wX7 K h0 a0 hs r0 ++ (wX1 K (a0 2) a1 r1 ++ (wX1 K (a0 0) a2 r2 ++ (wX4 K (a0 4) a3 r3 ++ (wX4 K (a0 3) a4 r4))))) sz)) (va_Qi (fun r (u : (zS) × (zS) × (zS)) => post r u.1 u.2.1 u.2.2) (fun (u : (zS) × (zS) × (zS)) t => va_P D vwCl (wX7 K h0 a0 hs u.1 ++ (wX1 K (a0 2) a1 u.2.1 ++ (wX1 K (a0 0) a2 r2 ++ (wX4 K (a0 4) a3 u.2.2 ++ (wX4 K (a0 3) a4 r4))))) t.heap) (va_A (wX7 K h0 a0 hs r0 ++ (wX1 K (a0 2) a1 r1 ++ (wX1 K (a0 0) a2 r2 ++ (wX4 K (a0 4) a3 r3 ++ (wX4 K (a0 3) a4 r4))))) sz)) 0 0 (va_A (wX7 K h0 a0 hs r0 ++ (wX1 K (a0 2) a1 r1 ++ (wX1 K (a0 0) a2 r2 ++ (wX4 K (a0 4) a3 r3 ++ (wX4 K (a0 3) a4 r4))))) sz) := by
  refine xMet (by decide) rfl (Nat.le_of_ble_eq_true rfl) (fun p e s m args below meth c C hnm hP hD hsz ls hl => ?_)
  have hl : lv_has ls 1 [(0, .ref h0)] := hl
  obtain ⟨hx, hb, hr, hml, hown, hts, hlocks, hK, hT⟩ := id C
  subst hsz
  generalize hAe : va_A (wX7 K h0 a0 hs r0 ++ (wX1 K (a0 2) a1 r1 ++ (wX1 K (a0 0) a2 r2 ++ (wX4 K (a0 4) a3 r3 ++ (wX4 K (a0 3) a4 r4))))) s.heap.size = A at hD ⊢
  have hA : ∀ q : Nat, s.heap.size ≤ q → A q := fun q h => by rw [← hAe]; exact Or.inr h
  have hS : va_S A s.heap s.heap [] := va_S.rf
  have hP : va_P D vwCl (wX7 K h0 a0 hs r0 ++ (wX1 K (a0 2) a1 r1 ++ (wX1 K (a0 0) a2 r2 ++ (wX4 K (a0 4) a3 r3 ++ (wX4 K (a0 3) a4 r4))))) s.heap := hP
  unfold wp_X7_image at h
  refine lv_aload_n hx hb dX7_image_0 rfl (lv_at hl 0 rfl) ?_
  refine va_get (D := D) (ci := 7) (v := .ref (a0 2)) (C := RX7) (T := TX7) (N := 13) hx hb hts inlX7 hown hK hP 0 rfl rfl 2 (by decide) (hts (.fieldLink RX7 19 "UnderTheDesks" "keptRoom" "LUnderTheDesks$Room;") mw_18) (fun _ h9 => h9) rfl dX7_image_1 ?_
  refine lv_aload_n hx hb dX7_image_4 rfl (lv_at hl 0 rfl) ?_
  refine va_get (D := D) (ci := 7) (v := .ref (a0 0)) (C := RX7) (T := TX7) (N := 13) hx hb hts inlX7 hown hK hP 0 rfl rfl 0 (by decide) (hts (.fieldLink RX7 10 "UnderTheDesks" "room" "LUnderTheDesks$Room;") mw_16) (fun _ h9 => h9) rfl dX7_image_5 ?_
  refine xend_rw_v (wf := fun (u : (zS)) => (wX1 K (a0 2) a1 u ++ (wX1 K (a0 0) a2 r2))) (xRunV (wc := (wX1 K (a0 2) a1 r1 ++ (wX1 K (a0 0) a2 r2))) (As := [.ref (a0 0)]) (rest := []) C (c_X1_takeOver h) k_X1_takeOver mw_517 ⟨rfl, rfl⟩ ⟨Nat.le_of_ble_eq_true rfl, Nat.le_of_ble_eq_true rfl⟩ hP hD [3, 4, 5, 6, 7, 8, 9, 10, 11, 12, 13, 14] rfl rfl rfl rfl hl rfl rfl (Nat.le_of_ble_eq_true rfl) dX7_image_8 ⟨Nat.le_refl _, Nat.le_refl _⟩) hP hD hS hA [3, 4, 5, 6, 7, 8, 9, 10, 11, 12, 13, 14] rfl rfl (fun _ => rfl) (fun s2 H locs h hP hD hS => ?_)
  replace hP : va_P D vwCl (wX7 K h0 a0 hs r0 ++ (wX1 K (a0 2) a1 s2 ++ (wX1 K (a0 0) a2 r2 ++ (wX4 K (a0 4) a3 r3 ++ (wX4 K (a0 3) a4 r4))))) H := hP
  replace hD : va_D A (wX7 K h0 a0 hs r0 ++ (wX1 K (a0 2) a1 s2 ++ (wX1 K (a0 0) a2 r2 ++ (wX4 K (a0 4) a3 r3 ++ (wX4 K (a0 3) a4 r4))))) := hD
  refine lv_aload_n hx hb dX7_image_11 rfl (lv_at hl 0 rfl) ?_
  refine va_get (D := D) (ci := 7) (v := .ref (a0 4)) (C := RX7) (T := TX7) (N := 13) hx hb hts inlX7 hown hK hP 0 rfl rfl 4 (by decide) (hts (.fieldLink RX7 29 "UnderTheDesks" "keptTruth" "LUnderTheDesks$Truth;") mw_23) (fun _ h9 => h9) rfl dX7_image_12 ?_
  refine lv_aload_n hx hb dX7_image_15 rfl (lv_at hl 0 rfl) ?_
  refine va_get (D := D) (ci := 7) (v := .ref (a0 3)) (C := RX7) (T := TX7) (N := 13) hx hb hts inlX7 hown hK hP 0 rfl rfl 3 (by decide) (hts (.fieldLink RX7 25 "UnderTheDesks" "truth" "LUnderTheDesks$Truth;") mw_22) (fun _ h9 => h9) rfl dX7_image_16 ?_
  refine xend_rw_v (wf := fun (u : (zS)) => (wX4 K (a0 4) a3 u ++ (wX4 K (a0 3) a4 r4))) (xRunV (wc := (wX4 K (a0 4) a3 r3 ++ (wX4 K (a0 3) a4 r4))) (As := [.ref (a0 3)]) (rest := []) C (c_X4_takeOver h) k_X4_takeOver mw_1232 ⟨rfl, rfl⟩ ⟨Nat.le_of_ble_eq_true rfl, Nat.le_of_ble_eq_true rfl⟩ hP hD [15, 16, 17, 18, 19, 20, 21, 22] rfl rfl rfl rfl hl rfl rfl (Nat.le_of_ble_eq_true rfl) dX7_image_19 ⟨Nat.le_refl _, Nat.le_refl _⟩) hP hD hS hA [15, 16, 17, 18, 19, 20, 21, 22] rfl rfl (fun _ => rfl) (fun s4 H locs h hP hD hS => ?_)
  replace hP : va_P D vwCl (wX7 K h0 a0 hs r0 ++ (wX1 K (a0 2) a1 s2 ++ (wX1 K (a0 0) a2 r2 ++ (wX4 K (a0 4) a3 s4 ++ (wX4 K (a0 3) a4 r4))))) H := hP
  replace hD : va_D A (wX7 K h0 a0 hs r0 ++ (wX1 K (a0 2) a1 s2 ++ (wX1 K (a0 0) a2 r2 ++ (wX4 K (a0 4) a3 s4 ++ (wX4 K (a0 3) a4 r4))))) := hD
  refine lv_aload_n hx hb dX7_image_22 rfl (lv_at hl 0 rfl) ?_
  refine lv_iconst (v := 1) hx hb dX7_image_23 (by decide) ?_
  refine va_put (D := D) (ci := 7) (v := .int (1 : Int32)) (ty := .boolean) (C := RX7) (T := TX7) (N := 13) hx hb hts inlX7 tyX7 tyX7_ok nmX7 hown hK hP hD hS 0 rfl rfl 5 (by decide) (hts (.fieldLink RX7 32 "UnderTheDesks" "hasImage" "Z") mw_24) (fun _ h9 => h9) rfl (by decide +kernel) rfl rfl (Nat.le_of_ble_eq_true rfl) dX7_image_24 (fun H locs hP hD hS => ?_)
  replace hP : va_P D vwCl (wX7 K h0 a0 hs (zI r0 5 (1 : Int32)) ++ (wX1 K (a0 2) a1 s2 ++ (wX1 K (a0 0) a2 r2 ++ (wX4 K (a0 4) a3 s4 ++ (wX4 K (a0 3) a4 r4))))) H := hP
  replace hD : va_D A (wX7 K h0 a0 hs (zI r0 5 (1 : Int32)) ++ (wX1 K (a0 2) a1 s2 ++ (wX1 K (a0 0) a2 r2 ++ (wX4 K (a0 4) a3 s4 ++ (wX4 K (a0 3) a4 r4))))) := hD
  refine lv_iconst (v := 1) hx hb dX7_image_27 (by decide) ?_
  exact xrw_i C ((zI r0 5 (1 : Int32)), s2, s4) h hP hS dX7_image_28

def wp_X7_back_85 (r3 : zS) (r5 : zS) (post : Int32 → (zS) → (Nat → zS) → (zS) → (zS) → Prop) (k38 : (zS) → (Nat → zS) → (zS) → (zS) → Int32 → Prop) (r0 : zS) (sh : Nat → zS) (r2 : zS) (r4 : zS) (x1 : Int32) : Prop :=
  ∀ v10 : Int32, v10 = x1 + (1 : Int32) → k38 r0 sh r2 r4 v10
def wb_X7_back_38 (r3 : zS) (r5 : zS) (post : Int32 → (zS) → (Nat → zS) → (zS) → (zS) → Prop) (ih : (zS) → (Nat → zS) → (zS) → (zS) → Int32 → Prop) (r0 : zS) (sh : Nat → zS) (r2 : zS) (r4 : zS) (x1 : Int32) : Prop :=
  ((8 : Int32) ≤ x1 → post (1 : Int32) r0 sh r2 r4) ∧ (¬ (8 : Int32) ≤ x1 → vp_in x1 8 ∧ (∀ k7 : Nat, k7 = x1.toNatClampNeg → wp_X2_holdsPupil (sh k7) (fun v8 => (v8 = 0 → wp_X7_back_85 r3 r5 post ih r0 sh r2 r4 x1) ∧ (¬ v8 = 0 → vp_in x1 8 ∧ (∀ k11 : Nat, k11 = x1.toNatClampNeg → wp_X2_heldPupil (sh k11) (fun v12 => wp_X1_has r2 v12 (fun v13 => (v13 = 0 → vp_in x1 8 ∧ (∀ k15 : Nat, k15 = x1.toNatClampNeg → wp_X2_holdPupil (sh k15) (-1 : Int32) (fun s17 => wp_X7_back_85 r3 r5 post ih r0 (va_up sh k15 s17) r2 r4 x1))) ∧ (¬ v13 = 0 → wp_X7_back_85 r3 r5 post ih r0 sh r2 r4 x1))))))))
def wp_X7_back_38 (r3 : zS) (r5 : zS) (post : Int32 → (zS) → (Nat → zS) → (zS) → (zS) → Prop) (n : Nat) : (zS) → (Nat → zS) → (zS) → (zS) → Int32 → Prop := Nat.rec (motive := fun _ => (zS) → (Nat → zS) → (zS) → (zS) → Int32 → Prop) (fun _ _ _ _ _ => False) (fun _ ih => wb_X7_back_38 r3 r5 post ih) n
theorem wu_X7_back_38 (r3 : zS) (r5 : zS) (post : Int32 → (zS) → (Nat → zS) → (zS) → (zS) → Prop) (n : Nat) (r0 : zS) (sh : Nat → zS) (r2 : zS) (r4 : zS) (x1 : Int32) : wp_X7_back_38 r3 r5 post (n + 1) r0 sh r2 r4 x1 = wb_X7_back_38 r3 r5 post (wp_X7_back_38 r3 r5 post n) r0 sh r2 r4 x1 := rfl
def wp_X7_back (r0 : zS) (sh : Nat → zS) (r2 : zS) (r3 : zS) (r4 : zS) (r5 : zS) (post : Int32 → (zS) → (Nat → zS) → (zS) → (zS) → Prop) : Prop :=
  ((r0.1 5) = 0 → wp_X7_refuse r0 (-5 : Int32) (fun v18 s19 => post v18 s19 sh r2 r4)) ∧ (¬ (r0.1 5) = 0 → wp_X1_takeOver r2 r3 (fun s3 => wp_X4_takeOver r4 r5 (fun s5 => ∃ n : Nat, wp_X7_back_38 r3 r5 post n r0 sh s3 s5 (0 : Int32))))
set_option maxHeartbeats 4000000 in
set_option maxRecDepth 100000 in
theorem t_X7_back_85 {p : Program} {l : Launch} {e : Env} {s : State} {m : MethodId} {args : Array Value} {below : List Frame} {meth : Method} {c : Code} {D : va_G} {K : Nat → ClassId} {h0 : Nat} {a0 : Nat → Nat} {hs : Nat → Nat} {as : Nat → Nat → Nat} {a2 : Nat → Nat} {a3 : Nat → Nat} {r3 : zS} {a4 : Nat → Nat} {a5 : Nat → Nat} {r5 : zS} {post : Int32 → (zS) → (Nat → zS) → (zS) → (zS) → Prop} {A : Nat → Prop} (C : xC p s m args meth c cX7_back RX7 2 (some .int) D vwCl (xty K)) (hA : ∀ q, s.heap.size ≤ q → A q) {k38 : (zS) → (Nat → zS) → (zS) → (zS) → Int32 → Prop} (hk38 : ∀ (r0 : zS) (sh : Nat → zS) (r2 : zS) (r4 : zS) (x1 : Int32) (H : Heap) (locs : List Loc) (ls : Array Slot), lv_has ls 2 [(0, .ref h0), (1, .int x1)] → va_P D vwCl (wX7 K h0 a0 hs r0 ++ (wPl K hs as sh ++ (wX1 K (a0 0) a2 r2 ++ (wX1 K (a0 2) a3 r3 ++ (wX4 K (a0 3) a4 r4 ++ (wX4 K (a0 4) a5 r5)))))) H → va_D A (wX7 K h0 a0 hs r0 ++ (wPl K hs as sh ++ (wX1 K (a0 0) a2 r2 ++ (wX1 K (a0 2) a3 r3 ++ (wX4 K (a0 3) a4 r4 ++ (wX4 K (a0 4) a5 r5)))))) → va_S A s.heap H locs → k38 r0 sh r2 r4 x1  → W p l e ({ frames := 2, cells := 0, slots := 0, locals := 101 } : Room) s m args below meth c H locs 0 0 (MQ below (va_Qi (fun r (u : (zS) × (Nat → zS) × (zS) × (zS)) => post r u.1 u.2.1 u.2.2.1 u.2.2.2) (fun (u : (zS) × (Nat → zS) × (zS) × (zS)) t => va_P D vwCl (wX7 K h0 a0 hs u.1 ++ (wPl K hs as u.2.1 ++ (wX1 K (a0 0) a2 u.2.2.1 ++ (wX1 K (a0 2) a3 r3 ++ (wX4 K (a0 3) a4 u.2.2.2 ++ (wX4 K (a0 4) a5 r5)))))) t.heap) A) args s 0 0 A) (F0 m 38 ls [])) : ∀ (r0 : zS) (sh : Nat → zS) (r2 : zS) (r4 : zS) (x1 : Int32) (H : Heap) (locs : List Loc) (ls : Array Slot), lv_has ls 2 [(0, .ref h0), (1, .int x1)] → va_P D vwCl (wX7 K h0 a0 hs r0 ++ (wPl K hs as sh ++ (wX1 K (a0 0) a2 r2 ++ (wX1 K (a0 2) a3 r3 ++ (wX4 K (a0 3) a4 r4 ++ (wX4 K (a0 4) a5 r5)))))) H → va_D A (wX7 K h0 a0 hs r0 ++ (wPl K hs as sh ++ (wX1 K (a0 0) a2 r2 ++ (wX1 K (a0 2) a3 r3 ++ (wX4 K (a0 3) a4 r4 ++ (wX4 K (a0 4) a5 r5)))))) → va_S A s.heap H locs → wp_X7_back_85 r3 r5 post k38 r0 sh r2 r4 x1 → W p l e ({ frames := 2, cells := 0, slots := 0, locals := 101 } : Room) s m args below meth c H locs 0 0 (MQ below (va_Qi (fun r (u : (zS) × (Nat → zS) × (zS) × (zS)) => post r u.1 u.2.1 u.2.2.1 u.2.2.2) (fun (u : (zS) × (Nat → zS) × (zS) × (zS)) t => va_P D vwCl (wX7 K h0 a0 hs u.1 ++ (wPl K hs as u.2.1 ++ (wX1 K (a0 0) a2 u.2.2.1 ++ (wX1 K (a0 2) a3 r3 ++ (wX4 K (a0 3) a4 u.2.2.2 ++ (wX4 K (a0 4) a5 r5)))))) t.heap) A) args s 0 0 A) (F0 m 85 ls []) := by
  obtain ⟨hx, hb, hr, hml, hown, hts, hlocks, hK, hT⟩ := id C
  intro r0 sh r2 r4 x1 H locs ls hl hP hD hS h
  unfold wp_X7_back_85 at h
  obtain ⟨v10, ev10⟩ : ∃ y : Int32, y = x1 + (1 : Int32) := ⟨_, rfl⟩
  replace h := h v10 ev10
  refine lv_iinc (v := v10) (lv' := [(1, .int v10), (0, .ref h0)]) hx hb dX7_back_85 hl (k := 1) rfl (by rw [ev10]; rfl) (by decide) rfl (fun ls hl => ?_)
  refine lv_goto (tgt := 38) hx hb dX7_back_88 (by decide) ?_
  exact hk38 _ _ _ _ _ _ _ _ (lv_sub hl [1, 0] rfl) hP hD hS h
set_option maxHeartbeats 4000000 in
set_option maxRecDepth 100000 in
theorem t_X7_back_38 {p : Program} {l : Launch} {e : Env} {s : State} {m : MethodId} {args : Array Value} {below : List Frame} {meth : Method} {c : Code} {D : va_G} {K : Nat → ClassId} {h0 : Nat} {a0 : Nat → Nat} {hs : Nat → Nat} {as : Nat → Nat → Nat} {a2 : Nat → Nat} {a3 : Nat → Nat} {r3 : zS} {a4 : Nat → Nat} {a5 : Nat → Nat} {r5 : zS} {post : Int32 → (zS) → (Nat → zS) → (zS) → (zS) → Prop} {A : Nat → Prop} (C : xC p s m args meth c cX7_back RX7 2 (some .int) D vwCl (xty K)) (hA : ∀ q, s.heap.size ≤ q → A q) : ∀ (n : Nat) (r0 : zS) (sh : Nat → zS) (r2 : zS) (r4 : zS) (x1 : Int32) (H : Heap) (locs : List Loc) (ls : Array Slot), lv_has ls 2 [(0, .ref h0), (1, .int x1)] → va_P D vwCl (wX7 K h0 a0 hs r0 ++ (wPl K hs as sh ++ (wX1 K (a0 0) a2 r2 ++ (wX1 K (a0 2) a3 r3 ++ (wX4 K (a0 3) a4 r4 ++ (wX4 K (a0 4) a5 r5)))))) H → va_D A (wX7 K h0 a0 hs r0 ++ (wPl K hs as sh ++ (wX1 K (a0 0) a2 r2 ++ (wX1 K (a0 2) a3 r3 ++ (wX4 K (a0 3) a4 r4 ++ (wX4 K (a0 4) a5 r5)))))) → va_S A s.heap H locs → wp_X7_back_38 r3 r5 post n r0 sh r2 r4 x1 → W p l e ({ frames := 2, cells := 0, slots := 0, locals := 101 } : Room) s m args below meth c H locs 0 0 (MQ below (va_Qi (fun r (u : (zS) × (Nat → zS) × (zS) × (zS)) => post r u.1 u.2.1 u.2.2.1 u.2.2.2) (fun (u : (zS) × (Nat → zS) × (zS) × (zS)) t => va_P D vwCl (wX7 K h0 a0 hs u.1 ++ (wPl K hs as u.2.1 ++ (wX1 K (a0 0) a2 u.2.2.1 ++ (wX1 K (a0 2) a3 r3 ++ (wX4 K (a0 3) a4 u.2.2.2 ++ (wX4 K (a0 4) a5 r5)))))) t.heap) A) args s 0 0 A) (F0 m 38 ls []) := by
  obtain ⟨hx, hb, hr, hml, hown, hts, hlocks, hK, hT⟩ := id C
  intro n
  induction n with
  | zero =>
    intro r0 sh r2 r4 x1 H locs ls hl hP hD hS h
    exact False.elim h
  | succ n ihn =>
    intro r0 sh r2 r4 x1 H locs ls hl hP hD hS h
    rw [wu_X7_back_38] at h
    unfold wb_X7_back_38 at h
    refine lv_iload_n hx hb dX7_back_38 rfl (lv_at hl 1 rfl) ?_
    refine lv_bipush (v := 8) hx hb dX7_back_39 (by decide) ?_
    refine lv_icmp_ge (tgt := 91) hx hb dX7_back_41 (by decide) (fun c6 => ?_) (fun c6 => ?_)
    · replace h := And.left h c6
      refine lv_iconst (v := 1) hx hb dX7_back_91 (by decide) ?_
      exact xrw_i C (r0, sh, r2, r4) h hP hS dX7_back_92
    · replace h := And.right h c6
      refine lv_aload_n hx hb dX7_back_44 rfl (lv_at hl 0 rfl) ?_
      refine va_get (D := D) (ci := 7) (v := .ref (a0 6)) (C := RX7) (T := TX7) (N := 13) hx hb hts inlX7 hown hK hP 0 rfl rfl 6 (by decide) (hts (.fieldLink RX7 38 "UnderTheDesks" "shelves" "[LUnderTheDesks$Shelf;") mw_26) (fun _ h9 => h9) rfl dX7_back_45 ?_
      refine lv_iload_n hx hb dX7_back_48 rfl (lv_at hl 1 rfl) ?_
      have hin := And.left h
      obtain ⟨k7, ek7⟩ : ∃ j : Nat, j = x1.toNatClampNeg := ⟨_, rfl⟩
      replace h := And.right h k7 ek7
      have hk7 : k7 < 8 := by rw [ek7]; exact Nat.not_le.mp (fun q => hin (Or.inr q))
      refine xaldq hx hb hK hP 1 2 rfl rfl hin ek7 dX7_back_49 ?_
      refine xend_ro_i (xRunV (wc := (wX2 K (hs k7) (as k7) (sh k7))) (As := []) (rest := []) C (c_X2_holdsPupil h) k_X2_holdsPupil mw_182 ⟨rfl, rfl⟩ ⟨Nat.le_of_ble_eq_true rfl, Nat.le_of_ble_eq_true rfl⟩ hP hD [3 + 2 * k7, 4 + 2 * k7] (wPl_C hk7) (xnd2 _) rfl rfl hl rfl rfl (Nat.le_of_ble_eq_true rfl) dX7_back_50 ⟨Nat.le_refl _, Nat.le_refl _⟩) (fun v8 h => ?_)
      refine lv_if_eq (tgt := 85) hx hb dX7_back_53 (by decide) (fun c9 => ?_) (fun c9 => ?_)
      · replace h := And.left h c9
        exact t_X7_back_85 C hA ihn _ _ _ _ _ _ _ _ (lv_sub hl [0, 1] rfl) hP hD hS h
      · replace h := And.right h c9
        refine lv_aload_n hx hb dX7_back_56 rfl (lv_at hl 0 rfl) ?_
        refine va_get (D := D) (ci := 7) (v := .ref (a0 0)) (C := RX7) (T := TX7) (N := 13) hx hb hts inlX7 hown hK hP 0 rfl rfl 0 (by decide) (hts (.fieldLink RX7 10 "UnderTheDesks" "room" "LUnderTheDesks$Room;") mw_16) (fun _ h9 => h9) rfl dX7_back_57 ?_
        refine lv_aload_n hx hb dX7_back_60 rfl (lv_at hl 0 rfl) ?_
        refine va_get (D := D) (ci := 7) (v := .ref (a0 6)) (C := RX7) (T := TX7) (N := 13) hx hb hts inlX7 hown hK hP 0 rfl rfl 6 (by decide) (hts (.fieldLink RX7 38 "UnderTheDesks" "shelves" "[LUnderTheDesks$Shelf;") mw_26) (fun _ h9 => h9) rfl dX7_back_61 ?_
        refine lv_iload_n hx hb dX7_back_64 rfl (lv_at hl 1 rfl) ?_
        have hin := And.left h
        obtain ⟨k11, ek11⟩ : ∃ j : Nat, j = x1.toNatClampNeg := ⟨_, rfl⟩
        replace h := And.right h k11 ek11
        have hk11 : k11 < 8 := by rw [ek11]; exact Nat.not_le.mp (fun q => hin (Or.inr q))
        refine xaldq hx hb hK hP 1 2 rfl rfl hin ek11 dX7_back_65 ?_
        refine xend_ro_i (xRunV (wc := (wX2 K (hs k11) (as k11) (sh k11))) (As := []) (rest := [.ref (a0 0)]) C (c_X2_heldPupil h) k_X2_heldPupil mw_274 ⟨rfl, rfl⟩ ⟨Nat.le_of_ble_eq_true rfl, Nat.le_of_ble_eq_true rfl⟩ hP hD [3 + 2 * k11, 4 + 2 * k11] (wPl_C hk11) (xnd2 _) rfl rfl hl rfl rfl (Nat.le_of_ble_eq_true rfl) dX7_back_66 ⟨Nat.le_refl _, Nat.le_refl _⟩) (fun v12 h => ?_)
        refine xend_ro_i (xRunV (wc := (wX1 K (a0 0) a2 r2)) (As := [.int v12]) (rest := []) C (c_X1_has h) k_X1_has mw_250 ⟨rfl, rfl⟩ ⟨Nat.le_of_ble_eq_true rfl, Nat.le_of_ble_eq_true rfl⟩ hP hD [19, 20, 21, 22, 23, 24] rfl rfl rfl rfl hl rfl rfl (Nat.le_of_ble_eq_true rfl) dX7_back_69 ⟨Nat.le_refl _, Nat.le_refl _⟩) (fun v13 h => ?_)
        refine lv_if_ne (tgt := 85) hx hb dX7_back_72 (by decide) (fun c14 => ?_) (fun c14 => ?_)
        · replace h := And.right h c14
          exact t_X7_back_85 C hA ihn _ _ _ _ _ _ _ _ (lv_sub hl [0, 1] rfl) hP hD hS h
        · replace h := And.left h c14
          refine lv_aload_n hx hb dX7_back_75 rfl (lv_at hl 0 rfl) ?_
          refine va_get (D := D) (ci := 7) (v := .ref (a0 6)) (C := RX7) (T := TX7) (N := 13) hx hb hts inlX7 hown hK hP 0 rfl rfl 6 (by decide) (hts (.fieldLink RX7 38 "UnderTheDesks" "shelves" "[LUnderTheDesks$Shelf;") mw_26) (fun _ h9 => h9) rfl dX7_back_76 ?_
          refine lv_iload_n hx hb dX7_back_79 rfl (lv_at hl 1 rfl) ?_
          have hin := And.left h
          obtain ⟨k15, ek15⟩ : ∃ j : Nat, j = x1.toNatClampNeg := ⟨_, rfl⟩
          replace h := And.right h k15 ek15
          have hk15 : k15 < 8 := by rw [ek15]; exact Nat.not_le.mp (fun q => hin (Or.inr q))
          refine xaldq hx hb hK hP 1 2 rfl rfl hin ek15 dX7_back_80 ?_
          refine lv_iconst (v := -1) hx hb dX7_back_81 (by decide) ?_
          refine xend_rw_v (wf := fun (u : (zS)) => (wX2 K (hs k15) (as k15) u)) (xRunV (wc := (wX2 K (hs k15) (as k15) (sh k15))) (As := [.int (-1 : Int32)]) (rest := []) C (c_X2_holdPupil h) k_X2_holdPupil mw_254 ⟨rfl, rfl⟩ ⟨Nat.le_of_ble_eq_true rfl, Nat.le_of_ble_eq_true rfl⟩ hP hD [3 + 2 * k15, 4 + 2 * k15] (wPl_C hk15) (xnd2 _) rfl rfl hl rfl rfl (Nat.le_of_ble_eq_true rfl) dX7_back_82 ⟨Nat.le_refl _, Nat.le_refl _⟩) hP hD hS hA [3 + 2 * k15, 4 + 2 * k15] (wPl_C hk15) (xnd2 _) (fun _ => rfl) (fun s17 H locs h hP hD hS => ?_)
          rw [wPl_set hk15] at hP hD
          replace hP : va_P D vwCl (wX7 K h0 a0 hs r0 ++ (wPl K hs as (va_up sh k15 s17) ++ (wX1 K (a0 0) a2 r2 ++ (wX1 K (a0 2) a3 r3 ++ (wX4 K (a0 3) a4 r4 ++ (wX4 K (a0 4) a5 r5)))))) H := hP
          replace hD : va_D A (wX7 K h0 a0 hs r0 ++ (wPl K hs as (va_up sh k15 s17) ++ (wX1 K (a0 0) a2 r2 ++ (wX1 K (a0 2) a3 r3 ++ (wX4 K (a0 3) a4 r4 ++ (wX4 K (a0 4) a5 r5)))))) := hD
          exact t_X7_back_85 C hA ihn _ _ _ _ _ _ _ _ (lv_sub hl [0, 1] rfl) hP hD hS h
set_option maxHeartbeats 4000000 in
set_option maxRecDepth 100000 in
theorem c_X7_back {l : Launch} {D : va_G} {K : Nat → ClassId} {h0 : Nat} {a0 : Nat → Nat} {hs : Nat → Nat} {r0 : zS} {as : Nat → Nat → Nat} {sh : Nat → zS} {a2 : Nat → Nat} {r2 : zS} {a3 : Nat → Nat} {r3 : zS} {a4 : Nat → Nat} {r4 : zS} {a5 : Nat → Nat} {r5 : zS}  {sz : Nat} {post : Int32 → (zS) → (Nat → zS) → (zS) → (zS) → Prop}   (h : wp_X7_back r0 sh r2 r3 r4 r5 post) : Met l yX7_back (Cond.code yX7_back cX7_back 2 (some .int) :: wsL_law) ({ frames := 2, cells := 0, slots := 0, locals := 101 } : Room) (va_Pc [.ref h0] (xPre D vwCl (xty K) (wX7 K h0 a0 hs r0 ++ (wPl K hs as sh ++ (wX1 K (a0 0) a2 r2 ++ (wX1 K (a0 2) a3 r3 ++ (wX4 K (a0 3) a4 r4 ++ (wX4 K (a0 4) a5 r5)))))) sz)) (va_Qi (fun r (u : (zS) × (Nat → zS) × (zS) × (zS)) => post r u.1 u.2.1 u.2.2.1 u.2.2.2) (fun (u : (zS) × (Nat → zS) × (zS) × (zS)) t => va_P D vwCl (wX7 K h0 a0 hs u.1 ++ (wPl K hs as u.2.1 ++ (wX1 K (a0 0) a2 u.2.2.1 ++ (wX1 K (a0 2) a3 r3 ++ (wX4 K (a0 3) a4 u.2.2.2 ++ (wX4 K (a0 4) a5 r5)))))) t.heap) (va_A (wX7 K h0 a0 hs r0 ++ (wPl K hs as sh ++ (wX1 K (a0 0) a2 r2 ++ (wX1 K (a0 2) a3 r3 ++ (wX4 K (a0 3) a4 r4 ++ (wX4 K (a0 4) a5 r5)))))) sz)) 0 0 (va_A (wX7 K h0 a0 hs r0 ++ (wPl K hs as sh ++ (wX1 K (a0 0) a2 r2 ++ (wX1 K (a0 2) a3 r3 ++ (wX4 K (a0 3) a4 r4 ++ (wX4 K (a0 4) a5 r5)))))) sz) := by
  refine xMet (by decide) rfl (Nat.le_of_ble_eq_true rfl) (fun p e s m args below meth c C hnm hP hD hsz ls hl => ?_)
  have hl : lv_has ls 2 [(0, .ref h0)] := hl
  obtain ⟨hx, hb, hr, hml, hown, hts, hlocks, hK, hT⟩ := id C
  subst hsz
  generalize hAe : va_A (wX7 K h0 a0 hs r0 ++ (wPl K hs as sh ++ (wX1 K (a0 0) a2 r2 ++ (wX1 K (a0 2) a3 r3 ++ (wX4 K (a0 3) a4 r4 ++ (wX4 K (a0 4) a5 r5)))))) s.heap.size = A at hD ⊢
  have hA : ∀ q : Nat, s.heap.size ≤ q → A q := fun q h => by rw [← hAe]; exact Or.inr h
  have hS : va_S A s.heap s.heap [] := va_S.rf
  have hP : va_P D vwCl (wX7 K h0 a0 hs r0 ++ (wPl K hs as sh ++ (wX1 K (a0 0) a2 r2 ++ (wX1 K (a0 2) a3 r3 ++ (wX4 K (a0 3) a4 r4 ++ (wX4 K (a0 4) a5 r5)))))) s.heap := hP
  unfold wp_X7_back at h
  refine lv_aload_n hx hb dX7_back_0 rfl (lv_at hl 0 rfl) ?_
  refine va_get (D := D) (ci := 7) (v := .int (r0.1 5)) (C := RX7) (T := TX7) (N := 13) hx hb hts inlX7 hown hK hP 0 rfl rfl 5 (by decide) (hts (.fieldLink RX7 32 "UnderTheDesks" "hasImage" "Z") mw_24) (fun _ h9 => h9) rfl dX7_back_1 ?_
  refine lv_if_ne (tgt := 14) hx hb dX7_back_4 (by decide) (fun c1 => ?_) (fun c1 => ?_)
  · replace h := And.right h c1
    refine lv_aload_n hx hb dX7_back_14 rfl (lv_at hl 0 rfl) ?_
    refine va_get (D := D) (ci := 7) (v := .ref (a0 0)) (C := RX7) (T := TX7) (N := 13) hx hb hts inlX7 hown hK hP 0 rfl rfl 0 (by decide) (hts (.fieldLink RX7 10 "UnderTheDesks" "room" "LUnderTheDesks$Room;") mw_16) (fun _ h9 => h9) rfl dX7_back_15 ?_
    refine lv_aload_n hx hb dX7_back_18 rfl (lv_at hl 0 rfl) ?_
    refine va_get (D := D) (ci := 7) (v := .ref (a0 2)) (C := RX7) (T := TX7) (N := 13) hx hb hts inlX7 hown hK hP 0 rfl rfl 2 (by decide) (hts (.fieldLink RX7 19 "UnderTheDesks" "keptRoom" "LUnderTheDesks$Room;") mw_18) (fun _ h9 => h9) rfl dX7_back_19 ?_
    refine xend_rw_v (wf := fun (u : (zS)) => (wX1 K (a0 0) a2 u ++ (wX1 K (a0 2) a3 r3))) (xRunV (wc := (wX1 K (a0 0) a2 r2 ++ (wX1 K (a0 2) a3 r3))) (As := [.ref (a0 2)]) (rest := []) C (c_X1_takeOver h) k_X1_takeOver mw_517 ⟨rfl, rfl⟩ ⟨Nat.le_of_ble_eq_true rfl, Nat.le_of_ble_eq_true rfl⟩ hP hD [19, 20, 21, 22, 23, 24, 25, 26, 27, 28, 29, 30] rfl rfl rfl rfl hl rfl rfl (Nat.le_of_ble_eq_true rfl) dX7_back_22 ⟨Nat.le_refl _, Nat.le_refl _⟩) hP hD hS hA [19, 20, 21, 22, 23, 24, 25, 26, 27, 28, 29, 30] rfl rfl (fun _ => rfl) (fun s3 H locs h hP hD hS => ?_)
    replace hP : va_P D vwCl (wX7 K h0 a0 hs r0 ++ (wPl K hs as sh ++ (wX1 K (a0 0) a2 s3 ++ (wX1 K (a0 2) a3 r3 ++ (wX4 K (a0 3) a4 r4 ++ (wX4 K (a0 4) a5 r5)))))) H := hP
    replace hD : va_D A (wX7 K h0 a0 hs r0 ++ (wPl K hs as sh ++ (wX1 K (a0 0) a2 s3 ++ (wX1 K (a0 2) a3 r3 ++ (wX4 K (a0 3) a4 r4 ++ (wX4 K (a0 4) a5 r5)))))) := hD
    refine lv_aload_n hx hb dX7_back_25 rfl (lv_at hl 0 rfl) ?_
    refine va_get (D := D) (ci := 7) (v := .ref (a0 3)) (C := RX7) (T := TX7) (N := 13) hx hb hts inlX7 hown hK hP 0 rfl rfl 3 (by decide) (hts (.fieldLink RX7 25 "UnderTheDesks" "truth" "LUnderTheDesks$Truth;") mw_22) (fun _ h9 => h9) rfl dX7_back_26 ?_
    refine lv_aload_n hx hb dX7_back_29 rfl (lv_at hl 0 rfl) ?_
    refine va_get (D := D) (ci := 7) (v := .ref (a0 4)) (C := RX7) (T := TX7) (N := 13) hx hb hts inlX7 hown hK hP 0 rfl rfl 4 (by decide) (hts (.fieldLink RX7 29 "UnderTheDesks" "keptTruth" "LUnderTheDesks$Truth;") mw_23) (fun _ h9 => h9) rfl dX7_back_30 ?_
    refine xend_rw_v (wf := fun (u : (zS)) => (wX4 K (a0 3) a4 u ++ (wX4 K (a0 4) a5 r5))) (xRunV (wc := (wX4 K (a0 3) a4 r4 ++ (wX4 K (a0 4) a5 r5))) (As := [.ref (a0 4)]) (rest := []) C (c_X4_takeOver h) k_X4_takeOver mw_1232 ⟨rfl, rfl⟩ ⟨Nat.le_of_ble_eq_true rfl, Nat.le_of_ble_eq_true rfl⟩ hP hD [31, 32, 33, 34, 35, 36, 37, 38] rfl rfl rfl rfl hl rfl rfl (Nat.le_of_ble_eq_true rfl) dX7_back_33 ⟨Nat.le_refl _, Nat.le_refl _⟩) hP hD hS hA [31, 32, 33, 34, 35, 36, 37, 38] rfl rfl (fun _ => rfl) (fun s5 H locs h hP hD hS => ?_)
    replace hP : va_P D vwCl (wX7 K h0 a0 hs r0 ++ (wPl K hs as sh ++ (wX1 K (a0 0) a2 s3 ++ (wX1 K (a0 2) a3 r3 ++ (wX4 K (a0 3) a4 s5 ++ (wX4 K (a0 4) a5 r5)))))) H := hP
    replace hD : va_D A (wX7 K h0 a0 hs r0 ++ (wPl K hs as sh ++ (wX1 K (a0 0) a2 s3 ++ (wX1 K (a0 2) a3 r3 ++ (wX4 K (a0 3) a4 s5 ++ (wX4 K (a0 4) a5 r5)))))) := hD
    refine lv_iconst (v := 0) hx hb dX7_back_36 (by decide) ?_
    refine lv_istore_n (lv' := [(1, .int (0 : Int32)), (0, .ref h0)]) hx hb dX7_back_37 rfl hl (by decide) rfl (fun ls hl => ?_)
    obtain ⟨n0, h⟩ := h
    exact t_X7_back_38 C hA n0 _ _ _ _ _ _ _ _ (lv_sub hl [1, 0] rfl) hP hD hS h
  · replace h := And.left h c1
    refine lv_aload_n hx hb dX7_back_7 rfl (lv_at hl 0 rfl) ?_
    refine lv_bipush (v := -5) hx hb dX7_back_8 (by decide) ?_
    refine xend_rw_i (wf := fun (u : (zS)) => (wX7 K h0 a0 hs u)) (xRunV (wc := (wX7 K h0 a0 hs r0)) (As := [.int (-5 : Int32)]) (rest := []) C (c_X7_refuse h) k_X7_refuse mw_147 ⟨rfl, rfl⟩ ⟨Nat.le_of_ble_eq_true rfl, Nat.le_of_ble_eq_true rfl⟩ hP hD [0, 1, 2] rfl rfl rfl rfl hl rfl rfl (Nat.le_of_ble_eq_true rfl) dX7_back_10 ⟨Nat.le_refl _, Nat.le_refl _⟩) hP hD hS hA [0, 1, 2] rfl rfl (fun _ => rfl) (fun v18 s19 H locs h hP hD hS => ?_)
    replace hP : va_P D vwCl (wX7 K h0 a0 hs s19 ++ (wPl K hs as sh ++ (wX1 K (a0 0) a2 r2 ++ (wX1 K (a0 2) a3 r3 ++ (wX4 K (a0 3) a4 r4 ++ (wX4 K (a0 4) a5 r5)))))) H := hP
    replace hD : va_D A (wX7 K h0 a0 hs s19 ++ (wPl K hs as sh ++ (wX1 K (a0 0) a2 r2 ++ (wX1 K (a0 2) a3 r3 ++ (wX4 K (a0 3) a4 r4 ++ (wX4 K (a0 4) a5 r5)))))) := hD
    exact xrw_i C (s19, sh, r2, r4) h hP hS dX7_back_13

def wp_X7_refusalsOf (r0 : zS) (p1 : Int32) (post : Int32 → Prop) : Prop :=
  (p1 < 0 → post (-1 : Int32) ) ∧ (¬ p1 < 0 → ((5 : Int32) ≤ p1 → post (-1 : Int32) ) ∧ (¬ (5 : Int32) ≤ p1 → vp_in p1 5 ∧ (post (r0.2.1 12 p1.toNatClampNeg) )))
set_option maxHeartbeats 4000000 in
set_option maxRecDepth 100000 in
theorem c_X7_refusalsOf {l : Launch} {D : va_G} {K : Nat → ClassId} {h0 : Nat} {a0 : Nat → Nat} {hs : Nat → Nat} {r0 : zS} {p1 : Int32} {sz : Nat} {post : Int32 → Prop}   (h : wp_X7_refusalsOf r0 p1 post) : Met l yX7_refusalsOf (Cond.code yX7_refusalsOf cX7_refusalsOf 2 (some .int) :: wsL_law) ({ frames := 0, cells := 0, slots := 0, locals := 0 } : Room) (va_Pc [.ref h0, .int p1] (xPre D vwCl (xty K) (wX7 K h0 a0 hs r0) sz)) (roI post) 0 0 (fun _ => False) := by
  refine xMet (by decide) rfl (Nat.le_of_ble_eq_true rfl) (fun p e s m args below meth c C hnm hP hD hsz ls hl => ?_)
  have hl : lv_has ls 2 [(0, .ref h0), (1, .int p1)] := hl
  obtain ⟨hx, hb, hr, hml, hown, hts, hlocks, hK, hT⟩ := id C
  unfold wp_X7_refusalsOf at h
  refine lv_iload_n hx hb dX7_refusalsOf_0 rfl (lv_at hl 1 rfl) ?_
  refine lv_if_lt (tgt := 18) hx hb dX7_refusalsOf_1 (by decide) (fun c1 => ?_) (fun c1 => ?_)
  · replace h := And.left h c1
    refine lv_iconst (v := -1) hx hb dX7_refusalsOf_18 (by decide) ?_
    exact xro_i C h dX7_refusalsOf_19
  · replace h := And.right h c1
    refine lv_iload_n hx hb dX7_refusalsOf_4 rfl (lv_at hl 1 rfl) ?_
    refine lv_iconst (v := 5) hx hb dX7_refusalsOf_5 (by decide) ?_
    refine lv_icmp_ge (tgt := 18) hx hb dX7_refusalsOf_6 (by decide) (fun c2 => ?_) (fun c2 => ?_)
    · replace h := And.left h c2
      refine lv_iconst (v := -1) hx hb dX7_refusalsOf_18 (by decide) ?_
      exact xro_i C h dX7_refusalsOf_19
    · replace h := And.right h c2
      refine lv_aload_n hx hb dX7_refusalsOf_9 rfl (lv_at hl 0 rfl) ?_
      refine va_get (D := D) (ci := 7) (v := .ref (a0 12)) (C := RX7) (T := TX7) (N := 13) hx hb hts inlX7 hown hK hP 0 rfl rfl 12 (by decide) (hts (.fieldLink RX7 75 "UnderTheDesks" "refusals" "[I") mw_45) (fun _ h9 => h9) rfl dX7_refusalsOf_10 ?_
      refine lv_iload_n hx hb dX7_refusalsOf_13 rfl (lv_at hl 1 rfl) ?_
      have hin := And.left h
      replace h := And.right h
      refine va_iald hx hb hK hP 2 0 rfl rfl hin dX7_refusalsOf_14 ?_
      refine lv_goto (tgt := 19) hx hb dX7_refusalsOf_15 (by decide) ?_
      exact xro_i C h dX7_refusalsOf_19

def wp_X7_shelvesInUse_26 (r0 : zS) (sh : Nat → zS) (post : Int32 → Prop) (k4 : Int32 → Int32 → Prop) (x1 : Int32) (x2 : Int32) : Prop :=
  ∀ v4 : Int32, v4 = x2 + (1 : Int32) → k4 x1 v4
def wb_X7_shelvesInUse_4 (r0 : zS) (sh : Nat → zS) (post : Int32 → Prop) (ih : Int32 → Int32 → Prop) (x1 : Int32) (x2 : Int32) : Prop :=
  ((8 : Int32) ≤ x2 → post x1 ) ∧ (¬ (8 : Int32) ≤ x2 → vp_in x2 8 ∧ (∀ k2 : Nat, k2 = x2.toNatClampNeg → (((sh k2).1 0) = (-1 : Int32) → wp_X7_shelvesInUse_26 r0 sh post ih x1 x2) ∧ (¬ ((sh k2).1 0) = (-1 : Int32) → ∀ v5 : Int32, v5 = x1 + (1 : Int32) → wp_X7_shelvesInUse_26 r0 sh post ih v5 x2)))
def wp_X7_shelvesInUse_4 (r0 : zS) (sh : Nat → zS) (post : Int32 → Prop) (n : Nat) : Int32 → Int32 → Prop := Nat.rec (motive := fun _ => Int32 → Int32 → Prop) (fun _ _ => False) (fun _ ih => wb_X7_shelvesInUse_4 r0 sh post ih) n
theorem wu_X7_shelvesInUse_4 (r0 : zS) (sh : Nat → zS) (post : Int32 → Prop) (n : Nat) (x1 : Int32) (x2 : Int32) : wp_X7_shelvesInUse_4 r0 sh post (n + 1) x1 x2 = wb_X7_shelvesInUse_4 r0 sh post (wp_X7_shelvesInUse_4 r0 sh post n) x1 x2 := rfl
def wp_X7_shelvesInUse (r0 : zS) (sh : Nat → zS) (post : Int32 → Prop) : Prop :=
  ∃ n : Nat, wp_X7_shelvesInUse_4 r0 sh post n (0 : Int32) (0 : Int32)
set_option maxHeartbeats 4000000 in
set_option maxRecDepth 100000 in
theorem t_X7_shelvesInUse_26 {p : Program} {l : Launch} {e : Env} {s : State} {m : MethodId} {args : Array Value} {below : List Frame} {meth : Method} {c : Code} {D : va_G} {K : Nat → ClassId} {h0 : Nat} {a0 : Nat → Nat} {hs : Nat → Nat} {r0 : zS} {as : Nat → Nat → Nat} {sh : Nat → zS} {post : Int32 → Prop} (C : xC p s m args meth c cX7_shelvesInUse RX7 3 (some .int) D vwCl (xty K)) (hP : va_P D vwCl (wX7 K h0 a0 hs r0 ++ (wPl K hs as sh ++ (([] : va_W)))) s.heap) (hD : va_D (va_A (wX7 K h0 a0 hs r0 ++ (wPl K hs as sh ++ (([] : va_W)))) s.heap.size) (wX7 K h0 a0 hs r0 ++ (wPl K hs as sh ++ (([] : va_W))))) {k4 : Int32 → Int32 → Prop} (hk4 : ∀ (x1 : Int32) (x2 : Int32) (ls : Array Slot), lv_has ls 3 [(0, .ref h0), (1, .int x1), (2, .int x2)] → k4  x1 x2  → W p l e ({ frames := 0, cells := 0, slots := 0, locals := 0 } : Room) s m args below meth c s.heap [] 0 0 (MQ below (roI post) args s 0 0 (fun _ => False)) (F0 m 4 ls [])) : ∀ (x1 : Int32) (x2 : Int32) (ls : Array Slot), lv_has ls 3 [(0, .ref h0), (1, .int x1), (2, .int x2)] → wp_X7_shelvesInUse_26 r0 sh post k4 x1 x2 → W p l e ({ frames := 0, cells := 0, slots := 0, locals := 0 } : Room) s m args below meth c s.heap [] 0 0 (MQ below (roI post) args s 0 0 (fun _ => False)) (F0 m 26 ls []) := by
  obtain ⟨hx, hb, hr, hml, hown, hts, hlocks, hK, hT⟩ := id C
  intro x1 x2 ls hl h
  unfold wp_X7_shelvesInUse_26 at h
  obtain ⟨v4, ev4⟩ : ∃ y : Int32, y = x2 + (1 : Int32) := ⟨_, rfl⟩
  replace h := h v4 ev4
  refine lv_iinc (v := v4) (lv' := [(2, .int v4), (0, .ref h0), (1, .int x1)]) hx hb dX7_shelvesInUse_26 hl (k := 2) rfl (by rw [ev4]; rfl) (by decide) rfl (fun ls hl => ?_)
  refine lv_goto (tgt := 4) hx hb dX7_shelvesInUse_29 (by decide) ?_
  exact hk4 _ _ _ (lv_sub hl [1, 2, 0] rfl) h
set_option maxHeartbeats 4000000 in
set_option maxRecDepth 100000 in
theorem t_X7_shelvesInUse_4 {p : Program} {l : Launch} {e : Env} {s : State} {m : MethodId} {args : Array Value} {below : List Frame} {meth : Method} {c : Code} {D : va_G} {K : Nat → ClassId} {h0 : Nat} {a0 : Nat → Nat} {hs : Nat → Nat} {r0 : zS} {as : Nat → Nat → Nat} {sh : Nat → zS} {post : Int32 → Prop} (C : xC p s m args meth c cX7_shelvesInUse RX7 3 (some .int) D vwCl (xty K)) (hP : va_P D vwCl (wX7 K h0 a0 hs r0 ++ (wPl K hs as sh ++ (([] : va_W)))) s.heap) (hD : va_D (va_A (wX7 K h0 a0 hs r0 ++ (wPl K hs as sh ++ (([] : va_W)))) s.heap.size) (wX7 K h0 a0 hs r0 ++ (wPl K hs as sh ++ (([] : va_W))))) : ∀ (n : Nat) (x1 : Int32) (x2 : Int32) (ls : Array Slot), lv_has ls 3 [(0, .ref h0), (1, .int x1), (2, .int x2)] → wp_X7_shelvesInUse_4 r0 sh post n x1 x2 → W p l e ({ frames := 0, cells := 0, slots := 0, locals := 0 } : Room) s m args below meth c s.heap [] 0 0 (MQ below (roI post) args s 0 0 (fun _ => False)) (F0 m 4 ls []) := by
  obtain ⟨hx, hb, hr, hml, hown, hts, hlocks, hK, hT⟩ := id C
  intro n
  induction n with
  | zero =>
    intro x1 x2 ls hl h
    exact False.elim h
  | succ n ihn =>
    intro x1 x2 ls hl h
    rw [wu_X7_shelvesInUse_4] at h
    unfold wb_X7_shelvesInUse_4 at h
    refine lv_iload_n hx hb dX7_shelvesInUse_4 rfl (lv_at hl 2 rfl) ?_
    refine lv_bipush (v := 8) hx hb dX7_shelvesInUse_5 (by decide) ?_
    refine lv_icmp_ge (tgt := 32) hx hb dX7_shelvesInUse_7 (by decide) (fun c1 => ?_) (fun c1 => ?_)
    · replace h := And.left h c1
      refine lv_iload_n hx hb dX7_shelvesInUse_32 rfl (lv_at hl 1 rfl) ?_
      exact xro_i C h dX7_shelvesInUse_33
    · replace h := And.right h c1
      refine lv_aload_n hx hb dX7_shelvesInUse_10 rfl (lv_at hl 0 rfl) ?_
      refine va_get (D := D) (ci := 7) (v := .ref (a0 6)) (C := RX7) (T := TX7) (N := 13) hx hb hts inlX7 hown hK hP 0 rfl rfl 6 (by decide) (hts (.fieldLink RX7 38 "UnderTheDesks" "shelves" "[LUnderTheDesks$Shelf;") mw_26) (fun _ h9 => h9) rfl dX7_shelvesInUse_11 ?_
      refine lv_iload_n hx hb dX7_shelvesInUse_14 rfl (lv_at hl 2 rfl) ?_
      have hin := And.left h
      obtain ⟨k2, ek2⟩ : ∃ j : Nat, j = x2.toNatClampNeg := ⟨_, rfl⟩
      replace h := And.right h k2 ek2
      have hk2 : k2 < 8 := by rw [ek2]; exact Nat.not_le.mp (fun q => hin (Or.inr q))
      refine xaldq hx hb hK hP 1 2 rfl rfl hin ek2 dX7_shelvesInUse_15 ?_
      refine va_get (D := D) (ci := 2) (v := .int ((sh k2).1 0)) (C := RX2) (T := TX2) (N := 3) hx hb hts inlX2 hown hK hP (3 + 2 * k2) (wPl_obj hk2) rfl 0 (by decide) (hts (.fieldLink RX7 107 "UnderTheDesks$Shelf" "holding" "I") mw_213) (fun _ h9 => h9) rfl dX7_shelvesInUse_16 ?_
      refine lv_iconst (v := -1) hx hb dX7_shelvesInUse_19 (by decide) ?_
      refine lv_icmp_eq (tgt := 26) hx hb dX7_shelvesInUse_20 (by decide) (fun c3 => ?_) (fun c3 => ?_)
      · replace h := And.left h c3
        exact t_X7_shelvesInUse_26 C hP hD ihn _ _ _ (lv_sub hl [0, 1, 2] rfl) h
      · replace h := And.right h c3
        obtain ⟨v5, ev5⟩ : ∃ y : Int32, y = x1 + (1 : Int32) := ⟨_, rfl⟩
        replace h := h v5 ev5
        refine lv_iinc (v := v5) (lv' := [(1, .int v5), (0, .ref h0), (2, .int x2)]) hx hb dX7_shelvesInUse_23 hl (k := 1) rfl (by rw [ev5]; rfl) (by decide) rfl (fun ls hl => ?_)
        exact t_X7_shelvesInUse_26 C hP hD ihn _ _ _ (lv_sub hl [1, 0, 2] rfl) h
set_option maxHeartbeats 4000000 in
set_option maxRecDepth 100000 in
theorem c_X7_shelvesInUse {l : Launch} {D : va_G} {K : Nat → ClassId} {h0 : Nat} {a0 : Nat → Nat} {hs : Nat → Nat} {r0 : zS} {as : Nat → Nat → Nat} {sh : Nat → zS}  {sz : Nat} {post : Int32 → Prop}   (h : wp_X7_shelvesInUse r0 sh post) : Met l yX7_shelvesInUse (Cond.code yX7_shelvesInUse cX7_shelvesInUse 3 (some .int) :: wsL_law) ({ frames := 0, cells := 0, slots := 0, locals := 0 } : Room) (va_Pc [.ref h0] (xPre D vwCl (xty K) (wX7 K h0 a0 hs r0 ++ (wPl K hs as sh ++ (([] : va_W)))) sz)) (roI post) 0 0 (fun _ => False) := by
  refine xMet (by decide) rfl (Nat.le_of_ble_eq_true rfl) (fun p e s m args below meth c C hnm hP hD hsz ls hl => ?_)
  have hl : lv_has ls 3 [(0, .ref h0)] := hl
  obtain ⟨hx, hb, hr, hml, hown, hts, hlocks, hK, hT⟩ := id C
  unfold wp_X7_shelvesInUse at h
  refine lv_iconst (v := 0) hx hb dX7_shelvesInUse_0 (by decide) ?_
  refine lv_istore_n (lv' := [(1, .int (0 : Int32)), (0, .ref h0)]) hx hb dX7_shelvesInUse_1 rfl hl (by decide) rfl (fun ls hl => ?_)
  refine lv_iconst (v := 0) hx hb dX7_shelvesInUse_2 (by decide) ?_
  refine lv_istore_n (lv' := [(2, .int (0 : Int32)), (1, .int (0 : Int32)), (0, .ref h0)]) hx hb dX7_shelvesInUse_3 rfl hl (by decide) rfl (fun ls hl => ?_)
  obtain ⟨n0, h⟩ := h
  exact t_X7_shelvesInUse_4 C hP hD n0 _ _ _ (lv_sub hl [2, 1, 0] rfl) h
