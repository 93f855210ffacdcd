def wp_X0_sortOf_35 (p0 : Int32) (post : Int32 → Prop)  : Prop :=
  (p0 = (59 : Int32) → post (3 : Int32) ) ∧ (¬ p0 = (59 : Int32) → post (4 : Int32) )
def wp_X0_sortOf_21 (p0 : Int32) (post : Int32 → Prop)  : Prop :=
  (p0 < (48 : Int32) → wp_X0_sortOf_35 p0 post ) ∧ (¬ p0 < (48 : Int32) → ((57 : Int32) < p0 → wp_X0_sortOf_35 p0 post ) ∧ (¬ (57 : Int32) < p0 → post (2 : Int32) ))
def wp_X0_sortOf (p0 : Int32) (post : Int32 → Prop) : Prop :=
  (p0 = (-1 : Int32) → post (0 : Int32) ) ∧ (¬ p0 = (-1 : Int32) → (p0 < (97 : Int32) → wp_X0_sortOf_21 p0 post ) ∧ (¬ p0 < (97 : Int32) → ((122 : Int32) < p0 → wp_X0_sortOf_21 p0 post ) ∧ (¬ (122 : Int32) < p0 → post (1 : Int32) )))
set_option maxHeartbeats 4000000 in
set_option maxRecDepth 100000 in
theorem t_X0_sortOf_35 {p : Program} {l : Launch} {e : Env} {s : State} {m : MethodId} {args : Array Value} {below : List Frame} {meth : Method} {c : Code} {D : va_G} {K : Nat → ClassId} {p0 : Int32} {post : Int32 → Prop} (C : xC p s m args meth c cX0_sortOf RX0 1 (some .int) D vwCl (xty K)) (hP : va_P D vwCl ([] : va_W) s.heap) (hD : va_D (va_A ([] : va_W) s.heap.size) ([] : va_W)) : ∀  (ls : Array Slot), lv_has ls 1 [(0, .int p0)] → wp_X0_sortOf_35 p0 post  → W p l e ({ frames := 0, cells := 0, slots := 0, locals := 0 } : Room) s m args below meth c s.heap [] 0 0 (MQ below (roI post) args s 0 0 (fun _ => False)) (F0 m 35 ls []) := by
  obtain ⟨hx, hb, hr, hml, hown, hts, hlocks, hK, hT⟩ := id C
  intro  ls hl h
  unfold wp_X0_sortOf_35 at h
  refine lv_iload_n hx hb dX0_sortOf_35 rfl (lv_at hl 0 rfl) ?_
  refine lv_bipush (v := 59) hx hb dX0_sortOf_36 (by decide) ?_
  refine lv_icmp_ne (tgt := 45) hx hb dX0_sortOf_38 (by decide) (fun c4 => ?_) (fun c4 => ?_)
  · replace h := And.right h c4
    refine lv_iconst (v := 4) hx hb dX0_sortOf_45 (by decide) ?_
    exact xro_i C h dX0_sortOf_46
  · replace h := And.left h c4
    refine lv_iconst (v := 3) hx hb dX0_sortOf_41 (by decide) ?_
    refine lv_goto (tgt := 46) hx hb dX0_sortOf_42 (by decide) ?_
    exact xro_i C h dX0_sortOf_46
set_option maxHeartbeats 4000000 in
set_option maxRecDepth 100000 in
theorem t_X0_sortOf_21 {p : Program} {l : Launch} {e : Env} {s : State} {m : MethodId} {args : Array Value} {below : List Frame} {meth : Method} {c : Code} {D : va_G} {K : Nat → ClassId} {p0 : Int32} {post : Int32 → Prop} (C : xC p s m args meth c cX0_sortOf RX0 1 (some .int) D vwCl (xty K)) (hP : va_P D vwCl ([] : va_W) s.heap) (hD : va_D (va_A ([] : va_W) s.heap.size) ([] : va_W)) : ∀  (ls : Array Slot), lv_has ls 1 [(0, .int p0)] → wp_X0_sortOf_21 p0 post  → W p l e ({ frames := 0, cells := 0, slots := 0, locals := 0 } : Room) s m args below meth c s.heap [] 0 0 (MQ below (roI post) args s 0 0 (fun _ => False)) (F0 m 21 ls []) := by
  obtain ⟨hx, hb, hr, hml, hown, hts, hlocks, hK, hT⟩ := id C
  intro  ls hl h
  unfold wp_X0_sortOf_21 at h
  refine lv_iload_n hx hb dX0_sortOf_21 rfl (lv_at hl 0 rfl) ?_
  refine lv_bipush (v := 48) hx hb dX0_sortOf_22 (by decide) ?_
  refine lv_icmp_lt (tgt := 35) hx hb dX0_sortOf_24 (by decide) (fun c3 => ?_) (fun c3 => ?_)
  · replace h := And.left h c3
    exact t_X0_sortOf_35 C hP hD _ (lv_sub hl [0] rfl) h
  · replace h := And.right h c3
    refine lv_iload_n hx hb dX0_sortOf_27 rfl (lv_at hl 0 rfl) ?_
    refine lv_bipush (v := 57) hx hb dX0_sortOf_28 (by decide) ?_
    refine lv_icmp_gt (tgt := 35) hx hb dX0_sortOf_30 (by decide) (fun c5 => ?_) (fun c5 => ?_)
    · replace h := And.left h c5
      exact t_X0_sortOf_35 C hP hD _ (lv_sub hl [0] rfl) h
    · replace h := And.right h c5
      refine lv_iconst (v := 2) hx hb dX0_sortOf_33 (by decide) ?_
      exact xro_i C h dX0_sortOf_34
set_option maxHeartbeats 4000000 in
set_option maxRecDepth 100000 in
theorem c_X0_sortOf {l : Launch} {D : va_G} {K : Nat → ClassId}  {p0 : Int32} {sz : Nat} {post : Int32 → Prop}   (h : wp_X0_sortOf p0 post) : Met l yX0_sortOf (Cond.code yX0_sortOf cX0_sortOf 1 (some .int) :: wsL_law) ({ frames := 0, cells := 0, slots := 0, locals := 0 } : Room) (va_Pc [.int p0] (xPre D vwCl (xty K) ([] : va_W) sz)) (roI post) 0 0 (fun _ => False) := by
  refine xMet (by decide) rfl (Nat.le_of_ble_eq_true rfl) (fun p e s m args below meth c C hnm hP hD hsz ls hl => ?_)
  have hl : lv_has ls 1 [(0, .int p0)] := hl
  obtain ⟨hx, hb, hr, hml, hown, hts, hlocks, hK, hT⟩ := id C
  unfold wp_X0_sortOf at h
  refine lv_iload_n hx hb dX0_sortOf_0 rfl (lv_at hl 0 rfl) ?_
  refine lv_iconst (v := -1) hx hb dX0_sortOf_1 (by decide) ?_
  refine lv_icmp_ne (tgt := 7) hx hb dX0_sortOf_2 (by decide) (fun c1 => ?_) (fun c1 => ?_)
  · replace h := And.right h c1
    refine lv_iload_n hx hb dX0_sortOf_7 rfl (lv_at hl 0 rfl) ?_
    refine lv_bipush (v := 97) hx hb dX0_sortOf_8 (by decide) ?_
    refine lv_icmp_lt (tgt := 21) hx hb dX0_sortOf_10 (by decide) (fun c2 => ?_) (fun c2 => ?_)
    · replace h := And.left h c2
      exact t_X0_sortOf_21 C hP hD _ (lv_sub hl [0] rfl) h
    · replace h := And.right h c2
      refine lv_iload_n hx hb dX0_sortOf_13 rfl (lv_at hl 0 rfl) ?_
      refine lv_bipush (v := 122) hx hb dX0_sortOf_14 (by decide) ?_
      refine lv_icmp_gt (tgt := 21) hx hb dX0_sortOf_16 (by decide) (fun c6 => ?_) (fun c6 => ?_)
      · replace h := And.left h c6
        exact t_X0_sortOf_21 C hP hD _ (lv_sub hl [0] rfl) h
      · replace h := And.right h c6
        refine lv_iconst (v := 1) hx hb dX0_sortOf_19 (by decide) ?_
        exact xro_i C h dX0_sortOf_20
  · replace h := And.left h c1
    refine lv_iconst (v := 0) hx hb dX0_sortOf_5 (by decide) ?_
    exact xro_i C h dX0_sortOf_6

def wb_X0_next_93 (r1 : zS) (post : (zS) → Prop) (ih : (zS) → Prop) (r0 : zS) : Prop :=
  ((r1.1 0) ≤ (r0.1 3) → post r0) ∧ (¬ (r1.1 0) ≤ (r0.1 3) → wp_X3_byteAt r1 (r0.1 3) (fun v8 => wp_X0_sortOf v8 (fun v9 => (v9 = (r0.1 4) → ∀ v11 : Int32, v11 = ((r0.1 3) + (1 : Int32)) → ih (zI r0 3 v11)) ∧ (¬ v9 = (r0.1 4) → post r0))))
def wp_X0_next_93 (r1 : zS) (post : (zS) → Prop) (n : Nat) : (zS) → Prop := Nat.rec (motive := fun _ => (zS) → Prop) (fun _ => False) (fun _ ih => wb_X0_next_93 r1 post ih) n
theorem wu_X0_next_93 (r1 : zS) (post : (zS) → Prop) (n : Nat) (r0 : zS) : wp_X0_next_93 r1 post (n + 1) r0 = wb_X0_next_93 r1 post (wp_X0_next_93 r1 post n) r0 := rfl
def wp_X0_next_51 (r1 : zS) (post : (zS) → Prop) (r0 : zS) : Prop :=
  ∀ v3 : Int32, v3 = (r0.1 2) → wp_X3_byteAt r1 ((zI r0 3 v3).1 2) (fun v4 => wp_X0_sortOf v4 (fun v5 => (((zI (zI r0 3 v3) 4 v5).1 4) = (1 : Int32) → ∃ n : Nat, wp_X0_next_93 r1 post n (zI (zI r0 3 v3) 4 v5)) ∧ (¬ ((zI (zI r0 3 v3) 4 v5).1 4) = (1 : Int32) → (((zI (zI r0 3 v3) 4 v5).1 4) = (2 : Int32) → ∃ n : Nat, wp_X0_next_93 r1 post n (zI (zI r0 3 v3) 4 v5)) ∧ (¬ ((zI (zI r0 3 v3) 4 v5).1 4) = (2 : Int32) → (((zI (zI r0 3 v3) 4 v5).1 4) = 0 → post (zI (zI r0 3 v3) 4 v5)) ∧ (¬ ((zI (zI r0 3 v3) 4 v5).1 4) = 0 → ∀ v14 : Int32, v14 = (((zI (zI r0 3 v3) 4 v5).1 3) + (1 : Int32)) → post (zI (zI (zI r0 3 v3) 4 v5) 3 v14))))))
def wb_X0_next_8 (r1 : zS) (post : (zS) → Prop) (ih : (zS) → Prop) (r0 : zS) : Prop :=
  ((r1.1 0) ≤ (r0.1 2) → wp_X0_next_51 r1 post r0) ∧ (¬ (r1.1 0) ≤ (r0.1 2) → wp_X3_byteAt r1 (r0.1 2) (fun v15 => (v15 = (32 : Int32) → ∀ v17 : Int32, v17 = ((r0.1 2) + (1 : Int32)) → ih (zI r0 2 v17)) ∧ (¬ v15 = (32 : Int32) → wp_X0_next_51 r1 post r0)))
def wp_X0_next_8 (r1 : zS) (post : (zS) → Prop) (n : Nat) : (zS) → Prop := Nat.rec (motive := fun _ => (zS) → Prop) (fun _ => False) (fun _ ih => wb_X0_next_8 r1 post ih) n
theorem wu_X0_next_8 (r1 : zS) (post : (zS) → Prop) (n : Nat) (r0 : zS) : wp_X0_next_8 r1 post (n + 1) r0 = wb_X0_next_8 r1 post (wp_X0_next_8 r1 post n) r0 := rfl
def wp_X0_next (r0 : zS) (r1 : zS) (post : (zS) → Prop) : Prop :=
  ∀ v1 : Int32, v1 = (r0.1 3) → ∃ n : Nat, wp_X0_next_8 r1 post n (zI r0 2 v1)
set_option maxHeartbeats 4000000 in
set_option maxRecDepth 100000 in
theorem t_X0_next_93 {p : Program} {l : Launch} {e : Env} {s : State} {m : MethodId} {args : Array Value} {below : List Frame} {meth : Method} {c : Code} {D : va_G} {K : Nat → ClassId} {h0 : Nat} {a0 : Nat → Nat} {a1 : Nat → Nat} {r1 : zS} {post : (zS) → Prop} {A : Nat → Prop} (C : xC p s m args meth c cX0_next RX0 1 none D vwCl (xty K)) (hA : ∀ q, s.heap.size ≤ q → A q) : ∀ (n : Nat) (r0 : zS) (H : Heap) (locs : List Loc) (ls : Array Slot), lv_has ls 1 [(0, .ref h0)] → va_P D vwCl (wX0 K h0 a0 r0 ++ (wX3 K (a0 0) a1 r1)) H → va_D A (wX0 K h0 a0 r0 ++ (wX3 K (a0 0) a1 r1)) → va_S A s.heap H locs → wp_X0_next_93 r1 post n r0 → W p l e ({ frames := 1, cells := 0, slots := 0, locals := 21 } : Room) s m args below meth c H locs 0 0 (MQ below (va_Qv (fun (u : (zS)) => post u) (fun (u : (zS)) t => va_P D vwCl (wX0 K h0 a0 u ++ (wX3 K (a0 0) a1 r1)) t.heap) A) args s 0 0 A) (F0 m 93 ls []) := by
  obtain ⟨hx, hb, hr, hml, hown, hts, hlocks, hK, hT⟩ := id C
  intro n
  induction n with
  | zero =>
    intro r0 H locs ls hl hP hD hS h
    exact False.elim h
  | succ n ihn =>
    intro r0 H locs ls hl hP hD hS h
    rw [wu_X0_next_93] at h
    unfold wb_X0_next_93 at h
    refine lv_aload_n hx hb dX0_next_93 rfl (lv_at hl 0 rfl) ?_
    refine va_get (D := D) (ci := 0) (v := .int (r0.1 3)) (C := RX0) (T := TX0) (N := 5) hx hb hts inlX0 hown hK hP 0 rfl rfl 3 (by decide) (hts (.fieldLink RX0 15 "UnderTheDesks$Lesson" "place" "I") mw_82) (fun _ h9 => h9) rfl dX0_next_94 ?_
    refine lv_aload_n hx hb dX0_next_97 rfl (lv_at hl 0 rfl) ?_
    refine va_get (D := D) (ci := 0) (v := .ref (a0 0)) (C := RX0) (T := TX0) (N := 5) hx hb hts inlX0 hown hK hP 0 rfl rfl 0 (by decide) (hts (.fieldLink RX0 21 "UnderTheDesks$Lesson" "tape" "LUnderTheDesks$Tape;") mw_84) (fun _ h9 => h9) rfl dX0_next_98 ?_
    refine va_get (D := D) (ci := 3) (v := .int (r1.1 0)) (C := RX3) (T := TX3) (N := 2) hx hb hts inlX3 hown hK hP 1 rfl rfl 0 (by decide) (hts (.fieldLink RX0 117 "UnderTheDesks$Tape" "size" "I") mw_530) (fun _ h9 => h9) rfl dX0_next_101 ?_
    refine lv_icmp_ge (tgt := 158) hx hb dX0_next_104 (by decide) (fun c7 => ?_) (fun c7 => ?_)
    · replace h := And.left h c7
      exact xrw_v C r0 h hP hS dX0_next_158
    · replace h := And.right h c7
      refine lv_aload_n hx hb dX0_next_107 rfl (lv_at hl 0 rfl) ?_
      refine va_get (D := D) (ci := 0) (v := .ref (a0 0)) (C := RX0) (T := TX0) (N := 5) hx hb hts inlX0 hown hK hP 0 rfl rfl 0 (by decide) (hts (.fieldLink RX0 21 "UnderTheDesks$Lesson" "tape" "LUnderTheDesks$Tape;") mw_84) (fun _ h9 => h9) rfl dX0_next_108 ?_
      refine lv_aload_n hx hb dX0_next_111 rfl (lv_at hl 0 rfl) ?_
      refine va_get (D := D) (ci := 0) (v := .int (r0.1 3)) (C := RX0) (T := TX0) (N := 5) hx hb hts inlX0 hown hK hP 0 rfl rfl 3 (by decide) (hts (.fieldLink RX0 15 "UnderTheDesks$Lesson" "place" "I") mw_82) (fun _ h9 => h9) rfl dX0_next_112 ?_
      refine xend_ro_i (xRunV (wc := (wX3 K (a0 0) a1 r1)) (As := [.int (r0.1 3)]) (rest := []) C (c_X3_byteAt h) k_X3_byteAt mw_531 ⟨rfl, rfl⟩ ⟨Nat.le_of_ble_eq_true rfl, Nat.le_of_ble_eq_true rfl⟩ hP hD [1, 2] rfl rfl rfl rfl hl rfl rfl (Nat.le_of_ble_eq_true rfl) dX0_next_115 ⟨Nat.le_refl _, Nat.le_refl _⟩) (fun v8 h => ?_)
      refine xend_ro_i (xRunS (wc := ([] : va_W)) (As := [.int v8]) (rest := []) C (c_X0_sortOf h) k_X0_sortOf mw_535 ⟨rfl, rfl⟩ ⟨Nat.le_of_ble_eq_true rfl, Nat.le_of_ble_eq_true rfl⟩ hP hD [] rfl rfl hl rfl rfl (Nat.le_of_ble_eq_true rfl) dX0_next_118 ⟨Nat.le_refl _, Nat.le_refl _⟩) (fun v9 h => ?_)
      refine lv_aload_n hx hb dX0_next_121 rfl (lv_at hl 0 rfl) ?_
      refine va_get (D := D) (ci := 0) (v := .int (r0.1 4)) (C := RX0) (T := TX0) (N := 5) hx hb hts inlX0 hown hK hP 0 rfl rfl 4 (by decide) (hts (.fieldLink RX0 18 "UnderTheDesks$Lesson" "token" "I") mw_83) (fun _ h9 => h9) rfl dX0_next_122 ?_
      refine lv_icmp_ne (tgt := 158) hx hb dX0_next_125 (by decide) (fun c10 => ?_) (fun c10 => ?_)
      · replace h := And.right h c10
        exact xrw_v C r0 h hP hS dX0_next_158
      · replace h := And.left h c10
        refine lv_aload_n hx hb dX0_next_128 rfl (lv_at hl 0 rfl) ?_
        refine lv_dup hx hb dX0_next_129 rfl ?_
        refine va_get (D := D) (ci := 0) (v := .int (r0.1 3)) (C := RX0) (T := TX0) (N := 5) hx hb hts inlX0 hown hK hP 0 rfl rfl 3 (by decide) (hts (.fieldLink RX0 15 "UnderTheDesks$Lesson" "place" "I") mw_82) (fun _ h9 => h9) rfl dX0_next_130 ?_
        refine lv_iconst (v := 1) hx hb dX0_next_133 (by decide) ?_
        refine lv_iadd hx hb dX0_next_134 ?_
        refine lv_topi (fun v11 ev11 => ?_)
        replace h := h v11 ev11
        refine va_put (D := D) (ci := 0) (v := .int v11) (ty := .int) (C := RX0) (T := TX0) (N := 5) hx hb hts inlX0 tyX0 tyX0_ok nmX0 hown hK hP hD hS 0 rfl rfl 3 (by decide) (hts (.fieldLink RX0 15 "UnderTheDesks$Lesson" "place" "I") mw_82) (fun _ h9 => h9) rfl (by decide +kernel) rfl rfl (Nat.le_of_ble_eq_true rfl) dX0_next_135 (fun H locs hP hD hS => ?_)
        replace hP : va_P D vwCl (wX0 K h0 a0 (zI r0 3 v11) ++ (wX3 K (a0 0) a1 r1)) H := hP
        replace hD : va_D A (wX0 K h0 a0 (zI r0 3 v11) ++ (wX3 K (a0 0) a1 r1)) := hD
        refine lv_goto (tgt := 93) hx hb dX0_next_138 (by decide) ?_
        exact ihn _ _ _ _ (lv_sub hl [0] rfl) hP hD hS h
set_option maxHeartbeats 4000000 in
set_option maxRecDepth 100000 in
theorem t_X0_next_51 {p : Program} {l : Launch} {e : Env} {s : State} {m : MethodId} {args : Array Value} {below : List Frame} {meth : Method} {c : Code} {D : va_G} {K : Nat → ClassId} {h0 : Nat} {a0 : Nat → Nat} {a1 : Nat → Nat} {r1 : zS} {post : (zS) → Prop} {A : Nat → Prop} (C : xC p s m args meth c cX0_next RX0 1 none D vwCl (xty K)) (hA : ∀ q, s.heap.size ≤ q → A q) : ∀ (r0 : zS) (H : Heap) (locs : List Loc) (ls : Array Slot), lv_has ls 1 [(0, .ref h0)] → va_P D vwCl (wX0 K h0 a0 r0 ++ (wX3 K (a0 0) a1 r1)) H → va_D A (wX0 K h0 a0 r0 ++ (wX3 K (a0 0) a1 r1)) → va_S A s.heap H locs → wp_X0_next_51 r1 post r0 → W p l e ({ frames := 1, cells := 0, slots := 0, locals := 21 } : Room) s m args below meth c H locs 0 0 (MQ below (va_Qv (fun (u : (zS)) => post u) (fun (u : (zS)) t => va_P D vwCl (wX0 K h0 a0 u ++ (wX3 K (a0 0) a1 r1)) t.heap) A) args s 0 0 A) (F0 m 51 ls []) := by
  obtain ⟨hx, hb, hr, hml, hown, hts, hlocks, hK, hT⟩ := id C
  intro r0 H locs ls hl hP hD hS h
  unfold wp_X0_next_51 at h
  refine lv_aload_n hx hb dX0_next_51 rfl (lv_at hl 0 rfl) ?_
  refine lv_aload_n hx hb dX0_next_52 rfl (lv_at hl 0 rfl) ?_
  refine va_get (D := D) (ci := 0) (v := .int (r0.1 2)) (C := RX0) (T := TX0) (N := 5) hx hb hts inlX0 hown hK hP 0 rfl rfl 2 (by decide) (hts (.fieldLink RX0 9 "UnderTheDesks$Lesson" "start" "I") mw_81) (fun _ h9 => h9) rfl dX0_next_53 ?_
  refine lv_topi (fun v3 ev3 => ?_)
  replace h := h v3 ev3
  refine va_put (D := D) (ci := 0) (v := .int v3) (ty := .int) (C := RX0) (T := TX0) (N := 5) hx hb hts inlX0 tyX0 tyX0_ok nmX0 hown hK hP hD hS 0 rfl rfl 3 (by decide) (hts (.fieldLink RX0 15 "UnderTheDesks$Lesson" "place" "I") mw_82) (fun _ h9 => h9) rfl (by decide +kernel) rfl rfl (Nat.le_of_ble_eq_true rfl) dX0_next_56 (fun H locs hP hD hS => ?_)
  replace hP : va_P D vwCl (wX0 K h0 a0 (zI r0 3 v3) ++ (wX3 K (a0 0) a1 r1)) H := hP
  replace hD : va_D A (wX0 K h0 a0 (zI r0 3 v3) ++ (wX3 K (a0 0) a1 r1)) := hD
  refine lv_aload_n hx hb dX0_next_59 rfl (lv_at hl 0 rfl) ?_
  refine lv_aload_n hx hb dX0_next_60 rfl (lv_at hl 0 rfl) ?_
  refine va_get (D := D) (ci := 0) (v := .ref (a0 0)) (C := RX0) (T := TX0) (N := 5) hx hb hts inlX0 hown hK hP 0 rfl rfl 0 (by decide) (hts (.fieldLink RX0 21 "UnderTheDesks$Lesson" "tape" "LUnderTheDesks$Tape;") mw_84) (fun _ h9 => h9) rfl dX0_next_61 ?_
  refine lv_aload_n hx hb dX0_next_64 rfl (lv_at hl 0 rfl) ?_
  refine va_get (D := D) (ci := 0) (v := .int ((zI r0 3 v3).1 2)) (C := RX0) (T := TX0) (N := 5) hx hb hts inlX0 hown hK hP 0 rfl rfl 2 (by decide) (hts (.fieldLink RX0 9 "UnderTheDesks$Lesson" "start" "I") mw_81) (fun _ h9 => h9) rfl dX0_next_65 ?_
  refine xend_ro_i (xRunV (wc := (wX3 K (a0 0) a1 r1)) (As := [.int ((zI r0 3 v3).1 2)]) (rest := [.ref h0]) C (c_X3_byteAt h) k_X3_byteAt mw_531 ⟨rfl, rfl⟩ ⟨Nat.le_of_ble_eq_true rfl, Nat.le_of_ble_eq_true rfl⟩ hP hD [1, 2] rfl rfl rfl rfl hl rfl rfl (Nat.le_of_ble_eq_true rfl) dX0_next_68 ⟨Nat.le_refl _, Nat.le_refl _⟩) (fun v4 h => ?_)
  refine xend_ro_i (xRunS (wc := ([] : va_W)) (As := [.int v4]) (rest := [.ref h0]) C (c_X0_sortOf h) k_X0_sortOf mw_535 ⟨rfl, rfl⟩ ⟨Nat.le_of_ble_eq_true rfl, Nat.le_of_ble_eq_true rfl⟩ hP hD [] rfl rfl hl rfl rfl (Nat.le_of_ble_eq_true rfl) dX0_next_71 ⟨Nat.le_refl _, Nat.le_refl _⟩) (fun v5 h => ?_)
  refine va_put (D := D) (ci := 0) (v := .int v5) (ty := .int) (C := RX0) (T := TX0) (N := 5) hx hb hts inlX0 tyX0 tyX0_ok nmX0 hown hK hP hD hS 0 rfl rfl 4 (by decide) (hts (.fieldLink RX0 18 "UnderTheDesks$Lesson" "token" "I") mw_83) (fun _ h9 => h9) rfl (by decide +kernel) rfl rfl (Nat.le_of_ble_eq_true rfl) dX0_next_74 (fun H locs hP hD hS => ?_)
  replace hP : va_P D vwCl (wX0 K h0 a0 (zI (zI r0 3 v3) 4 v5) ++ (wX3 K (a0 0) a1 r1)) H := hP
  replace hD : va_D A (wX0 K h0 a0 (zI (zI r0 3 v3) 4 v5) ++ (wX3 K (a0 0) a1 r1)) := hD
  refine lv_aload_n hx hb dX0_next_77 rfl (lv_at hl 0 rfl) ?_
  refine va_get (D := D) (ci := 0) (v := .int ((zI (zI r0 3 v3) 4 v5).1 4)) (C := RX0) (T := TX0) (N := 5) hx hb hts inlX0 hown hK hP 0 rfl rfl 4 (by decide) (hts (.fieldLink RX0 18 "UnderTheDesks$Lesson" "token" "I") mw_83) (fun _ h9 => h9) rfl dX0_next_78 ?_
  refine lv_iconst (v := 1) hx hb dX0_next_81 (by decide) ?_
  refine lv_icmp_eq (tgt := 93) hx hb dX0_next_82 (by decide) (fun c6 => ?_) (fun c6 => ?_)
  · replace h := And.left h c6
    obtain ⟨n0, h⟩ := h
    exact t_X0_next_93 C hA n0 _ _ _ _ (lv_sub hl [0] rfl) hP hD hS h
  · replace h := And.right h c6
    refine lv_aload_n hx hb dX0_next_85 rfl (lv_at hl 0 rfl) ?_
    refine va_get (D := D) (ci := 0) (v := .int ((zI (zI r0 3 v3) 4 v5).1 4)) (C := RX0) (T := TX0) (N := 5) hx hb hts inlX0 hown hK hP 0 rfl rfl 4 (by decide) (hts (.fieldLink RX0 18 "UnderTheDesks$Lesson" "token" "I") mw_83) (fun _ h9 => h9) rfl dX0_next_86 ?_
    refine lv_iconst (v := 2) hx hb dX0_next_89 (by decide) ?_
    refine lv_icmp_ne (tgt := 141) hx hb dX0_next_90 (by decide) (fun c12 => ?_) (fun c12 => ?_)
    · replace h := And.right h c12
      refine lv_aload_n hx hb dX0_next_141 rfl (lv_at hl 0 rfl) ?_
      refine va_get (D := D) (ci := 0) (v := .int ((zI (zI r0 3 v3) 4 v5).1 4)) (C := RX0) (T := TX0) (N := 5) hx hb hts inlX0 hown hK hP 0 rfl rfl 4 (by decide) (hts (.fieldLink RX0 18 "UnderTheDesks$Lesson" "token" "I") mw_83) (fun _ h9 => h9) rfl dX0_next_142 ?_
      refine lv_if_eq (tgt := 158) hx hb dX0_next_145 (by decide) (fun c13 => ?_) (fun c13 => ?_)
      · replace h := And.left h c13
        exact xrw_v C (zI (zI r0 3 v3) 4 v5) h hP hS dX0_next_158
      · replace h := And.right h c13
        refine lv_aload_n hx hb dX0_next_148 rfl (lv_at hl 0 rfl) ?_
        refine lv_dup hx hb dX0_next_149 rfl ?_
        refine va_get (D := D) (ci := 0) (v := .int ((zI (zI r0 3 v3) 4 v5).1 3)) (C := RX0) (T := TX0) (N := 5) hx hb hts inlX0 hown hK hP 0 rfl rfl 3 (by decide) (hts (.fieldLink RX0 15 "UnderTheDesks$Lesson" "place" "I") mw_82) (fun _ h9 => h9) rfl dX0_next_150 ?_
        refine lv_iconst (v := 1) hx hb dX0_next_153 (by decide) ?_
        refine lv_iadd hx hb dX0_next_154 ?_
        refine lv_topi (fun v14 ev14 => ?_)
        replace h := h v14 ev14
        refine va_put (D := D) (ci := 0) (v := .int v14) (ty := .int) (C := RX0) (T := TX0) (N := 5) hx hb hts inlX0 tyX0 tyX0_ok nmX0 hown hK hP hD hS 0 rfl rfl 3 (by decide) (hts (.fieldLink RX0 15 "UnderTheDesks$Lesson" "place" "I") mw_82) (fun _ h9 => h9) rfl (by decide +kernel) rfl rfl (Nat.le_of_ble_eq_true rfl) dX0_next_155 (fun H locs hP hD hS => ?_)
        replace hP : va_P D vwCl (wX0 K h0 a0 (zI (zI (zI r0 3 v3) 4 v5) 3 v14) ++ (wX3 K (a0 0) a1 r1)) H := hP
        replace hD : va_D A (wX0 K h0 a0 (zI (zI (zI r0 3 v3) 4 v5) 3 v14) ++ (wX3 K (a0 0) a1 r1)) := hD
        exact xrw_v C (zI (zI (zI r0 3 v3) 4 v5) 3 v14) h hP hS dX0_next_158
    · replace h := And.left h c12
      obtain ⟨n0, h⟩ := h
      exact t_X0_next_93 C hA n0 _ _ _ _ (lv_sub hl [0] rfl) hP hD hS h
set_option maxHeartbeats 4000000 in
set_option maxRecDepth 100000 in
theorem t_X0_next_8 {p : Program} {l : Launch} {e : Env} {s : State} {m : MethodId} {args : Array Value} {below : List Frame} {meth : Method} {c : Code} {D : va_G} {K : Nat → ClassId} {h0 : Nat} {a0 : Nat → Nat} {a1 : Nat → Nat} {r1 : zS} {post : (zS) → Prop} {A : Nat → Prop} (C : xC p s m args meth c cX0_next RX0 1 none D vwCl (xty K)) (hA : ∀ q, s.heap.size ≤ q → A q) : ∀ (n : Nat) (r0 : zS) (H : Heap) (locs : List Loc) (ls : Array Slot), lv_has ls 1 [(0, .ref h0)] → va_P D vwCl (wX0 K h0 a0 r0 ++ (wX3 K (a0 0) a1 r1)) H → va_D A (wX0 K h0 a0 r0 ++ (wX3 K (a0 0) a1 r1)) → va_S A s.heap H locs → wp_X0_next_8 r1 post n r0 → W p l e ({ frames := 1, cells := 0, slots := 0, locals := 21 } : Room) s m args below meth c H locs 0 0 (MQ below (va_Qv (fun (u : (zS)) => post u) (fun (u : (zS)) t => va_P D vwCl (wX0 K h0 a0 u ++ (wX3 K (a0 0) a1 r1)) t.heap) A) args s 0 0 A) (F0 m 8 ls []) := by
  obtain ⟨hx, hb, hr, hml, hown, hts, hlocks, hK, hT⟩ := id C
  intro n
  induction n with
  | zero =>
    intro r0 H locs ls hl hP hD hS h
    exact False.elim h
  | succ n ihn =>
    intro r0 H locs ls hl hP hD hS h
    rw [wu_X0_next_8] at h
    unfold wb_X0_next_8 at h
    refine lv_aload_n hx hb dX0_next_8 rfl (lv_at hl 0 rfl) ?_
    refine va_get (D := D) (ci := 0) (v := .int (r0.1 2)) (C := RX0) (T := TX0) (N := 5) hx hb hts inlX0 hown hK hP 0 rfl rfl 2 (by decide) (hts (.fieldLink RX0 9 "UnderTheDesks$Lesson" "start" "I") mw_81) (fun _ h9 => h9) rfl dX0_next_9 ?_
    refine lv_aload_n hx hb dX0_next_12 rfl (lv_at hl 0 rfl) ?_
    refine va_get (D := D) (ci := 0) (v := .ref (a0 0)) (C := RX0) (T := TX0) (N := 5) hx hb hts inlX0 hown hK hP 0 rfl rfl 0 (by decide) (hts (.fieldLink RX0 21 "UnderTheDesks$Lesson" "tape" "LUnderTheDesks$Tape;") mw_84) (fun _ h9 => h9) rfl dX0_next_13 ?_
    refine va_get (D := D) (ci := 3) (v := .int (r1.1 0)) (C := RX3) (T := TX3) (N := 2) hx hb hts inlX3 hown hK hP 1 rfl rfl 0 (by decide) (hts (.fieldLink RX0 117 "UnderTheDesks$Tape" "size" "I") mw_530) (fun _ h9 => h9) rfl dX0_next_16 ?_
    refine lv_icmp_ge (tgt := 51) hx hb dX0_next_19 (by decide) (fun c2 => ?_) (fun c2 => ?_)
    · replace h := And.left h c2
      exact t_X0_next_51 C hA _ _ _ _ (lv_sub hl [0] rfl) hP hD hS h
    · replace h := And.right h c2
      refine lv_aload_n hx hb dX0_next_22 rfl (lv_at hl 0 rfl) ?_
      refine va_get (D := D) (ci := 0) (v := .ref (a0 0)) (C := RX0) (T := TX0) (N := 5) hx hb hts inlX0 hown hK hP 0 rfl rfl 0 (by decide) (hts (.fieldLink RX0 21 "UnderTheDesks$Lesson" "tape" "LUnderTheDesks$Tape;") mw_84) (fun _ h9 => h9) rfl dX0_next_23 ?_
      refine lv_aload_n hx hb dX0_next_26 rfl (lv_at hl 0 rfl) ?_
      refine va_get (D := D) (ci := 0) (v := .int (r0.1 2)) (C := RX0) (T := TX0) (N := 5) hx hb hts inlX0 hown hK hP 0 rfl rfl 2 (by decide) (hts (.fieldLink RX0 9 "UnderTheDesks$Lesson" "start" "I") mw_81) (fun _ h9 => h9) rfl dX0_next_27 ?_
      refine xend_ro_i (xRunV (wc := (wX3 K (a0 0) a1 r1)) (As := [.int (r0.1 2)]) (rest := []) C (c_X3_byteAt h) k_X3_byteAt mw_531 ⟨rfl, rfl⟩ ⟨Nat.le_of_ble_eq_true rfl, Nat.le_of_ble_eq_true rfl⟩ hP hD [1, 2] rfl rfl rfl rfl hl rfl rfl (Nat.le_of_ble_eq_true rfl) dX0_next_30 ⟨Nat.le_refl _, Nat.le_refl _⟩) (fun v15 h => ?_)
      refine lv_bipush (v := 32) hx hb dX0_next_33 (by decide) ?_
      refine lv_icmp_ne (tgt := 51) hx hb dX0_next_35 (by decide) (fun c16 => ?_) (fun c16 => ?_)
      · replace h := And.right h c16
        exact t_X0_next_51 C hA _ _ _ _ (lv_sub hl [0] rfl) hP hD hS h
      · replace h := And.left h c16
        refine lv_aload_n hx hb dX0_next_38 rfl (lv_at hl 0 rfl) ?_
        refine lv_dup hx hb dX0_next_39 rfl ?_
        refine va_get (D := D) (ci := 0) (v := .int (r0.1 2)) (C := RX0) (T := TX0) (N := 5) hx hb hts inlX0 hown hK hP 0 rfl rfl 2 (by decide) (hts (.fieldLink RX0 9 "UnderTheDesks$Lesson" "start" "I") mw_81) (fun _ h9 => h9) rfl dX0_next_40 ?_
        refine lv_iconst (v := 1) hx hb dX0_next_43 (by decide) ?_
        refine lv_iadd hx hb dX0_next_44 ?_
        refine lv_topi (fun v17 ev17 => ?_)
        replace h := h v17 ev17
        refine va_put (D := D) (ci := 0) (v := .int v17) (ty := .int) (C := RX0) (T := TX0) (N := 5) hx hb hts inlX0 tyX0 tyX0_ok nmX0 hown hK hP hD hS 0 rfl rfl 2 (by decide) (hts (.fieldLink RX0 9 "UnderTheDesks$Lesson" "start" "I") mw_81) (fun _ h9 => h9) rfl (by decide +kernel) rfl rfl (Nat.le_of_ble_eq_true rfl) dX0_next_45 (fun H locs hP hD hS => ?_)
        replace hP : va_P D vwCl (wX0 K h0 a0 (zI r0 2 v17) ++ (wX3 K (a0 0) a1 r1)) H := hP
        replace hD : va_D A (wX0 K h0 a0 (zI r0 2 v17) ++ (wX3 K (a0 0) a1 r1)) := hD
        refine lv_goto (tgt := 8) hx hb dX0_next_48 (by decide) ?_
        exact ihn _ _ _ _ (lv_sub hl [0] rfl) hP hD hS h
set_option maxHeartbeats 4000000 in
set_option maxRecDepth 100000 in
theorem c_X0_next {l : Launch} {D : va_G} {K : Nat → ClassId} {h0 : Nat} {a0 : Nat → Nat} {r0 : zS} {a1 : Nat → Nat} {r1 : zS}  {sz : Nat} {post : (zS) → Prop}   (h : wp_X0_next r0 r1 post) : Met l yX0_next (Cond.code yX0_next cX0_next 1 none :: wsL_law) ({ frames := 1, cells := 0, slots := 0, locals := 21 } : Room) (va_Pc [.ref h0] (xPre D vwCl (xty K) (wX0 K h0 a0 r0 ++ (wX3 K (a0 0) a1 r1)) sz)) (va_Qv (fun (u : (zS)) => post u) (fun (u : (zS)) t => va_P D vwCl (wX0 K h0 a0 u ++ (wX3 K (a0 0) a1 r1)) t.heap) (va_A (wX0 K h0 a0 r0 ++ (wX3 K (a0 0) a1 r1)) sz)) 0 0 (va_A (wX0 K h0 a0 r0 ++ (wX3 K (a0 0) a1 r1)) sz) := by
  refine xMet (by decide) rfl (Nat.le_of_ble_eq_true rfl) (fun p e s m args below meth c C hnm hP hD hsz ls hl => ?_)
  have hl : lv_has ls 1 [(0, .ref h0)] := hl
  obtain ⟨hx, hb, hr, hml, hown, hts, hlocks, hK, hT⟩ := id C
  subst hsz
  generalize hAe : va_A (wX0 K h0 a0 r0 ++ (wX3 K (a0 0) a1 r1)) s.heap.size = A at hD ⊢
  have hA : ∀ q : Nat, s.heap.size ≤ q → A q := fun q h => by rw [← hAe]; exact Or.inr h
  have hS : va_S A s.heap s.heap [] := va_S.rf
  have hP : va_P D vwCl (wX0 K h0 a0 r0 ++ (wX3 K (a0 0) a1 r1)) s.heap := hP
  unfold wp_X0_next at h
  refine lv_aload_n hx hb dX0_next_0 rfl (lv_at hl 0 rfl) ?_
  refine lv_aload_n hx hb dX0_next_1 rfl (lv_at hl 0 rfl) ?_
  refine va_get (D := D) (ci := 0) (v := .int (r0.1 3)) (C := RX0) (T := TX0) (N := 5) hx hb hts inlX0 hown hK hP 0 rfl rfl 3 (by decide) (hts (.fieldLink RX0 15 "UnderTheDesks$Lesson" "place" "I") mw_82) (fun _ h9 => h9) rfl dX0_next_2 ?_
  refine lv_topi (fun v1 ev1 => ?_)
  replace h := h v1 ev1
  refine va_put (D := D) (ci := 0) (v := .int v1) (ty := .int) (C := RX0) (T := TX0) (N := 5) hx hb hts inlX0 tyX0 tyX0_ok nmX0 hown hK hP hD hS 0 rfl rfl 2 (by decide) (hts (.fieldLink RX0 9 "UnderTheDesks$Lesson" "start" "I") mw_81) (fun _ h9 => h9) rfl (by decide +kernel) rfl rfl (Nat.le_of_ble_eq_true rfl) dX0_next_5 (fun H locs hP hD hS => ?_)
  replace hP : va_P D vwCl (wX0 K h0 a0 (zI r0 2 v1) ++ (wX3 K (a0 0) a1 r1)) H := hP
  replace hD : va_D A (wX0 K h0 a0 (zI r0 2 v1) ++ (wX3 K (a0 0) a1 r1)) := hD
  obtain ⟨n0, h⟩ := h
  exact t_X0_next_8 C hA n0 _ _ _ _ (lv_sub hl [0] rfl) hP hD hS h

def wb_X0_isWord_28 (r0 : zS) (r1 : zS) (p1 : Nat) (post : Int32 → Prop) (ih : Int32 → Prop) (x2 : Int32) : Prop :=
  ((nI (zLen.getD p1 0)) ≤ x2 → post (1 : Int32) ) ∧ (¬ (nI (zLen.getD p1 0)) ≤ x2 → wp_X3_byteAt r1 ((r0.1 2) + x2) (fun v6 => vp_in x2 (zLen.getD p1 0) ∧ ((v6 = (zCh p1 x2.toNatClampNeg) → ∀ v9 : Int32, v9 = x2 + (1 : Int32) → ih v9) ∧ (¬ v6 = (zCh p1 x2.toNatClampNeg) → post (0 : Int32) ))))
def wp_X0_isWord_28 (r0 : zS) (r1 : zS) (p1 : Nat) (post : Int32 → Prop) (n : Nat) : Int32 → Prop := Nat.rec (motive := fun _ => Int32 → Prop) (fun _ => False) (fun _ ih => wb_X0_isWord_28 r0 r1 p1 post ih) n
theorem wu_X0_isWord_28 (r0 : zS) (r1 : zS) (p1 : Nat) (post : Int32 → Prop) (n : Nat) (x2 : Int32) : wp_X0_isWord_28 r0 r1 p1 post (n + 1) x2 = wb_X0_isWord_28 r0 r1 p1 post (wp_X0_isWord_28 r0 r1 p1 post n) x2 := rfl
def wp_X0_isWord (r0 : zS) (r1 : zS) (p1 : Nat) (post : Int32 → Prop) : Prop :=
  ((r0.1 4) = (1 : Int32) → (((r0.1 3) - (r0.1 2)) = (nI (zLen.getD p1 0)) → ∃ n : Nat, wp_X0_isWord_28 r0 r1 p1 post n (0 : Int32)) ∧ (¬ ((r0.1 3) - (r0.1 2)) = (nI (zLen.getD p1 0)) → post (0 : Int32) )) ∧ (¬ (r0.1 4) = (1 : Int32) → post (0 : Int32) )
set_option maxHeartbeats 4000000 in
set_option maxRecDepth 100000 in
theorem t_X0_isWord_28 {p : Program} {l : Launch} {e : Env} {s : State} {m : MethodId} {args : Array Value} {below : List Frame} {meth : Method} {c : Code} {D : va_G} {K : Nat → ClassId} {h0 : Nat} {a0 : Nat → Nat} {r0 : zS} {a1 : Nat → Nat} {r1 : zS} {p1 : Nat} {post : Int32 → Prop} (C : xC p s m args meth c cX0_isWord RX0 3 (some .boolean) D vwCl (xty K)) (hr1 : p1 < 5) {adK adV : Nat → Nat} (hE : zE adK adV (va_A (wX0 K h0 a0 r0 ++ (wX3 K (a0 0) a1 r1)) s.heap.size) s s.heap) (hP : va_P D vwCl (wX0 K h0 a0 r0 ++ (wX3 K (a0 0) a1 r1)) s.heap) (hD : va_D (va_A (wX0 K h0 a0 r0 ++ (wX3 K (a0 0) a1 r1)) s.heap.size) (wX0 K h0 a0 r0 ++ (wX3 K (a0 0) a1 r1))) : ∀ (n : Nat) (x2 : Int32) (ls : Array Slot), lv_has ls 3 [(0, .ref h0), (1, .ref (adK p1)), (2, .int x2)] → wp_X0_isWord_28 r0 r1 p1 post n x2 → W p l e ({ frames := 4, cells := 0, slots := 0, locals := 111 } : Room) s m args below meth c s.heap [] 0 0 (MQ below (roI post) args s 0 0 (fun _ => False)) (F0 m 28 ls []) := by
  obtain ⟨hx, hb, hr, hml, hown, hts, hlocks, hK, hT⟩ := id C
  have hS : va_S (va_A (wX0 K h0 a0 r0 ++ (wX3 K (a0 0) a1 r1)) s.heap.size) s.heap s.heap [] := va_S.rf
  have hA : ∀ q : Nat, s.heap.size ≤ q → (va_A (wX0 K h0 a0 r0 ++ (wX3 K (a0 0) a1 r1)) s.heap.size) q := fun q h => Or.inr h
  intro n
  induction n with
  | zero =>
    intro x2 ls hl h
    exact False.elim h
  | succ n ihn =>
    intro x2 ls hl h
    rw [wu_X0_isWord_28] at h
    unfold wb_X0_isWord_28 at h
    refine lv_iload_n hx hb dX0_isWord_28 rfl (lv_at hl 2 rfl) ?_
    refine lv_aload_n hx hb dX0_isWord_29 rfl (lv_at hl 1 rfl) ?_
    refine xend_ro_i (xRunVE (wc := []) (As := []) (rest := [.int x2]) C hE hS hA (c_J0_length_8abf5 (post := fun v => v = (nI (zLen.getD p1 0))) hr1 rfl) k_J0_length_8abf5 mw_547 ⟨rfl, rfl⟩ ⟨Nat.le_of_ble_eq_true rfl, Nat.le_of_ble_eq_true rfl⟩ hP hD [] rfl rfl (fun _ => vk_recv hE.1 hr1 hS) hl rfl rfl (Nat.le_of_ble_eq_true rfl) dX0_isWord_30 ⟨Nat.le_refl _, Nat.le_refl _⟩) (fun v4 hv4 => ?_)
    subst hv4
    refine lv_icmp_ge (tgt := 65) hx hb dX0_isWord_33 (by decide) (fun c5 => ?_) (fun c5 => ?_)
    · replace h := And.left h c5
      refine lv_iconst (v := 1) hx hb dX0_isWord_65 (by decide) ?_
      exact xro_z C rfl h dX0_isWord_66
    · replace h := And.right h c5
      refine lv_aload_n hx hb dX0_isWord_36 rfl (lv_at hl 0 rfl) ?_
      refine va_get (D := D) (ci := 0) (v := .ref (a0 0)) (C := RX0) (T := TX0) (N := 5) hx hb hts inlX0 hown hK hP 0 rfl rfl 0 (by decide) (hts (.fieldLink RX0 21 "UnderTheDesks$Lesson" "tape" "LUnderTheDesks$Tape;") mw_84) (fun _ h9 => h9) rfl dX0_isWord_37 ?_
      refine lv_aload_n hx hb dX0_isWord_40 rfl (lv_at hl 0 rfl) ?_
      refine va_get (D := D) (ci := 0) (v := .int (r0.1 2)) (C := RX0) (T := TX0) (N := 5) hx hb hts inlX0 hown hK hP 0 rfl rfl 2 (by decide) (hts (.fieldLink RX0 9 "UnderTheDesks$Lesson" "start" "I") mw_81) (fun _ h9 => h9) rfl dX0_isWord_41 ?_
      refine lv_iload_n hx hb dX0_isWord_44 rfl (lv_at hl 2 rfl) ?_
      refine lv_iadd hx hb dX0_isWord_45 ?_
      refine xend_ro_i (xRunV (wc := (wX3 K (a0 0) a1 r1)) (As := [.int ((r0.1 2) + x2)]) (rest := []) C (c_X3_byteAt h) k_X3_byteAt mw_531 ⟨rfl, rfl⟩ ⟨Nat.le_of_ble_eq_true rfl, Nat.le_of_ble_eq_true rfl⟩ hP hD [1, 2] rfl rfl rfl rfl hl rfl rfl (Nat.le_of_ble_eq_true rfl) dX0_isWord_46 ⟨Nat.le_refl _, Nat.le_refl _⟩) (fun v6 h => ?_)
      refine lv_aload_n hx hb dX0_isWord_49 rfl (lv_at hl 1 rfl) ?_
      refine lv_iload_n hx hb dX0_isWord_50 rfl (lv_at hl 2 rfl) ?_
      have hin := And.left h
      replace h := And.right h
      refine xend_ro_i (xRunVE (wc := []) (As := [.int x2]) (rest := [.int v6]) C hE hS hA (c_J0_charAt_5068e (post := fun v => v = (zCh p1 x2.toNatClampNeg)) hr1 hin rfl) k_J0_charAt_5068e mw_559 ⟨rfl, rfl⟩ ⟨Nat.le_of_ble_eq_true rfl, Nat.le_of_ble_eq_true rfl⟩ hP hD [] rfl rfl (fun _ => vk_recv hE.1 hr1 hS) hl rfl rfl (Nat.le_of_ble_eq_true rfl) dX0_isWord_51 ⟨Nat.le_refl _, Nat.le_refl _⟩) (fun v7 hv7 => ?_)
      subst hv7
      refine lv_icmp_eq (tgt := 59) hx hb dX0_isWord_54 (by decide) (fun c8 => ?_) (fun c8 => ?_)
      · replace h := And.left h c8
        obtain ⟨v9, ev9⟩ : ∃ y : Int32, y = x2 + (1 : Int32) := ⟨_, rfl⟩
        replace h := h v9 ev9
        refine lv_iinc (v := v9) (lv' := [(2, .int v9), (0, .ref h0), (1, .ref (adK p1))]) hx hb dX0_isWord_59 hl (k := 2) rfl (by rw [ev9]; rfl) (by decide) rfl (fun ls hl => ?_)
        refine lv_goto (tgt := 28) hx hb dX0_isWord_62 (by decide) ?_
        exact ihn _ _ (lv_sub hl [1, 2, 0] rfl) h
      · replace h := And.right h c8
        refine lv_iconst (v := 0) hx hb dX0_isWord_57 (by decide) ?_
        exact xro_z C rfl h dX0_isWord_58
set_option maxHeartbeats 4000000 in
set_option maxRecDepth 100000 in
theorem c_X0_isWord {l : Launch} {D : va_G} {K : Nat → ClassId} {h0 : Nat} {a0 : Nat → Nat} {r0 : zS} {a1 : Nat → Nat} {r1 : zS} {p1 : Nat} {adK adV : Nat → Nat} {sz : Nat} {post : Int32 → Prop}  (hr1 : p1 < 5) (h : wp_X0_isWord r0 r1 p1 post) : Met l yX0_isWord (Cond.code yX0_isWord cX0_isWord 3 (some .boolean) :: wsL_law) ({ frames := 4, cells := 0, slots := 0, locals := 111 } : Room) (va_Pc [.ref h0, .ref (adK p1)] (xPreE D vwCl (xty K) (wX0 K h0 a0 r0 ++ (wX3 K (a0 0) a1 r1)) sz adK adV)) (roI post) 0 0 (fun _ => False) := by
  refine xMetE (by decide) rfl (Nat.le_of_ble_eq_true rfl) (fun p e s m args below meth c C hnm hP hD hsz ls hl hE => ?_)
  have hl : lv_has ls 3 [(0, .ref h0), (1, .ref (adK p1))] := hl
  obtain ⟨hx, hb, hr, hml, hown, hts, hlocks, hK, hT⟩ := id C
  have hS : va_S (va_A (wX0 K h0 a0 r0 ++ (wX3 K (a0 0) a1 r1)) s.heap.size) s.heap s.heap [] := va_S.rf
  have hA : ∀ q : Nat, s.heap.size ≤ q → (va_A (wX0 K h0 a0 r0 ++ (wX3 K (a0 0) a1 r1)) s.heap.size) q := fun q h => Or.inr h
  unfold wp_X0_isWord at h
  refine lv_aload_n hx hb dX0_isWord_0 rfl (lv_at hl 0 rfl) ?_
  refine va_get (D := D) (ci := 0) (v := .int (r0.1 4)) (C := RX0) (T := TX0) (N := 5) hx hb hts inlX0 hown hK hP 0 rfl rfl 4 (by decide) (hts (.fieldLink RX0 18 "UnderTheDesks$Lesson" "token" "I") mw_83) (fun _ h9 => h9) rfl dX0_isWord_1 ?_
  refine lv_iconst (v := 1) hx hb dX0_isWord_4 (by decide) ?_
  refine lv_icmp_ne (tgt := 24) hx hb dX0_isWord_5 (by decide) (fun c1 => ?_) (fun c1 => ?_)
  · replace h := And.right h c1
    refine lv_iconst (v := 0) hx hb dX0_isWord_24 (by decide) ?_
    exact xro_z C rfl h dX0_isWord_25
  · replace h := And.left h c1
    refine lv_aload_n hx hb dX0_isWord_8 rfl (lv_at hl 0 rfl) ?_
    refine va_get (D := D) (ci := 0) (v := .int (r0.1 3)) (C := RX0) (T := TX0) (N := 5) hx hb hts inlX0 hown hK hP 0 rfl rfl 3 (by decide) (hts (.fieldLink RX0 15 "UnderTheDesks$Lesson" "place" "I") mw_82) (fun _ h9 => h9) rfl dX0_isWord_9 ?_
    refine lv_aload_n hx hb dX0_isWord_12 rfl (lv_at hl 0 rfl) ?_
    refine va_get (D := D) (ci := 0) (v := .int (r0.1 2)) (C := RX0) (T := TX0) (N := 5) hx hb hts inlX0 hown hK hP 0 rfl rfl 2 (by decide) (hts (.fieldLink RX0 9 "UnderTheDesks$Lesson" "start" "I") mw_81) (fun _ h9 => h9) rfl dX0_isWord_13 ?_
    refine lv_isub hx hb dX0_isWord_16 ?_
    refine lv_aload_n hx hb dX0_isWord_17 rfl (lv_at hl 1 rfl) ?_
    refine xend_ro_i (xRunVE (wc := []) (As := []) (rest := [.int ((r0.1 3) - (r0.1 2))]) C hE hS hA (c_J0_length_8abf5 (post := fun v => v = (nI (zLen.getD p1 0))) hr1 rfl) k_J0_length_8abf5 mw_547 ⟨rfl, rfl⟩ ⟨Nat.le_of_ble_eq_true rfl, Nat.le_of_ble_eq_true rfl⟩ hP hD [] rfl rfl (fun _ => vk_recv hE.1 hr1 hS) hl rfl rfl (Nat.le_of_ble_eq_true rfl) dX0_isWord_18 ⟨Nat.le_refl _, Nat.le_refl _⟩) (fun v2 hv2 => ?_)
    subst hv2
    refine lv_icmp_eq (tgt := 26) hx hb dX0_isWord_21 (by decide) (fun c3 => ?_) (fun c3 => ?_)
    · replace h := And.left h c3
      refine lv_iconst (v := 0) hx hb dX0_isWord_26 (by decide) ?_
      refine lv_istore_n (lv' := [(2, .int (0 : Int32)), (0, .ref h0), (1, .ref (adK p1))]) hx hb dX0_isWord_27 rfl hl (by decide) rfl (fun ls hl => ?_)
      obtain ⟨n0, h⟩ := h
      exact t_X0_isWord_28 C hr1 hE hP hD n0 _ _ (lv_sub hl [1, 2, 0] rfl) h
    · replace h := And.right h c3
      refine lv_iconst (v := 0) hx hb dX0_isWord_24 (by decide) ?_
      exact xro_z C rfl h dX0_isWord_25

def wb_X0_nextNumber_35 (r1 : zS) (p1 : Int32) (p2 : Int32) (post : Int32 → (zS) → Prop) (ih : (zS) → Int32 → Int32 → Prop) (r0 : zS) (x3 : Int32) (x4 : Int32) : Prop :=
  ((r0.1 3) ≤ x4 → (x3 < p1 → post (-1 : Int32) r0) ∧ (¬ x3 < p1 → (p2 < x3 → post (-1 : Int32) r0) ∧ (¬ p2 < x3 → post x3 r0))) ∧ (¬ (r0.1 3) ≤ x4 → wp_X3_byteAt r1 x4 (fun v9 => ∀ v10 : Int32, v10 = ((((10 : Int32) * x3) + v9) - (48 : Int32)) → ∀ v11 : Int32, v11 = x4 + (1 : Int32) → ih r0 v10 v11))
def wp_X0_nextNumber_35 (r1 : zS) (p1 : Int32) (p2 : Int32) (post : Int32 → (zS) → Prop) (n : Nat) : (zS) → Int32 → Int32 → Prop := Nat.rec (motive := fun _ => (zS) → Int32 → Int32 → Prop) (fun _ _ _ => False) (fun _ ih => wb_X0_nextNumber_35 r1 p1 p2 post ih) n
theorem wu_X0_nextNumber_35 (r1 : zS) (p1 : Int32) (p2 : Int32) (post : Int32 → (zS) → Prop) (n : Nat) (r0 : zS) (x3 : Int32) (x4 : Int32) : wp_X0_nextNumber_35 r1 p1 p2 post (n + 1) r0 x3 x4 = wb_X0_nextNumber_35 r1 p1 p2 post (wp_X0_nextNumber_35 r1 p1 p2 post n) r0 x3 x4 := rfl
def wp_X0_nextNumber (r0 : zS) (r1 : zS) (p1 : Int32) (p2 : Int32) (post : Int32 → (zS) → Prop) : Prop :=
  wp_X0_next r0 r1 (fun s2 => ((s2.1 4) = (2 : Int32) → (((s2.1 3) - (s2.1 2)) ≤ (4 : Int32) → ∀ v5 : Int32, v5 = (s2.1 2) → ∃ n : Nat, wp_X0_nextNumber_35 r1 p1 p2 post n s2 (0 : Int32) v5) ∧ (¬ ((s2.1 3) - (s2.1 2)) ≤ (4 : Int32) → post (-1 : Int32) s2)) ∧ (¬ (s2.1 4) = (2 : Int32) → post (-1 : Int32) s2))
set_option maxHeartbeats 4000000 in
set_option maxRecDepth 100000 in
theorem t_X0_nextNumber_35 {p : Program} {l : Launch} {e : Env} {s : State} {m : MethodId} {args : Array Value} {below : List Frame} {meth : Method} {c : Code} {D : va_G} {K : Nat → ClassId} {h0 : Nat} {a0 : Nat → Nat} {a1 : Nat → Nat} {r1 : zS} {p1 : Int32} {p2 : Int32} {post : Int32 → (zS) → Prop} {A : Nat → Prop} (C : xC p s m args meth c cX0_nextNumber RX0 5 (some .int) D vwCl (xty K)) (hA : ∀ q, s.heap.size ≤ q → A q) : ∀ (n : Nat) (r0 : zS) (x3 : Int32) (x4 : Int32) (H : Heap) (locs : List Loc) (ls : Array Slot), lv_has ls 5 [(0, .ref h0), (1, .int p1), (2, .int p2), (3, .int x3), (4, .int x4)] → va_P D vwCl (wX0 K h0 a0 r0 ++ (wX3 K (a0 0) a1 r1)) H → va_D A (wX0 K h0 a0 r0 ++ (wX3 K (a0 0) a1 r1)) → va_S A s.heap H locs → wp_X0_nextNumber_35 r1 p1 p2 post n r0 x3 x4 → W p l e ({ frames := 2, cells := 0, slots := 0, locals := 41 } : Room) s m args below meth c H locs 0 0 (MQ below (va_Qi (fun r (u : (zS)) => post r u) (fun (u : (zS)) t => va_P D vwCl (wX0 K h0 a0 u ++ (wX3 K (a0 0) a1 r1)) t.heap) A) args s 0 0 A) (F0 m 35 ls []) := by
  obtain ⟨hx, hb, hr, hml, hown, hts, hlocks, hK, hT⟩ := id C
  intro n
  induction n with
  | zero =>
    intro r0 x3 x4 H locs ls hl hP hD hS h
    exact False.elim h
  | succ n ihn =>
    intro r0 x3 x4 H locs ls hl hP hD hS h
    rw [wu_X0_nextNumber_35] at h
    unfold wb_X0_nextNumber_35 at h
    refine lv_iload hx hb dX0_nextNumber_35 (lv_at hl 4 rfl) ?_
    refine lv_aload_n hx hb dX0_nextNumber_37 rfl (lv_at hl 0 rfl) ?_
    refine va_get (D := D) (ci := 0) (v := .int (r0.1 3)) (C := RX0) (T := TX0) (N := 5) hx hb hts inlX0 hown hK hP 0 rfl rfl 3 (by decide) (hts (.fieldLink RX0 15 "UnderTheDesks$Lesson" "place" "I") mw_82) (fun _ h9 => h9) rfl dX0_nextNumber_38 ?_
    refine lv_icmp_ge (tgt := 68) hx hb dX0_nextNumber_41 (by decide) (fun c6 => ?_) (fun c6 => ?_)
    · replace h := And.left h c6
      refine lv_iload_n hx hb dX0_nextNumber_68 rfl (lv_at hl 3 rfl) ?_
      refine lv_iload_n hx hb dX0_nextNumber_69 rfl (lv_at hl 1 rfl) ?_
      refine lv_icmp_lt (tgt := 82) hx hb dX0_nextNumber_70 (by decide) (fun c7 => ?_) (fun c7 => ?_)
      · replace h := And.left h c7
        refine lv_iconst (v := -1) hx hb dX0_nextNumber_82 (by decide) ?_
        exact xrw_i C r0 h hP hS dX0_nextNumber_83
      · replace h := And.right h c7
        refine lv_iload_n hx hb dX0_nextNumber_73 rfl (lv_at hl 3 rfl) ?_
        refine lv_iload_n hx hb dX0_nextNumber_74 rfl (lv_at hl 2 rfl) ?_
        refine lv_icmp_gt (tgt := 82) hx hb dX0_nextNumber_75 (by decide) (fun c8 => ?_) (fun c8 => ?_)
        · replace h := And.left h c8
          refine lv_iconst (v := -1) hx hb dX0_nextNumber_82 (by decide) ?_
          exact xrw_i C r0 h hP hS dX0_nextNumber_83
        · replace h := And.right h c8
          refine lv_iload_n hx hb dX0_nextNumber_78 rfl (lv_at hl 3 rfl) ?_
          refine lv_goto (tgt := 83) hx hb dX0_nextNumber_79 (by decide) ?_
          exact xrw_i C r0 h hP hS dX0_nextNumber_83
    · replace h := And.right h c6
      refine lv_bipush (v := 10) hx hb dX0_nextNumber_44 (by decide) ?_
      refine lv_iload_n hx hb dX0_nextNumber_46 rfl (lv_at hl 3 rfl) ?_
      refine lv_imul hx hb dX0_nextNumber_47 ?_
      refine lv_aload_n hx hb dX0_nextNumber_48 rfl (lv_at hl 0 rfl) ?_
      refine va_get (D := D) (ci := 0) (v := .ref (a0 0)) (C := RX0) (T := TX0) (N := 5) hx hb hts inlX0 hown hK hP 0 rfl rfl 0 (by decide) (hts (.fieldLink RX0 21 "UnderTheDesks$Lesson" "tape" "LUnderTheDesks$Tape;") mw_84) (fun _ h9 => h9) rfl dX0_nextNumber_49 ?_
      refine lv_iload hx hb dX0_nextNumber_52 (lv_at hl 4 rfl) ?_
      refine xend_ro_i (xRunV (wc := (wX3 K (a0 0) a1 r1)) (As := [.int x4]) (rest := [.int ((10 : Int32) * x3)]) C (c_X3_byteAt h) k_X3_byteAt mw_531 ⟨rfl, rfl⟩ ⟨Nat.le_of_ble_eq_true rfl, Nat.le_of_ble_eq_true rfl⟩ hP hD [1, 2] rfl rfl rfl rfl hl rfl rfl (Nat.le_of_ble_eq_true rfl) dX0_nextNumber_54 ⟨Nat.le_refl _, Nat.le_refl _⟩) (fun v9 h => ?_)
      refine lv_iadd hx hb dX0_nextNumber_57 ?_
      refine lv_bipush (v := 48) hx hb dX0_nextNumber_58 (by decide) ?_
      refine lv_isub hx hb dX0_nextNumber_60 ?_
      refine lv_topi (fun v10 ev10 => ?_)
      replace h := h v10 ev10
      refine lv_istore_n (lv' := [(3, .int v10), (0, .ref h0), (1, .int p1), (2, .int p2), (4, .int x4)]) hx hb dX0_nextNumber_61 rfl hl (by decide) rfl (fun ls hl => ?_)
      obtain ⟨v11, ev11⟩ : ∃ y : Int32, y = x4 + (1 : Int32) := ⟨_, rfl⟩
      replace h := h v11 ev11
      refine lv_iinc (v := v11) (lv' := [(4, .int v11), (3, .int v10), (0, .ref h0), (1, .int p1), (2, .int p2)]) hx hb dX0_nextNumber_62 hl (k := 4) rfl (by rw [ev11]; rfl) (by decide) rfl (fun ls hl => ?_)
      refine lv_goto (tgt := 35) hx hb dX0_nextNumber_65 (by decide) ?_
      exact ihn _ _ _ _ _ _ (lv_sub hl [2, 3, 4, 1, 0] rfl) hP hD hS h
set_option maxHeartbeats 4000000 in
set_option maxRecDepth 100000 in
theorem c_X0_nextNumber {l : Launch} {D : va_G} {K : Nat → ClassId} {h0 : Nat} {a0 : Nat → Nat} {r0 : zS} {a1 : Nat → Nat} {r1 : zS} {p1 : Int32} {p2 : Int32} {sz : Nat} {post : Int32 → (zS) → Prop}   (h : wp_X0_nextNumber r0 r1 p1 p2 post) : Met l yX0_nextNumber (Cond.code yX0_nextNumber cX0_nextNumber 5 (some .int) :: wsL_law) ({ frames := 2, cells := 0, slots := 0, locals := 41 } : Room) (va_Pc [.ref h0, .int p1, .int p2] (xPre D vwCl (xty K) (wX0 K h0 a0 r0 ++ (wX3 K (a0 0) a1 r1)) sz)) (va_Qi (fun r (u : (zS)) => post r u) (fun (u : (zS)) t => va_P D vwCl (wX0 K h0 a0 u ++ (wX3 K (a0 0) a1 r1)) t.heap) (va_A (wX0 K h0 a0 r0 ++ (wX3 K (a0 0) a1 r1)) sz)) 0 0 (va_A (wX0 K h0 a0 r0 ++ (wX3 K (a0 0) a1 r1)) sz) := by
  refine xMet (by decide) rfl (Nat.le_of_ble_eq_true rfl) (fun p e s m args below meth c C hnm hP hD hsz ls hl => ?_)
  have hl : lv_has ls 5 [(0, .ref h0), (1, .int p1), (2, .int p2)] := hl
  obtain ⟨hx, hb, hr, hml, hown, hts, hlocks, hK, hT⟩ := id C
  subst hsz
  generalize hAe : va_A (wX0 K h0 a0 r0 ++ (wX3 K (a0 0) a1 r1)) s.heap.size = A at hD ⊢
  have hA : ∀ q : Nat, s.heap.size ≤ q → A q := fun q h => by rw [← hAe]; exact Or.inr h
  have hS : va_S A s.heap s.heap [] := va_S.rf
  have hP : va_P D vwCl (wX0 K h0 a0 r0 ++ (wX3 K (a0 0) a1 r1)) s.heap := hP
  unfold wp_X0_nextNumber at h
  refine lv_aload_n hx hb dX0_nextNumber_0 rfl (lv_at hl 0 rfl) ?_
  refine xend_rw_v_id (wf := fun (u : (zS)) => (wX0 K h0 a0 u ++ (wX3 K (a0 0) a1 r1))) (xRunV_id (As := []) (rest := []) C (c_X0_next h) k_X0_next mw_526 ⟨rfl, rfl⟩ ⟨Nat.le_of_ble_eq_true rfl, Nat.le_of_ble_eq_true rfl⟩ hP hD rfl rfl hl rfl rfl (Nat.le_of_ble_eq_true rfl) dX0_nextNumber_1 ⟨Nat.le_refl _, Nat.le_refl _⟩) hD hS hA (fun _ => rfl) (fun s2 H locs h hP hD hS => ?_)
  refine lv_aload_n hx hb dX0_nextNumber_4 rfl (lv_at hl 0 rfl) ?_
  refine va_get (D := D) (ci := 0) (v := .int (s2.1 4)) (C := RX0) (T := TX0) (N := 5) hx hb hts inlX0 hown hK hP 0 rfl rfl 4 (by decide) (hts (.fieldLink RX0 18 "UnderTheDesks$Lesson" "token" "I") mw_83) (fun _ h9 => h9) rfl dX0_nextNumber_5 ?_
  refine lv_iconst (v := 2) hx hb dX0_nextNumber_8 (by decide) ?_
  refine lv_icmp_ne (tgt := 25) hx hb dX0_nextNumber_9 (by decide) (fun c3 => ?_) (fun c3 => ?_)
  · replace h := And.right h c3
    refine lv_iconst (v := -1) hx hb dX0_nextNumber_25 (by decide) ?_
    exact xrw_i C s2 h hP hS dX0_nextNumber_26
  · replace h := And.left h c3
    refine lv_aload_n hx hb dX0_nextNumber_12 rfl (lv_at hl 0 rfl) ?_
    refine va_get (D := D) (ci := 0) (v := .int (s2.1 3)) (C := RX0) (T := TX0) (N := 5) hx hb hts inlX0 hown hK hP 0 rfl rfl 3 (by decide) (hts (.fieldLink RX0 15 "UnderTheDesks$Lesson" "place" "I") mw_82) (fun _ h9 => h9) rfl dX0_nextNumber_13 ?_
    refine lv_aload_n hx hb dX0_nextNumber_16 rfl (lv_at hl 0 rfl) ?_
    refine va_get (D := D) (ci := 0) (v := .int (s2.1 2)) (C := RX0) (T := TX0) (N := 5) hx hb hts inlX0 hown hK hP 0 rfl rfl 2 (by decide) (hts (.fieldLink RX0 9 "UnderTheDesks$Lesson" "start" "I") mw_81) (fun _ h9 => h9) rfl dX0_nextNumber_17 ?_
    refine lv_isub hx hb dX0_nextNumber_20 ?_
    refine lv_iconst (v := 4) hx hb dX0_nextNumber_21 (by decide) ?_
    refine lv_icmp_le (tgt := 27) hx hb dX0_nextNumber_22 (by decide) (fun c4 => ?_) (fun c4 => ?_)
    · replace h := And.left h c4
      refine lv_iconst (v := 0) hx hb dX0_nextNumber_27 (by decide) ?_
      refine lv_istore_n (lv' := [(3, .int (0 : Int32)), (0, .ref h0), (1, .int p1), (2, .int p2)]) hx hb dX0_nextNumber_28 rfl hl (by decide) rfl (fun ls hl => ?_)
      refine lv_aload_n hx hb dX0_nextNumber_29 rfl (lv_at hl 1 rfl) ?_
      refine va_get (D := D) (ci := 0) (v := .int (s2.1 2)) (C := RX0) (T := TX0) (N := 5) hx hb hts inlX0 hown hK hP 0 rfl rfl 2 (by decide) (hts (.fieldLink RX0 9 "UnderTheDesks$Lesson" "start" "I") mw_81) (fun _ h9 => h9) rfl dX0_nextNumber_30 ?_
      refine lv_topi (fun v5 ev5 => ?_)
      replace h := h v5 ev5
      refine lv_istore (lv' := [(4, .int v5), (3, .int (0 : Int32)), (0, .ref h0), (1, .int p1), (2, .int p2)]) hx hb dX0_nextNumber_33 hl (by decide) rfl (fun ls hl => ?_)
      obtain ⟨n0, h⟩ := h
      exact t_X0_nextNumber_35 C hA n0 _ _ _ _ _ _ (lv_sub hl [2, 3, 4, 1, 0] rfl) hP hD hS h
    · replace h := And.right h c4
      refine lv_iconst (v := -1) hx hb dX0_nextNumber_25 (by decide) ?_
      exact xrw_i C s2 h hP hS dX0_nextNumber_26

def wp_X0_readRows (r0 : zS) (r1 : zS) (r2 : zS) (post : Int32 → (zS) → (zS) → Prop) : Prop :=
  wp_X0_nextNumber r0 r1 (2 : Int32) (4 : Int32) (fun v1 s2 => (v1 = (-1 : Int32) → post (0 : Int32) s2 r2) ∧ (¬ v1 = (-1 : Int32) → post (1 : Int32) s2 (zI r2 0 v1)))
set_option maxHeartbeats 4000000 in
set_option maxRecDepth 100000 in
theorem c_X0_readRows {l : Launch} {D : va_G} {K : Nat → ClassId} {h0 : Nat} {a0 : Nat → Nat} {r0 : zS} {a1 : Nat → Nat} {r1 : zS} {a2 : Nat → Nat} {r2 : zS}  {sz : Nat} {post : Int32 → (zS) → (zS) → Prop}   (h : wp_X0_readRows r0 r1 r2 post) : Met l yX0_readRows (Cond.code yX0_readRows cX0_readRows 2 (some .boolean) :: wsL_law) ({ frames := 3, cells := 0, slots := 0, locals := 65 } : Room) (va_Pc [.ref h0] (xPre D vwCl (xty K) (wX0 K h0 a0 r0 ++ (wX3 K (a0 0) a1 r1 ++ (wX1 K (a0 1) a2 r2))) sz)) (va_Qi (fun r (u : (zS) × (zS)) => post r u.1 u.2) (fun (u : (zS) × (zS)) t => va_P D vwCl (wX0 K h0 a0 u.1 ++ (wX3 K (a0 0) a1 r1 ++ (wX1 K (a0 1) a2 u.2))) t.heap) (va_A (wX0 K h0 a0 r0 ++ (wX3 K (a0 0) a1 r1 ++ (wX1 K (a0 1) a2 r2))) sz)) 0 0 (va_A (wX0 K h0 a0 r0 ++ (wX3 K (a0 0) a1 r1 ++ (wX1 K (a0 1) a2 r2))) sz) := by
  refine xMet (by decide) rfl (Nat.le_of_ble_eq_true rfl) (fun p e s m args below meth c C hnm hP hD hsz ls hl => ?_)
  have hl : lv_has ls 2 [(0, .ref h0)] := hl
  obtain ⟨hx, hb, hr, hml, hown, hts, hlocks, hK, hT⟩ := id C
  subst hsz
  generalize hAe : va_A (wX0 K h0 a0 r0 ++ (wX3 K (a0 0) a1 r1 ++ (wX1 K (a0 1) a2 r2))) s.heap.size = A at hD ⊢
  have hA : ∀ q : Nat, s.heap.size ≤ q → A q := fun q h => by rw [← hAe]; exact Or.inr h
  have hS : va_S A s.heap s.heap [] := va_S.rf
  have hP : va_P D vwCl (wX0 K h0 a0 r0 ++ (wX3 K (a0 0) a1 r1 ++ (wX1 K (a0 1) a2 r2))) s.heap := hP
  unfold wp_X0_readRows at h
  refine lv_aload_n hx hb dX0_readRows_0 rfl (lv_at hl 0 rfl) ?_
  refine lv_iconst (v := 2) hx hb dX0_readRows_1 (by decide) ?_
  refine lv_iconst (v := 4) hx hb dX0_readRows_2 (by decide) ?_
  refine xend_rw_i (wf := fun (u : (zS)) => (wX0 K h0 a0 u ++ (wX3 K (a0 0) a1 r1))) (xRunV (wc := (wX0 K h0 a0 r0 ++ (wX3 K (a0 0) a1 r1))) (As := [.int (2 : Int32), .int (4 : Int32)]) (rest := []) C (c_X0_nextNumber h) k_X0_nextNumber mw_601 ⟨rfl, rfl⟩ ⟨Nat.le_of_ble_eq_true rfl, Nat.le_of_ble_eq_true rfl⟩ hP hD [0, 1, 2] rfl rfl rfl rfl hl rfl rfl (Nat.le_of_ble_eq_true rfl) dX0_readRows_3 ⟨Nat.le_refl _, Nat.le_refl _⟩) hP hD hS hA [0, 1, 2] rfl rfl (fun _ => rfl) (fun v1 s2 H locs h hP hD hS => ?_)
  replace hP : va_P D vwCl (wX0 K h0 a0 s2 ++ (wX3 K (a0 0) a1 r1 ++ (wX1 K (a0 1) a2 r2))) H := hP
  replace hD : va_D A (wX0 K h0 a0 s2 ++ (wX3 K (a0 0) a1 r1 ++ (wX1 K (a0 1) a2 r2))) := hD
  refine lv_istore_n (lv' := [(1, .int v1), (0, .ref h0)]) hx hb dX0_readRows_6 rfl hl (by decide) rfl (fun ls hl => ?_)
  refine lv_iload_n hx hb dX0_readRows_7 rfl (lv_at hl 0 rfl) ?_
  refine lv_iconst (v := -1) hx hb dX0_readRows_8 (by decide) ?_
  refine lv_icmp_ne (tgt := 14) hx hb dX0_readRows_9 (by decide) (fun c3 => ?_) (fun c3 => ?_)
  · replace h := And.right h c3
    refine lv_aload_n hx hb dX0_readRows_14 rfl (lv_at hl 1 rfl) ?_
    refine va_get (D := D) (ci := 0) (v := .ref (a0 1)) (C := RX0) (T := TX0) (N := 5) hx hb hts inlX0 hown hK hP 0 rfl rfl 1 (by decide) (hts (.fieldLink RX0 25 "UnderTheDesks$Lesson" "room" "LUnderTheDesks$Room;") mw_85) (fun _ h9 => h9) rfl dX0_readRows_15 ?_
    refine lv_iload_n hx hb dX0_readRows_18 rfl (lv_at hl 0 rfl) ?_
    refine va_put (D := D) (ci := 1) (v := .int v1) (ty := .int) (C := RX1) (T := TX1) (N := 10) hx hb hts inlX1 tyX1 tyX1_ok nmX1 hown hK hP hD hS 3 rfl rfl 0 (by decide) (hts (.fieldLink RX0 77 "UnderTheDesks$Room" "rowCount" "I") mw_600) (fun _ h9 => h9) rfl (by decide +kernel) rfl rfl (Nat.le_of_ble_eq_true rfl) dX0_readRows_19 (fun H locs hP hD hS => ?_)
    replace hP : va_P D vwCl (wX0 K h0 a0 s2 ++ (wX3 K (a0 0) a1 r1 ++ (wX1 K (a0 1) a2 (zI r2 0 v1)))) H := hP
    replace hD : va_D A (wX0 K h0 a0 s2 ++ (wX3 K (a0 0) a1 r1 ++ (wX1 K (a0 1) a2 (zI r2 0 v1)))) := hD
    refine lv_iconst (v := 1) hx hb dX0_readRows_22 (by decide) ?_
    exact xrw_z C (s2, (zI r2 0 v1)) rfl h hP hS dX0_readRows_23
  · replace h := And.left h c3
    refine lv_iconst (v := 0) hx hb dX0_readRows_12 (by decide) ?_
    exact xrw_z C (s2, r2) rfl h hP hS dX0_readRows_13

def wp_X0_onlyFree (r0 : zS) (r1 : zS) (p1 : Int32) (post : Int32 → Prop) : Prop :=
  (p1 = (-1 : Int32) → post (-1 : Int32) ) ∧ (¬ p1 = (-1 : Int32) → wp_X1_holderOf r1 p1 (fun v2 => (v2 = (-1 : Int32) → post p1 ) ∧ (¬ v2 = (-1 : Int32) → post (-1 : Int32) )))
set_option maxHeartbeats 4000000 in
set_option maxRecDepth 100000 in
theorem c_X0_onlyFree {l : Launch} {D : va_G} {K : Nat → ClassId} {h0 : Nat} {a0 : Nat → Nat} {r0 : zS} {a1 : Nat → Nat} {r1 : zS} {p1 : Int32} {sz : Nat} {post : Int32 → Prop}   (h : wp_X0_onlyFree r0 r1 p1 post) : Met l yX0_onlyFree (Cond.code yX0_onlyFree cX0_onlyFree 2 (some .int) :: wsL_law) ({ frames := 1, cells := 0, slots := 0, locals := 22 } : Room) (va_Pc [.ref h0, .int p1] (xPre D vwCl (xty K) (wX0 K h0 a0 r0 ++ (wX1 K (a0 1) a1 r1)) sz)) (roI post) 0 0 (fun _ => False) := by
  refine xMet (by decide) rfl (Nat.le_of_ble_eq_true rfl) (fun p e s m args below meth c C hnm hP hD hsz ls hl => ?_)
  have hl : lv_has ls 2 [(0, .ref h0), (1, .int p1)] := hl
  obtain ⟨hx, hb, hr, hml, hown, hts, hlocks, hK, hT⟩ := id C
  unfold wp_X0_onlyFree at h
  refine lv_iload_n hx hb dX0_onlyFree_0 rfl (lv_at hl 1 rfl) ?_
  refine lv_iconst (v := -1) hx hb dX0_onlyFree_1 (by decide) ?_
  refine lv_icmp_eq (tgt := 21) hx hb dX0_onlyFree_2 (by decide) (fun c1 => ?_) (fun c1 => ?_)
  · replace h := And.left h c1
    refine lv_iconst (v := -1) hx hb dX0_onlyFree_21 (by decide) ?_
    exact xro_i C h dX0_onlyFree_22
  · replace h := And.right h c1
    refine lv_aload_n hx hb dX0_onlyFree_5 rfl (lv_at hl 0 rfl) ?_
    refine va_get (D := D) (ci := 0) (v := .ref (a0 1)) (C := RX0) (T := TX0) (N := 5) hx hb hts inlX0 hown hK hP 0 rfl rfl 1 (by decide) (hts (.fieldLink RX0 25 "UnderTheDesks$Lesson" "room" "LUnderTheDesks$Room;") mw_85) (fun _ h9 => h9) rfl dX0_onlyFree_6 ?_
    refine lv_iload_n hx hb dX0_onlyFree_9 rfl (lv_at hl 1 rfl) ?_
    refine xend_ro_i (xRunV (wc := (wX1 K (a0 1) a1 r1)) (As := [.int p1]) (rest := []) C (c_X1_holderOf h) k_X1_holderOf mw_615 ⟨rfl, rfl⟩ ⟨Nat.le_of_ble_eq_true rfl, Nat.le_of_ble_eq_true rfl⟩ hP hD [1, 2, 3, 4, 5, 6] rfl rfl rfl rfl hl rfl rfl (Nat.le_of_ble_eq_true rfl) dX0_onlyFree_10 ⟨Nat.le_refl _, Nat.le_refl _⟩) (fun v2 h => ?_)
    refine lv_iconst (v := -1) hx hb dX0_onlyFree_13 (by decide) ?_
    refine lv_icmp_ne (tgt := 21) hx hb dX0_onlyFree_14 (by decide) (fun c3 => ?_) (fun c3 => ?_)
    · replace h := And.right h c3
      refine lv_iconst (v := -1) hx hb dX0_onlyFree_21 (by decide) ?_
      exact xro_i C h dX0_onlyFree_22
    · replace h := And.left h c3
      refine lv_iload_n hx hb dX0_onlyFree_17 rfl (lv_at hl 1 rfl) ?_
      refine lv_goto (tgt := 22) hx hb dX0_onlyFree_18 (by decide) ?_
      exact xro_i C h dX0_onlyFree_22

def wp_X0_readPupil_51 (r1 : zS) (post : Int32 → (zS) → (zS) → Prop) (r0 : zS) (r2 : zS) (x1 : Int32) (x2 : Int32) (y0 : Int32) : Prop :=
  (y0 = (-1 : Int32) → post (0 : Int32) r0 r2) ∧ (¬ y0 = (-1 : Int32) → wp_X1_seat r2 x1 x2 y0 (fun v12 s13 => (v12 = (-1 : Int32) → post (0 : Int32) r0 s13) ∧ (¬ v12 = (-1 : Int32) → post (1 : Int32) r0 s13)))
def wp_X0_readPupil_34 (r1 : zS) (post : Int32 → (zS) → (zS) → Prop) (r0 : zS) (r2 : zS) (x1 : Int32) (y0 : Int32) : Prop :=
  (y0 = (-1 : Int32) → wp_X0_readPupil_51 r1 post r0 r2 x1 y0 (-1 : Int32)) ∧ (¬ y0 = (-1 : Int32) → wp_X0_nextNumber r0 r1 (0 : Int32) (9 : Int32) (fun v9 s10 => wp_X0_readPupil_51 r1 post s10 r2 x1 y0 v9))
def wp_X0_readPupil (r0 : zS) (r1 : zS) (r2 : zS) (post : Int32 → (zS) → (zS) → Prop) : Prop :=
  wp_X0_nextNumber r0 r1 (0 : Int32) (5 : Int32) (fun v1 s2 => (v1 = (-1 : Int32) → wp_X0_readPupil_34 r1 post s2 r2 v1 (-1 : Int32)) ∧ (¬ v1 = (-1 : Int32) → wp_X1_deskCount r2 (fun v4 => wp_X0_nextNumber s2 r1 (0 : Int32) (v4 - (1 : Int32)) (fun v5 s6 => wp_X0_onlyFree s6 r2 v5 (fun v7 => wp_X0_readPupil_34 r1 post s6 r2 v1 v7)))))
set_option maxHeartbeats 4000000 in
set_option maxRecDepth 100000 in
theorem t_X0_readPupil_51 {p : Program} {l : Launch} {e : Env} {s : State} {m : MethodId} {args : Array Value} {below : List Frame} {meth : Method} {c : Code} {D : va_G} {K : Nat → ClassId} {h0 : Nat} {a0 : Nat → Nat} {a1 : Nat → Nat} {r1 : zS} {a2 : Nat → Nat} {post : Int32 → (zS) → (zS) → Prop} {A : Nat → Prop} (C : xC p s m args meth c cX0_readPupil RX0 4 (some .boolean) D vwCl (xty K)) (hA : ∀ q, s.heap.size ≤ q → A q) : ∀ (r0 : zS) (r2 : zS) (x1 : Int32) (x2 : Int32) (y0 : Int32) (H : Heap) (locs : List Loc) (ls : Array Slot), lv_has ls 4 [(0, .ref h0), (1, .int x1), (2, .int x2)] → va_P D vwCl (wX0 K h0 a0 r0 ++ (wX3 K (a0 0) a1 r1 ++ (wX1 K (a0 1) a2 r2))) H → va_D A (wX0 K h0 a0 r0 ++ (wX3 K (a0 0) a1 r1 ++ (wX1 K (a0 1) a2 r2))) → va_S A s.heap H locs → wp_X0_readPupil_51 r1 post r0 r2 x1 x2 y0 → W p l e ({ frames := 4, cells := 0, slots := 0, locals := 147 } : Room) s m args below meth c H locs 0 0 (MQ below (va_Qi (fun r (u : (zS) × (zS)) => post r u.1 u.2) (fun (u : (zS) × (zS)) t => va_P D vwCl (wX0 K h0 a0 u.1 ++ (wX3 K (a0 0) a1 r1 ++ (wX1 K (a0 1) a2 u.2))) t.heap) A) args s 0 0 A) (F0 m 51 ls [.int y0]) := by
  obtain ⟨hx, hb, hr, hml, hown, hts, hlocks, hK, hT⟩ := id C
  intro r0 r2 x1 x2 y0 H locs ls hl hP hD hS h
  unfold wp_X0_readPupil_51 at h
  refine lv_istore_n (lv' := [(3, .int y0), (0, .ref h0), (1, .int x1), (2, .int x2)]) hx hb dX0_readPupil_51 rfl hl (by decide) rfl (fun ls hl => ?_)
  refine lv_iload_n hx hb dX0_readPupil_52 rfl (lv_at hl 0 rfl) ?_
  refine lv_iconst (v := -1) hx hb dX0_readPupil_53 (by decide) ?_
  refine lv_icmp_eq (tgt := 75) hx hb dX0_readPupil_54 (by decide) (fun c11 => ?_) (fun c11 => ?_)
  · replace h := And.left h c11
    refine lv_iconst (v := 0) hx hb dX0_readPupil_75 (by decide) ?_
    exact xrw_z C (r0, r2) rfl h hP hS dX0_readPupil_76
  · replace h := And.right h c11
    refine lv_aload_n hx hb dX0_readPupil_57 rfl (lv_at hl 1 rfl) ?_
    refine va_get (D := D) (ci := 0) (v := .ref (a0 1)) (C := RX0) (T := TX0) (N := 5) hx hb hts inlX0 hown hK hP 0 rfl rfl 1 (by decide) (hts (.fieldLink RX0 25 "UnderTheDesks$Lesson" "room" "LUnderTheDesks$Room;") mw_85) (fun _ h9 => h9) rfl dX0_readPupil_58 ?_
    refine lv_iload_n hx hb dX0_readPupil_61 rfl (lv_at hl 2 rfl) ?_
    refine lv_iload_n hx hb dX0_readPupil_62 rfl (lv_at hl 3 rfl) ?_
    refine lv_iload_n hx hb dX0_readPupil_63 rfl (lv_at hl 0 rfl) ?_
    refine xend_rw_i (wf := fun (u : (zS)) => (wX1 K (a0 1) a2 u)) (xRunV (wc := (wX1 K (a0 1) a2 r2)) (As := [.int x1, .int x2, .int y0]) (rest := []) C (c_X1_seat h) k_X1_seat mw_616 ⟨rfl, rfl⟩ ⟨Nat.le_of_ble_eq_true rfl, Nat.le_of_ble_eq_true rfl⟩ hP hD [3, 4, 5, 6, 7, 8] rfl rfl rfl rfl hl rfl rfl (Nat.le_of_ble_eq_true rfl) dX0_readPupil_64 ⟨Nat.le_refl _, Nat.le_refl _⟩) hP hD hS hA [3, 4, 5, 6, 7, 8] rfl rfl (fun _ => rfl) (fun v12 s13 H locs h hP hD hS => ?_)
    replace hP : va_P D vwCl (wX0 K h0 a0 r0 ++ (wX3 K (a0 0) a1 r1 ++ (wX1 K (a0 1) a2 s13))) H := hP
    replace hD : va_D A (wX0 K h0 a0 r0 ++ (wX3 K (a0 0) a1 r1 ++ (wX1 K (a0 1) a2 s13))) := hD
    refine lv_iconst (v := -1) hx hb dX0_readPupil_67 (by decide) ?_
    refine lv_icmp_eq (tgt := 75) hx hb dX0_readPupil_68 (by decide) (fun c14 => ?_) (fun c14 => ?_)
    · replace h := And.left h c14
      refine lv_iconst (v := 0) hx hb dX0_readPupil_75 (by decide) ?_
      exact xrw_z C (r0, s13) rfl h hP hS dX0_readPupil_76
    · replace h := And.right h c14
      refine lv_iconst (v := 1) hx hb dX0_readPupil_71 (by decide) ?_
      refine lv_goto (tgt := 76) hx hb dX0_readPupil_72 (by decide) ?_
      exact xrw_z C (r0, s13) rfl h hP hS dX0_readPupil_76
set_option maxHeartbeats 4000000 in
set_option maxRecDepth 100000 in
theorem t_X0_readPupil_34 {p : Program} {l : Launch} {e : Env} {s : State} {m : MethodId} {args : Array Value} {below : List Frame} {meth : Method} {c : Code} {D : va_G} {K : Nat → ClassId} {h0 : Nat} {a0 : Nat → Nat} {a1 : Nat → Nat} {r1 : zS} {a2 : Nat → Nat} {post : Int32 → (zS) → (zS) → Prop} {A : Nat → Prop} (C : xC p s m args meth c cX0_readPupil RX0 4 (some .boolean) D vwCl (xty K)) (hA : ∀ q, s.heap.size ≤ q → A q) : ∀ (r0 : zS) (r2 : zS) (x1 : Int32) (y0 : Int32) (H : Heap) (locs : List Loc) (ls : Array Slot), lv_has ls 4 [(0, .ref h0), (1, .int x1)] → va_P D vwCl (wX0 K h0 a0 r0 ++ (wX3 K (a0 0) a1 r1 ++ (wX1 K (a0 1) a2 r2))) H → va_D A (wX0 K h0 a0 r0 ++ (wX3 K (a0 0) a1 r1 ++ (wX1 K (a0 1) a2 r2))) → va_S A s.heap H locs → wp_X0_readPupil_34 r1 post r0 r2 x1 y0 → W p l e ({ frames := 4, cells := 0, slots := 0, locals := 147 } : Room) s m args below meth c H locs 0 0 (MQ below (va_Qi (fun r (u : (zS) × (zS)) => post r u.1 u.2) (fun (u : (zS) × (zS)) t => va_P D vwCl (wX0 K h0 a0 u.1 ++ (wX3 K (a0 0) a1 r1 ++ (wX1 K (a0 1) a2 u.2))) t.heap) A) args s 0 0 A) (F0 m 34 ls [.int y0]) := by
  obtain ⟨hx, hb, hr, hml, hown, hts, hlocks, hK, hT⟩ := id C
  intro r0 r2 x1 y0 H locs ls hl hP hD hS h
  unfold wp_X0_readPupil_34 at h
  refine lv_istore_n (lv' := [(2, .int y0), (0, .ref h0), (1, .int x1)]) hx hb dX0_readPupil_34 rfl hl (by decide) rfl (fun ls hl => ?_)
  refine lv_iload_n hx hb dX0_readPupil_35 rfl (lv_at hl 0 rfl) ?_
  refine lv_iconst (v := -1) hx hb dX0_readPupil_36 (by decide) ?_
  refine lv_icmp_ne (tgt := 44) hx hb dX0_readPupil_37 (by decide) (fun c8 => ?_) (fun c8 => ?_)
  · replace h := And.right h c8
    refine lv_aload_n hx hb dX0_readPupil_44 rfl (lv_at hl 1 rfl) ?_
    refine lv_iconst (v := 0) hx hb dX0_readPupil_45 (by decide) ?_
    refine lv_bipush (v := 9) hx hb dX0_readPupil_46 (by decide) ?_
    refine xend_rw_i (wf := fun (u : (zS)) => (wX0 K h0 a0 u ++ (wX3 K (a0 0) a1 r1))) (xRunV (wc := (wX0 K h0 a0 r0 ++ (wX3 K (a0 0) a1 r1))) (As := [.int (0 : Int32), .int (9 : Int32)]) (rest := []) C (c_X0_nextNumber h) k_X0_nextNumber mw_601 ⟨rfl, rfl⟩ ⟨Nat.le_of_ble_eq_true rfl, Nat.le_of_ble_eq_true rfl⟩ hP hD [0, 1, 2] rfl rfl rfl rfl hl rfl rfl (Nat.le_of_ble_eq_true rfl) dX0_readPupil_48 ⟨Nat.le_refl _, Nat.le_refl _⟩) hP hD hS hA [0, 1, 2] rfl rfl (fun _ => rfl) (fun v9 s10 H locs h hP hD hS => ?_)
    replace hP : va_P D vwCl (wX0 K h0 a0 s10 ++ (wX3 K (a0 0) a1 r1 ++ (wX1 K (a0 1) a2 r2))) H := hP
    replace hD : va_D A (wX0 K h0 a0 s10 ++ (wX3 K (a0 0) a1 r1 ++ (wX1 K (a0 1) a2 r2))) := hD
    exact t_X0_readPupil_51 C hA _ _ _ _ _ _ _ _ (lv_sub hl [1, 2, 0] rfl) hP hD hS h
  · replace h := And.left h c8
    refine lv_iconst (v := -1) hx hb dX0_readPupil_40 (by decide) ?_
    refine lv_goto (tgt := 51) hx hb dX0_readPupil_41 (by decide) ?_
    exact t_X0_readPupil_51 C hA _ _ _ _ _ _ _ _ (lv_sub hl [1, 2, 0] rfl) hP hD hS h
set_option maxHeartbeats 4000000 in
set_option maxRecDepth 100000 in
theorem c_X0_readPupil {l : Launch} {D : va_G} {K : Nat → ClassId} {h0 : Nat} {a0 : Nat → Nat} {r0 : zS} {a1 : Nat → Nat} {r1 : zS} {a2 : Nat → Nat} {r2 : zS}  {sz : Nat} {post : Int32 → (zS) → (zS) → Prop}   (h : wp_X0_readPupil r0 r1 r2 post) : Met l yX0_readPupil (Cond.code yX0_readPupil cX0_readPupil 4 (some .boolean) :: wsL_law) ({ frames := 4, cells := 0, slots := 0, locals := 147 } : Room) (va_Pc [.ref h0] (xPre D vwCl (xty K) (wX0 K h0 a0 r0 ++ (wX3 K (a0 0) a1 r1 ++ (wX1 K (a0 1) a2 r2))) sz)) (va_Qi (fun r (u : (zS) × (zS)) => post r u.1 u.2) (fun (u : (zS) × (zS)) t => va_P D vwCl (wX0 K h0 a0 u.1 ++ (wX3 K (a0 0) a1 r1 ++ (wX1 K (a0 1) a2 u.2))) t.heap) (va_A (wX0 K h0 a0 r0 ++ (wX3 K (a0 0) a1 r1 ++ (wX1 K (a0 1) a2 r2))) sz)) 0 0 (va_A (wX0 K h0 a0 r0 ++ (wX3 K (a0 0) a1 r1 ++ (wX1 K (a0 1) a2 r2))) sz) := by
  refine xMet (by decide) rfl (Nat.le_of_ble_eq_true rfl) (fun p e s m args below meth c C hnm hP hD hsz ls hl => ?_)
  have hl : lv_has ls 4 [(0, .ref h0)] := hl
  obtain ⟨hx, hb, hr, hml, hown, hts, hlocks, hK, hT⟩ := id C
  subst hsz
  generalize hAe : va_A (wX0 K h0 a0 r0 ++ (wX3 K (a0 0) a1 r1 ++ (wX1 K (a0 1) a2 r2))) s.heap.size = A at hD ⊢
  have hA : ∀ q : Nat, s.heap.size ≤ q → A q := fun q h => by rw [← hAe]; exact Or.inr h
  have hS : va_S A s.heap s.heap [] := va_S.rf
  have hP : va_P D vwCl (wX0 K h0 a0 r0 ++ (wX3 K (a0 0) a1 r1 ++ (wX1 K (a0 1) a2 r2))) s.heap := hP
  unfold wp_X0_readPupil at h
  refine lv_aload_n hx hb dX0_readPupil_0 rfl (lv_at hl 0 rfl) ?_
  refine lv_iconst (v := 0) hx hb dX0_readPupil_1 (by decide) ?_
  refine lv_iconst (v := 5) hx hb dX0_readPupil_2 (by decide) ?_
  refine xend_rw_i (wf := fun (u : (zS)) => (wX0 K h0 a0 u ++ (wX3 K (a0 0) a1 r1))) (xRunV (wc := (wX0 K h0 a0 r0 ++ (wX3 K (a0 0) a1 r1))) (As := [.int (0 : Int32), .int (5 : Int32)]) (rest := []) C (c_X0_nextNumber h) k_X0_nextNumber mw_601 ⟨rfl, rfl⟩ ⟨Nat.le_of_ble_eq_true rfl, Nat.le_of_ble_eq_true rfl⟩ hP hD [0, 1, 2] rfl rfl rfl rfl hl rfl rfl (Nat.le_of_ble_eq_true rfl) dX0_readPupil_3 ⟨Nat.le_refl _, Nat.le_refl _⟩) hP hD hS hA [0, 1, 2] rfl rfl (fun _ => rfl) (fun v1 s2 H locs h hP hD hS => ?_)
  replace hP : va_P D vwCl (wX0 K h0 a0 s2 ++ (wX3 K (a0 0) a1 r1 ++ (wX1 K (a0 1) a2 r2))) H := hP
  replace hD : va_D A (wX0 K h0 a0 s2 ++ (wX3 K (a0 0) a1 r1 ++ (wX1 K (a0 1) a2 r2))) := hD
  refine lv_istore_n (lv' := [(1, .int v1), (0, .ref h0)]) hx hb dX0_readPupil_6 rfl hl (by decide) rfl (fun ls hl => ?_)
  refine lv_iload_n hx hb dX0_readPupil_7 rfl (lv_at hl 0 rfl) ?_
  refine lv_iconst (v := -1) hx hb dX0_readPupil_8 (by decide) ?_
  refine lv_icmp_ne (tgt := 16) hx hb dX0_readPupil_9 (by decide) (fun c3 => ?_) (fun c3 => ?_)
  · replace h := And.right h c3
    refine lv_aload_n hx hb dX0_readPupil_16 rfl (lv_at hl 1 rfl) ?_
    refine lv_aload_n hx hb dX0_readPupil_17 rfl (lv_at hl 1 rfl) ?_
    refine lv_iconst (v := 0) hx hb dX0_readPupil_18 (by decide) ?_
    refine lv_aload_n hx hb dX0_readPupil_19 rfl (lv_at hl 1 rfl) ?_
    refine va_get (D := D) (ci := 0) (v := .ref (a0 1)) (C := RX0) (T := TX0) (N := 5) hx hb hts inlX0 hown hK hP 0 rfl rfl 1 (by decide) (hts (.fieldLink RX0 25 "UnderTheDesks$Lesson" "room" "LUnderTheDesks$Room;") mw_85) (fun _ h9 => h9) rfl dX0_readPupil_20 ?_
    refine xend_ro_i (xRunV (wc := (wX1 K (a0 1) a2 r2)) (As := []) (rest := [.int (0 : Int32), .ref h0, .ref h0]) C (c_X1_deskCount h) k_X1_deskCount mw_610 ⟨rfl, rfl⟩ ⟨Nat.le_of_ble_eq_true rfl, Nat.le_of_ble_eq_true rfl⟩ hP hD [3, 4, 5, 6, 7, 8] rfl rfl rfl rfl hl rfl rfl (Nat.le_of_ble_eq_true rfl) dX0_readPupil_23 ⟨Nat.le_refl _, Nat.le_refl _⟩) (fun v4 h => ?_)
    refine lv_iconst (v := 1) hx hb dX0_readPupil_26 (by decide) ?_
    refine lv_isub hx hb dX0_readPupil_27 ?_
    refine xend_rw_i (wf := fun (u : (zS)) => (wX0 K h0 a0 u ++ (wX3 K (a0 0) a1 r1))) (xRunV (wc := (wX0 K h0 a0 s2 ++ (wX3 K (a0 0) a1 r1))) (As := [.int (0 : Int32), .int (v4 - (1 : Int32))]) (rest := [.ref h0]) C (c_X0_nextNumber h) k_X0_nextNumber mw_601 ⟨rfl, rfl⟩ ⟨Nat.le_of_ble_eq_true rfl, Nat.le_of_ble_eq_true rfl⟩ hP hD [0, 1, 2] rfl rfl rfl rfl hl rfl rfl (Nat.le_of_ble_eq_true rfl) dX0_readPupil_28 ⟨Nat.le_refl _, Nat.le_refl _⟩) hP hD hS hA [0, 1, 2] rfl rfl (fun _ => rfl) (fun v5 s6 H locs h hP hD hS => ?_)
    replace hP : va_P D vwCl (wX0 K h0 a0 s6 ++ (wX3 K (a0 0) a1 r1 ++ (wX1 K (a0 1) a2 r2))) H := hP
    replace hD : va_D A (wX0 K h0 a0 s6 ++ (wX3 K (a0 0) a1 r1 ++ (wX1 K (a0 1) a2 r2))) := hD
    refine xend_ro_i (xRunV (wc := (wX0 K h0 a0 s6 ++ (wX1 K (a0 1) a2 r2))) (As := [.int v5]) (rest := []) C (c_X0_onlyFree h) k_X0_onlyFree mw_611 ⟨rfl, rfl⟩ ⟨Nat.le_of_ble_eq_true rfl, Nat.le_of_ble_eq_true rfl⟩ hP hD [0, 3, 4, 5, 6, 7, 8] rfl rfl rfl rfl hl rfl rfl (Nat.le_of_ble_eq_true rfl) dX0_readPupil_31 ⟨Nat.le_refl _, Nat.le_refl _⟩) (fun v7 h => ?_)
    exact t_X0_readPupil_34 C hA _ _ _ _ _ _ _ (lv_sub hl [1, 0] rfl) hP hD hS h
  · replace h := And.left h c3
    refine lv_iconst (v := -1) hx hb dX0_readPupil_12 (by decide) ?_
    refine lv_goto (tgt := 34) hx hb dX0_readPupil_13 (by decide) ?_
    exact t_X0_readPupil_34 C hA _ _ _ _ _ _ _ (lv_sub hl [1, 0] rfl) hP hD hS h

def wp_X0_readBar_38 (r2 : zS) (post : Int32 → (zS) → (zS) → Prop) (r0 : zS) (r1 : zS) (x1 : Int32) (y0 : Int32) : Prop :=
  (y0 = (-1 : Int32) → post (0 : Int32) r0 r1) ∧ (¬ y0 = (-1 : Int32) → (y0 = x1 → post (0 : Int32) r0 r1) ∧ (¬ y0 = x1 → wp_X1_setBarred r1 x1 y0 (1 : Int32) (fun s9 => post (1 : Int32) r0 s9)))
def wp_X0_readBar (r0 : zS) (r1 : zS) (r2 : zS) (post : Int32 → (zS) → (zS) → Prop) : Prop :=
  wp_X0_nextNumber r0 r2 (0 : Int32) ((r1.1 1) - (1 : Int32)) (fun v1 s2 => (v1 = (-1 : Int32) → wp_X0_readBar_38 r2 post s2 r1 v1 (-1 : Int32)) ∧ (¬ v1 = (-1 : Int32) → wp_X0_nextNumber s2 r2 (0 : Int32) ((r1.1 1) - (1 : Int32)) (fun v4 s5 => wp_X0_readBar_38 r2 post s5 r1 v1 v4)))
set_option maxHeartbeats 4000000 in
set_option maxRecDepth 100000 in
theorem t_X0_readBar_38 {p : Program} {l : Launch} {e : Env} {s : State} {m : MethodId} {args : Array Value} {below : List Frame} {meth : Method} {c : Code} {D : va_G} {K : Nat → ClassId} {h0 : Nat} {a0 : Nat → Nat} {a1 : Nat → Nat} {a2 : Nat → Nat} {r2 : zS} {post : Int32 → (zS) → (zS) → Prop} {A : Nat → Prop} (C : xC p s m args meth c cX0_readBar RX0 3 (some .boolean) D vwCl (xty K)) (hA : ∀ q, s.heap.size ≤ q → A q) : ∀ (r0 : zS) (r1 : zS) (x1 : Int32) (y0 : Int32) (H : Heap) (locs : List Loc) (ls : Array Slot), lv_has ls 3 [(0, .ref h0), (1, .int x1)] → va_P D vwCl (wX0 K h0 a0 r0 ++ (wX1 K (a0 1) a1 r1 ++ (wX3 K (a0 0) a2 r2))) H → va_D A (wX0 K h0 a0 r0 ++ (wX1 K (a0 1) a1 r1 ++ (wX3 K (a0 0) a2 r2))) → va_S A s.heap H locs → wp_X0_readBar_38 r2 post r0 r1 x1 y0 → W p l e ({ frames := 4, cells := 0, slots := 0, locals := 146 } : Room) s m args below meth c H locs 0 0 (MQ below (va_Qi (fun r (u : (zS) × (zS)) => post r u.1 u.2) (fun (u : (zS) × (zS)) t => va_P D vwCl (wX0 K h0 a0 u.1 ++ (wX1 K (a0 1) a1 u.2 ++ (wX3 K (a0 0) a2 r2))) t.heap) A) args s 0 0 A) (F0 m 38 ls [.int y0]) := by
  obtain ⟨hx, hb, hr, hml, hown, hts, hlocks, hK, hT⟩ := id C
  intro r0 r1 x1 y0 H locs ls hl hP hD hS h
  unfold wp_X0_readBar_38 at h
  refine lv_istore_n (lv' := [(2, .int y0), (0, .ref h0), (1, .int x1)]) hx hb dX0_readBar_38 rfl hl (by decide) rfl (fun ls hl => ?_)
  refine lv_iload_n hx hb dX0_readBar_39 rfl (lv_at hl 0 rfl) ?_
  refine lv_iconst (v := -1) hx hb dX0_readBar_40 (by decide) ?_
  refine lv_icmp_eq (tgt := 49) hx hb dX0_readBar_41 (by decide) (fun c6 => ?_) (fun c6 => ?_)
  · replace h := And.left h c6
    refine lv_iconst (v := 0) hx hb dX0_readBar_49 (by decide) ?_
    exact xrw_z C (r0, r1) rfl h hP hS dX0_readBar_50
  · replace h := And.right h c6
    refine lv_iload_n hx hb dX0_readBar_44 rfl (lv_at hl 0 rfl) ?_
    refine lv_iload_n hx hb dX0_readBar_45 rfl (lv_at hl 2 rfl) ?_
    refine lv_icmp_ne (tgt := 51) hx hb dX0_readBar_46 (by decide) (fun c7 => ?_) (fun c7 => ?_)
    · replace h := And.right h c7
      refine lv_aload_n hx hb dX0_readBar_51 rfl (lv_at hl 1 rfl) ?_
      refine va_get (D := D) (ci := 0) (v := .ref (a0 1)) (C := RX0) (T := TX0) (N := 5) hx hb hts inlX0 hown hK hP 0 rfl rfl 1 (by decide) (hts (.fieldLink RX0 25 "UnderTheDesks$Lesson" "room" "LUnderTheDesks$Room;") mw_85) (fun _ h9 => h9) rfl dX0_readBar_52 ?_
      refine lv_iload_n hx hb dX0_readBar_55 rfl (lv_at hl 2 rfl) ?_
      refine lv_iload_n hx hb dX0_readBar_56 rfl (lv_at hl 0 rfl) ?_
      refine lv_iconst (v := 1) hx hb dX0_readBar_57 (by decide) ?_
      refine xend_rw_v (wf := fun (u : (zS)) => (wX1 K (a0 1) a1 u)) (xRunV (wc := (wX1 K (a0 1) a1 r1)) (As := [.int x1, .int y0, .int (1 : Int32)]) (rest := []) C (c_X1_setBarred h) k_X1_setBarred mw_621 ⟨rfl, rfl⟩ ⟨Nat.le_of_ble_eq_true rfl, Nat.le_of_ble_eq_true rfl⟩ hP hD [1, 2, 3, 4, 5, 6] rfl rfl rfl rfl hl rfl rfl (Nat.le_of_ble_eq_true rfl) dX0_readBar_58 ⟨Nat.le_refl _, Nat.le_refl _⟩) hP hD hS hA [1, 2, 3, 4, 5, 6] rfl rfl (fun _ => rfl) (fun s9 H locs h hP hD hS => ?_)
      replace hP : va_P D vwCl (wX0 K h0 a0 r0 ++ (wX1 K (a0 1) a1 s9 ++ (wX3 K (a0 0) a2 r2))) H := hP
      replace hD : va_D A (wX0 K h0 a0 r0 ++ (wX1 K (a0 1) a1 s9 ++ (wX3 K (a0 0) a2 r2))) := hD
      refine lv_iconst (v := 1) hx hb dX0_readBar_61 (by decide) ?_
      exact xrw_z C (r0, s9) rfl h hP hS dX0_readBar_62
    · replace h := And.left h c7
      refine lv_iconst (v := 0) hx hb dX0_readBar_49 (by decide) ?_
      exact xrw_z C (r0, r1) rfl h hP hS dX0_readBar_50
set_option maxHeartbeats 4000000 in
set_option maxRecDepth 100000 in
theorem c_X0_readBar {l : Launch} {D : va_G} {K : Nat → ClassId} {h0 : Nat} {a0 : Nat → Nat} {r0 : zS} {a1 : Nat → Nat} {r1 : zS} {a2 : Nat → Nat} {r2 : zS}  {sz : Nat} {post : Int32 → (zS) → (zS) → Prop}   (h : wp_X0_readBar r0 r1 r2 post) : Met l yX0_readBar (Cond.code yX0_readBar cX0_readBar 3 (some .boolean) :: wsL_law) ({ frames := 4, cells := 0, slots := 0, locals := 146 } : Room) (va_Pc [.ref h0] (xPre D vwCl (xty K) (wX0 K h0 a0 r0 ++ (wX1 K (a0 1) a1 r1 ++ (wX3 K (a0 0) a2 r2))) sz)) (va_Qi (fun r (u : (zS) × (zS)) => post r u.1 u.2) (fun (u : (zS) × (zS)) t => va_P D vwCl (wX0 K h0 a0 u.1 ++ (wX1 K (a0 1) a1 u.2 ++ (wX3 K (a0 0) a2 r2))) t.heap) (va_A (wX0 K h0 a0 r0 ++ (wX1 K (a0 1) a1 r1 ++ (wX3 K (a0 0) a2 r2))) sz)) 0 0 (va_A (wX0 K h0 a0 r0 ++ (wX1 K (a0 1) a1 r1 ++ (wX3 K (a0 0) a2 r2))) sz) := by
  refine xMet (by decide) rfl (Nat.le_of_ble_eq_true rfl) (fun p e s m args below meth c C hnm hP hD hsz ls hl => ?_)
  have hl : lv_has ls 3 [(0, .ref h0)] := hl
  obtain ⟨hx, hb, hr, hml, hown, hts, hlocks, hK, hT⟩ := id C
  subst hsz
  generalize hAe : va_A (wX0 K h0 a0 r0 ++ (wX1 K (a0 1) a1 r1 ++ (wX3 K (a0 0) a2 r2))) s.heap.size = A at hD ⊢
  have hA : ∀ q : Nat, s.heap.size ≤ q → A q := fun q h => by rw [← hAe]; exact Or.inr h
  have hS : va_S A s.heap s.heap [] := va_S.rf
  have hP : va_P D vwCl (wX0 K h0 a0 r0 ++ (wX1 K (a0 1) a1 r1 ++ (wX3 K (a0 0) a2 r2))) s.heap := hP
  unfold wp_X0_readBar at h
  refine lv_aload_n hx hb dX0_readBar_0 rfl (lv_at hl 0 rfl) ?_
  refine lv_iconst (v := 0) hx hb dX0_readBar_1 (by decide) ?_
  refine lv_aload_n hx hb dX0_readBar_2 rfl (lv_at hl 0 rfl) ?_
  refine va_get (D := D) (ci := 0) (v := .ref (a0 1)) (C := RX0) (T := TX0) (N := 5) hx hb hts inlX0 hown hK hP 0 rfl rfl 1 (by decide) (hts (.fieldLink RX0 25 "UnderTheDesks$Lesson" "room" "LUnderTheDesks$Room;") mw_85) (fun _ h9 => h9) rfl dX0_readBar_3 ?_
  refine va_get (D := D) (ci := 1) (v := .int (r1.1 1)) (C := RX1) (T := TX1) (N := 10) hx hb hts inlX1 hown hK hP 1 rfl rfl 1 (by decide) (hts (.fieldLink RX0 42 "UnderTheDesks$Room" "count" "I") mw_542) (fun _ h9 => h9) rfl dX0_readBar_6 ?_
  refine lv_iconst (v := 1) hx hb dX0_readBar_9 (by decide) ?_
  refine lv_isub hx hb dX0_readBar_10 ?_
  refine xend_rw_i (wf := fun (u : (zS)) => (wX0 K h0 a0 u ++ (wX3 K (a0 0) a2 r2))) (xRunV (wc := (wX0 K h0 a0 r0 ++ (wX3 K (a0 0) a2 r2))) (As := [.int (0 : Int32), .int ((r1.1 1) - (1 : Int32))]) (rest := []) C (c_X0_nextNumber h) k_X0_nextNumber mw_601 ⟨rfl, rfl⟩ ⟨Nat.le_of_ble_eq_true rfl, Nat.le_of_ble_eq_true rfl⟩ hP hD [0, 7, 8] rfl rfl rfl rfl hl rfl rfl (Nat.le_of_ble_eq_true rfl) dX0_readBar_11 ⟨Nat.le_refl _, Nat.le_refl _⟩) hP hD hS hA [0, 7, 8] rfl rfl (fun _ => rfl) (fun v1 s2 H locs h hP hD hS => ?_)
  replace hP : va_P D vwCl (wX0 K h0 a0 s2 ++ (wX1 K (a0 1) a1 r1 ++ (wX3 K (a0 0) a2 r2))) H := hP
  replace hD : va_D A (wX0 K h0 a0 s2 ++ (wX1 K (a0 1) a1 r1 ++ (wX3 K (a0 0) a2 r2))) := hD
  refine lv_istore_n (lv' := [(1, .int v1), (0, .ref h0)]) hx hb dX0_readBar_14 rfl hl (by decide) rfl (fun ls hl => ?_)
  refine lv_iload_n hx hb dX0_readBar_15 rfl (lv_at hl 0 rfl) ?_
  refine lv_iconst (v := -1) hx hb dX0_readBar_16 (by decide) ?_
  refine lv_icmp_ne (tgt := 24) hx hb dX0_readBar_17 (by decide) (fun c3 => ?_) (fun c3 => ?_)
  · replace h := And.right h c3
    refine lv_aload_n hx hb dX0_readBar_24 rfl (lv_at hl 1 rfl) ?_
    refine lv_iconst (v := 0) hx hb dX0_readBar_25 (by decide) ?_
    refine lv_aload_n hx hb dX0_readBar_26 rfl (lv_at hl 1 rfl) ?_
    refine va_get (D := D) (ci := 0) (v := .ref (a0 1)) (C := RX0) (T := TX0) (N := 5) hx hb hts inlX0 hown hK hP 0 rfl rfl 1 (by decide) (hts (.fieldLink RX0 25 "UnderTheDesks$Lesson" "room" "LUnderTheDesks$Room;") mw_85) (fun _ h9 => h9) rfl dX0_readBar_27 ?_
    refine va_get (D := D) (ci := 1) (v := .int (r1.1 1)) (C := RX1) (T := TX1) (N := 10) hx hb hts inlX1 hown hK hP 1 rfl rfl 1 (by decide) (hts (.fieldLink RX0 42 "UnderTheDesks$Room" "count" "I") mw_542) (fun _ h9 => h9) rfl dX0_readBar_30 ?_
    refine lv_iconst (v := 1) hx hb dX0_readBar_33 (by decide) ?_
    refine lv_isub hx hb dX0_readBar_34 ?_
    refine xend_rw_i (wf := fun (u : (zS)) => (wX0 K h0 a0 u ++ (wX3 K (a0 0) a2 r2))) (xRunV (wc := (wX0 K h0 a0 s2 ++ (wX3 K (a0 0) a2 r2))) (As := [.int (0 : Int32), .int ((r1.1 1) - (1 : Int32))]) (rest := []) C (c_X0_nextNumber h) k_X0_nextNumber mw_601 ⟨rfl, rfl⟩ ⟨Nat.le_of_ble_eq_true rfl, Nat.le_of_ble_eq_true rfl⟩ hP hD [0, 7, 8] rfl rfl rfl rfl hl rfl rfl (Nat.le_of_ble_eq_true rfl) dX0_readBar_35 ⟨Nat.le_refl _, Nat.le_refl _⟩) hP hD hS hA [0, 7, 8] rfl rfl (fun _ => rfl) (fun v4 s5 H locs h hP hD hS => ?_)
    replace hP : va_P D vwCl (wX0 K h0 a0 s5 ++ (wX1 K (a0 1) a1 r1 ++ (wX3 K (a0 0) a2 r2))) H := hP
    replace hD : va_D A (wX0 K h0 a0 s5 ++ (wX1 K (a0 1) a1 r1 ++ (wX3 K (a0 0) a2 r2))) := hD
    exact t_X0_readBar_38 C hA _ _ _ _ _ _ _ (lv_sub hl [1, 0] rfl) hP hD hS h
  · replace h := And.left h c3
    refine lv_iconst (v := -1) hx hb dX0_readBar_20 (by decide) ?_
    refine lv_goto (tgt := 38) hx hb dX0_readBar_21 (by decide) ?_
    exact t_X0_readBar_38 C hA _ _ _ _ _ _ _ (lv_sub hl [1, 0] rfl) hP hD hS h

def wp_X0_readMove_42 (r2 : zS) (post : Int32 → (zS) → (zS) → Prop) (r0 : zS) (r1 : zS) (x1 : Int32) (y0 : Int32) : Prop :=
  (y0 = (-1 : Int32) → post (0 : Int32) r0 r1) ∧ (¬ y0 = (-1 : Int32) → wp_X1_reseat r1 x1 y0 (fun s10 => post (1 : Int32) r0 s10))
def wp_X0_readMove (r0 : zS) (r1 : zS) (r2 : zS) (post : Int32 → (zS) → (zS) → Prop) : Prop :=
  wp_X0_nextNumber r0 r2 (0 : Int32) ((r1.1 1) - (1 : Int32)) (fun v1 s2 => (v1 = (-1 : Int32) → wp_X0_readMove_42 r2 post s2 r1 v1 (-1 : Int32)) ∧ (¬ v1 = (-1 : Int32) → wp_X1_deskCount r1 (fun v4 => wp_X0_nextNumber s2 r2 (0 : Int32) (v4 - (1 : Int32)) (fun v5 s6 => wp_X0_onlyFree s6 r1 v5 (fun v7 => wp_X0_readMove_42 r2 post s6 r1 v1 v7)))))
set_option maxHeartbeats 4000000 in
set_option maxRecDepth 100000 in
theorem t_X0_readMove_42 {p : Program} {l : Launch} {e : Env} {s : State} {m : MethodId} {args : Array Value} {below : List Frame} {meth : Method} {c : Code} {D : va_G} {K : Nat → ClassId} {h0 : Nat} {a0 : Nat → Nat} {a1 : Nat → Nat} {a2 : Nat → Nat} {r2 : zS} {post : Int32 → (zS) → (zS) → Prop} {A : Nat → Prop} (C : xC p s m args meth c cX0_readMove RX0 3 (some .boolean) D vwCl (xty K)) (hA : ∀ q, s.heap.size ≤ q → A q) : ∀ (r0 : zS) (r1 : zS) (x1 : Int32) (y0 : Int32) (H : Heap) (locs : List Loc) (ls : Array Slot), lv_has ls 3 [(0, .ref h0), (1, .int x1)] → va_P D vwCl (wX0 K h0 a0 r0 ++ (wX1 K (a0 1) a1 r1 ++ (wX3 K (a0 0) a2 r2))) H → va_D A (wX0 K h0 a0 r0 ++ (wX1 K (a0 1) a1 r1 ++ (wX3 K (a0 0) a2 r2))) → va_S A s.heap H locs → wp_X0_readMove_42 r2 post r0 r1 x1 y0 → W p l e ({ frames := 4, cells := 0, slots := 0, locals := 145 } : Room) s m args below meth c H locs 0 0 (MQ below (va_Qi (fun r (u : (zS) × (zS)) => post r u.1 u.2) (fun (u : (zS) × (zS)) t => va_P D vwCl (wX0 K h0 a0 u.1 ++ (wX1 K (a0 1) a1 u.2 ++ (wX3 K (a0 0) a2 r2))) t.heap) A) args s 0 0 A) (F0 m 42 ls [.int y0]) := by
  obtain ⟨hx, hb, hr, hml, hown, hts, hlocks, hK, hT⟩ := id C
  intro r0 r1 x1 y0 H locs ls hl hP hD hS h
  unfold wp_X0_readMove_42 at h
  refine lv_istore_n (lv' := [(2, .int y0), (0, .ref h0), (1, .int x1)]) hx hb dX0_readMove_42 rfl hl (by decide) rfl (fun ls hl => ?_)
  refine lv_iload_n hx hb dX0_readMove_43 rfl (lv_at hl 0 rfl) ?_
  refine lv_iconst (v := -1) hx hb dX0_readMove_44 (by decide) ?_
  refine lv_icmp_ne (tgt := 50) hx hb dX0_readMove_45 (by decide) (fun c8 => ?_) (fun c8 => ?_)
  · replace h := And.right h c8
    refine lv_aload_n hx hb dX0_readMove_50 rfl (lv_at hl 1 rfl) ?_
    refine va_get (D := D) (ci := 0) (v := .ref (a0 1)) (C := RX0) (T := TX0) (N := 5) hx hb hts inlX0 hown hK hP 0 rfl rfl 1 (by decide) (hts (.fieldLink RX0 25 "UnderTheDesks$Lesson" "room" "LUnderTheDesks$Room;") mw_85) (fun _ h9 => h9) rfl dX0_readMove_51 ?_
    refine lv_iload_n hx hb dX0_readMove_54 rfl (lv_at hl 2 rfl) ?_
    refine lv_iload_n hx hb dX0_readMove_55 rfl (lv_at hl 0 rfl) ?_
    refine xend_rw_v (wf := fun (u : (zS)) => (wX1 K (a0 1) a1 u)) (xRunV (wc := (wX1 K (a0 1) a1 r1)) (As := [.int x1, .int y0]) (rest := []) C (c_X1_reseat h) k_X1_reseat mw_626 ⟨rfl, rfl⟩ ⟨Nat.le_of_ble_eq_true rfl, Nat.le_of_ble_eq_true rfl⟩ hP hD [1, 2, 3, 4, 5, 6] rfl rfl rfl rfl hl rfl rfl (Nat.le_of_ble_eq_true rfl) dX0_readMove_56 ⟨Nat.le_refl _, Nat.le_refl _⟩) hP hD hS hA [1, 2, 3, 4, 5, 6] rfl rfl (fun _ => rfl) (fun s10 H locs h hP hD hS => ?_)
    replace hP : va_P D vwCl (wX0 K h0 a0 r0 ++ (wX1 K (a0 1) a1 s10 ++ (wX3 K (a0 0) a2 r2))) H := hP
    replace hD : va_D A (wX0 K h0 a0 r0 ++ (wX1 K (a0 1) a1 s10 ++ (wX3 K (a0 0) a2 r2))) := hD
    refine lv_iconst (v := 1) hx hb dX0_readMove_59 (by decide) ?_
    exact xrw_z C (r0, s10) rfl h hP hS dX0_readMove_60
  · replace h := And.left h c8
    refine lv_iconst (v := 0) hx hb dX0_readMove_48 (by decide) ?_
    exact xrw_z C (r0, r1) rfl h hP hS dX0_readMove_49
set_option maxHeartbeats 4000000 in
set_option maxRecDepth 100000 in
theorem c_X0_readMove {l : Launch} {D : va_G} {K : Nat → ClassId} {h0 : Nat} {a0 : Nat → Nat} {r0 : zS} {a1 : Nat → Nat} {r1 : zS} {a2 : Nat → Nat} {r2 : zS}  {sz : Nat} {post : Int32 → (zS) → (zS) → Prop}   (h : wp_X0_readMove r0 r1 r2 post) : Met l yX0_readMove (Cond.code yX0_readMove cX0_readMove 3 (some .boolean) :: wsL_law) ({ frames := 4, cells := 0, slots := 0, locals := 145 } : Room) (va_Pc [.ref h0] (xPre D vwCl (xty K) (wX0 K h0 a0 r0 ++ (wX1 K (a0 1) a1 r1 ++ (wX3 K (a0 0) a2 r2))) sz)) (va_Qi (fun r (u : (zS) × (zS)) => post r u.1 u.2) (fun (u : (zS) × (zS)) t => va_P D vwCl (wX0 K h0 a0 u.1 ++ (wX1 K (a0 1) a1 u.2 ++ (wX3 K (a0 0) a2 r2))) t.heap) (va_A (wX0 K h0 a0 r0 ++ (wX1 K (a0 1) a1 r1 ++ (wX3 K (a0 0) a2 r2))) sz)) 0 0 (va_A (wX0 K h0 a0 r0 ++ (wX1 K (a0 1) a1 r1 ++ (wX3 K (a0 0) a2 r2))) sz) := by
  refine xMet (by decide) rfl (Nat.le_of_ble_eq_true rfl) (fun p e s m args below meth c C hnm hP hD hsz ls hl => ?_)
  have hl : lv_has ls 3 [(0, .ref h0)] := hl
  obtain ⟨hx, hb, hr, hml, hown, hts, hlocks, hK, hT⟩ := id C
  subst hsz
  generalize hAe : va_A (wX0 K h0 a0 r0 ++ (wX1 K (a0 1) a1 r1 ++ (wX3 K (a0 0) a2 r2))) s.heap.size = A at hD ⊢
  have hA : ∀ q : Nat, s.heap.size ≤ q → A q := fun q h => by rw [← hAe]; exact Or.inr h
  have hS : va_S A s.heap s.heap [] := va_S.rf
  have hP : va_P D vwCl (wX0 K h0 a0 r0 ++ (wX1 K (a0 1) a1 r1 ++ (wX3 K (a0 0) a2 r2))) s.heap := hP
  unfold wp_X0_readMove at h
  refine lv_aload_n hx hb dX0_readMove_0 rfl (lv_at hl 0 rfl) ?_
  refine lv_iconst (v := 0) hx hb dX0_readMove_1 (by decide) ?_
  refine lv_aload_n hx hb dX0_readMove_2 rfl (lv_at hl 0 rfl) ?_
  refine va_get (D := D) (ci := 0) (v := .ref (a0 1)) (C := RX0) (T := TX0) (N := 5) hx hb hts inlX0 hown hK hP 0 rfl rfl 1 (by decide) (hts (.fieldLink RX0 25 "UnderTheDesks$Lesson" "room" "LUnderTheDesks$Room;") mw_85) (fun _ h9 => h9) rfl dX0_readMove_3 ?_
  refine va_get (D := D) (ci := 1) (v := .int (r1.1 1)) (C := RX1) (T := TX1) (N := 10) hx hb hts inlX1 hown hK hP 1 rfl rfl 1 (by decide) (hts (.fieldLink RX0 42 "UnderTheDesks$Room" "count" "I") mw_542) (fun _ h9 => h9) rfl dX0_readMove_6 ?_
  refine lv_iconst (v := 1) hx hb dX0_readMove_9 (by decide) ?_
  refine lv_isub hx hb dX0_readMove_10 ?_
  refine xend_rw_i (wf := fun (u : (zS)) => (wX0 K h0 a0 u ++ (wX3 K (a0 0) a2 r2))) (xRunV (wc := (wX0 K h0 a0 r0 ++ (wX3 K (a0 0) a2 r2))) (As := [.int (0 : Int32), .int ((r1.1 1) - (1 : Int32))]) (rest := []) C (c_X0_nextNumber h) k_X0_nextNumber mw_601 ⟨rfl, rfl⟩ ⟨Nat.le_of_ble_eq_true rfl, Nat.le_of_ble_eq_true rfl⟩ hP hD [0, 7, 8] rfl rfl rfl rfl hl rfl rfl (Nat.le_of_ble_eq_true rfl) dX0_readMove_11 ⟨Nat.le_refl _, Nat.le_refl _⟩) hP hD hS hA [0, 7, 8] rfl rfl (fun _ => rfl) (fun v1 s2 H locs h hP hD hS => ?_)
  replace hP : va_P D vwCl (wX0 K h0 a0 s2 ++ (wX1 K (a0 1) a1 r1 ++ (wX3 K (a0 0) a2 r2))) H := hP
  replace hD : va_D A (wX0 K h0 a0 s2 ++ (wX1 K (a0 1) a1 r1 ++ (wX3 K (a0 0) a2 r2))) := hD
  refine lv_istore_n (lv' := [(1, .int v1), (0, .ref h0)]) hx hb dX0_readMove_14 rfl hl (by decide) rfl (fun ls hl => ?_)
  refine lv_iload_n hx hb dX0_readMove_15 rfl (lv_at hl 0 rfl) ?_
  refine lv_iconst (v := -1) hx hb dX0_readMove_16 (by decide) ?_
  refine lv_icmp_ne (tgt := 24) hx hb dX0_readMove_17 (by decide) (fun c3 => ?_) (fun c3 => ?_)
  · replace h := And.right h c3
    refine lv_aload_n hx hb dX0_readMove_24 rfl (lv_at hl 1 rfl) ?_
    refine lv_aload_n hx hb dX0_readMove_25 rfl (lv_at hl 1 rfl) ?_
    refine lv_iconst (v := 0) hx hb dX0_readMove_26 (by decide) ?_
    refine lv_aload_n hx hb dX0_readMove_27 rfl (lv_at hl 1 rfl) ?_
    refine va_get (D := D) (ci := 0) (v := .ref (a0 1)) (C := RX0) (T := TX0) (N := 5) hx hb hts inlX0 hown hK hP 0 rfl rfl 1 (by decide) (hts (.fieldLink RX0 25 "UnderTheDesks$Lesson" "room" "LUnderTheDesks$Room;") mw_85) (fun _ h9 => h9) rfl dX0_readMove_28 ?_
    refine xend_ro_i (xRunV (wc := (wX1 K (a0 1) a1 r1)) (As := []) (rest := [.int (0 : Int32), .ref h0, .ref h0]) C (c_X1_deskCount h) k_X1_deskCount mw_610 ⟨rfl, rfl⟩ ⟨Nat.le_of_ble_eq_true rfl, Nat.le_of_ble_eq_true rfl⟩ hP hD [1, 2, 3, 4, 5, 6] rfl rfl rfl rfl hl rfl rfl (Nat.le_of_ble_eq_true rfl) dX0_readMove_31 ⟨Nat.le_refl _, Nat.le_refl _⟩) (fun v4 h => ?_)
    refine lv_iconst (v := 1) hx hb dX0_readMove_34 (by decide) ?_
    refine lv_isub hx hb dX0_readMove_35 ?_
    refine xend_rw_i (wf := fun (u : (zS)) => (wX0 K h0 a0 u ++ (wX3 K (a0 0) a2 r2))) (xRunV (wc := (wX0 K h0 a0 s2 ++ (wX3 K (a0 0) a2 r2))) (As := [.int (0 : Int32), .int (v4 - (1 : Int32))]) (rest := [.ref h0]) C (c_X0_nextNumber h) k_X0_nextNumber mw_601 ⟨rfl, rfl⟩ ⟨Nat.le_of_ble_eq_true rfl, Nat.le_of_ble_eq_true rfl⟩ hP hD [0, 7, 8] rfl rfl rfl rfl hl rfl rfl (Nat.le_of_ble_eq_true rfl) dX0_readMove_36 ⟨Nat.le_refl _, Nat.le_refl _⟩) hP hD hS hA [0, 7, 8] rfl rfl (fun _ => rfl) (fun v5 s6 H locs h hP hD hS => ?_)
    replace hP : va_P D vwCl (wX0 K h0 a0 s6 ++ (wX1 K (a0 1) a1 r1 ++ (wX3 K (a0 0) a2 r2))) H := hP
    replace hD : va_D A (wX0 K h0 a0 s6 ++ (wX1 K (a0 1) a1 r1 ++ (wX3 K (a0 0) a2 r2))) := hD
    refine xend_ro_i (xRunV (wc := (wX0 K h0 a0 s6 ++ (wX1 K (a0 1) a1 r1))) (As := [.int v5]) (rest := []) C (c_X0_onlyFree h) k_X0_onlyFree mw_611 ⟨rfl, rfl⟩ ⟨Nat.le_of_ble_eq_true rfl, Nat.le_of_ble_eq_true rfl⟩ hP hD [0, 1, 2, 3, 4, 5, 6] rfl rfl rfl rfl hl rfl rfl (Nat.le_of_ble_eq_true rfl) dX0_readMove_39 ⟨Nat.le_refl _, Nat.le_refl _⟩) (fun v7 h => ?_)
    exact t_X0_readMove_42 C hA _ _ _ _ _ _ _ (lv_sub hl [1, 0] rfl) hP hD hS h
  · replace h := And.left h c3
    refine lv_iconst (v := -1) hx hb dX0_readMove_20 (by decide) ?_
    refine lv_goto (tgt := 42) hx hb dX0_readMove_21 (by decide) ?_
    exact t_X0_readMove_42 C hA _ _ _ _ _ _ _ (lv_sub hl [1, 0] rfl) hP hD hS h

def wp_X0_readMaster_41 (r1 : zS) (post : Int32 → (zS) → (zS) → Prop) (r0 : zS) (r2 : zS) (x1 : Int32) (x2 : Int32) (y0 : Int32) : Prop :=
  (y0 = (-1 : Int32) → post (0 : Int32) r0 r2) ∧ (¬ y0 = (-1 : Int32) → post (1 : Int32) r0 (zI (zI (zI r2 2 x1) 3 x2) 4 y0))
def wp_X0_readMaster_23 (r1 : zS) (post : Int32 → (zS) → (zS) → Prop) (r0 : zS) (r2 : zS) (x1 : Int32) (y0 : Int32) : Prop :=
  (y0 = (-1 : Int32) → wp_X0_readMaster_41 r1 post r0 r2 x1 y0 (-1 : Int32)) ∧ (¬ y0 = (-1 : Int32) → wp_X0_nextNumber r0 r1 (0 : Int32) (1000 : Int32) (fun v7 s8 => wp_X0_readMaster_41 r1 post s8 r2 x1 y0 v7))
def wp_X0_readMaster (r0 : zS) (r1 : zS) (r2 : zS) (post : Int32 → (zS) → (zS) → Prop) : Prop :=
  wp_X0_nextNumber r0 r1 (1 : Int32) (20 : Int32) (fun v1 s2 => (v1 = (-1 : Int32) → wp_X0_readMaster_23 r1 post s2 r2 v1 (-1 : Int32)) ∧ (¬ v1 = (-1 : Int32) → wp_X0_nextNumber s2 r1 (0 : Int32) v1 (fun v4 s5 => wp_X0_readMaster_23 r1 post s5 r2 v1 v4)))
set_option maxHeartbeats 4000000 in
set_option maxRecDepth 100000 in
theorem t_X0_readMaster_41 {p : Program} {l : Launch} {e : Env} {s : State} {m : MethodId} {args : Array Value} {below : List Frame} {meth : Method} {c : Code} {D : va_G} {K : Nat → ClassId} {h0 : Nat} {a0 : Nat → Nat} {a1 : Nat → Nat} {r1 : zS} {a2 : Nat → Nat} {post : Int32 → (zS) → (zS) → Prop} {A : Nat → Prop} (C : xC p s m args meth c cX0_readMaster RX0 4 (some .boolean) D vwCl (xty K)) (hA : ∀ q, s.heap.size ≤ q → A q) : ∀ (r0 : zS) (r2 : zS) (x1 : Int32) (x2 : Int32) (y0 : Int32) (H : Heap) (locs : List Loc) (ls : Array Slot), lv_has ls 4 [(0, .ref h0), (1, .int x1), (2, .int x2)] → va_P D vwCl (wX0 K h0 a0 r0 ++ (wX3 K (a0 0) a1 r1 ++ (wX1 K (a0 1) a2 r2))) H → va_D A (wX0 K h0 a0 r0 ++ (wX3 K (a0 0) a1 r1 ++ (wX1 K (a0 1) a2 r2))) → va_S A s.heap H locs → wp_X0_readMaster_41 r1 post r0 r2 x1 x2 y0 → W p l e ({ frames := 3, cells := 0, slots := 0, locals := 65 } : Room) s m args below meth c H locs 0 0 (MQ below (va_Qi (fun r (u : (zS) × (zS)) => post r u.1 u.2) (fun (u : (zS) × (zS)) t => va_P D vwCl (wX0 K h0 a0 u.1 ++ (wX3 K (a0 0) a1 r1 ++ (wX1 K (a0 1) a2 u.2))) t.heap) A) args s 0 0 A) (F0 m 41 ls [.int y0]) := by
  obtain ⟨hx, hb, hr, hml, hown, hts, hlocks, hK, hT⟩ := id C
  intro r0 r2 x1 x2 y0 H locs ls hl hP hD hS h
  unfold wp_X0_readMaster_41 at h
  refine lv_istore_n (lv' := [(3, .int y0), (0, .ref h0), (1, .int x1), (2, .int x2)]) hx hb dX0_readMaster_41 rfl hl (by decide) rfl (fun ls hl => ?_)
  refine lv_iload_n hx hb dX0_readMaster_42 rfl (lv_at hl 0 rfl) ?_
  refine lv_iconst (v := -1) hx hb dX0_readMaster_43 (by decide) ?_
  refine lv_icmp_ne (tgt := 49) hx hb dX0_readMaster_44 (by decide) (fun c9 => ?_) (fun c9 => ?_)
  · replace h := And.right h c9
    refine lv_aload_n hx hb dX0_readMaster_49 rfl (lv_at hl 1 rfl) ?_
    refine va_get (D := D) (ci := 0) (v := .ref (a0 1)) (C := RX0) (T := TX0) (N := 5) hx hb hts inlX0 hown hK hP 0 rfl rfl 1 (by decide) (hts (.fieldLink RX0 25 "UnderTheDesks$Lesson" "room" "LUnderTheDesks$Room;") mw_85) (fun _ h9 => h9) rfl dX0_readMaster_50 ?_
    refine lv_iload_n hx hb dX0_readMaster_53 rfl (lv_at hl 2 rfl) ?_
    refine va_put (D := D) (ci := 1) (v := .int x1) (ty := .int) (C := RX1) (T := TX1) (N := 10) hx hb hts inlX1 tyX1 tyX1_ok nmX1 hown hK hP hD hS 3 rfl rfl 2 (by decide) (hts (.fieldLink RX0 100 "UnderTheDesks$Room" "term" "I") mw_631) (fun _ h9 => h9) rfl (by decide +kernel) rfl rfl (Nat.le_of_ble_eq_true rfl) dX0_readMaster_54 (fun H locs hP hD hS => ?_)
    replace hP : va_P D vwCl (wX0 K h0 a0 r0 ++ (wX3 K (a0 0) a1 r1 ++ (wX1 K (a0 1) a2 (zI r2 2 x1)))) H := hP
    replace hD : va_D A (wX0 K h0 a0 r0 ++ (wX3 K (a0 0) a1 r1 ++ (wX1 K (a0 1) a2 (zI r2 2 x1)))) := hD
    refine lv_aload_n hx hb dX0_readMaster_57 rfl (lv_at hl 1 rfl) ?_
    refine va_get (D := D) (ci := 0) (v := .ref (a0 1)) (C := RX0) (T := TX0) (N := 5) hx hb hts inlX0 hown hK hP 0 rfl rfl 1 (by decide) (hts (.fieldLink RX0 25 "UnderTheDesks$Lesson" "room" "LUnderTheDesks$Room;") mw_85) (fun _ h9 => h9) rfl dX0_readMaster_58 ?_
    refine lv_iload_n hx hb dX0_readMaster_61 rfl (lv_at hl 3 rfl) ?_
    refine va_put (D := D) (ci := 1) (v := .int x2) (ty := .int) (C := RX1) (T := TX1) (N := 10) hx hb hts inlX1 tyX1 tyX1_ok nmX1 hown hK hP hD hS 3 rfl rfl 3 (by decide) (hts (.fieldLink RX0 103 "UnderTheDesks$Room" "turned" "I") mw_632) (fun _ h9 => h9) rfl (by decide +kernel) rfl rfl (Nat.le_of_ble_eq_true rfl) dX0_readMaster_62 (fun H locs hP hD hS => ?_)
    replace hP : va_P D vwCl (wX0 K h0 a0 r0 ++ (wX3 K (a0 0) a1 r1 ++ (wX1 K (a0 1) a2 (zI (zI r2 2 x1) 3 x2)))) H := hP
    replace hD : va_D A (wX0 K h0 a0 r0 ++ (wX3 K (a0 0) a1 r1 ++ (wX1 K (a0 1) a2 (zI (zI r2 2 x1) 3 x2)))) := hD
    refine lv_aload_n hx hb dX0_readMaster_65 rfl (lv_at hl 1 rfl) ?_
    refine va_get (D := D) (ci := 0) (v := .ref (a0 1)) (C := RX0) (T := TX0) (N := 5) hx hb hts inlX0 hown hK hP 0 rfl rfl 1 (by decide) (hts (.fieldLink RX0 25 "UnderTheDesks$Lesson" "room" "LUnderTheDesks$Room;") mw_85) (fun _ h9 => h9) rfl dX0_readMaster_66 ?_
    refine lv_iload_n hx hb dX0_readMaster_69 rfl (lv_at hl 0 rfl) ?_
    refine va_put (D := D) (ci := 1) (v := .int y0) (ty := .int) (C := RX1) (T := TX1) (N := 10) hx hb hts inlX1 tyX1 tyX1_ok nmX1 hown hK hP hD hS 3 rfl rfl 4 (by decide) (hts (.fieldLink RX0 106 "UnderTheDesks$Room" "eye" "I") mw_633) (fun _ h9 => h9) rfl (by decide +kernel) rfl rfl (Nat.le_of_ble_eq_true rfl) dX0_readMaster_70 (fun H locs hP hD hS => ?_)
    replace hP : va_P D vwCl (wX0 K h0 a0 r0 ++ (wX3 K (a0 0) a1 r1 ++ (wX1 K (a0 1) a2 (zI (zI (zI r2 2 x1) 3 x2) 4 y0)))) H := hP
    replace hD : va_D A (wX0 K h0 a0 r0 ++ (wX3 K (a0 0) a1 r1 ++ (wX1 K (a0 1) a2 (zI (zI (zI r2 2 x1) 3 x2) 4 y0)))) := hD
    refine lv_iconst (v := 1) hx hb dX0_readMaster_73 (by decide) ?_
    exact xrw_z C (r0, (zI (zI (zI r2 2 x1) 3 x2) 4 y0)) rfl h hP hS dX0_readMaster_74
  · replace h := And.left h c9
    refine lv_iconst (v := 0) hx hb dX0_readMaster_47 (by decide) ?_
    exact xrw_z C (r0, r2) rfl h hP hS dX0_readMaster_48
set_option maxHeartbeats 4000000 in
set_option maxRecDepth 100000 in
theorem t_X0_readMaster_23 {p : Program} {l : Launch} {e : Env} {s : State} {m : MethodId} {args : Array Value} {below : List Frame} {meth : Method} {c : Code} {D : va_G} {K : Nat → ClassId} {h0 : Nat} {a0 : Nat → Nat} {a1 : Nat → Nat} {r1 : zS} {a2 : Nat → Nat} {post : Int32 → (zS) → (zS) → Prop} {A : Nat → Prop} (C : xC p s m args meth c cX0_readMaster RX0 4 (some .boolean) D vwCl (xty K)) (hA : ∀ q, s.heap.size ≤ q → A q) : ∀ (r0 : zS) (r2 : zS) (x1 : Int32) (y0 : Int32) (H : Heap) (locs : List Loc) (ls : Array Slot), lv_has ls 4 [(0, .ref h0), (1, .int x1)] → va_P D vwCl (wX0 K h0 a0 r0 ++ (wX3 K (a0 0) a1 r1 ++ (wX1 K (a0 1) a2 r2))) H → va_D A (wX0 K h0 a0 r0 ++ (wX3 K (a0 0) a1 r1 ++ (wX1 K (a0 1) a2 r2))) → va_S A s.heap H locs → wp_X0_readMaster_23 r1 post r0 r2 x1 y0 → W p l e ({ frames := 3, cells := 0, slots := 0, locals := 65 } : Room) s m args below meth c H locs 0 0 (MQ below (va_Qi (fun r (u : (zS) × (zS)) => post r u.1 u.2) (fun (u : (zS) × (zS)) t => va_P D vwCl (wX0 K h0 a0 u.1 ++ (wX3 K (a0 0) a1 r1 ++ (wX1 K (a0 1) a2 u.2))) t.heap) A) args s 0 0 A) (F0 m 23 ls [.int y0]) := by
  obtain ⟨hx, hb, hr, hml, hown, hts, hlocks, hK, hT⟩ := id C
  intro r0 r2 x1 y0 H locs ls hl hP hD hS h
  unfold wp_X0_readMaster_23 at h
  refine lv_istore_n (lv' := [(2, .int y0), (0, .ref h0), (1, .int x1)]) hx hb dX0_readMaster_23 rfl hl (by decide) rfl (fun ls hl => ?_)
  refine lv_iload_n hx hb dX0_readMaster_24 rfl (lv_at hl 0 rfl) ?_
  refine lv_iconst (v := -1) hx hb dX0_readMaster_25 (by decide) ?_
  refine lv_icmp_ne (tgt := 33) hx hb dX0_readMaster_26 (by decide) (fun c6 => ?_) (fun c6 => ?_)
  · replace h := And.right h c6
    refine lv_aload_n hx hb dX0_readMaster_33 rfl (lv_at hl 1 rfl) ?_
    refine lv_iconst (v := 0) hx hb dX0_readMaster_34 (by decide) ?_
    refine lv_sipush (v := 1000) hx hb dX0_readMaster_35 (by decide) ?_
    refine xend_rw_i (wf := fun (u : (zS)) => (wX0 K h0 a0 u ++ (wX3 K (a0 0) a1 r1))) (xRunV (wc := (wX0 K h0 a0 r0 ++ (wX3 K (a0 0) a1 r1))) (As := [.int (0 : Int32), .int (1000 : Int32)]) (rest := []) C (c_X0_nextNumber h) k_X0_nextNumber mw_601 ⟨rfl, rfl⟩ ⟨Nat.le_of_ble_eq_true rfl, Nat.le_of_ble_eq_true rfl⟩ hP hD [0, 1, 2] rfl rfl rfl rfl hl rfl rfl (Nat.le_of_ble_eq_true rfl) dX0_readMaster_38 ⟨Nat.le_refl _, Nat.le_refl _⟩) hP hD hS hA [0, 1, 2] rfl rfl (fun _ => rfl) (fun v7 s8 H locs h hP hD hS => ?_)
    replace hP : va_P D vwCl (wX0 K h0 a0 s8 ++ (wX3 K (a0 0) a1 r1 ++ (wX1 K (a0 1) a2 r2))) H := hP
    replace hD : va_D A (wX0 K h0 a0 s8 ++ (wX3 K (a0 0) a1 r1 ++ (wX1 K (a0 1) a2 r2))) := hD
    exact t_X0_readMaster_41 C hA _ _ _ _ _ _ _ _ (lv_sub hl [1, 2, 0] rfl) hP hD hS h
  · replace h := And.left h c6
    refine lv_iconst (v := -1) hx hb dX0_readMaster_29 (by decide) ?_
    refine lv_goto (tgt := 41) hx hb dX0_readMaster_30 (by decide) ?_
    exact t_X0_readMaster_41 C hA _ _ _ _ _ _ _ _ (lv_sub hl [1, 2, 0] rfl) hP hD hS h
set_option maxHeartbeats 4000000 in
set_option maxRecDepth 100000 in
theorem c_X0_readMaster {l : Launch} {D : va_G} {K : Nat → ClassId} {h0 : Nat} {a0 : Nat → Nat} {r0 : zS} {a1 : Nat → Nat} {r1 : zS} {a2 : Nat → Nat} {r2 : zS}  {sz : Nat} {post : Int32 → (zS) → (zS) → Prop}   (h : wp_X0_readMaster r0 r1 r2 post) : Met l yX0_readMaster (Cond.code yX0_readMaster cX0_readMaster 4 (some .boolean) :: wsL_law) ({ frames := 3, cells := 0, slots := 0, locals := 65 } : Room) (va_Pc [.ref h0] (xPre D vwCl (xty K) (wX0 K h0 a0 r0 ++ (wX3 K (a0 0) a1 r1 ++ (wX1 K (a0 1) a2 r2))) sz)) (va_Qi (fun r (u : (zS) × (zS)) => post r u.1 u.2) (fun (u : (zS) × (zS)) t => va_P D vwCl (wX0 K h0 a0 u.1 ++ (wX3 K (a0 0) a1 r1 ++ (wX1 K (a0 1) a2 u.2))) t.heap) (va_A (wX0 K h0 a0 r0 ++ (wX3 K (a0 0) a1 r1 ++ (wX1 K (a0 1) a2 r2))) sz)) 0 0 (va_A (wX0 K h0 a0 r0 ++ (wX3 K (a0 0) a1 r1 ++ (wX1 K (a0 1) a2 r2))) sz) := by
  refine xMet (by decide) rfl (Nat.le_of_ble_eq_true rfl) (fun p e s m args below meth c C hnm hP hD hsz ls hl => ?_)
  have hl : lv_has ls 4 [(0, .ref h0)] := hl
  obtain ⟨hx, hb, hr, hml, hown, hts, hlocks, hK, hT⟩ := id C
  subst hsz
  generalize hAe : va_A (wX0 K h0 a0 r0 ++ (wX3 K (a0 0) a1 r1 ++ (wX1 K (a0 1) a2 r2))) s.heap.size = A at hD ⊢
  have hA : ∀ q : Nat, s.heap.size ≤ q → A q := fun q h => by rw [← hAe]; exact Or.inr h
  have hS : va_S A s.heap s.heap [] := va_S.rf
  have hP : va_P D vwCl (wX0 K h0 a0 r0 ++ (wX3 K (a0 0) a1 r1 ++ (wX1 K (a0 1) a2 r2))) s.heap := hP
  unfold wp_X0_readMaster at h
  refine lv_aload_n hx hb dX0_readMaster_0 rfl (lv_at hl 0 rfl) ?_
  refine lv_iconst (v := 1) hx hb dX0_readMaster_1 (by decide) ?_
  refine lv_bipush (v := 20) hx hb dX0_readMaster_2 (by decide) ?_
  refine xend_rw_i (wf := fun (u : (zS)) => (wX0 K h0 a0 u ++ (wX3 K (a0 0) a1 r1))) (xRunV (wc := (wX0 K h0 a0 r0 ++ (wX3 K (a0 0) a1 r1))) (As := [.int (1 : Int32), .int (20 : Int32)]) (rest := []) C (c_X0_nextNumber h) k_X0_nextNumber mw_601 ⟨rfl, rfl⟩ ⟨Nat.le_of_ble_eq_true rfl, Nat.le_of_ble_eq_true rfl⟩ hP hD [0, 1, 2] rfl rfl rfl rfl hl rfl rfl (Nat.le_of_ble_eq_true rfl) dX0_readMaster_4 ⟨Nat.le_refl _, Nat.le_refl _⟩) hP hD hS hA [0, 1, 2] rfl rfl (fun _ => rfl) (fun v1 s2 H locs h hP hD hS => ?_)
  replace hP : va_P D vwCl (wX0 K h0 a0 s2 ++ (wX3 K (a0 0) a1 r1 ++ (wX1 K (a0 1) a2 r2))) H := hP
  replace hD : va_D A (wX0 K h0 a0 s2 ++ (wX3 K (a0 0) a1 r1 ++ (wX1 K (a0 1) a2 r2))) := hD
  refine lv_istore_n (lv' := [(1, .int v1), (0, .ref h0)]) hx hb dX0_readMaster_7 rfl hl (by decide) rfl (fun ls hl => ?_)
  refine lv_iload_n hx hb dX0_readMaster_8 rfl (lv_at hl 0 rfl) ?_
  refine lv_iconst (v := -1) hx hb dX0_readMaster_9 (by decide) ?_
  refine lv_icmp_ne (tgt := 17) hx hb dX0_readMaster_10 (by decide) (fun c3 => ?_) (fun c3 => ?_)
  · replace h := And.right h c3
    refine lv_aload_n hx hb dX0_readMaster_17 rfl (lv_at hl 1 rfl) ?_
    refine lv_iconst (v := 0) hx hb dX0_readMaster_18 (by decide) ?_
    refine lv_iload_n hx hb dX0_readMaster_19 rfl (lv_at hl 0 rfl) ?_
    refine xend_rw_i (wf := fun (u : (zS)) => (wX0 K h0 a0 u ++ (wX3 K (a0 0) a1 r1))) (xRunV (wc := (wX0 K h0 a0 s2 ++ (wX3 K (a0 0) a1 r1))) (As := [.int (0 : Int32), .int v1]) (rest := []) C (c_X0_nextNumber h) k_X0_nextNumber mw_601 ⟨rfl, rfl⟩ ⟨Nat.le_of_ble_eq_true rfl, Nat.le_of_ble_eq_true rfl⟩ hP hD [0, 1, 2] rfl rfl rfl rfl hl rfl rfl (Nat.le_of_ble_eq_true rfl) dX0_readMaster_20 ⟨Nat.le_refl _, Nat.le_refl _⟩) hP hD hS hA [0, 1, 2] rfl rfl (fun _ => rfl) (fun v4 s5 H locs h hP hD hS => ?_)
    replace hP : va_P D vwCl (wX0 K h0 a0 s5 ++ (wX3 K (a0 0) a1 r1 ++ (wX1 K (a0 1) a2 r2))) H := hP
    replace hD : va_D A (wX0 K h0 a0 s5 ++ (wX3 K (a0 0) a1 r1 ++ (wX1 K (a0 1) a2 r2))) := hD
    exact t_X0_readMaster_23 C hA _ _ _ _ _ _ _ (lv_sub hl [1, 0] rfl) hP hD hS h
  · replace h := And.left h c3
    refine lv_iconst (v := -1) hx hb dX0_readMaster_13 (by decide) ?_
    refine lv_goto (tgt := 23) hx hb dX0_readMaster_14 (by decide) ?_
    exact t_X0_readMaster_23 C hA _ _ _ _ _ _ _ (lv_sub hl [1, 0] rfl) hP hD hS h

def wp_X0_readStatement (r0 : zS) (r1 : zS) (r2 : zS) (post : Int32 → (zS) → (zS) → Prop) : Prop :=
  wp_X0_isWord r0 r1 0 (fun v1 => (v1 = 0 → wp_X0_isWord r0 r1 1 (fun v3 => (v3 = 0 → wp_X0_isWord r0 r1 2 (fun v5 => (v5 = 0 → wp_X0_isWord r0 r1 3 (fun v7 => (v7 = 0 → wp_X0_isWord r0 r1 4 (fun v9 => (v9 = 0 → post (0 : Int32) r0 r2) ∧ (¬ v9 = 0 → wp_X0_readMaster r0 r1 r2 (fun v11 s12 s13 => (v11 = 0 → post (0 : Int32) s12 s13) ∧ (¬ v11 = 0 → post (1 : Int32) s12 s13))))) ∧ (¬ v7 = 0 → wp_X0_readMove r0 r2 r1 (fun v16 s17 s18 => xbool v16 ∧ post v16 s17 s18)))) ∧ (¬ v5 = 0 → wp_X0_readBar r0 r2 r1 (fun v20 s21 s22 => xbool v20 ∧ post v20 s21 s22)))) ∧ (¬ v3 = 0 → wp_X1_isFull r2 (fun v24 => (v24 = 0 → wp_X0_readPupil r0 r1 r2 (fun v26 s27 s28 => (v26 = 0 → post (0 : Int32) s27 s28) ∧ (¬ v26 = 0 → post (1 : Int32) s27 s28))) ∧ (¬ v24 = 0 → post (0 : Int32) r0 r2))))) ∧ (¬ v1 = 0 → ((r2.1 1) = 0 → wp_X0_readRows r0 r1 r2 (fun v32 s33 s34 => (v32 = 0 → post (0 : Int32) s33 s34) ∧ (¬ v32 = 0 → post (1 : Int32) s33 s34))) ∧ (¬ (r2.1 1) = 0 → post (0 : Int32) r0 r2)))
set_option maxHeartbeats 4000000 in
set_option maxRecDepth 100000 in
theorem c_X0_readStatement {l : Launch} {D : va_G} {K : Nat → ClassId} {h0 : Nat} {a0 : Nat → Nat} {r0 : zS} {a1 : Nat → Nat} {r1 : zS} {a2 : Nat → Nat} {r2 : zS}  {adK adV : Nat → Nat} {sz : Nat} {post : Int32 → (zS) → (zS) → Prop}   (h : wp_X0_readStatement r0 r1 r2 post) : Met l yX0_readStatement (Cond.code yX0_readStatement cX0_readStatement 1 (some .boolean) :: wsL_law) ({ frames := 5, cells := 0, slots := 0, locals := 170 } : Room) (va_Pc [.ref h0] (xPreE D vwCl (xty K) (wX0 K h0 a0 r0 ++ (wX3 K (a0 0) a1 r1 ++ (wX1 K (a0 1) a2 r2))) sz adK adV)) (va_Qi (fun r (u : (zS) × (zS)) => post r u.1 u.2) (fun (u : (zS) × (zS)) t => va_P D vwCl (wX0 K h0 a0 u.1 ++ (wX3 K (a0 0) a1 r1 ++ (wX1 K (a0 1) a2 u.2))) t.heap) (va_A (wX0 K h0 a0 r0 ++ (wX3 K (a0 0) a1 r1 ++ (wX1 K (a0 1) a2 r2))) sz)) 0 0 (va_A (wX0 K h0 a0 r0 ++ (wX3 K (a0 0) a1 r1 ++ (wX1 K (a0 1) a2 r2))) sz) := by
  refine xMetE (by decide) rfl (Nat.le_of_ble_eq_true rfl) (fun p e s m args below meth c C hnm hP hD hsz ls hl hE => ?_)
  have hl : lv_has ls 1 [(0, .ref h0)] := hl
  obtain ⟨hx, hb, hr, hml, hown, hts, hlocks, hK, hT⟩ := id C
  subst hsz
  generalize hAe : va_A (wX0 K h0 a0 r0 ++ (wX3 K (a0 0) a1 r1 ++ (wX1 K (a0 1) a2 r2))) s.heap.size = A at hD hE ⊢
  have hA : ∀ q : Nat, s.heap.size ≤ q → A q := fun q h => by rw [← hAe]; exact Or.inr h
  have hS : va_S A s.heap s.heap [] := va_S.rf
  have hP : va_P D vwCl (wX0 K h0 a0 r0 ++ (wX3 K (a0 0) a1 r1 ++ (wX1 K (a0 1) a2 r2))) s.heap := hP
  unfold wp_X0_readStatement at h
  refine lv_aload_n hx hb dX0_readStatement_0 rfl (lv_at hl 0 rfl) ?_
  refine va_ldcS hx hb hown hE.2.2.2.1.1 dX0_readStatement_1 ?_
  refine xend_ro_i (xRunVE (wc := (wX0 K h0 a0 r0 ++ (wX3 K (a0 0) a1 r1))) (As := [.ref (adK 0)]) (rest := []) C hE hS hA (c_X0_isWord (by decide) h) k_X0_isWord mw_543 ⟨rfl, rfl⟩ ⟨Nat.le_of_ble_eq_true rfl, Nat.le_of_ble_eq_true rfl⟩ hP hD [0, 1, 2] rfl rfl (fun hw => va_recv hK hw (ci := 0) (q0 := 0) rfl rfl) hl rfl rfl (Nat.le_of_ble_eq_true rfl) dX0_readStatement_3 ⟨Nat.le_refl _, Nat.le_refl _⟩) (fun v1 h => ?_)
  refine lv_if_eq (tgt := 32) hx hb dX0_readStatement_6 (by decide) (fun c2 => ?_) (fun c2 => ?_)
  · replace h := And.left h c2
    refine lv_aload_n hx hb dX0_readStatement_32 rfl (lv_at hl 0 rfl) ?_
    refine va_ldcS hx hb hown hE.2.2.2.1.2.1 dX0_readStatement_33 ?_
    refine xend_ro_i (xRunVE (wc := (wX0 K h0 a0 r0 ++ (wX3 K (a0 0) a1 r1))) (As := [.ref (adK 1)]) (rest := []) C hE hS hA (c_X0_isWord (by decide) h) k_X0_isWord mw_543 ⟨rfl, rfl⟩ ⟨Nat.le_of_ble_eq_true rfl, Nat.le_of_ble_eq_true rfl⟩ hP hD [0, 1, 2] rfl rfl (fun hw => va_recv hK hw (ci := 0) (q0 := 0) rfl rfl) hl rfl rfl (Nat.le_of_ble_eq_true rfl) dX0_readStatement_35 ⟨Nat.le_refl _, Nat.le_refl _⟩) (fun v3 h => ?_)
    refine lv_if_eq (tgt := 64) hx hb dX0_readStatement_38 (by decide) (fun c4 => ?_) (fun c4 => ?_)
    · replace h := And.left h c4
      refine lv_aload_n hx hb dX0_readStatement_64 rfl (lv_at hl 0 rfl) ?_
      refine va_ldcS hx hb hown hE.2.2.2.1.2.2.1 dX0_readStatement_65 ?_
      refine xend_ro_i (xRunVE (wc := (wX0 K h0 a0 r0 ++ (wX3 K (a0 0) a1 r1))) (As := [.ref (adK 2)]) (rest := []) C hE hS hA (c_X0_isWord (by decide) h) k_X0_isWord mw_543 ⟨rfl, rfl⟩ ⟨Nat.le_of_ble_eq_true rfl, Nat.le_of_ble_eq_true rfl⟩ hP hD [0, 1, 2] rfl rfl (fun hw => va_recv hK hw (ci := 0) (q0 := 0) rfl rfl) hl rfl rfl (Nat.le_of_ble_eq_true rfl) dX0_readStatement_67 ⟨Nat.le_refl _, Nat.le_refl _⟩) (fun v5 h => ?_)
      refine lv_if_eq (tgt := 78) hx hb dX0_readStatement_70 (by decide) (fun c6 => ?_) (fun c6 => ?_)
      · replace h := And.left h c6
        refine lv_aload_n hx hb dX0_readStatement_78 rfl (lv_at hl 0 rfl) ?_
        refine va_ldcS hx hb hown hE.2.2.2.1.2.2.2.1 dX0_readStatement_79 ?_
        refine xend_ro_i (xRunVE (wc := (wX0 K h0 a0 r0 ++ (wX3 K (a0 0) a1 r1))) (As := [.ref (adK 3)]) (rest := []) C hE hS hA (c_X0_isWord (by decide) h) k_X0_isWord mw_543 ⟨rfl, rfl⟩ ⟨Nat.le_of_ble_eq_true rfl, Nat.le_of_ble_eq_true rfl⟩ hP hD [0, 1, 2] rfl rfl (fun hw => va_recv hK hw (ci := 0) (q0 := 0) rfl rfl) hl rfl rfl (Nat.le_of_ble_eq_true rfl) dX0_readStatement_81 ⟨Nat.le_refl _, Nat.le_refl _⟩) (fun v7 h => ?_)
        refine lv_if_eq (tgt := 92) hx hb dX0_readStatement_84 (by decide) (fun c8 => ?_) (fun c8 => ?_)
        · replace h := And.left h c8
          refine lv_aload_n hx hb dX0_readStatement_92 rfl (lv_at hl 0 rfl) ?_
          refine va_ldcS hx hb hown hE.2.2.2.1.2.2.2.2 dX0_readStatement_93 ?_
          refine xend_ro_i (xRunVE (wc := (wX0 K h0 a0 r0 ++ (wX3 K (a0 0) a1 r1))) (As := [.ref (adK 4)]) (rest := []) C hE hS hA (c_X0_isWord (by decide) h) k_X0_isWord mw_543 ⟨rfl, rfl⟩ ⟨Nat.le_of_ble_eq_true rfl, Nat.le_of_ble_eq_true rfl⟩ hP hD [0, 1, 2] rfl rfl (fun hw => va_recv hK hw (ci := 0) (q0 := 0) rfl rfl) hl rfl rfl (Nat.le_of_ble_eq_true rfl) dX0_readStatement_95 ⟨Nat.le_refl _, Nat.le_refl _⟩) (fun v9 h => ?_)
          refine lv_if_eq (tgt := 112) hx hb dX0_readStatement_98 (by decide) (fun c10 => ?_) (fun c10 => ?_)
          · replace h := And.left h c10
            refine lv_iconst (v := 0) hx hb dX0_readStatement_112 (by decide) ?_
            exact xrw_z C (r0, r2) rfl h hP hS dX0_readStatement_113
          · replace h := And.right h c10
            refine lv_aload_n hx hb dX0_readStatement_101 rfl (lv_at hl 0 rfl) ?_
            refine xend_rw_i_id (wf := fun (u : (zS) × (zS)) => (wX0 K h0 a0 u.1 ++ (wX3 K (a0 0) a1 r1 ++ (wX1 K (a0 1) a2 u.2)))) (xRunV_id (As := []) (rest := []) C (c_X0_readMaster h) k_X0_readMaster mw_627 ⟨rfl, rfl⟩ ⟨Nat.le_of_ble_eq_true rfl, Nat.le_of_ble_eq_true rfl⟩ hP hD rfl rfl hl rfl rfl (Nat.le_of_ble_eq_true rfl) dX0_readStatement_102 ⟨Nat.le_refl _, Nat.le_refl _⟩) hD hS hA (fun _ => rfl) (fun v11 u14 H locs h hP hD hS => ?_)
            obtain ⟨s12, s13⟩ := u14
            refine lv_if_eq (tgt := 112) hx hb dX0_readStatement_105 (by decide) (fun c15 => ?_) (fun c15 => ?_)
            · replace h := And.left h c15
              refine lv_iconst (v := 0) hx hb dX0_readStatement_112 (by decide) ?_
              exact xrw_z C (s12, s13) rfl h hP hS dX0_readStatement_113
            · replace h := And.right h c15
              refine lv_iconst (v := 1) hx hb dX0_readStatement_108 (by decide) ?_
              refine lv_goto (tgt := 113) hx hb dX0_readStatement_109 (by decide) ?_
              exact xrw_z C (s12, s13) rfl h hP hS dX0_readStatement_113
        · replace h := And.right h c8
          refine lv_aload_n hx hb dX0_readStatement_87 rfl (lv_at hl 0 rfl) ?_
          refine xend_rw_i (wf := fun (u : (zS) × (zS)) => (wX0 K h0 a0 u.1 ++ (wX1 K (a0 1) a2 u.2 ++ (wX3 K (a0 0) a1 r1)))) (xRunV (wc := (wX0 K h0 a0 r0 ++ (wX1 K (a0 1) a2 r2 ++ (wX3 K (a0 0) a1 r1)))) (As := []) (rest := []) C (c_X0_readMove h) k_X0_readMove mw_622 ⟨rfl, rfl⟩ ⟨Nat.le_of_ble_eq_true rfl, Nat.le_of_ble_eq_true rfl⟩ hP hD [0, 3, 4, 5, 6, 7, 8, 1, 2] rfl rfl rfl rfl hl rfl rfl (Nat.le_of_ble_eq_true rfl) dX0_readStatement_88 ⟨Nat.le_refl _, Nat.le_refl _⟩) hP hD hS hA [0, 3, 4, 5, 6, 7, 8, 1, 2] rfl rfl (fun _ => rfl) (fun v16 u19 H locs h hP hD hS => ?_)
          obtain ⟨s17, s18⟩ := u19
          replace hP : va_P D vwCl (wX0 K h0 a0 s17 ++ (wX3 K (a0 0) a1 r1 ++ (wX1 K (a0 1) a2 s18))) H := hP
          replace hD : va_D A (wX0 K h0 a0 s17 ++ (wX3 K (a0 0) a1 r1 ++ (wX1 K (a0 1) a2 s18))) := hD
          exact xrw_z C (s17, s18) (And.left h) (And.right h) hP hS dX0_readStatement_91
      · replace h := And.right h c6
        refine lv_aload_n hx hb dX0_readStatement_73 rfl (lv_at hl 0 rfl) ?_
        refine xend_rw_i (wf := fun (u : (zS) × (zS)) => (wX0 K h0 a0 u.1 ++ (wX1 K (a0 1) a2 u.2 ++ (wX3 K (a0 0) a1 r1)))) (xRunV (wc := (wX0 K h0 a0 r0 ++ (wX1 K (a0 1) a2 r2 ++ (wX3 K (a0 0) a1 r1)))) (As := []) (rest := []) C (c_X0_readBar h) k_X0_readBar mw_617 ⟨rfl, rfl⟩ ⟨Nat.le_of_ble_eq_true rfl, Nat.le_of_ble_eq_true rfl⟩ hP hD [0, 3, 4, 5, 6, 7, 8, 1, 2] rfl rfl rfl rfl hl rfl rfl (Nat.le_of_ble_eq_true rfl) dX0_readStatement_74 ⟨Nat.le_refl _, Nat.le_refl _⟩) hP hD hS hA [0, 3, 4, 5, 6, 7, 8, 1, 2] rfl rfl (fun _ => rfl) (fun v20 u23 H locs h hP hD hS => ?_)
        obtain ⟨s21, s22⟩ := u23
        replace hP : va_P D vwCl (wX0 K h0 a0 s21 ++ (wX3 K (a0 0) a1 r1 ++ (wX1 K (a0 1) a2 s22))) H := hP
        replace hD : va_D A (wX0 K h0 a0 s21 ++ (wX3 K (a0 0) a1 r1 ++ (wX1 K (a0 1) a2 s22))) := hD
        exact xrw_z C (s21, s22) (And.left h) (And.right h) hP hS dX0_readStatement_77
    · replace h := And.right h c4
      refine lv_aload_n hx hb dX0_readStatement_41 rfl (lv_at hl 0 rfl) ?_
      refine va_get (D := D) (ci := 0) (v := .ref (a0 1)) (C := RX0) (T := TX0) (N := 5) hx hb hts inlX0 hown hK hP 0 rfl rfl 1 (by decide) (hts (.fieldLink RX0 25 "UnderTheDesks$Lesson" "room" "LUnderTheDesks$Room;") mw_85) (fun _ h9 => h9) rfl dX0_readStatement_42 ?_
      refine xend_ro_i (xRunV (wc := (wX1 K (a0 1) a2 r2)) (As := []) (rest := []) C (c_X1_isFull h) k_X1_isFull mw_605 ⟨rfl, rfl⟩ ⟨Nat.le_of_ble_eq_true rfl, Nat.le_of_ble_eq_true rfl⟩ hP hD [3, 4, 5, 6, 7, 8] rfl rfl rfl rfl hl rfl rfl (Nat.le_of_ble_eq_true rfl) dX0_readStatement_45 ⟨Nat.le_refl _, Nat.le_refl _⟩) (fun v24 h => ?_)
      refine lv_if_ne (tgt := 62) hx hb dX0_readStatement_48 (by decide) (fun c25 => ?_) (fun c25 => ?_)
      · replace h := And.right h c25
        refine lv_iconst (v := 0) hx hb dX0_readStatement_62 (by decide) ?_
        exact xrw_z C (r0, r2) rfl h hP hS dX0_readStatement_63
      · replace h := And.left h c25
        refine lv_aload_n hx hb dX0_readStatement_51 rfl (lv_at hl 0 rfl) ?_
        refine xend_rw_i_id (wf := fun (u : (zS) × (zS)) => (wX0 K h0 a0 u.1 ++ (wX3 K (a0 0) a1 r1 ++ (wX1 K (a0 1) a2 u.2)))) (xRunV_id (As := []) (rest := []) C (c_X0_readPupil h) k_X0_readPupil mw_606 ⟨rfl, rfl⟩ ⟨Nat.le_of_ble_eq_true rfl, Nat.le_of_ble_eq_true rfl⟩ hP hD rfl rfl hl rfl rfl (Nat.le_of_ble_eq_true rfl) dX0_readStatement_52 ⟨Nat.le_refl _, Nat.le_refl _⟩) hD hS hA (fun _ => rfl) (fun v26 u29 H locs h hP hD hS => ?_)
        obtain ⟨s27, s28⟩ := u29
        refine lv_if_eq (tgt := 62) hx hb dX0_readStatement_55 (by decide) (fun c30 => ?_) (fun c30 => ?_)
        · replace h := And.left h c30
          refine lv_iconst (v := 0) hx hb dX0_readStatement_62 (by decide) ?_
          exact xrw_z C (s27, s28) rfl h hP hS dX0_readStatement_63
        · replace h := And.right h c30
          refine lv_iconst (v := 1) hx hb dX0_readStatement_58 (by decide) ?_
          refine lv_goto (tgt := 63) hx hb dX0_readStatement_59 (by decide) ?_
          exact xrw_z C (s27, s28) rfl h hP hS dX0_readStatement_63
  · replace h := And.right h c2
    refine lv_aload_n hx hb dX0_readStatement_9 rfl (lv_at hl 0 rfl) ?_
    refine va_get (D := D) (ci := 0) (v := .ref (a0 1)) (C := RX0) (T := TX0) (N := 5) hx hb hts inlX0 hown hK hP 0 rfl rfl 1 (by decide) (hts (.fieldLink RX0 25 "UnderTheDesks$Lesson" "room" "LUnderTheDesks$Room;") mw_85) (fun _ h9 => h9) rfl dX0_readStatement_10 ?_
    refine va_get (D := D) (ci := 1) (v := .int (r2.1 1)) (C := RX1) (T := TX1) (N := 10) hx hb hts inlX1 hown hK hP 3 rfl rfl 1 (by decide) (hts (.fieldLink RX0 42 "UnderTheDesks$Room" "count" "I") mw_542) (fun _ h9 => h9) rfl dX0_readStatement_13 ?_
    refine lv_if_ne (tgt := 30) hx hb dX0_readStatement_16 (by decide) (fun c31 => ?_) (fun c31 => ?_)
    · replace h := And.right h c31
      refine lv_iconst (v := 0) hx hb dX0_readStatement_30 (by decide) ?_
      exact xrw_z C (r0, r2) rfl h hP hS dX0_readStatement_31
    · replace h := And.left h c31
      refine lv_aload_n hx hb dX0_readStatement_19 rfl (lv_at hl 0 rfl) ?_
      refine xend_rw_i_id (wf := fun (u : (zS) × (zS)) => (wX0 K h0 a0 u.1 ++ (wX3 K (a0 0) a1 r1 ++ (wX1 K (a0 1) a2 u.2)))) (xRunV_id (As := []) (rest := []) C (c_X0_readRows h) k_X0_readRows mw_596 ⟨rfl, rfl⟩ ⟨Nat.le_of_ble_eq_true rfl, Nat.le_of_ble_eq_true rfl⟩ hP hD rfl rfl hl rfl rfl (Nat.le_of_ble_eq_true rfl) dX0_readStatement_20 ⟨Nat.le_refl _, Nat.le_refl _⟩) hD hS hA (fun _ => rfl) (fun v32 u35 H locs h hP hD hS => ?_)
      obtain ⟨s33, s34⟩ := u35
      refine lv_if_eq (tgt := 30) hx hb dX0_readStatement_23 (by decide) (fun c36 => ?_) (fun c36 => ?_)
      · replace h := And.left h c36
        refine lv_iconst (v := 0) hx hb dX0_readStatement_30 (by decide) ?_
        exact xrw_z C (s33, s34) rfl h hP hS dX0_readStatement_31
      · replace h := And.right h c36
        refine lv_iconst (v := 1) hx hb dX0_readStatement_26 (by decide) ?_
        refine lv_goto (tgt := 31) hx hb dX0_readStatement_27 (by decide) ?_
        exact xrw_z C (s33, s34) rfl h hP hS dX0_readStatement_31

def wb_X0_read_7 (r1 : zS) (post : Int32 → (zS) → (zS) → Prop) (ih : (zS) → (zS) → Int32 → Prop) (r0 : zS) (r2 : zS) (x1 : Int32) : Prop :=
  ((250 : Int32) < x1 → post (-1 : Int32) r0 r2) ∧ (¬ (250 : Int32) < x1 → wp_X0_next r0 r1 (fun s3 => wp_X0_readStatement s3 r1 r2 (fun v4 s5 s6 => (v4 = 0 → post (-1 : Int32) s5 s6) ∧ (¬ v4 = 0 → wp_X0_next s5 r1 (fun s10 => ((s10.1 4) = 0 → post x1 s10 s6) ∧ (¬ (s10.1 4) = 0 → ((s10.1 4) = (3 : Int32) → ∀ v13 : Int32, v13 = x1 + (1 : Int32) → ih s10 s6 v13) ∧ (¬ (s10.1 4) = (3 : Int32) → post (-1 : Int32) s10 s6)))))))
def wp_X0_read_7 (r1 : zS) (post : Int32 → (zS) → (zS) → Prop) (n : Nat) : (zS) → (zS) → Int32 → Prop := Nat.rec (motive := fun _ => (zS) → (zS) → Int32 → Prop) (fun _ _ _ => False) (fun _ ih => wb_X0_read_7 r1 post ih) n
theorem wu_X0_read_7 (r1 : zS) (post : Int32 → (zS) → (zS) → Prop) (n : Nat) (r0 : zS) (r2 : zS) (x1 : Int32) : wp_X0_read_7 r1 post (n + 1) r0 r2 x1 = wb_X0_read_7 r1 post (wp_X0_read_7 r1 post n) r0 r2 x1 := rfl
def wp_X0_read (r0 : zS) (r1 : zS) (r2 : zS) (post : Int32 → (zS) → (zS) → Prop) : Prop :=
  ∃ n : Nat, wp_X0_read_7 r1 post n (zI r0 3 (0 : Int32)) r2 (1 : Int32)
set_option maxHeartbeats 4000000 in
set_option maxRecDepth 100000 in
theorem t_X0_read_7 {p : Program} {l : Launch} {e : Env} {s : State} {m : MethodId} {args : Array Value} {below : List Frame} {meth : Method} {c : Code} {D : va_G} {K : Nat → ClassId} {h0 : Nat} {a0 : Nat → Nat} {a1 : Nat → Nat} {r1 : zS} {a2 : Nat → Nat} {post : Int32 → (zS) → (zS) → Prop} {A : Nat → Prop} (C : xC p s m args meth c cX0_read RX0 2 (some .int) D vwCl (xty K)) {adK adV : Nat → Nat} (hE : zE adK adV A s s.heap) (hA : ∀ q, s.heap.size ≤ q → A q) : ∀ (n : Nat) (r0 : zS) (r2 : zS) (x1 : Int32) (H : Heap) (locs : List Loc) (ls : Array Slot), lv_has ls 2 [(0, .ref h0), (1, .int x1)] → va_P D vwCl (wX0 K h0 a0 r0 ++ (wX3 K (a0 0) a1 r1 ++ (wX1 K (a0 1) a2 r2))) H → va_D A (wX0 K h0 a0 r0 ++ (wX3 K (a0 0) a1 r1 ++ (wX1 K (a0 1) a2 r2))) → va_S A s.heap H locs → wp_X0_read_7 r1 post n r0 r2 x1 → W p l e ({ frames := 6, cells := 0, slots := 0, locals := 190 } : Room) s m args below meth c H locs 0 0 (MQ below (va_Qi (fun r (u : (zS) × (zS)) => post r u.1 u.2) (fun (u : (zS) × (zS)) t => va_P D vwCl (wX0 K h0 a0 u.1 ++ (wX3 K (a0 0) a1 r1 ++ (wX1 K (a0 1) a2 u.2))) t.heap) A) args s 0 0 A) (F0 m 7 ls []) := by
  obtain ⟨hx, hb, hr, hml, hown, hts, hlocks, hK, hT⟩ := id C
  intro n
  induction n with
  | zero =>
    intro r0 r2 x1 H locs ls hl hP hD hS h
    exact False.elim h
  | succ n ihn =>
    intro r0 r2 x1 H locs ls hl hP hD hS h
    rw [wu_X0_read_7] at h
    unfold wb_X0_read_7 at h
    refine lv_iload_n hx hb dX0_read_7 rfl (lv_at hl 1 rfl) ?_
    refine lv_sipush (v := 250) hx hb dX0_read_8 (by decide) ?_
    refine lv_icmp_gt (tgt := 56) hx hb dX0_read_11 (by decide) (fun c1 => ?_) (fun c1 => ?_)
    · replace h := And.left h c1
      refine lv_iconst (v := -1) hx hb dX0_read_56 (by decide) ?_
      exact xrw_i C (r0, r2) h hP hS dX0_read_57
    · replace h := And.right h c1
      refine lv_aload_n hx hb dX0_read_14 rfl (lv_at hl 0 rfl) ?_
      refine xend_rw_v (wf := fun (u : (zS)) => (wX0 K h0 a0 u ++ (wX3 K (a0 0) a1 r1))) (xRunV (wc := (wX0 K h0 a0 r0 ++ (wX3 K (a0 0) a1 r1))) (As := []) (rest := []) C (c_X0_next h) k_X0_next mw_526 ⟨rfl, rfl⟩ ⟨Nat.le_of_ble_eq_true rfl, Nat.le_of_ble_eq_true rfl⟩ hP hD [0, 1, 2] rfl rfl rfl rfl hl rfl rfl (Nat.le_of_ble_eq_true rfl) dX0_read_15 ⟨Nat.le_refl _, Nat.le_refl _⟩) hP hD hS hA [0, 1, 2] rfl rfl (fun _ => rfl) (fun s3 H locs h hP hD hS => ?_)
      replace hP : va_P D vwCl (wX0 K h0 a0 s3 ++ (wX3 K (a0 0) a1 r1 ++ (wX1 K (a0 1) a2 r2))) H := hP
      replace hD : va_D A (wX0 K h0 a0 s3 ++ (wX3 K (a0 0) a1 r1 ++ (wX1 K (a0 1) a2 r2))) := hD
      refine lv_aload_n hx hb dX0_read_18 rfl (lv_at hl 0 rfl) ?_
      refine xend_rw_i_id (wf := fun (u : (zS) × (zS)) => (wX0 K h0 a0 u.1 ++ (wX3 K (a0 0) a1 r1 ++ (wX1 K (a0 1) a2 u.2)))) (xRunVE_id (As := []) (rest := []) C hE hS hA (c_X0_readStatement h) k_X0_readStatement mw_538 ⟨rfl, rfl⟩ ⟨Nat.le_of_ble_eq_true rfl, Nat.le_of_ble_eq_true rfl⟩ hP hD (fun hw => va_recv hK hw (ci := 0) (q0 := 0) rfl rfl) hl rfl rfl (Nat.le_of_ble_eq_true rfl) dX0_read_19 ⟨Nat.le_refl _, Nat.le_refl _⟩) hD hS hA (fun _ => rfl) (fun v4 u7 H locs h hP hD hS => ?_)
      obtain ⟨s5, s6⟩ := u7
      refine lv_if_ne (tgt := 27) hx hb dX0_read_22 (by decide) (fun c8 => ?_) (fun c8 => ?_)
      · replace h := And.right h c8
        refine lv_aload_n hx hb dX0_read_27 rfl (lv_at hl 0 rfl) ?_
        refine xend_rw_v (wf := fun (u : (zS)) => (wX0 K h0 a0 u ++ (wX3 K (a0 0) a1 r1))) (xRunV (wc := (wX0 K h0 a0 s5 ++ (wX3 K (a0 0) a1 r1))) (As := []) (rest := []) C (c_X0_next h) k_X0_next mw_526 ⟨rfl, rfl⟩ ⟨Nat.le_of_ble_eq_true rfl, Nat.le_of_ble_eq_true rfl⟩ hP hD [0, 1, 2] rfl rfl rfl rfl hl rfl rfl (Nat.le_of_ble_eq_true rfl) dX0_read_28 ⟨Nat.le_refl _, Nat.le_refl _⟩) hP hD hS hA [0, 1, 2] rfl rfl (fun _ => rfl) (fun s10 H locs h hP hD hS => ?_)
        replace hP : va_P D vwCl (wX0 K h0 a0 s10 ++ (wX3 K (a0 0) a1 r1 ++ (wX1 K (a0 1) a2 s6))) H := hP
        replace hD : va_D A (wX0 K h0 a0 s10 ++ (wX3 K (a0 0) a1 r1 ++ (wX1 K (a0 1) a2 s6))) := hD
        refine lv_aload_n hx hb dX0_read_31 rfl (lv_at hl 0 rfl) ?_
        refine va_get (D := D) (ci := 0) (v := .int (s10.1 4)) (C := RX0) (T := TX0) (N := 5) hx hb hts inlX0 hown hK hP 0 rfl rfl 4 (by decide) (hts (.fieldLink RX0 18 "UnderTheDesks$Lesson" "token" "I") mw_83) (fun _ h9 => h9) rfl dX0_read_32 ?_
        refine lv_if_ne (tgt := 40) hx hb dX0_read_35 (by decide) (fun c11 => ?_) (fun c11 => ?_)
        · replace h := And.right h c11
          refine lv_aload_n hx hb dX0_read_40 rfl (lv_at hl 0 rfl) ?_
          refine va_get (D := D) (ci := 0) (v := .int (s10.1 4)) (C := RX0) (T := TX0) (N := 5) hx hb hts inlX0 hown hK hP 0 rfl rfl 4 (by decide) (hts (.fieldLink RX0 18 "UnderTheDesks$Lesson" "token" "I") mw_83) (fun _ h9 => h9) rfl dX0_read_41 ?_
          refine lv_iconst (v := 3) hx hb dX0_read_44 (by decide) ?_
          refine lv_icmp_eq (tgt := 50) hx hb dX0_read_45 (by decide) (fun c12 => ?_) (fun c12 => ?_)
          · replace h := And.left h c12
            obtain ⟨v13, ev13⟩ : ∃ y : Int32, y = x1 + (1 : Int32) := ⟨_, rfl⟩
            replace h := h v13 ev13
            refine lv_iinc (v := v13) (lv' := [(1, .int v13), (0, .ref h0)]) hx hb dX0_read_50 hl (k := 1) rfl (by rw [ev13]; rfl) (by decide) rfl (fun ls hl => ?_)
            refine lv_goto (tgt := 7) hx hb dX0_read_53 (by decide) ?_
            exact ihn _ _ _ _ _ _ (lv_sub hl [1, 0] rfl) hP hD hS h
          · replace h := And.right h c12
            refine lv_iconst (v := -1) hx hb dX0_read_48 (by decide) ?_
            exact xrw_i C (s10, s6) h hP hS dX0_read_49
        · replace h := And.left h c11
          refine lv_iload_n hx hb dX0_read_38 rfl (lv_at hl 1 rfl) ?_
          exact xrw_i C (s10, s6) h hP hS dX0_read_39
      · replace h := And.left h c8
        refine lv_iconst (v := -1) hx hb dX0_read_25 (by decide) ?_
        exact xrw_i C (s5, s6) h hP hS dX0_read_26
set_option maxHeartbeats 4000000 in
set_option maxRecDepth 100000 in
theorem c_X0_read {l : Launch} {D : va_G} {K : Nat → ClassId} {h0 : Nat} {a0 : Nat → Nat} {r0 : zS} {a1 : Nat → Nat} {r1 : zS} {a2 : Nat → Nat} {r2 : zS}  {adK adV : Nat → Nat} {sz : Nat} {post : Int32 → (zS) → (zS) → Prop}   (h : wp_X0_read r0 r1 r2 post) : Met l yX0_read (Cond.code yX0_read cX0_read 2 (some .int) :: wsL_law) ({ frames := 6, cells := 0, slots := 0, locals := 190 } : Room) (va_Pc [.ref h0] (xPreE D vwCl (xty K) (wX0 K h0 a0 r0 ++ (wX3 K (a0 0) a1 r1 ++ (wX1 K (a0 1) a2 r2))) sz adK adV)) (va_Qi (fun r (u : (zS) × (zS)) => post r u.1 u.2) (fun (u : (zS) × (zS)) t => va_P D vwCl (wX0 K h0 a0 u.1 ++ (wX3 K (a0 0) a1 r1 ++ (wX1 K (a0 1) a2 u.2))) t.heap) (va_A (wX0 K h0 a0 r0 ++ (wX3 K (a0 0) a1 r1 ++ (wX1 K (a0 1) a2 r2))) sz)) 0 0 (va_A (wX0 K h0 a0 r0 ++ (wX3 K (a0 0) a1 r1 ++ (wX1 K (a0 1) a2 r2))) sz) := by
  refine xMetE (by decide) rfl (Nat.le_of_ble_eq_true rfl) (fun p e s m args below meth c C hnm hP hD hsz ls hl hE => ?_)
  have hl : lv_has ls 2 [(0, .ref h0)] := hl
  obtain ⟨hx, hb, hr, hml, hown, hts, hlocks, hK, hT⟩ := id C
  subst hsz
  generalize hAe : va_A (wX0 K h0 a0 r0 ++ (wX3 K (a0 0) a1 r1 ++ (wX1 K (a0 1) a2 r2))) s.heap.size = A at hD hE ⊢
  have hA : ∀ q : Nat, s.heap.size ≤ q → A q := fun q h => by rw [← hAe]; exact Or.inr h
  have hS : va_S A s.heap s.heap [] := va_S.rf
  have hP : va_P D vwCl (wX0 K h0 a0 r0 ++ (wX3 K (a0 0) a1 r1 ++ (wX1 K (a0 1) a2 r2))) s.heap := hP
  unfold wp_X0_read at h
  refine lv_aload_n hx hb dX0_read_0 rfl (lv_at hl 0 rfl) ?_
  refine lv_iconst (v := 0) hx hb dX0_read_1 (by decide) ?_
  refine va_put (D := D) (ci := 0) (v := .int (0 : Int32)) (ty := .int) (C := RX0) (T := TX0) (N := 5) hx hb hts inlX0 tyX0 tyX0_ok nmX0 hown hK hP hD hS 0 rfl rfl 3 (by decide) (hts (.fieldLink RX0 15 "UnderTheDesks$Lesson" "place" "I") mw_82) (fun _ h9 => h9) rfl (by decide +kernel) rfl rfl (Nat.le_of_ble_eq_true rfl) dX0_read_2 (fun H locs hP hD hS => ?_)
  replace hP : va_P D vwCl (wX0 K h0 a0 (zI r0 3 (0 : Int32)) ++ (wX3 K (a0 0) a1 r1 ++ (wX1 K (a0 1) a2 r2))) H := hP
  replace hD : va_D A (wX0 K h0 a0 (zI r0 3 (0 : Int32)) ++ (wX3 K (a0 0) a1 r1 ++ (wX1 K (a0 1) a2 r2))) := hD
  refine lv_iconst (v := 1) hx hb dX0_read_5 (by decide) ?_
  refine lv_istore_n (lv' := [(1, .int (1 : Int32)), (0, .ref h0)]) hx hb dX0_read_6 rfl hl (by decide) rfl (fun ls hl => ?_)
  obtain ⟨n0, h⟩ := h
  exact t_X0_read_7 C hE hA n0 _ _ _ _ _ _ (lv_sub hl [1, 0] rfl) hP hD hS h
