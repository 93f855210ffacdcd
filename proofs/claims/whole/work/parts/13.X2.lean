def wb_X2_holdRow_26 (p1 : Int32) (p2 : Int32) (post : (zS) → Prop) (ih : (zS) → Int32 → Prop) (r0 : zS) (x3 : Int32) : Prop :=
  ((40 : Int32) ≤ x3 → post r0) ∧ (¬ (40 : Int32) ≤ x3 → vp_in x3 40 ∧ (∀ j3 : Nat, j3 = x3.toNatClampNeg → ∀ v4 : Int32, v4 = x3 + (1 : Int32) → ih (zL r0 2 j3 (0 : Int64)) v4))
def wp_X2_holdRow_26 (p1 : Int32) (p2 : Int32) (post : (zS) → Prop) (n : Nat) : (zS) → Int32 → Prop := Nat.rec (motive := fun _ => (zS) → Int32 → Prop) (fun _ _ => False) (fun _ ih => wb_X2_holdRow_26 p1 p2 post ih) n
theorem wu_X2_holdRow_26 (p1 : Int32) (p2 : Int32) (post : (zS) → Prop) (n : Nat) (r0 : zS) (x3 : Int32) : wp_X2_holdRow_26 p1 p2 post (n + 1) r0 x3 = wb_X2_holdRow_26 p1 p2 post (wp_X2_holdRow_26 p1 p2 post n) r0 x3 := rfl
def wp_X2_holdRow_21 (p1 : Int32) (p2 : Int32) (post : (zS) → Prop) (r0 : zS) (y0 : Int32) : Prop :=
  ∃ n : Nat, wp_X2_holdRow_26 p1 p2 post n (zI r0 1 y0) (0 : Int32)
def wp_X2_holdRow_20 (p1 : Int32) (p2 : Int32) (post : (zS) → Prop) (r0 : zS) : Prop :=
  wp_X2_holdRow_21 p1 p2 post r0 (0 : Int32)
def wp_X2_holdRow (r0 : zS) (p1 : Int32) (p2 : Int32) (post : (zS) → Prop) : Prop :=
  (p2 < 0 → wp_X2_holdRow_20 p1 p2 post (zI r0 0 p1)) ∧ (¬ p2 < 0 → ((40 : Int32) < p2 → wp_X2_holdRow_20 p1 p2 post (zI r0 0 p1)) ∧ (¬ (40 : Int32) < p2 → wp_X2_holdRow_21 p1 p2 post (zI r0 0 p1) p2))
set_option maxHeartbeats 4000000 in
set_option maxRecDepth 100000 in
theorem t_X2_holdRow_26 {p : Program} {l : Launch} {e : Env} {s : State} {m : MethodId} {args : Array Value} {below : List Frame} {meth : Method} {c : Code} {D : va_G} {K : Nat → ClassId} {h0 : Nat} {a0 : Nat → Nat} {p1 : Int32} {p2 : Int32} {post : (zS) → Prop} {A : Nat → Prop} (C : xC p s m args meth c cX2_holdRow RX2 4 none D vwCl (xty K)) (hA : ∀ q, s.heap.size ≤ q → A q) : ∀ (n : Nat) (r0 : zS) (x3 : Int32) (H : Heap) (locs : List Loc) (ls : Array Slot), lv_has ls 4 [(0, .ref h0), (3, .int x3)] → va_P D vwCl (wX2 K h0 a0 r0) H → va_D A (wX2 K h0 a0 r0) → va_S A s.heap H locs → wp_X2_holdRow_26 p1 p2 post n r0 x3 → W p l e ({ frames := 0, cells := 0, slots := 0, locals := 0 } : Room) s m args below meth c H locs 0 0 (MQ below (va_Qv (fun (u : (zS)) => post u) (fun (u : (zS)) t => va_P D vwCl (wX2 K h0 a0 u) t.heap) A) args s 0 0 A) (F0 m 26 ls []) := by
  obtain ⟨hx, hb, hr, hml, hown, hts, hlocks, hK, hT⟩ := id C
  intro n
  induction n with
  | zero =>
    intro r0 x3 H locs ls hl hP hD hS h
    exact False.elim h
  | succ n ihn =>
    intro r0 x3 H locs ls hl hP hD hS h
    rw [wu_X2_holdRow_26] at h
    unfold wb_X2_holdRow_26 at h
    refine lv_iload_n hx hb dX2_holdRow_26 rfl (lv_at hl 1 rfl) ?_
    refine lv_bipush (v := 40) hx hb dX2_holdRow_27 (by decide) ?_
    refine lv_icmp_ge (tgt := 45) hx hb dX2_holdRow_29 (by decide) (fun c2 => ?_) (fun c2 => ?_)
    · replace h := And.left h c2
      exact xrw_v C r0 h hP hS dX2_holdRow_45
    · replace h := And.right h c2
      refine lv_aload_n hx hb dX2_holdRow_32 rfl (lv_at hl 0 rfl) ?_
      refine va_get (D := D) (ci := 2) (v := .ref (a0 2)) (C := RX2) (T := TX2) (N := 3) hx hb hts inlX2 hown hK hP 0 rfl rfl 2 (by decide) (hts (.fieldLink RX2 18 "UnderTheDesks$Shelf" "cells" "[J") mw_107) (fun _ h9 => h9) rfl dX2_holdRow_33 ?_
      refine lv_iload_n hx hb dX2_holdRow_36 rfl (lv_at hl 1 rfl) ?_
      refine lv_lconst (v := 0) hx hb dX2_holdRow_37 (by decide) ?_
      have hin := And.left h
      obtain ⟨j3, ej3⟩ : ∃ j : Nat, j = x3.toNatClampNeg := ⟨_, rfl⟩
      replace h := And.right h j3 ej3
      refine xlast hx hb hK hP hD hS 1 1 rfl rfl hin ej3 dX2_holdRow_38 (fun H locs hP hD hS => ?_)
      replace hP : va_P D vwCl (wX2 K h0 a0 (zL r0 2 j3 (0 : Int64))) H := hP
      replace hD : va_D A (wX2 K h0 a0 (zL r0 2 j3 (0 : Int64))) := hD
      obtain ⟨v4, ev4⟩ : ∃ y : Int32, y = x3 + (1 : Int32) := ⟨_, rfl⟩
      replace h := h v4 ev4
      refine lv_iinc (v := v4) (lv' := [(3, .int v4), (0, .ref h0)]) hx hb dX2_holdRow_39 hl (k := 1) rfl (by rw [ev4]; rfl) (by decide) rfl (fun ls hl => ?_)
      refine lv_goto (tgt := 26) hx hb dX2_holdRow_42 (by decide) ?_
      exact ihn _ _ _ _ _ (lv_sub hl [1, 0] rfl) hP hD hS h
set_option maxHeartbeats 4000000 in
set_option maxRecDepth 100000 in
theorem t_X2_holdRow_21 {p : Program} {l : Launch} {e : Env} {s : State} {m : MethodId} {args : Array Value} {below : List Frame} {meth : Method} {c : Code} {D : va_G} {K : Nat → ClassId} {h0 : Nat} {a0 : Nat → Nat} {p1 : Int32} {p2 : Int32} {post : (zS) → Prop} {A : Nat → Prop} (C : xC p s m args meth c cX2_holdRow RX2 4 none D vwCl (xty K)) (hA : ∀ q, s.heap.size ≤ q → A q) : ∀ (r0 : zS) (y0 : Int32) (H : Heap) (locs : List Loc) (ls : Array Slot), lv_has ls 4 [(0, .ref h0)] → va_P D vwCl (wX2 K h0 a0 r0) H → va_D A (wX2 K h0 a0 r0) → va_S A s.heap H locs → wp_X2_holdRow_21 p1 p2 post r0 y0 → W p l e ({ frames := 0, cells := 0, slots := 0, locals := 0 } : Room) s m args below meth c H locs 0 0 (MQ below (va_Qv (fun (u : (zS)) => post u) (fun (u : (zS)) t => va_P D vwCl (wX2 K h0 a0 u) t.heap) A) args s 0 0 A) (F0 m 21 ls [.int y0, .ref h0]) := by
  obtain ⟨hx, hb, hr, hml, hown, hts, hlocks, hK, hT⟩ := id C
  intro r0 y0 H locs ls hl hP hD hS h
  unfold wp_X2_holdRow_21 at h
  refine va_put (D := D) (ci := 2) (v := .int y0) (ty := .int) (C := RX2) (T := TX2) (N := 3) hx hb hts inlX2 tyX2 tyX2_ok nmX2 hown hK hP hD hS 0 rfl rfl 1 (by decide) (hts (.fieldLink RX2 15 "UnderTheDesks$Shelf" "size" "I") mw_105) (fun _ h9 => h9) rfl (by decide +kernel) rfl rfl (Nat.le_of_ble_eq_true rfl) dX2_holdRow_21 (fun H locs hP hD hS => ?_)
  replace hP : va_P D vwCl (wX2 K h0 a0 (zI r0 1 y0)) H := hP
  replace hD : va_D A (wX2 K h0 a0 (zI r0 1 y0)) := hD
  refine lv_iconst (v := 0) hx hb dX2_holdRow_24 (by decide) ?_
  refine lv_istore_n (lv' := [(3, .int (0 : Int32)), (0, .ref h0)]) hx hb dX2_holdRow_25 rfl hl (by decide) rfl (fun ls hl => ?_)
  obtain ⟨n0, h⟩ := h
  exact t_X2_holdRow_26 C hA n0 _ _ _ _ _ (lv_sub hl [1, 0] rfl) hP hD hS h
set_option maxHeartbeats 4000000 in
set_option maxRecDepth 100000 in
theorem t_X2_holdRow_20 {p : Program} {l : Launch} {e : Env} {s : State} {m : MethodId} {args : Array Value} {below : List Frame} {meth : Method} {c : Code} {D : va_G} {K : Nat → ClassId} {h0 : Nat} {a0 : Nat → Nat} {p1 : Int32} {p2 : Int32} {post : (zS) → Prop} {A : Nat → Prop} (C : xC p s m args meth c cX2_holdRow RX2 4 none D vwCl (xty K)) (hA : ∀ q, s.heap.size ≤ q → A q) : ∀ (r0 : zS) (H : Heap) (locs : List Loc) (ls : Array Slot), lv_has ls 4 [(0, .ref h0)] → va_P D vwCl (wX2 K h0 a0 r0) H → va_D A (wX2 K h0 a0 r0) → va_S A s.heap H locs → wp_X2_holdRow_20 p1 p2 post r0 → W p l e ({ frames := 0, cells := 0, slots := 0, locals := 0 } : Room) s m args below meth c H locs 0 0 (MQ below (va_Qv (fun (u : (zS)) => post u) (fun (u : (zS)) t => va_P D vwCl (wX2 K h0 a0 u) t.heap) A) args s 0 0 A) (F0 m 20 ls [.ref h0]) := by
  obtain ⟨hx, hb, hr, hml, hown, hts, hlocks, hK, hT⟩ := id C
  intro r0 H locs ls hl hP hD hS h
  unfold wp_X2_holdRow_20 at h
  refine lv_iconst (v := 0) hx hb dX2_holdRow_20 (by decide) ?_
  exact t_X2_holdRow_21 C hA _ _ _ _ _ (lv_sub hl [0] rfl) hP hD hS h
set_option maxHeartbeats 4000000 in
set_option maxRecDepth 100000 in
theorem c_X2_holdRow {l : Launch} {D : va_G} {K : Nat → ClassId} {h0 : Nat} {a0 : Nat → Nat} {r0 : zS} {p1 : Int32} {p2 : Int32} {sz : Nat} {post : (zS) → Prop}   (h : wp_X2_holdRow r0 p1 p2 post) : Met l yX2_holdRow (Cond.code yX2_holdRow cX2_holdRow 4 none :: wsL_law) ({ frames := 0, cells := 0, slots := 0, locals := 0 } : Room) (va_Pc [.ref h0, .int p1, .int p2] (xPre D vwCl (xty K) (wX2 K h0 a0 r0) sz)) (va_Qv (fun (u : (zS)) => post u) (fun (u : (zS)) t => va_P D vwCl (wX2 K h0 a0 u) t.heap) (va_A (wX2 K h0 a0 r0) sz)) 0 0 (va_A (wX2 K h0 a0 r0) sz) := by
  refine xMet (by decide) rfl (Nat.le_of_ble_eq_true rfl) (fun p e s m args below meth c C hnm hP hD hsz ls hl => ?_)
  have hl : lv_has ls 4 [(0, .ref h0), (1, .int p1), (2, .int p2)] := hl
  obtain ⟨hx, hb, hr, hml, hown, hts, hlocks, hK, hT⟩ := id C
  subst hsz
  generalize hAe : va_A (wX2 K h0 a0 r0) s.heap.size = A at hD ⊢
  have hA : ∀ q : Nat, s.heap.size ≤ q → A q := fun q h => by rw [← hAe]; exact Or.inr h
  have hS : va_S A s.heap s.heap [] := va_S.rf
  have hP : va_P D vwCl (wX2 K h0 a0 r0) s.heap := hP
  unfold wp_X2_holdRow at h
  refine lv_aload_n hx hb dX2_holdRow_0 rfl (lv_at hl 0 rfl) ?_
  refine lv_iload_n hx hb dX2_holdRow_1 rfl (lv_at hl 1 rfl) ?_
  refine va_put (D := D) (ci := 2) (v := .int p1) (ty := .int) (C := RX2) (T := TX2) (N := 3) hx hb hts inlX2 tyX2 tyX2_ok nmX2 hown hK hP hD hS 0 rfl rfl 0 (by decide) (hts (.fieldLink RX2 9 "UnderTheDesks$Shelf" "holding" "I") mw_104) (fun _ h9 => h9) rfl (by decide +kernel) rfl rfl (Nat.le_of_ble_eq_true rfl) dX2_holdRow_2 (fun H locs hP hD hS => ?_)
  replace hP : va_P D vwCl (wX2 K h0 a0 (zI r0 0 p1)) H := hP
  replace hD : va_D A (wX2 K h0 a0 (zI r0 0 p1)) := hD
  refine lv_aload_n hx hb dX2_holdRow_5 rfl (lv_at hl 0 rfl) ?_
  refine lv_iload_n hx hb dX2_holdRow_6 rfl (lv_at hl 2 rfl) ?_
  refine lv_if_lt (tgt := 20) hx hb dX2_holdRow_7 (by decide) (fun c1 => ?_) (fun c1 => ?_)
  · replace h := And.left h c1
    exact t_X2_holdRow_20 C hA _ _ _ _ (lv_sub hl [0] rfl) hP hD hS h
  · replace h := And.right h c1
    refine lv_iload_n hx hb dX2_holdRow_10 rfl (lv_at hl 2 rfl) ?_
    refine lv_bipush (v := 40) hx hb dX2_holdRow_11 (by decide) ?_
    refine lv_icmp_gt (tgt := 20) hx hb dX2_holdRow_13 (by decide) (fun c5 => ?_) (fun c5 => ?_)
    · replace h := And.left h c5
      exact t_X2_holdRow_20 C hA _ _ _ _ (lv_sub hl [0] rfl) hP hD hS h
    · replace h := And.right h c5
      refine lv_iload_n hx hb dX2_holdRow_16 rfl (lv_at hl 2 rfl) ?_
      refine lv_goto (tgt := 21) hx hb dX2_holdRow_17 (by decide) ?_
      exact t_X2_holdRow_21 C hA _ _ _ _ _ (lv_sub hl [0] rfl) hP hD hS h

def wp_X2_holdPupil_13 (p1 : Int32) (post : (zS) → Prop) (r0 : zS) (y0 : Int32) : Prop :=
  post (zI (zI r0 0 y0) 1 (0 : Int32))
def wp_X2_holdPupil (r0 : zS) (p1 : Int32) (post : (zS) → Prop) : Prop :=
  (0 ≤ p1 → wp_X2_holdPupil_13 p1 post r0 ((10 : Int32) + p1)) ∧ (¬ 0 ≤ p1 → wp_X2_holdPupil_13 p1 post r0 (-1 : Int32))
set_option maxHeartbeats 4000000 in
set_option maxRecDepth 100000 in
theorem t_X2_holdPupil_13 {p : Program} {l : Launch} {e : Env} {s : State} {m : MethodId} {args : Array Value} {below : List Frame} {meth : Method} {c : Code} {D : va_G} {K : Nat → ClassId} {h0 : Nat} {a0 : Nat → Nat} {p1 : Int32} {post : (zS) → Prop} {A : Nat → Prop} (C : xC p s m args meth c cX2_holdPupil RX2 2 none D vwCl (xty K)) (hA : ∀ q, s.heap.size ≤ q → A q) : ∀ (r0 : zS) (y0 : Int32) (H : Heap) (locs : List Loc) (ls : Array Slot), lv_has ls 2 [(0, .ref h0)] → va_P D vwCl (wX2 K h0 a0 r0) H → va_D A (wX2 K h0 a0 r0) → va_S A s.heap H locs → wp_X2_holdPupil_13 p1 post r0 y0 → W p l e ({ frames := 0, cells := 0, slots := 0, locals := 0 } : Room) s m args below meth c H locs 0 0 (MQ below (va_Qv (fun (u : (zS)) => post u) (fun (u : (zS)) t => va_P D vwCl (wX2 K h0 a0 u) t.heap) A) args s 0 0 A) (F0 m 13 ls [.int y0, .ref h0]) := by
  obtain ⟨hx, hb, hr, hml, hown, hts, hlocks, hK, hT⟩ := id C
  intro r0 y0 H locs ls hl hP hD hS h
  unfold wp_X2_holdPupil_13 at h
  refine va_put (D := D) (ci := 2) (v := .int y0) (ty := .int) (C := RX2) (T := TX2) (N := 3) hx hb hts inlX2 tyX2 tyX2_ok nmX2 hown hK hP hD hS 0 rfl rfl 0 (by decide) (hts (.fieldLink RX2 9 "UnderTheDesks$Shelf" "holding" "I") mw_104) (fun _ h9 => h9) rfl (by decide +kernel) rfl rfl (Nat.le_of_ble_eq_true rfl) dX2_holdPupil_13 (fun H locs hP hD hS => ?_)
  replace hP : va_P D vwCl (wX2 K h0 a0 (zI r0 0 y0)) H := hP
  replace hD : va_D A (wX2 K h0 a0 (zI r0 0 y0)) := hD
  refine lv_aload_n hx hb dX2_holdPupil_16 rfl (lv_at hl 0 rfl) ?_
  refine lv_iconst (v := 0) hx hb dX2_holdPupil_17 (by decide) ?_
  refine va_put (D := D) (ci := 2) (v := .int (0 : Int32)) (ty := .int) (C := RX2) (T := TX2) (N := 3) hx hb hts inlX2 tyX2 tyX2_ok nmX2 hown hK hP hD hS 0 rfl rfl 1 (by decide) (hts (.fieldLink RX2 15 "UnderTheDesks$Shelf" "size" "I") mw_105) (fun _ h9 => h9) rfl (by decide +kernel) rfl rfl (Nat.le_of_ble_eq_true rfl) dX2_holdPupil_18 (fun H locs hP hD hS => ?_)
  replace hP : va_P D vwCl (wX2 K h0 a0 (zI (zI r0 0 y0) 1 (0 : Int32))) H := hP
  replace hD : va_D A (wX2 K h0 a0 (zI (zI r0 0 y0) 1 (0 : Int32))) := hD
  exact xrw_v C (zI (zI r0 0 y0) 1 (0 : Int32)) h hP hS dX2_holdPupil_21
set_option maxHeartbeats 4000000 in
set_option maxRecDepth 100000 in
theorem c_X2_holdPupil {l : Launch} {D : va_G} {K : Nat → ClassId} {h0 : Nat} {a0 : Nat → Nat} {r0 : zS} {p1 : Int32} {sz : Nat} {post : (zS) → Prop}   (h : wp_X2_holdPupil r0 p1 post) : Met l yX2_holdPupil (Cond.code yX2_holdPupil cX2_holdPupil 2 none :: wsL_law) ({ frames := 0, cells := 0, slots := 0, locals := 0 } : Room) (va_Pc [.ref h0, .int p1] (xPre D vwCl (xty K) (wX2 K h0 a0 r0) sz)) (va_Qv (fun (u : (zS)) => post u) (fun (u : (zS)) t => va_P D vwCl (wX2 K h0 a0 u) t.heap) (va_A (wX2 K h0 a0 r0) sz)) 0 0 (va_A (wX2 K h0 a0 r0) sz) := by
  refine xMet (by decide) rfl (Nat.le_of_ble_eq_true rfl) (fun p e s m args below meth c C hnm hP hD hsz ls hl => ?_)
  have hl : lv_has ls 2 [(0, .ref h0), (1, .int p1)] := hl
  obtain ⟨hx, hb, hr, hml, hown, hts, hlocks, hK, hT⟩ := id C
  subst hsz
  generalize hAe : va_A (wX2 K h0 a0 r0) s.heap.size = A at hD ⊢
  have hA : ∀ q : Nat, s.heap.size ≤ q → A q := fun q h => by rw [← hAe]; exact Or.inr h
  have hS : va_S A s.heap s.heap [] := va_S.rf
  have hP : va_P D vwCl (wX2 K h0 a0 r0) s.heap := hP
  unfold wp_X2_holdPupil at h
  refine lv_aload_n hx hb dX2_holdPupil_0 rfl (lv_at hl 0 rfl) ?_
  refine lv_iload_n hx hb dX2_holdPupil_1 rfl (lv_at hl 1 rfl) ?_
  refine lv_if_ge (tgt := 9) hx hb dX2_holdPupil_2 (by decide) (fun c1 => ?_) (fun c1 => ?_)
  · replace h := And.left h c1
    refine lv_bipush (v := 10) hx hb dX2_holdPupil_9 (by decide) ?_
    refine lv_iload_n hx hb dX2_holdPupil_11 rfl (lv_at hl 1 rfl) ?_
    refine lv_iadd hx hb dX2_holdPupil_12 ?_
    exact t_X2_holdPupil_13 C hA _ _ _ _ _ (lv_sub hl [0] rfl) hP hD hS h
  · replace h := And.right h c1
    refine lv_iconst (v := -1) hx hb dX2_holdPupil_5 (by decide) ?_
    refine lv_goto (tgt := 13) hx hb dX2_holdPupil_6 (by decide) ?_
    exact t_X2_holdPupil_13 C hA _ _ _ _ _ (lv_sub hl [0] rfl) hP hD hS h

def wp_X2_holdsRow (r0 : zS) (post : Int32 → Prop) : Prop :=
  ((r0.1 0) < 0 → post (0 : Int32) ) ∧ (¬ (r0.1 0) < 0 → ((4 : Int32) < (r0.1 0) → post (0 : Int32) ) ∧ (¬ (4 : Int32) < (r0.1 0) → post (1 : Int32) ))
set_option maxHeartbeats 4000000 in
set_option maxRecDepth 100000 in
theorem c_X2_holdsRow {l : Launch} {D : va_G} {K : Nat → ClassId} {h0 : Nat} {a0 : Nat → Nat} {r0 : zS}  {sz : Nat} {post : Int32 → Prop}   (h : wp_X2_holdsRow r0 post) : Met l yX2_holdsRow (Cond.code yX2_holdsRow cX2_holdsRow 1 (some .boolean) :: wsL_law) ({ frames := 0, cells := 0, slots := 0, locals := 0 } : Room) (va_Pc [.ref h0] (xPre D vwCl (xty K) (wX2 K h0 a0 r0) sz)) (roI post) 0 0 (fun _ => False) := by
  refine xMet (by decide) rfl (Nat.le_of_ble_eq_true rfl) (fun p e s m args below meth c C hnm hP hD hsz ls hl => ?_)
  have hl : lv_has ls 1 [(0, .ref h0)] := hl
  obtain ⟨hx, hb, hr, hml, hown, hts, hlocks, hK, hT⟩ := id C
  unfold wp_X2_holdsRow at h
  refine lv_aload_n hx hb dX2_holdsRow_0 rfl (lv_at hl 0 rfl) ?_
  refine va_get (D := D) (ci := 2) (v := .int (r0.1 0)) (C := RX2) (T := TX2) (N := 3) hx hb hts inlX2 hown hK hP 0 rfl rfl 0 (by decide) (hts (.fieldLink RX2 9 "UnderTheDesks$Shelf" "holding" "I") mw_104) (fun _ h9 => h9) rfl dX2_holdsRow_1 ?_
  refine lv_if_lt (tgt := 19) hx hb dX2_holdsRow_4 (by decide) (fun c1 => ?_) (fun c1 => ?_)
  · replace h := And.left h c1
    refine lv_iconst (v := 0) hx hb dX2_holdsRow_19 (by decide) ?_
    exact xro_z C rfl h dX2_holdsRow_20
  · replace h := And.right h c1
    refine lv_aload_n hx hb dX2_holdsRow_7 rfl (lv_at hl 0 rfl) ?_
    refine va_get (D := D) (ci := 2) (v := .int (r0.1 0)) (C := RX2) (T := TX2) (N := 3) hx hb hts inlX2 hown hK hP 0 rfl rfl 0 (by decide) (hts (.fieldLink RX2 9 "UnderTheDesks$Shelf" "holding" "I") mw_104) (fun _ h9 => h9) rfl dX2_holdsRow_8 ?_
    refine lv_iconst (v := 4) hx hb dX2_holdsRow_11 (by decide) ?_
    refine lv_icmp_gt (tgt := 19) hx hb dX2_holdsRow_12 (by decide) (fun c2 => ?_) (fun c2 => ?_)
    · replace h := And.left h c2
      refine lv_iconst (v := 0) hx hb dX2_holdsRow_19 (by decide) ?_
      exact xro_z C rfl h dX2_holdsRow_20
    · replace h := And.right h c2
      refine lv_iconst (v := 1) hx hb dX2_holdsRow_15 (by decide) ?_
      refine lv_goto (tgt := 20) hx hb dX2_holdsRow_16 (by decide) ?_
      exact xro_z C rfl h dX2_holdsRow_20

def wp_X2_holdsPupil (r0 : zS) (post : Int32 → Prop) : Prop :=
  ((r0.1 0) < (10 : Int32) → post (0 : Int32) ) ∧ (¬ (r0.1 0) < (10 : Int32) → post (1 : Int32) )
set_option maxHeartbeats 4000000 in
set_option maxRecDepth 100000 in
theorem c_X2_holdsPupil {l : Launch} {D : va_G} {K : Nat → ClassId} {h0 : Nat} {a0 : Nat → Nat} {r0 : zS}  {sz : Nat} {post : Int32 → Prop}   (h : wp_X2_holdsPupil r0 post) : Met l yX2_holdsPupil (Cond.code yX2_holdsPupil cX2_holdsPupil 1 (some .boolean) :: wsL_law) ({ frames := 0, cells := 0, slots := 0, locals := 0 } : Room) (va_Pc [.ref h0] (xPre D vwCl (xty K) (wX2 K h0 a0 r0) sz)) (roI post) 0 0 (fun _ => False) := by
  refine xMet (by decide) rfl (Nat.le_of_ble_eq_true rfl) (fun p e s m args below meth c C hnm hP hD hsz ls hl => ?_)
  have hl : lv_has ls 1 [(0, .ref h0)] := hl
  obtain ⟨hx, hb, hr, hml, hown, hts, hlocks, hK, hT⟩ := id C
  unfold wp_X2_holdsPupil at h
  refine lv_aload_n hx hb dX2_holdsPupil_0 rfl (lv_at hl 0 rfl) ?_
  refine va_get (D := D) (ci := 2) (v := .int (r0.1 0)) (C := RX2) (T := TX2) (N := 3) hx hb hts inlX2 hown hK hP 0 rfl rfl 0 (by decide) (hts (.fieldLink RX2 9 "UnderTheDesks$Shelf" "holding" "I") mw_104) (fun _ h9 => h9) rfl dX2_holdsPupil_1 ?_
  refine lv_bipush (v := 10) hx hb dX2_holdsPupil_4 (by decide) ?_
  refine lv_icmp_lt (tgt := 13) hx hb dX2_holdsPupil_6 (by decide) (fun c1 => ?_) (fun c1 => ?_)
  · replace h := And.left h c1
    refine lv_iconst (v := 0) hx hb dX2_holdsPupil_13 (by decide) ?_
    exact xro_z C rfl h dX2_holdsPupil_14
  · replace h := And.right h c1
    refine lv_iconst (v := 1) hx hb dX2_holdsPupil_9 (by decide) ?_
    refine lv_goto (tgt := 14) hx hb dX2_holdsPupil_10 (by decide) ?_
    exact xro_z C rfl h dX2_holdsPupil_14

def wp_X2_heldPupil (r0 : zS) (post : Int32 → Prop) : Prop :=
  wp_X2_holdsPupil r0 (fun v1 => (v1 = 0 → post (-1 : Int32) ) ∧ (¬ v1 = 0 → post ((r0.1 0) - (10 : Int32)) ))
set_option maxHeartbeats 4000000 in
set_option maxRecDepth 100000 in
theorem c_X2_heldPupil {l : Launch} {D : va_G} {K : Nat → ClassId} {h0 : Nat} {a0 : Nat → Nat} {r0 : zS}  {sz : Nat} {post : Int32 → Prop}   (h : wp_X2_heldPupil r0 post) : Met l yX2_heldPupil (Cond.code yX2_heldPupil cX2_heldPupil 1 (some .int) :: wsL_law) ({ frames := 1, cells := 0, slots := 0, locals := 20 } : Room) (va_Pc [.ref h0] (xPre D vwCl (xty K) (wX2 K h0 a0 r0) sz)) (roI post) 0 0 (fun _ => False) := by
  refine xMet (by decide) rfl (Nat.le_of_ble_eq_true rfl) (fun p e s m args below meth c C hnm hP hD hsz ls hl => ?_)
  have hl : lv_has ls 1 [(0, .ref h0)] := hl
  obtain ⟨hx, hb, hr, hml, hown, hts, hlocks, hK, hT⟩ := id C
  unfold wp_X2_heldPupil at h
  refine lv_aload_n hx hb dX2_heldPupil_0 rfl (lv_at hl 0 rfl) ?_
  refine xend_ro_i (xRunV_id (As := []) (rest := []) C (c_X2_holdsPupil h) k_X2_holdsPupil mw_278 ⟨rfl, rfl⟩ ⟨Nat.le_of_ble_eq_true rfl, Nat.le_of_ble_eq_true rfl⟩ hP hD rfl rfl hl rfl rfl (Nat.le_of_ble_eq_true rfl) dX2_heldPupil_1 ⟨Nat.le_refl _, Nat.le_refl _⟩) (fun v1 h => ?_)
  refine lv_if_eq (tgt := 17) hx hb dX2_heldPupil_4 (by decide) (fun c2 => ?_) (fun c2 => ?_)
  · replace h := And.left h c2
    refine lv_iconst (v := -1) hx hb dX2_heldPupil_17 (by decide) ?_
    exact xro_i C h dX2_heldPupil_18
  · replace h := And.right h c2
    refine lv_aload_n hx hb dX2_heldPupil_7 rfl (lv_at hl 0 rfl) ?_
    refine va_get (D := D) (ci := 2) (v := .int (r0.1 0)) (C := RX2) (T := TX2) (N := 3) hx hb hts inlX2 hown hK hP 0 rfl rfl 0 (by decide) (hts (.fieldLink RX2 9 "UnderTheDesks$Shelf" "holding" "I") mw_104) (fun _ h9 => h9) rfl dX2_heldPupil_8 ?_
    refine lv_bipush (v := 10) hx hb dX2_heldPupil_11 (by decide) ?_
    refine lv_isub hx hb dX2_heldPupil_13 ?_
    refine lv_goto (tgt := 18) hx hb dX2_heldPupil_14 (by decide) ?_
    exact xro_i C h dX2_heldPupil_18

def wp_X2_hasPlaces (r0 : zS) (p1 : Int32) (p2 : Int32) (post : Int32 → Prop) : Prop :=
  (p1 < 0 → post (0 : Int32) ) ∧ (¬ p1 < 0 → (p2 < 0 → post (0 : Int32) ) ∧ (¬ p2 < 0 → ((r0.1 1) < p2 → post (0 : Int32) ) ∧ (¬ (r0.1 1) < p2 → (((r0.1 1) - p2) < p1 → post (0 : Int32) ) ∧ (¬ ((r0.1 1) - p2) < p1 → post (1 : Int32) ))))
set_option maxHeartbeats 4000000 in
set_option maxRecDepth 100000 in
theorem c_X2_hasPlaces {l : Launch} {D : va_G} {K : Nat → ClassId} {h0 : Nat} {a0 : Nat → Nat} {r0 : zS} {p1 : Int32} {p2 : Int32} {sz : Nat} {post : Int32 → Prop}   (h : wp_X2_hasPlaces r0 p1 p2 post) : Met l yX2_hasPlaces (Cond.code yX2_hasPlaces cX2_hasPlaces 3 (some .boolean) :: wsL_law) ({ frames := 0, cells := 0, slots := 0, locals := 0 } : Room) (va_Pc [.ref h0, .int p1, .int p2] (xPre D vwCl (xty K) (wX2 K h0 a0 r0) sz)) (roI post) 0 0 (fun _ => False) := by
  refine xMet (by decide) rfl (Nat.le_of_ble_eq_true rfl) (fun p e s m args below meth c C hnm hP hD hsz ls hl => ?_)
  have hl : lv_has ls 3 [(0, .ref h0), (1, .int p1), (2, .int p2)] := hl
  obtain ⟨hx, hb, hr, hml, hown, hts, hlocks, hK, hT⟩ := id C
  unfold wp_X2_hasPlaces at h
  refine lv_iload_n hx hb dX2_hasPlaces_0 rfl (lv_at hl 1 rfl) ?_
  refine lv_if_lt (tgt := 30) hx hb dX2_hasPlaces_1 (by decide) (fun c1 => ?_) (fun c1 => ?_)
  · replace h := And.left h c1
    refine lv_iconst (v := 0) hx hb dX2_hasPlaces_30 (by decide) ?_
    exact xro_z C rfl h dX2_hasPlaces_31
  · replace h := And.right h c1
    refine lv_iload_n hx hb dX2_hasPlaces_4 rfl (lv_at hl 2 rfl) ?_
    refine lv_if_lt (tgt := 30) hx hb dX2_hasPlaces_5 (by decide) (fun c2 => ?_) (fun c2 => ?_)
    · replace h := And.left h c2
      refine lv_iconst (v := 0) hx hb dX2_hasPlaces_30 (by decide) ?_
      exact xro_z C rfl h dX2_hasPlaces_31
    · replace h := And.right h c2
      refine lv_iload_n hx hb dX2_hasPlaces_8 rfl (lv_at hl 2 rfl) ?_
      refine lv_aload_n hx hb dX2_hasPlaces_9 rfl (lv_at hl 0 rfl) ?_
      refine va_get (D := D) (ci := 2) (v := .int (r0.1 1)) (C := RX2) (T := TX2) (N := 3) hx hb hts inlX2 hown hK hP 0 rfl rfl 1 (by decide) (hts (.fieldLink RX2 15 "UnderTheDesks$Shelf" "size" "I") mw_105) (fun _ h9 => h9) rfl dX2_hasPlaces_10 ?_
      refine lv_icmp_gt (tgt := 30) hx hb dX2_hasPlaces_13 (by decide) (fun c3 => ?_) (fun c3 => ?_)
      · replace h := And.left h c3
        refine lv_iconst (v := 0) hx hb dX2_hasPlaces_30 (by decide) ?_
        exact xro_z C rfl h dX2_hasPlaces_31
      · replace h := And.right h c3
        refine lv_iload_n hx hb dX2_hasPlaces_16 rfl (lv_at hl 1 rfl) ?_
        refine lv_aload_n hx hb dX2_hasPlaces_17 rfl (lv_at hl 0 rfl) ?_
        refine va_get (D := D) (ci := 2) (v := .int (r0.1 1)) (C := RX2) (T := TX2) (N := 3) hx hb hts inlX2 hown hK hP 0 rfl rfl 1 (by decide) (hts (.fieldLink RX2 15 "UnderTheDesks$Shelf" "size" "I") mw_105) (fun _ h9 => h9) rfl dX2_hasPlaces_18 ?_
        refine lv_iload_n hx hb dX2_hasPlaces_21 rfl (lv_at hl 2 rfl) ?_
        refine lv_isub hx hb dX2_hasPlaces_22 ?_
        refine lv_icmp_gt (tgt := 30) hx hb dX2_hasPlaces_23 (by decide) (fun c4 => ?_) (fun c4 => ?_)
        · replace h := And.left h c4
          refine lv_iconst (v := 0) hx hb dX2_hasPlaces_30 (by decide) ?_
          exact xro_z C rfl h dX2_hasPlaces_31
        · replace h := And.right h c4
          refine lv_iconst (v := 1) hx hb dX2_hasPlaces_26 (by decide) ?_
          refine lv_goto (tgt := 31) hx hb dX2_hasPlaces_27 (by decide) ?_
          exact xro_z C rfl h dX2_hasPlaces_31

def wp_X2_cell (r0 : zS) (p1 : Int32) (post : Int64 → Prop) : Prop :=
  (p1 < 0 → post (0 : Int64) ) ∧ (¬ p1 < 0 → ((r0.1 1) ≤ p1 → post (0 : Int64) ) ∧ (¬ (r0.1 1) ≤ p1 → vp_in p1 40 ∧ (post (r0.2.2 2 p1.toNatClampNeg) )))
set_option maxHeartbeats 4000000 in
set_option maxRecDepth 100000 in
theorem c_X2_cell {l : Launch} {D : va_G} {K : Nat → ClassId} {h0 : Nat} {a0 : Nat → Nat} {r0 : zS} {p1 : Int32} {sz : Nat} {post : Int64 → Prop}   (h : wp_X2_cell r0 p1 post) : Met l yX2_cell (Cond.code yX2_cell cX2_cell 2 (some .long) :: wsL_law) ({ frames := 0, cells := 0, slots := 0, locals := 0 } : Room) (va_Pc [.ref h0, .int p1] (xPre D vwCl (xty K) (wX2 K h0 a0 r0) sz)) (roL post) 0 0 (fun _ => False) := by
  refine xMet (by decide) rfl (Nat.le_of_ble_eq_true rfl) (fun p e s m args below meth c C hnm hP hD hsz ls hl => ?_)
  have hl : lv_has ls 2 [(0, .ref h0), (1, .int p1)] := hl
  obtain ⟨hx, hb, hr, hml, hown, hts, hlocks, hK, hT⟩ := id C
  unfold wp_X2_cell at h
  refine lv_iload_n hx hb dX2_cell_0 rfl (lv_at hl 1 rfl) ?_
  refine lv_if_lt (tgt := 21) hx hb dX2_cell_1 (by decide) (fun c1 => ?_) (fun c1 => ?_)
  · replace h := And.left h c1
    refine lv_lconst (v := 0) hx hb dX2_cell_21 (by decide) ?_
    exact xro_l C h dX2_cell_22
  · replace h := And.right h c1
    refine lv_iload_n hx hb dX2_cell_4 rfl (lv_at hl 1 rfl) ?_
    refine lv_aload_n hx hb dX2_cell_5 rfl (lv_at hl 0 rfl) ?_
    refine va_get (D := D) (ci := 2) (v := .int (r0.1 1)) (C := RX2) (T := TX2) (N := 3) hx hb hts inlX2 hown hK hP 0 rfl rfl 1 (by decide) (hts (.fieldLink RX2 15 "UnderTheDesks$Shelf" "size" "I") mw_105) (fun _ h9 => h9) rfl dX2_cell_6 ?_
    refine lv_icmp_ge (tgt := 21) hx hb dX2_cell_9 (by decide) (fun c2 => ?_) (fun c2 => ?_)
    · replace h := And.left h c2
      refine lv_lconst (v := 0) hx hb dX2_cell_21 (by decide) ?_
      exact xro_l C h dX2_cell_22
    · replace h := And.right h c2
      refine lv_aload_n hx hb dX2_cell_12 rfl (lv_at hl 0 rfl) ?_
      refine va_get (D := D) (ci := 2) (v := .ref (a0 2)) (C := RX2) (T := TX2) (N := 3) hx hb hts inlX2 hown hK hP 0 rfl rfl 2 (by decide) (hts (.fieldLink RX2 18 "UnderTheDesks$Shelf" "cells" "[J") mw_107) (fun _ h9 => h9) rfl dX2_cell_13 ?_
      refine lv_iload_n hx hb dX2_cell_16 rfl (lv_at hl 1 rfl) ?_
      have hin := And.left h
      replace h := And.right h
      refine va_lald hx hb hK hP 1 1 rfl rfl hin dX2_cell_17 ?_
      refine lv_goto (tgt := 22) hx hb dX2_cell_18 (by decide) ?_
      exact xro_l C h dX2_cell_22

def wp_X2_narrowed (r0 : zS) (p1 : Int64) (post : Int64 → Prop) : Prop :=
  ((r0.1 0) = 0 → post (((p1.toInt32).toInt8.toInt32).toInt64) ) ∧ ((r0.1 0) = 1 → post (((p1.toInt32).toInt16.toInt32).toInt64) ) ∧ ((r0.1 0) = 2 → post ((p1.toInt32).toInt64) ) ∧ ((r0.1 0) = 3 → post p1 ) ∧ ((r0.1 0) = 4 → ((lg_cmp p1 (0 : Int64)) = 0 → post (0 : Int64) ) ∧ (¬ (lg_cmp p1 (0 : Int64)) = 0 → post (1 : Int64) )) ∧ (¬ (r0.1 0) = 0 → ¬ (r0.1 0) = 1 → ¬ (r0.1 0) = 2 → ¬ (r0.1 0) = 3 → ¬ (r0.1 0) = 4 → post p1 )
set_option maxHeartbeats 4000000 in
set_option maxRecDepth 100000 in
theorem c_X2_narrowed {l : Launch} {D : va_G} {K : Nat → ClassId} {h0 : Nat} {a0 : Nat → Nat} {r0 : zS} {p1 : Int64} {sz : Nat} {post : Int64 → Prop}   (h : wp_X2_narrowed r0 p1 post) : Met l yX2_narrowed (Cond.code yX2_narrowed cX2_narrowed 3 (some .long) :: wsL_law) ({ frames := 0, cells := 0, slots := 0, locals := 0 } : Room) (va_Pc [.ref h0, .long p1] (xPre D vwCl (xty K) (wX2 K h0 a0 r0) sz)) (roL post) 0 0 (fun _ => False) := by
  refine xMet (by decide) rfl (Nat.le_of_ble_eq_true rfl) (fun p e s m args below meth c C hnm hP hD hsz ls hl => ?_)
  have hl : lv_has ls 3 [(0, .ref h0), (1, .long p1)] := hl
  obtain ⟨hx, hb, hr, hml, hown, hts, hlocks, hK, hT⟩ := id C
  unfold wp_X2_narrowed at h
  refine lv_aload_n hx hb dX2_narrowed_0 rfl (lv_at hl 0 rfl) ?_
  refine va_get (D := D) (ci := 2) (v := .int (r0.1 0)) (C := RX2) (T := TX2) (N := 3) hx hb hts inlX2 hown hK hP 0 rfl rfl 0 (by decide) (hts (.fieldLink RX2 9 "UnderTheDesks$Shelf" "holding" "I") mw_104) (fun _ h9 => h9) rfl dX2_narrowed_1 ?_
  rcases (Decidable.em ((r0.1 0) = 0)) with c1 | c1_0
  · have c1T := xsw c1
    replace h := And.left (h) c1
    refine lv_tableIn (tgt := 40) hx hb dX2_narrowed_4 (by rw [c1T]; decide) (by rw [c1T]; decide) (by rw [c1T] <;> rfl) (by decide) ?_
    refine lv_lload_n hx hb dX2_narrowed_40 rfl (lv_at hl 1 rfl) ?_
    refine lv_l2i hx hb dX2_narrowed_41 rfl ?_
    refine lv_i2b hx hb dX2_narrowed_42 rfl ?_
    refine lv_i2l hx hb dX2_narrowed_43 rfl ?_
    exact xro_l C h dX2_narrowed_44
  rcases (Decidable.em ((r0.1 0) = 1)) with c1 | c1_1
  · have c1T := xsw c1
    replace h := And.left (And.right (h)) c1
    refine lv_tableIn (tgt := 45) hx hb dX2_narrowed_4 (by rw [c1T]; decide) (by rw [c1T]; decide) (by rw [c1T] <;> rfl) (by decide) ?_
    refine lv_lload_n hx hb dX2_narrowed_45 rfl (lv_at hl 1 rfl) ?_
    refine lv_l2i hx hb dX2_narrowed_46 rfl ?_
    refine lv_i2s hx hb dX2_narrowed_47 rfl ?_
    refine lv_i2l hx hb dX2_narrowed_48 rfl ?_
    exact xro_l C h dX2_narrowed_49
  rcases (Decidable.em ((r0.1 0) = 2)) with c1 | c1_2
  · have c1T := xsw c1
    replace h := And.left (And.right (And.right (h))) c1
    refine lv_tableIn (tgt := 50) hx hb dX2_narrowed_4 (by rw [c1T]; decide) (by rw [c1T]; decide) (by rw [c1T] <;> rfl) (by decide) ?_
    refine lv_lload_n hx hb dX2_narrowed_50 rfl (lv_at hl 1 rfl) ?_
    refine lv_l2i hx hb dX2_narrowed_51 rfl ?_
    refine lv_i2l hx hb dX2_narrowed_52 rfl ?_
    exact xro_l C h dX2_narrowed_53
  rcases (Decidable.em ((r0.1 0) = 3)) with c1 | c1_3
  · have c1T := xsw c1
    replace h := And.left (And.right (And.right (And.right (h)))) c1
    refine lv_tableIn (tgt := 66) hx hb dX2_narrowed_4 (by rw [c1T]; decide) (by rw [c1T]; decide) (by rw [c1T] <;> rfl) (by decide) ?_
    refine lv_lload_n hx hb dX2_narrowed_66 rfl (lv_at hl 1 rfl) ?_
    exact xro_l C h dX2_narrowed_67
  rcases (Decidable.em ((r0.1 0) = 4)) with c1 | c1_4
  · have c1T := xsw c1
    replace h := And.left (And.right (And.right (And.right (And.right (h))))) c1
    refine lv_tableIn (tgt := 54) hx hb dX2_narrowed_4 (by rw [c1T]; decide) (by rw [c1T]; decide) (by rw [c1T] <;> rfl) (by decide) ?_
    refine lv_lload_n hx hb dX2_narrowed_54 rfl (lv_at hl 1 rfl) ?_
    refine lv_lconst (v := 0) hx hb dX2_narrowed_55 (by decide) ?_
    refine W.lcmp hx hb dX2_narrowed_56 ?_
    refine lv_if_eq (tgt := 64) hx hb dX2_narrowed_57 (by decide) (fun c2 => ?_) (fun c2 => ?_)
    · replace h := And.left h c2
      refine lv_lconst (v := 0) hx hb dX2_narrowed_64 (by decide) ?_
      exact xro_l C h dX2_narrowed_65
    · replace h := And.right h c2
      refine lv_lconst (v := 1) hx hb dX2_narrowed_60 (by decide) ?_
      refine lv_goto (tgt := 65) hx hb dX2_narrowed_61 (by decide) ?_
      exact xro_l C h dX2_narrowed_65
  replace h := And.right (And.right (And.right (And.right (And.right (h))))) c1_0 c1_1 c1_2 c1_3 c1_4
  have c1N_0 := lv_neT (a := 0) c1_0 rfl
  have c1N_1 := lv_neT (a := 1) c1_1 rfl
  have c1N_2 := lv_neT (a := 2) c1_2 rfl
  have c1N_3 := lv_neT (a := 3) c1_3 rfl
  have c1N_4 := lv_neT (a := 4) c1_4 rfl
  refine lv_tableOut (tgt := 66) hx hb dX2_narrowed_4 (by omega) (by decide) ?_
  refine lv_lload_n hx hb dX2_narrowed_66 rfl (lv_at hl 1 rfl) ?_
  exact xro_l C h dX2_narrowed_67

def wp_X2_put (r0 : zS) (p1 : Int32) (p2 : Int64) (post : (zS) → Prop) : Prop :=
  (p1 < 0 → post r0) ∧ (¬ p1 < 0 → ((r0.1 1) ≤ p1 → post r0) ∧ (¬ (r0.1 1) ≤ p1 → wp_X2_narrowed r0 p2 (fun v3 => vp_in p1 40 ∧ (∀ j4 : Nat, j4 = p1.toNatClampNeg → post (zL r0 2 j4 v3)))))
set_option maxHeartbeats 4000000 in
set_option maxRecDepth 100000 in
theorem c_X2_put {l : Launch} {D : va_G} {K : Nat → ClassId} {h0 : Nat} {a0 : Nat → Nat} {r0 : zS} {p1 : Int32} {p2 : Int64} {sz : Nat} {post : (zS) → Prop}   (h : wp_X2_put r0 p1 p2 post) : Met l yX2_put (Cond.code yX2_put cX2_put 4 none :: wsL_law) ({ frames := 1, cells := 0, slots := 0, locals := 22 } : Room) (va_Pc [.ref h0, .int p1, .long p2] (xPre D vwCl (xty K) (wX2 K h0 a0 r0) sz)) (va_Qv (fun (u : (zS)) => post u) (fun (u : (zS)) t => va_P D vwCl (wX2 K h0 a0 u) t.heap) (va_A (wX2 K h0 a0 r0) sz)) 0 0 (va_A (wX2 K h0 a0 r0) sz) := by
  refine xMet (by decide) rfl (Nat.le_of_ble_eq_true rfl) (fun p e s m args below meth c C hnm hP hD hsz ls hl => ?_)
  have hl : lv_has ls 4 [(0, .ref h0), (1, .int p1), (2, .long p2)] := hl
  obtain ⟨hx, hb, hr, hml, hown, hts, hlocks, hK, hT⟩ := id C
  subst hsz
  generalize hAe : va_A (wX2 K h0 a0 r0) s.heap.size = A at hD ⊢
  have hA : ∀ q : Nat, s.heap.size ≤ q → A q := fun q h => by rw [← hAe]; exact Or.inr h
  have hS : va_S A s.heap s.heap [] := va_S.rf
  have hP : va_P D vwCl (wX2 K h0 a0 r0) s.heap := hP
  unfold wp_X2_put at h
  refine lv_iload_n hx hb dX2_put_0 rfl (lv_at hl 1 rfl) ?_
  refine lv_if_lt (tgt := 23) hx hb dX2_put_1 (by decide) (fun c1 => ?_) (fun c1 => ?_)
  · replace h := And.left h c1
    exact xrw_v C r0 h hP hS dX2_put_23
  · replace h := And.right h c1
    refine lv_iload_n hx hb dX2_put_4 rfl (lv_at hl 1 rfl) ?_
    refine lv_aload_n hx hb dX2_put_5 rfl (lv_at hl 0 rfl) ?_
    refine va_get (D := D) (ci := 2) (v := .int (r0.1 1)) (C := RX2) (T := TX2) (N := 3) hx hb hts inlX2 hown hK hP 0 rfl rfl 1 (by decide) (hts (.fieldLink RX2 15 "UnderTheDesks$Shelf" "size" "I") mw_105) (fun _ h9 => h9) rfl dX2_put_6 ?_
    refine lv_icmp_ge (tgt := 23) hx hb dX2_put_9 (by decide) (fun c2 => ?_) (fun c2 => ?_)
    · replace h := And.left h c2
      exact xrw_v C r0 h hP hS dX2_put_23
    · replace h := And.right h c2
      refine lv_aload_n hx hb dX2_put_12 rfl (lv_at hl 0 rfl) ?_
      refine va_get (D := D) (ci := 2) (v := .ref (a0 2)) (C := RX2) (T := TX2) (N := 3) hx hb hts inlX2 hown hK hP 0 rfl rfl 2 (by decide) (hts (.fieldLink RX2 18 "UnderTheDesks$Shelf" "cells" "[J") mw_107) (fun _ h9 => h9) rfl dX2_put_13 ?_
      refine lv_iload_n hx hb dX2_put_16 rfl (lv_at hl 1 rfl) ?_
      refine lv_aload_n hx hb dX2_put_17 rfl (lv_at hl 0 rfl) ?_
      refine lv_lload_n hx hb dX2_put_18 rfl (lv_at hl 2 rfl) ?_
      refine xend_ro_l (xRunV_id (As := [.long p2]) (rest := [.int p1, .ref (a0 2)]) C (c_X2_narrowed h) k_X2_narrowed mw_194 ⟨rfl, rfl⟩ ⟨Nat.le_of_ble_eq_true rfl, Nat.le_of_ble_eq_true rfl⟩ hP hD rfl rfl hl rfl rfl (Nat.le_of_ble_eq_true rfl) dX2_put_19 ⟨Nat.le_refl _, Nat.le_refl _⟩) (fun v3 h => ?_)
      have hin := And.left h
      obtain ⟨j4, ej4⟩ : ∃ j : Nat, j = p1.toNatClampNeg := ⟨_, rfl⟩
      replace h := And.right h j4 ej4
      refine xlast hx hb hK hP hD hS 1 1 rfl rfl hin ej4 dX2_put_22 (fun H locs hP hD hS => ?_)
      replace hP : va_P D vwCl (wX2 K h0 a0 (zL r0 2 j4 v3)) H := hP
      replace hD : va_D A (wX2 K h0 a0 (zL r0 2 j4 v3)) := hD
      exact xrw_v C (zL r0 2 j4 v3) h hP hS dX2_put_23

def wb_X2_hasLetters_2 (r0 : zS) (p1 : Int32) (post : Int32 → Prop) (ih : Int32 → Prop) (x2 : Int32) : Prop :=
  (p1 ≤ x2 → post (1 : Int32) ) ∧ (¬ p1 ≤ x2 → wp_X2_cell r0 x2 (fun v2 => ((lg_cmp v2 (0 : Int64)) < 0 → post (0 : Int32) ) ∧ (¬ (lg_cmp v2 (0 : Int64)) < 0 → wp_X2_cell r0 x2 (fun v4 => ((lg_cmp v4 (26 : Int64)) < 0 → ∀ v6 : Int32, v6 = x2 + (1 : Int32) → ih v6) ∧ (¬ (lg_cmp v4 (26 : Int64)) < 0 → post (0 : Int32) )))))
def wp_X2_hasLetters_2 (r0 : zS) (p1 : Int32) (post : Int32 → Prop) (n : Nat) : Int32 → Prop := Nat.rec (motive := fun _ => Int32 → Prop) (fun _ => False) (fun _ ih => wb_X2_hasLetters_2 r0 p1 post ih) n
theorem wu_X2_hasLetters_2 (r0 : zS) (p1 : Int32) (post : Int32 → Prop) (n : Nat) (x2 : Int32) : wp_X2_hasLetters_2 r0 p1 post (n + 1) x2 = wb_X2_hasLetters_2 r0 p1 post (wp_X2_hasLetters_2 r0 p1 post n) x2 := rfl
def wp_X2_hasLetters (r0 : zS) (p1 : Int32) (post : Int32 → Prop) : Prop :=
  ∃ n : Nat, wp_X2_hasLetters_2 r0 p1 post n (0 : Int32)
set_option maxHeartbeats 4000000 in
set_option maxRecDepth 100000 in
theorem t_X2_hasLetters_2 {p : Program} {l : Launch} {e : Env} {s : State} {m : MethodId} {args : Array Value} {below : List Frame} {meth : Method} {c : Code} {D : va_G} {K : Nat → ClassId} {h0 : Nat} {a0 : Nat → Nat} {r0 : zS} {p1 : Int32} {post : Int32 → Prop} (C : xC p s m args meth c cX2_hasLetters RX2 3 (some .boolean) D vwCl (xty K)) (hP : va_P D vwCl (wX2 K h0 a0 r0) s.heap) (hD : va_D (va_A (wX2 K h0 a0 r0) s.heap.size) (wX2 K h0 a0 r0)) : ∀ (n : Nat) (x2 : Int32) (ls : Array Slot), lv_has ls 3 [(0, .ref h0), (1, .int p1), (2, .int x2)] → wp_X2_hasLetters_2 r0 p1 post n x2 → W p l e ({ frames := 1, cells := 0, slots := 0, locals := 21 } : Room) s m args below meth c s.heap [] 0 0 (MQ below (roI post) args s 0 0 (fun _ => False)) (F0 m 2 ls []) := by
  obtain ⟨hx, hb, hr, hml, hown, hts, hlocks, hK, hT⟩ := id C
  intro n
  induction n with
  | zero =>
    intro x2 ls hl h
    exact False.elim h
  | succ n ihn =>
    intro x2 ls hl h
    rw [wu_X2_hasLetters_2] at h
    unfold wb_X2_hasLetters_2 at h
    refine lv_iload_n hx hb dX2_hasLetters_2 rfl (lv_at hl 2 rfl) ?_
    refine lv_iload_n hx hb dX2_hasLetters_3 rfl (lv_at hl 1 rfl) ?_
    refine lv_icmp_ge (tgt := 37) hx hb dX2_hasLetters_4 (by decide) (fun c1 => ?_) (fun c1 => ?_)
    · replace h := And.left h c1
      refine lv_iconst (v := 1) hx hb dX2_hasLetters_37 (by decide) ?_
      exact xro_z C rfl h dX2_hasLetters_38
    · replace h := And.right h c1
      refine lv_aload_n hx hb dX2_hasLetters_7 rfl (lv_at hl 0 rfl) ?_
      refine lv_iload_n hx hb dX2_hasLetters_8 rfl (lv_at hl 2 rfl) ?_
      refine xend_ro_l (xRunV_id (As := [.int x2]) (rest := []) C (c_X2_cell h) k_X2_cell mw_1096 ⟨rfl, rfl⟩ ⟨Nat.le_of_ble_eq_true rfl, Nat.le_of_ble_eq_true rfl⟩ hP hD rfl rfl hl rfl rfl (Nat.le_of_ble_eq_true rfl) dX2_hasLetters_9 ⟨Nat.le_refl _, Nat.le_refl _⟩) (fun v2 h => ?_)
      refine lv_lconst (v := 0) hx hb dX2_hasLetters_12 (by decide) ?_
      refine W.lcmp hx hb dX2_hasLetters_13 ?_
      refine lv_if_lt (tgt := 29) hx hb dX2_hasLetters_14 (by decide) (fun c3 => ?_) (fun c3 => ?_)
      · replace h := And.left h c3
        refine lv_iconst (v := 0) hx hb dX2_hasLetters_29 (by decide) ?_
        exact xro_z C rfl h dX2_hasLetters_30
      · replace h := And.right h c3
        refine lv_aload_n hx hb dX2_hasLetters_17 rfl (lv_at hl 0 rfl) ?_
        refine lv_iload_n hx hb dX2_hasLetters_18 rfl (lv_at hl 2 rfl) ?_
        refine xend_ro_l (xRunV_id (As := [.int x2]) (rest := []) C (c_X2_cell h) k_X2_cell mw_1096 ⟨rfl, rfl⟩ ⟨Nat.le_of_ble_eq_true rfl, Nat.le_of_ble_eq_true rfl⟩ hP hD rfl rfl hl rfl rfl (Nat.le_of_ble_eq_true rfl) dX2_hasLetters_19 ⟨Nat.le_refl _, Nat.le_refl _⟩) (fun v4 h => ?_)
        refine lv_ldc2 hx hb hown (hts _ mw_1095) dX2_hasLetters_22 ?_
        refine W.lcmp hx hb dX2_hasLetters_25 ?_
        refine lv_if_lt (tgt := 31) hx hb dX2_hasLetters_26 (by decide) (fun c5 => ?_) (fun c5 => ?_)
        · replace h := And.left h c5
          obtain ⟨v6, ev6⟩ : ∃ y : Int32, y = x2 + (1 : Int32) := ⟨_, rfl⟩
          replace h := h v6 ev6
          refine lv_iinc (v := v6) (lv' := [(2, .int v6), (0, .ref h0), (1, .int p1)]) hx hb dX2_hasLetters_31 hl (k := 2) rfl (by rw [ev6]; rfl) (by decide) rfl (fun ls hl => ?_)
          refine lv_goto (tgt := 2) hx hb dX2_hasLetters_34 (by decide) ?_
          exact ihn _ _ (lv_sub hl [1, 2, 0] rfl) h
        · replace h := And.right h c5
          refine lv_iconst (v := 0) hx hb dX2_hasLetters_29 (by decide) ?_
          exact xro_z C rfl h dX2_hasLetters_30
set_option maxHeartbeats 4000000 in
set_option maxRecDepth 100000 in
theorem c_X2_hasLetters {l : Launch} {D : va_G} {K : Nat → ClassId} {h0 : Nat} {a0 : Nat → Nat} {r0 : zS} {p1 : Int32} {sz : Nat} {post : Int32 → Prop}   (h : wp_X2_hasLetters r0 p1 post) : Met l yX2_hasLetters (Cond.code yX2_hasLetters cX2_hasLetters 3 (some .boolean) :: wsL_law) ({ frames := 1, cells := 0, slots := 0, locals := 21 } : Room) (va_Pc [.ref h0, .int p1] (xPre D vwCl (xty K) (wX2 K h0 a0 r0) sz)) (roI post) 0 0 (fun _ => False) := by
  refine xMet (by decide) rfl (Nat.le_of_ble_eq_true rfl) (fun p e s m args below meth c C hnm hP hD hsz ls hl => ?_)
  have hl : lv_has ls 3 [(0, .ref h0), (1, .int p1)] := hl
  obtain ⟨hx, hb, hr, hml, hown, hts, hlocks, hK, hT⟩ := id C
  unfold wp_X2_hasLetters at h
  refine lv_iconst (v := 0) hx hb dX2_hasLetters_0 (by decide) ?_
  refine lv_istore_n (lv' := [(2, .int (0 : Int32)), (0, .ref h0), (1, .int p1)]) hx hb dX2_hasLetters_1 rfl hl (by decide) rfl (fun ls hl => ?_)
  obtain ⟨n0, h⟩ := h
  exact t_X2_hasLetters_2 C hP hD n0 _ _ (lv_sub hl [1, 2, 0] rfl) h

def wp_X3_add (r0 : zS) (p1 : Int32) (post : Int32 → (zS) → Prop) : Prop :=
  ((r0.1 0) < 0 → post (0 : Int32) r0) ∧ (¬ (r0.1 0) < 0 → ((r0.1 0) < (250 : Int32) → vp_in (r0.1 0) 250 ∧ (∀ j3 : Nat, j3 = (r0.1 0).toNatClampNeg → ∀ v4 : Int32, v4 = (((zA r0 1 j3 p1).1 0) + (1 : Int32)) → post (1 : Int32) (zI (zA r0 1 j3 p1) 0 v4))) ∧ (¬ (r0.1 0) < (250 : Int32) → post (0 : Int32) r0))
set_option maxHeartbeats 4000000 in
set_option maxRecDepth 100000 in
theorem c_X3_add {l : Launch} {D : va_G} {K : Nat → ClassId} {h0 : Nat} {a0 : Nat → Nat} {r0 : zS} {p1 : Int32} {sz : Nat} {post : Int32 → (zS) → Prop}   (h : wp_X3_add r0 p1 post) : Met l yX3_add (Cond.code yX3_add cX3_add 2 (some .boolean) :: wsL_law) ({ frames := 0, cells := 0, slots := 0, locals := 0 } : Room) (va_Pc [.ref h0, .int p1] (xPre D vwCl (xty K) (wX3 K h0 a0 r0) sz)) (va_Qi (fun r (u : (zS)) => post r u) (fun (u : (zS)) t => va_P D vwCl (wX3 K h0 a0 u) t.heap) (va_A (wX3 K h0 a0 r0) sz)) 0 0 (va_A (wX3 K h0 a0 r0) sz) := by
  refine xMet (by decide) rfl (Nat.le_of_ble_eq_true rfl) (fun p e s m args below meth c C hnm hP hD hsz ls hl => ?_)
  have hl : lv_has ls 2 [(0, .ref h0), (1, .int p1)] := hl
  obtain ⟨hx, hb, hr, hml, hown, hts, hlocks, hK, hT⟩ := id C
  subst hsz
  generalize hAe : va_A (wX3 K h0 a0 r0) s.heap.size = A at hD ⊢
  have hA : ∀ q : Nat, s.heap.size ≤ q → A q := fun q h => by rw [← hAe]; exact Or.inr h
  have hS : va_S A s.heap s.heap [] := va_S.rf
  have hP : va_P D vwCl (wX3 K h0 a0 r0) s.heap := hP
  unfold wp_X3_add at h
  refine lv_aload_n hx hb dX3_add_0 rfl (lv_at hl 0 rfl) ?_
  refine va_get (D := D) (ci := 3) (v := .int (r0.1 0)) (C := RX3) (T := TX3) (N := 2) hx hb hts inlX3 hown hK hP 0 rfl rfl 0 (by decide) (hts (.fieldLink RX3 9 "UnderTheDesks$Tape" "size" "I") mw_75) (fun _ h9 => h9) rfl dX3_add_1 ?_
  refine lv_if_lt (tgt := 17) hx hb dX3_add_4 (by decide) (fun c1 => ?_) (fun c1 => ?_)
  · replace h := And.left h c1
    refine lv_iconst (v := 0) hx hb dX3_add_17 (by decide) ?_
    exact xrw_z C r0 rfl h hP hS dX3_add_18
  · replace h := And.right h c1
    refine lv_aload_n hx hb dX3_add_7 rfl (lv_at hl 0 rfl) ?_
    refine va_get (D := D) (ci := 3) (v := .int (r0.1 0)) (C := RX3) (T := TX3) (N := 2) hx hb hts inlX3 hown hK hP 0 rfl rfl 0 (by decide) (hts (.fieldLink RX3 9 "UnderTheDesks$Tape" "size" "I") mw_75) (fun _ h9 => h9) rfl dX3_add_8 ?_
    refine lv_sipush (v := 250) hx hb dX3_add_11 (by decide) ?_
    refine lv_icmp_lt (tgt := 19) hx hb dX3_add_14 (by decide) (fun c2 => ?_) (fun c2 => ?_)
    · replace h := And.left h c2
      refine lv_aload_n hx hb dX3_add_19 rfl (lv_at hl 0 rfl) ?_
      refine va_get (D := D) (ci := 3) (v := .ref (a0 1)) (C := RX3) (T := TX3) (N := 2) hx hb hts inlX3 hown hK hP 0 rfl rfl 1 (by decide) (hts (.fieldLink RX3 15 "UnderTheDesks$Tape" "bytes" "[I") mw_76) (fun _ h9 => h9) rfl dX3_add_20 ?_
      refine lv_aload_n hx hb dX3_add_23 rfl (lv_at hl 0 rfl) ?_
      refine va_get (D := D) (ci := 3) (v := .int (r0.1 0)) (C := RX3) (T := TX3) (N := 2) hx hb hts inlX3 hown hK hP 0 rfl rfl 0 (by decide) (hts (.fieldLink RX3 9 "UnderTheDesks$Tape" "size" "I") mw_75) (fun _ h9 => h9) rfl dX3_add_24 ?_
      refine lv_iload_n hx hb dX3_add_27 rfl (lv_at hl 1 rfl) ?_
      have hin := And.left h
      obtain ⟨j3, ej3⟩ : ∃ j : Nat, j = (r0.1 0).toNatClampNeg := ⟨_, rfl⟩
      replace h := And.right h j3 ej3
      refine xiast hx hb hK hP hD hS 1 0 rfl rfl hin ej3 dX3_add_28 (fun H locs hP hD hS => ?_)
      replace hP : va_P D vwCl (wX3 K h0 a0 (zA r0 1 j3 p1)) H := hP
      replace hD : va_D A (wX3 K h0 a0 (zA r0 1 j3 p1)) := hD
      refine lv_aload_n hx hb dX3_add_29 rfl (lv_at hl 0 rfl) ?_
      refine lv_dup hx hb dX3_add_30 rfl ?_
      refine va_get (D := D) (ci := 3) (v := .int ((zA r0 1 j3 p1).1 0)) (C := RX3) (T := TX3) (N := 2) hx hb hts inlX3 hown hK hP 0 rfl rfl 0 (by decide) (hts (.fieldLink RX3 9 "UnderTheDesks$Tape" "size" "I") mw_75) (fun _ h9 => h9) rfl dX3_add_31 ?_
      refine lv_iconst (v := 1) hx hb dX3_add_34 (by decide) ?_
      refine lv_iadd hx hb dX3_add_35 ?_
      refine lv_topi (fun v4 ev4 => ?_)
      replace h := h v4 ev4
      refine va_put (D := D) (ci := 3) (v := .int v4) (ty := .int) (C := RX3) (T := TX3) (N := 2) hx hb hts inlX3 tyX3 tyX3_ok nmX3 hown hK hP hD hS 0 rfl rfl 0 (by decide) (hts (.fieldLink RX3 9 "UnderTheDesks$Tape" "size" "I") mw_75) (fun _ h9 => h9) rfl (by decide +kernel) rfl rfl (Nat.le_of_ble_eq_true rfl) dX3_add_36 (fun H locs hP hD hS => ?_)
      replace hP : va_P D vwCl (wX3 K h0 a0 (zI (zA r0 1 j3 p1) 0 v4)) H := hP
      replace hD : va_D A (wX3 K h0 a0 (zI (zA r0 1 j3 p1) 0 v4)) := hD
      refine lv_iconst (v := 1) hx hb dX3_add_39 (by decide) ?_
      exact xrw_z C (zI (zA r0 1 j3 p1) 0 v4) rfl h hP hS dX3_add_40
    · replace h := And.right h c2
      refine lv_iconst (v := 0) hx hb dX3_add_17 (by decide) ?_
      exact xrw_z C r0 rfl h hP hS dX3_add_18

def wp_X3_byteAt (r0 : zS) (p1 : Int32) (post : Int32 → Prop) : Prop :=
  (p1 < 0 → post (-1 : Int32) ) ∧ (¬ p1 < 0 → ((r0.1 0) ≤ p1 → post (-1 : Int32) ) ∧ (¬ (r0.1 0) ≤ p1 → ((250 : Int32) ≤ p1 → post (-1 : Int32) ) ∧ (¬ (250 : Int32) ≤ p1 → vp_in p1 250 ∧ (post (r0.2.1 1 p1.toNatClampNeg) ))))
set_option maxHeartbeats 4000000 in
set_option maxRecDepth 100000 in
theorem c_X3_byteAt {l : Launch} {D : va_G} {K : Nat → ClassId} {h0 : Nat} {a0 : Nat → Nat} {r0 : zS} {p1 : Int32} {sz : Nat} {post : Int32 → Prop}   (h : wp_X3_byteAt r0 p1 post) : Met l yX3_byteAt (Cond.code yX3_byteAt cX3_byteAt 2 (some .int) :: wsL_law) ({ frames := 0, cells := 0, slots := 0, locals := 0 } : Room) (va_Pc [.ref h0, .int p1] (xPre D vwCl (xty K) (wX3 K h0 a0 r0) sz)) (roI post) 0 0 (fun _ => False) := by
  refine xMet (by decide) rfl (Nat.le_of_ble_eq_true rfl) (fun p e s m args below meth c C hnm hP hD hsz ls hl => ?_)
  have hl : lv_has ls 2 [(0, .ref h0), (1, .int p1)] := hl
  obtain ⟨hx, hb, hr, hml, hown, hts, hlocks, hK, hT⟩ := id C
  unfold wp_X3_byteAt at h
  refine lv_iload_n hx hb dX3_byteAt_0 rfl (lv_at hl 1 rfl) ?_
  refine lv_if_lt (tgt := 28) hx hb dX3_byteAt_1 (by decide) (fun c1 => ?_) (fun c1 => ?_)
  · replace h := And.left h c1
    refine lv_iconst (v := -1) hx hb dX3_byteAt_28 (by decide) ?_
    exact xro_i C h dX3_byteAt_29
  · replace h := And.right h c1
    refine lv_iload_n hx hb dX3_byteAt_4 rfl (lv_at hl 1 rfl) ?_
    refine lv_aload_n hx hb dX3_byteAt_5 rfl (lv_at hl 0 rfl) ?_
    refine va_get (D := D) (ci := 3) (v := .int (r0.1 0)) (C := RX3) (T := TX3) (N := 2) hx hb hts inlX3 hown hK hP 0 rfl rfl 0 (by decide) (hts (.fieldLink RX3 9 "UnderTheDesks$Tape" "size" "I") mw_75) (fun _ h9 => h9) rfl dX3_byteAt_6 ?_
    refine lv_icmp_ge (tgt := 28) hx hb dX3_byteAt_9 (by decide) (fun c2 => ?_) (fun c2 => ?_)
    · replace h := And.left h c2
      refine lv_iconst (v := -1) hx hb dX3_byteAt_28 (by decide) ?_
      exact xro_i C h dX3_byteAt_29
    · replace h := And.right h c2
      refine lv_iload_n hx hb dX3_byteAt_12 rfl (lv_at hl 1 rfl) ?_
      refine lv_sipush (v := 250) hx hb dX3_byteAt_13 (by decide) ?_
      refine lv_icmp_ge (tgt := 28) hx hb dX3_byteAt_16 (by decide) (fun c3 => ?_) (fun c3 => ?_)
      · replace h := And.left h c3
        refine lv_iconst (v := -1) hx hb dX3_byteAt_28 (by decide) ?_
        exact xro_i C h dX3_byteAt_29
      · replace h := And.right h c3
        refine lv_aload_n hx hb dX3_byteAt_19 rfl (lv_at hl 0 rfl) ?_
        refine va_get (D := D) (ci := 3) (v := .ref (a0 1)) (C := RX3) (T := TX3) (N := 2) hx hb hts inlX3 hown hK hP 0 rfl rfl 1 (by decide) (hts (.fieldLink RX3 15 "UnderTheDesks$Tape" "bytes" "[I") mw_76) (fun _ h9 => h9) rfl dX3_byteAt_20 ?_
        refine lv_iload_n hx hb dX3_byteAt_23 rfl (lv_at hl 1 rfl) ?_
        have hin := And.left h
        replace h := And.right h
        refine va_iald hx hb hK hP 1 0 rfl rfl hin dX3_byteAt_24 ?_
        refine lv_goto (tgt := 29) hx hb dX3_byteAt_25 (by decide) ?_
        exact xro_i C h dX3_byteAt_29
