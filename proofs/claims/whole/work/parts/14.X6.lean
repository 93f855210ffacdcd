def wp_X4_takeOver (r0 : zS) (r1 : zS) (post : (zS) → Prop) : Prop :=
  ∀ v1 : Int32, v1 = (r1.1 0) → ∀ v2 : Int32, v2 = (r1.1 1) → ∀ v3 : Int32, v3 = (r1.1 2) → ∀ v4 : Int32, v4 = (r1.1 3) → ∀ v5 : Int32, v5 = (r1.1 4) → ((¬ (0 : Int32) < 0 ∧ ¬ (0 : Int32) < 0 ∧ ¬ (16 : Int32) < 0) ∧ (0 : Int32).toNatClampNeg + (16 : Int32).toNatClampNeg ≤ 16 ∧ (0 : Int32).toNatClampNeg + (16 : Int32).toNatClampNeg ≤ 16) ∧ (∀ g6 : Nat → Int32, g6 = va_cpy (r1.2.1 5) ((zI (zI (zI (zI (zI r0 0 v1) 1 v2) 2 v3) 3 v4) 4 v5).2.1 5) (0 : Int32).toNatClampNeg (0 : Int32).toNatClampNeg (16 : Int32).toNatClampNeg → ((¬ (0 : Int32) < 0 ∧ ¬ (0 : Int32) < 0 ∧ ¬ (16 : Int32) < 0) ∧ (0 : Int32).toNatClampNeg + (16 : Int32).toNatClampNeg ≤ 16 ∧ (0 : Int32).toNatClampNeg + (16 : Int32).toNatClampNeg ≤ 16) ∧ (∀ g7 : Nat → Int32, g7 = va_cpy (r1.2.1 6) ((zG (zI (zI (zI (zI (zI r0 0 v1) 1 v2) 2 v3) 3 v4) 4 v5) 5 g6).2.1 6) (0 : Int32).toNatClampNeg (0 : Int32).toNatClampNeg (16 : Int32).toNatClampNeg → ((¬ (0 : Int32) < 0 ∧ ¬ (0 : Int32) < 0 ∧ ¬ (16 : Int32) < 0) ∧ (0 : Int32).toNatClampNeg + (16 : Int32).toNatClampNeg ≤ 16 ∧ (0 : Int32).toNatClampNeg + (16 : Int32).toNatClampNeg ≤ 16) ∧ (∀ g8 : Nat → Int32, g8 = va_cpy (r1.2.1 7) ((zG (zG (zI (zI (zI (zI (zI r0 0 v1) 1 v2) 2 v3) 3 v4) 4 v5) 5 g6) 6 g7).2.1 7) (0 : Int32).toNatClampNeg (0 : Int32).toNatClampNeg (16 : Int32).toNatClampNeg → post (zG (zG (zG (zI (zI (zI (zI (zI r0 0 v1) 1 v2) 2 v3) 3 v4) 4 v5) 5 g6) 6 g7) 7 g8))))
set_option maxHeartbeats 4000000 in
set_option maxRecDepth 100000 in
theorem c_X4_takeOver {l : Launch} {D : va_G} {K : Nat → ClassId} {h0 : Nat} {a0 : Nat → Nat} {r0 : zS} {h1 : Nat} {a1 : Nat → Nat} {r1 : zS}  {sz : Nat} {post : (zS) → Prop}   (h : wp_X4_takeOver r0 r1 post) : Met l yX4_takeOver (Cond.code yX4_takeOver cX4_takeOver 2 none :: wsL_law) ({ frames := 1, cells := 0, slots := 0, locals := 80 } : Room) (va_Pc [.ref h0, .ref h1] (xPre D vwCl (xty K) (wX4 K h0 a0 r0 ++ (wX4 K h1 a1 r1)) sz)) (va_Qv (fun (u : (zS)) => post u) (fun (u : (zS)) t => va_P D vwCl (wX4 K h0 a0 u ++ (wX4 K h1 a1 r1)) t.heap) (va_A (wX4 K h0 a0 r0 ++ (wX4 K h1 a1 r1)) sz)) 0 0 (va_A (wX4 K h0 a0 r0 ++ (wX4 K h1 a1 r1)) sz) := by
  refine xMet (by decide) rfl (Nat.le_of_ble_eq_true rfl) (fun p e s m args below meth c C hnm hP hD hsz ls hl => ?_)
  have hl : lv_has ls 2 [(0, .ref h0), (1, .ref h1)] := hl
  obtain ⟨hx, hb, hr, hml, hown, hts, hlocks, hK, hT⟩ := id C
  subst hsz
  generalize hAe : va_A (wX4 K h0 a0 r0 ++ (wX4 K h1 a1 r1)) s.heap.size = A at hD ⊢
  have hA : ∀ q : Nat, s.heap.size ≤ q → A q := fun q h => by rw [← hAe]; exact Or.inr h
  have hS : va_S A s.heap s.heap [] := va_S.rf
  have hP : va_P D vwCl (wX4 K h0 a0 r0 ++ (wX4 K h1 a1 r1)) s.heap := hP
  unfold wp_X4_takeOver at h
  refine lv_aload_n hx hb dX4_takeOver_0 rfl (lv_at hl 0 rfl) ?_
  refine lv_aload_n hx hb dX4_takeOver_1 rfl (lv_at hl 1 rfl) ?_
  refine va_get (D := D) (ci := 4) (v := .int (r1.1 0)) (C := RX4) (T := TX4) (N := 8) hx hb hts inlX4 hown hK hP 4 rfl rfl 0 (by decide) (hts (.fieldLink RX4 9 "UnderTheDesks$Truth" "second" "I") mw_64) (fun _ h9 => h9) rfl dX4_takeOver_2 ?_
  refine lv_topi (fun v1 ev1 => ?_)
  replace h := h v1 ev1
  refine va_put (D := D) (ci := 4) (v := .int v1) (ty := .int) (C := RX4) (T := TX4) (N := 8) hx hb hts inlX4 tyX4 tyX4_ok nmX4 hown hK hP hD hS 0 rfl rfl 0 (by decide) (hts (.fieldLink RX4 9 "UnderTheDesks$Truth" "second" "I") mw_64) (fun _ h9 => h9) rfl (by decide +kernel) rfl rfl (Nat.le_of_ble_eq_true rfl) dX4_takeOver_5 (fun H locs hP hD hS => ?_)
  replace hP : va_P D vwCl (wX4 K h0 a0 (zI r0 0 v1) ++ (wX4 K h1 a1 r1)) H := hP
  replace hD : va_D A (wX4 K h0 a0 (zI r0 0 v1) ++ (wX4 K h1 a1 r1)) := hD
  refine lv_aload_n hx hb dX4_takeOver_8 rfl (lv_at hl 0 rfl) ?_
  refine lv_aload_n hx hb dX4_takeOver_9 rfl (lv_at hl 1 rfl) ?_
  refine va_get (D := D) (ci := 4) (v := .int (r1.1 1)) (C := RX4) (T := TX4) (N := 8) hx hb hts inlX4 hown hK hP 4 rfl rfl 1 (by decide) (hts (.fieldLink RX4 15 "UnderTheDesks$Truth" "seed" "I") mw_65) (fun _ h9 => h9) rfl dX4_takeOver_10 ?_
  refine lv_topi (fun v2 ev2 => ?_)
  replace h := h v2 ev2
  refine va_put (D := D) (ci := 4) (v := .int v2) (ty := .int) (C := RX4) (T := TX4) (N := 8) hx hb hts inlX4 tyX4 tyX4_ok nmX4 hown hK hP hD hS 0 rfl rfl 1 (by decide) (hts (.fieldLink RX4 15 "UnderTheDesks$Truth" "seed" "I") mw_65) (fun _ h9 => h9) rfl (by decide +kernel) rfl rfl (Nat.le_of_ble_eq_true rfl) dX4_takeOver_13 (fun H locs hP hD hS => ?_)
  replace hP : va_P D vwCl (wX4 K h0 a0 (zI (zI r0 0 v1) 1 v2) ++ (wX4 K h1 a1 r1)) H := hP
  replace hD : va_D A (wX4 K h0 a0 (zI (zI r0 0 v1) 1 v2) ++ (wX4 K h1 a1 r1)) := hD
  refine lv_aload_n hx hb dX4_takeOver_16 rfl (lv_at hl 0 rfl) ?_
  refine lv_aload_n hx hb dX4_takeOver_17 rfl (lv_at hl 1 rfl) ?_
  refine va_get (D := D) (ci := 4) (v := .int (r1.1 2)) (C := RX4) (T := TX4) (N := 8) hx hb hts inlX4 hown hK hP 4 rfl rfl 2 (by decide) (hts (.fieldLink RX4 18 "UnderTheDesks$Truth" "sent" "I") mw_66) (fun _ h9 => h9) rfl dX4_takeOver_18 ?_
  refine lv_topi (fun v3 ev3 => ?_)
  replace h := h v3 ev3
  refine va_put (D := D) (ci := 4) (v := .int v3) (ty := .int) (C := RX4) (T := TX4) (N := 8) hx hb hts inlX4 tyX4 tyX4_ok nmX4 hown hK hP hD hS 0 rfl rfl 2 (by decide) (hts (.fieldLink RX4 18 "UnderTheDesks$Truth" "sent" "I") mw_66) (fun _ h9 => h9) rfl (by decide +kernel) rfl rfl (Nat.le_of_ble_eq_true rfl) dX4_takeOver_21 (fun H locs hP hD hS => ?_)
  replace hP : va_P D vwCl (wX4 K h0 a0 (zI (zI (zI r0 0 v1) 1 v2) 2 v3) ++ (wX4 K h1 a1 r1)) H := hP
  replace hD : va_D A (wX4 K h0 a0 (zI (zI (zI r0 0 v1) 1 v2) 2 v3) ++ (wX4 K h1 a1 r1)) := hD
  refine lv_aload_n hx hb dX4_takeOver_24 rfl (lv_at hl 0 rfl) ?_
  refine lv_aload_n hx hb dX4_takeOver_25 rfl (lv_at hl 1 rfl) ?_
  refine va_get (D := D) (ci := 4) (v := .int (r1.1 3)) (C := RX4) (T := TX4) (N := 8) hx hb hts inlX4 hown hK hP 4 rfl rfl 3 (by decide) (hts (.fieldLink RX4 21 "UnderTheDesks$Truth" "arrivals" "I") mw_67) (fun _ h9 => h9) rfl dX4_takeOver_26 ?_
  refine lv_topi (fun v4 ev4 => ?_)
  replace h := h v4 ev4
  refine va_put (D := D) (ci := 4) (v := .int v4) (ty := .int) (C := RX4) (T := TX4) (N := 8) hx hb hts inlX4 tyX4 tyX4_ok nmX4 hown hK hP hD hS 0 rfl rfl 3 (by decide) (hts (.fieldLink RX4 21 "UnderTheDesks$Truth" "arrivals" "I") mw_67) (fun _ h9 => h9) rfl (by decide +kernel) rfl rfl (Nat.le_of_ble_eq_true rfl) dX4_takeOver_29 (fun H locs hP hD hS => ?_)
  replace hP : va_P D vwCl (wX4 K h0 a0 (zI (zI (zI (zI r0 0 v1) 1 v2) 2 v3) 3 v4) ++ (wX4 K h1 a1 r1)) H := hP
  replace hD : va_D A (wX4 K h0 a0 (zI (zI (zI (zI r0 0 v1) 1 v2) 2 v3) 3 v4) ++ (wX4 K h1 a1 r1)) := hD
  refine lv_aload_n hx hb dX4_takeOver_32 rfl (lv_at hl 0 rfl) ?_
  refine lv_aload_n hx hb dX4_takeOver_33 rfl (lv_at hl 1 rfl) ?_
  refine va_get (D := D) (ci := 4) (v := .int (r1.1 4)) (C := RX4) (T := TX4) (N := 8) hx hb hts inlX4 hown hK hP 4 rfl rfl 4 (by decide) (hts (.fieldLink RX4 24 "UnderTheDesks$Truth" "kept" "I") mw_68) (fun _ h9 => h9) rfl dX4_takeOver_34 ?_
  refine lv_topi (fun v5 ev5 => ?_)
  replace h := h v5 ev5
  refine va_put (D := D) (ci := 4) (v := .int v5) (ty := .int) (C := RX4) (T := TX4) (N := 8) hx hb hts inlX4 tyX4 tyX4_ok nmX4 hown hK hP hD hS 0 rfl rfl 4 (by decide) (hts (.fieldLink RX4 24 "UnderTheDesks$Truth" "kept" "I") mw_68) (fun _ h9 => h9) rfl (by decide +kernel) rfl rfl (Nat.le_of_ble_eq_true rfl) dX4_takeOver_37 (fun H locs hP hD hS => ?_)
  replace hP : va_P D vwCl (wX4 K h0 a0 (zI (zI (zI (zI (zI r0 0 v1) 1 v2) 2 v3) 3 v4) 4 v5) ++ (wX4 K h1 a1 r1)) H := hP
  replace hD : va_D A (wX4 K h0 a0 (zI (zI (zI (zI (zI r0 0 v1) 1 v2) 2 v3) 3 v4) 4 v5) ++ (wX4 K h1 a1 r1)) := hD
  refine lv_aload_n hx hb dX4_takeOver_40 rfl (lv_at hl 1 rfl) ?_
  refine va_get (D := D) (ci := 4) (v := .ref (a1 5)) (C := RX4) (T := TX4) (N := 8) hx hb hts inlX4 hown hK hP 4 rfl rfl 5 (by decide) (hts (.fieldLink RX4 27 "UnderTheDesks$Truth" "alls" "[I") mw_69) (fun _ h9 => h9) rfl dX4_takeOver_41 ?_
  refine lv_iconst (v := 0) hx hb dX4_takeOver_44 (by decide) ?_
  refine lv_aload_n hx hb dX4_takeOver_45 rfl (lv_at hl 0 rfl) ?_
  refine va_get (D := D) (ci := 4) (v := .ref (a0 5)) (C := RX4) (T := TX4) (N := 8) hx hb hts inlX4 hown hK hP 0 rfl rfl 5 (by decide) (hts (.fieldLink RX4 27 "UnderTheDesks$Truth" "alls" "[I") mw_69) (fun _ h9 => h9) rfl dX4_takeOver_46 ?_
  refine lv_iconst (v := 0) hx hb dX4_takeOver_49 (by decide) ?_
  refine lv_bipush (v := 16) hx hb dX4_takeOver_50 (by decide) ?_
  have hcp := And.left h
  replace h := And.right h
  obtain ⟨g6, eg6⟩ : ∃ z : Nat → Int32, z = va_cpy (r1.2.1 5) ((zI (zI (zI (zI (zI r0 0 v1) 1 v2) 2 v3) 3 v4) 4 v5).2.1 5) (0 : Int32).toNatClampNeg (0 : Int32).toNatClampNeg (16 : Int32).toNatClampNeg := ⟨_, rfl⟩
  replace h := h g6 eg6
  refine xcopyi hx hb (by rw [hml]; exact hl.1.symm) hown (hts _ mw_1146) (hts _ mw_215) (hts _ mw_216) (hts _ mw_217) hK hP hD hS 5 1 0 0 rfl rfl rfl rfl rfl hcp.1.1 hcp.1.2.1 hcp.1.2.2 hcp.2.1 hcp.2.2 (fun i _ => rfl) eg6 (Nat.le_of_ble_eq_true rfl) (Nat.le_of_ble_eq_true rfl) dX4_takeOver_52 (fun H locs hP hD hS => ?_)
  replace hP : va_P D vwCl (wX4 K h0 a0 (zG (zI (zI (zI (zI (zI r0 0 v1) 1 v2) 2 v3) 3 v4) 4 v5) 5 g6) ++ (wX4 K h1 a1 r1)) H := hP
  replace hD : va_D A (wX4 K h0 a0 (zG (zI (zI (zI (zI (zI r0 0 v1) 1 v2) 2 v3) 3 v4) 4 v5) 5 g6) ++ (wX4 K h1 a1 r1)) := hD
  refine lv_aload_n hx hb dX4_takeOver_55 rfl (lv_at hl 1 rfl) ?_
  refine va_get (D := D) (ci := 4) (v := .ref (a1 6)) (C := RX4) (T := TX4) (N := 8) hx hb hts inlX4 hown hK hP 4 rfl rfl 6 (by decide) (hts (.fieldLink RX4 31 "UnderTheDesks$Truth" "betweens" "[I") mw_70) (fun _ h9 => h9) rfl dX4_takeOver_56 ?_
  refine lv_iconst (v := 0) hx hb dX4_takeOver_59 (by decide) ?_
  refine lv_aload_n hx hb dX4_takeOver_60 rfl (lv_at hl 0 rfl) ?_
  refine va_get (D := D) (ci := 4) (v := .ref (a0 6)) (C := RX4) (T := TX4) (N := 8) hx hb hts inlX4 hown hK hP 0 rfl rfl 6 (by decide) (hts (.fieldLink RX4 31 "UnderTheDesks$Truth" "betweens" "[I") mw_70) (fun _ h9 => h9) rfl dX4_takeOver_61 ?_
  refine lv_iconst (v := 0) hx hb dX4_takeOver_64 (by decide) ?_
  refine lv_bipush (v := 16) hx hb dX4_takeOver_65 (by decide) ?_
  have hcp := And.left h
  replace h := And.right h
  obtain ⟨g7, eg7⟩ : ∃ z : Nat → Int32, z = va_cpy (r1.2.1 6) ((zG (zI (zI (zI (zI (zI r0 0 v1) 1 v2) 2 v3) 3 v4) 4 v5) 5 g6).2.1 6) (0 : Int32).toNatClampNeg (0 : Int32).toNatClampNeg (16 : Int32).toNatClampNeg := ⟨_, rfl⟩
  replace h := h g7 eg7
  refine xcopyi hx hb (by rw [hml]; exact hl.1.symm) hown (hts _ mw_1146) (hts _ mw_215) (hts _ mw_216) (hts _ mw_217) hK hP hD hS 6 2 0 0 rfl rfl rfl rfl rfl hcp.1.1 hcp.1.2.1 hcp.1.2.2 hcp.2.1 hcp.2.2 (fun i _ => rfl) eg7 (Nat.le_of_ble_eq_true rfl) (Nat.le_of_ble_eq_true rfl) dX4_takeOver_67 (fun H locs hP hD hS => ?_)
  replace hP : va_P D vwCl (wX4 K h0 a0 (zG (zG (zI (zI (zI (zI (zI r0 0 v1) 1 v2) 2 v3) 3 v4) 4 v5) 5 g6) 6 g7) ++ (wX4 K h1 a1 r1)) H := hP
  replace hD : va_D A (wX4 K h0 a0 (zG (zG (zI (zI (zI (zI (zI r0 0 v1) 1 v2) 2 v3) 3 v4) 4 v5) 5 g6) 6 g7) ++ (wX4 K h1 a1 r1)) := hD
  refine lv_aload_n hx hb dX4_takeOver_70 rfl (lv_at hl 1 rfl) ?_
  refine va_get (D := D) (ci := 4) (v := .ref (a1 7)) (C := RX4) (T := TX4) (N := 8) hx hb hts inlX4 hown hK hP 4 rfl rfl 7 (by decide) (hts (.fieldLink RX4 34 "UnderTheDesks$Truth" "outcomes" "[I") mw_71) (fun _ h9 => h9) rfl dX4_takeOver_71 ?_
  refine lv_iconst (v := 0) hx hb dX4_takeOver_74 (by decide) ?_
  refine lv_aload_n hx hb dX4_takeOver_75 rfl (lv_at hl 0 rfl) ?_
  refine va_get (D := D) (ci := 4) (v := .ref (a0 7)) (C := RX4) (T := TX4) (N := 8) hx hb hts inlX4 hown hK hP 0 rfl rfl 7 (by decide) (hts (.fieldLink RX4 34 "UnderTheDesks$Truth" "outcomes" "[I") mw_71) (fun _ h9 => h9) rfl dX4_takeOver_76 ?_
  refine lv_iconst (v := 0) hx hb dX4_takeOver_79 (by decide) ?_
  refine lv_bipush (v := 16) hx hb dX4_takeOver_80 (by decide) ?_
  have hcp := And.left h
  replace h := And.right h
  obtain ⟨g8, eg8⟩ : ∃ z : Nat → Int32, z = va_cpy (r1.2.1 7) ((zG (zG (zI (zI (zI (zI (zI r0 0 v1) 1 v2) 2 v3) 3 v4) 4 v5) 5 g6) 6 g7).2.1 7) (0 : Int32).toNatClampNeg (0 : Int32).toNatClampNeg (16 : Int32).toNatClampNeg := ⟨_, rfl⟩
  replace h := h g8 eg8
  refine xcopyi hx hb (by rw [hml]; exact hl.1.symm) hown (hts _ mw_1146) (hts _ mw_215) (hts _ mw_216) (hts _ mw_217) hK hP hD hS 7 3 0 0 rfl rfl rfl rfl rfl hcp.1.1 hcp.1.2.1 hcp.1.2.2 hcp.2.1 hcp.2.2 (fun i _ => rfl) eg8 (Nat.le_of_ble_eq_true rfl) (Nat.le_of_ble_eq_true rfl) dX4_takeOver_82 (fun H locs hP hD hS => ?_)
  replace hP : va_P D vwCl (wX4 K h0 a0 (zG (zG (zG (zI (zI (zI (zI (zI r0 0 v1) 1 v2) 2 v3) 3 v4) 4 v5) 5 g6) 6 g7) 7 g8) ++ (wX4 K h1 a1 r1)) H := hP
  replace hD : va_D A (wX4 K h0 a0 (zG (zG (zG (zI (zI (zI (zI (zI r0 0 v1) 1 v2) 2 v3) 3 v4) 4 v5) 5 g6) 6 g7) 7 g8) ++ (wX4 K h1 a1 r1)) := hD
  exact xrw_v C (zG (zG (zG (zI (zI (zI (zI (zI r0 0 v1) 1 v2) 2 v3) 3 v4) 4 v5) 5 g6) 6 g7) 7 g8) h hP hS dX4_takeOver_85

def wp_X4_draw (r0 : zS) (p1 : Int32) (post : Int32 → (zS) → Prop) : Prop :=
  ∀ v1 : Int32, v1 = (((r0.1 1) * (1103515245 : Int32)) + (12345 : Int32)) → ((1 : Int32) ≤ p1 → ¬ p1 = 0 ∧ (post (((((zI r0 1 v1).1 1)).toUInt32 >>> (((16 : Int32)).toUInt32 &&& Int32.toUInt32 31)).toInt32 - ((((zI r0 1 v1).1 1)).toUInt32 >>> (((16 : Int32)).toUInt32 &&& Int32.toUInt32 31)).toInt32 / p1 * p1) (zI r0 1 v1))) ∧ (¬ (1 : Int32) ≤ p1 → post (0 : Int32) (zI r0 1 v1))
set_option maxHeartbeats 4000000 in
set_option maxRecDepth 100000 in
theorem c_X4_draw {l : Launch} {D : va_G} {K : Nat → ClassId} {h0 : Nat} {a0 : Nat → Nat} {r0 : zS} {p1 : Int32} {sz : Nat} {post : Int32 → (zS) → Prop}   (h : wp_X4_draw r0 p1 post) : Met l yX4_draw (Cond.code yX4_draw cX4_draw 2 (some .int) :: wsL_law) ({ frames := 0, cells := 0, slots := 0, locals := 0 } : Room) (va_Pc [.ref h0, .int p1] (xPre D vwCl (xty K) (wX4 K h0 a0 r0) sz)) (va_Qi (fun r (u : (zS)) => post r u) (fun (u : (zS)) t => va_P D vwCl (wX4 K h0 a0 u) t.heap) (va_A (wX4 K h0 a0 r0) sz)) 0 0 (va_A (wX4 K h0 a0 r0) sz) := by
  refine xMet (by decide) rfl (Nat.le_of_ble_eq_true rfl) (fun p e s m args below meth c C hnm hP hD hsz ls hl => ?_)
  have hl : lv_has ls 2 [(0, .ref h0), (1, .int p1)] := hl
  obtain ⟨hx, hb, hr, hml, hown, hts, hlocks, hK, hT⟩ := id C
  subst hsz
  generalize hAe : va_A (wX4 K h0 a0 r0) s.heap.size = A at hD ⊢
  have hA : ∀ q : Nat, s.heap.size ≤ q → A q := fun q h => by rw [← hAe]; exact Or.inr h
  have hS : va_S A s.heap s.heap [] := va_S.rf
  have hP : va_P D vwCl (wX4 K h0 a0 r0) s.heap := hP
  unfold wp_X4_draw at h
  refine lv_aload_n hx hb dX4_draw_0 rfl (lv_at hl 0 rfl) ?_
  refine lv_aload_n hx hb dX4_draw_1 rfl (lv_at hl 0 rfl) ?_
  refine va_get (D := D) (ci := 4) (v := .int (r0.1 1)) (C := RX4) (T := TX4) (N := 8) hx hb hts inlX4 hown hK hP 0 rfl rfl 1 (by decide) (hts (.fieldLink RX4 15 "UnderTheDesks$Truth" "seed" "I") mw_65) (fun _ h9 => h9) rfl dX4_draw_2 ?_
  refine lv_ldc hx hb hown (hts _ mw_1138) dX4_draw_5 ?_
  refine lv_imul hx hb dX4_draw_7 ?_
  refine lv_sipush (v := 12345) hx hb dX4_draw_8 (by decide) ?_
  refine lv_iadd hx hb dX4_draw_11 ?_
  refine lv_topi (fun v1 ev1 => ?_)
  replace h := h v1 ev1
  refine va_put (D := D) (ci := 4) (v := .int v1) (ty := .int) (C := RX4) (T := TX4) (N := 8) hx hb hts inlX4 tyX4 tyX4_ok nmX4 hown hK hP hD hS 0 rfl rfl 1 (by decide) (hts (.fieldLink RX4 15 "UnderTheDesks$Truth" "seed" "I") mw_65) (fun _ h9 => h9) rfl (by decide +kernel) rfl rfl (Nat.le_of_ble_eq_true rfl) dX4_draw_12 (fun H locs hP hD hS => ?_)
  replace hP : va_P D vwCl (wX4 K h0 a0 (zI r0 1 v1)) H := hP
  replace hD : va_D A (wX4 K h0 a0 (zI r0 1 v1)) := hD
  refine lv_iload_n hx hb dX4_draw_15 rfl (lv_at hl 1 rfl) ?_
  refine lv_iconst (v := 1) hx hb dX4_draw_16 (by decide) ?_
  refine lv_icmp_ge (tgt := 24) hx hb dX4_draw_17 (by decide) (fun c2 => ?_) (fun c2 => ?_)
  · replace h := And.left h c2
    refine lv_aload_n hx hb dX4_draw_24 rfl (lv_at hl 0 rfl) ?_
    refine va_get (D := D) (ci := 4) (v := .int ((zI r0 1 v1).1 1)) (C := RX4) (T := TX4) (N := 8) hx hb hts inlX4 hown hK hP 0 rfl rfl 1 (by decide) (hts (.fieldLink RX4 15 "UnderTheDesks$Truth" "seed" "I") mw_65) (fun _ h9 => h9) rfl dX4_draw_25 ?_
    refine lv_bipush (v := 16) hx hb dX4_draw_28 (by decide) ?_
    refine lv_iushr hx hb dX4_draw_30 rfl ?_
    refine lv_iload_n hx hb dX4_draw_31 rfl (lv_at hl 1 rfl) ?_
    have hne := And.left h
    replace h := And.right h
    refine lv_irem hx hb dX4_draw_32 hne ?_
    exact xrw_i C (zI r0 1 v1) h hP hS dX4_draw_33
  · replace h := And.right h c2
    refine lv_iconst (v := 0) hx hb dX4_draw_20 (by decide) ?_
    refine lv_goto (tgt := 33) hx hb dX4_draw_21 (by decide) ?_
    exact xrw_i C (zI r0 1 v1) h hP hS dX4_draw_33

def wp_X6_has (r0 : zS) (p1 : Int32) (post : Int32 → Prop) : Prop :=
  (p1 < 0 → post (0 : Int32) ) ∧ (¬ p1 < 0 → ((r0.1 0) ≤ p1 → post (0 : Int32) ) ∧ (¬ (r0.1 0) ≤ p1 → ((48 : Int32) ≤ p1 → post (0 : Int32) ) ∧ (¬ (48 : Int32) ≤ p1 → post (1 : Int32) )))
set_option maxHeartbeats 4000000 in
set_option maxRecDepth 100000 in
theorem c_X6_has {l : Launch} {D : va_G} {K : Nat → ClassId} {h0 : Nat} {a0 : Nat → Nat} {r0 : zS} {p1 : Int32} {sz : Nat} {post : Int32 → Prop}   (h : wp_X6_has r0 p1 post) : Met l yX6_has (Cond.code yX6_has cX6_has 2 (some .boolean) :: wsL_law) ({ frames := 0, cells := 0, slots := 0, locals := 0 } : Room) (va_Pc [.ref h0, .int p1] (xPre D vwCl (xty K) (wX6 K h0 a0 r0) sz)) (roI post) 0 0 (fun _ => False) := by
  refine xMet (by decide) rfl (Nat.le_of_ble_eq_true rfl) (fun p e s m args below meth c C hnm hP hD hsz ls hl => ?_)
  have hl : lv_has ls 2 [(0, .ref h0), (1, .int p1)] := hl
  obtain ⟨hx, hb, hr, hml, hown, hts, hlocks, hK, hT⟩ := id C
  unfold wp_X6_has at h
  refine lv_iload_n hx hb dX6_has_0 rfl (lv_at hl 1 rfl) ?_
  refine lv_if_lt (tgt := 22) hx hb dX6_has_1 (by decide) (fun c1 => ?_) (fun c1 => ?_)
  · replace h := And.left h c1
    refine lv_iconst (v := 0) hx hb dX6_has_22 (by decide) ?_
    exact xro_z C rfl h dX6_has_23
  · replace h := And.right h c1
    refine lv_iload_n hx hb dX6_has_4 rfl (lv_at hl 1 rfl) ?_
    refine lv_aload_n hx hb dX6_has_5 rfl (lv_at hl 0 rfl) ?_
    refine va_get (D := D) (ci := 6) (v := .int (r0.1 0)) (C := RX6) (T := TX6) (N := 5) hx hb hts inlX6 hown hK hP 0 rfl rfl 0 (by decide) (hts (.fieldLink RX6 9 "UnderTheDesks$Ways" "count" "I") mw_89) (fun _ h9 => h9) rfl dX6_has_6 ?_
    refine lv_icmp_ge (tgt := 22) hx hb dX6_has_9 (by decide) (fun c2 => ?_) (fun c2 => ?_)
    · replace h := And.left h c2
      refine lv_iconst (v := 0) hx hb dX6_has_22 (by decide) ?_
      exact xro_z C rfl h dX6_has_23
    · replace h := And.right h c2
      refine lv_iload_n hx hb dX6_has_12 rfl (lv_at hl 1 rfl) ?_
      refine lv_bipush (v := 48) hx hb dX6_has_13 (by decide) ?_
      refine lv_icmp_ge (tgt := 22) hx hb dX6_has_15 (by decide) (fun c3 => ?_) (fun c3 => ?_)
      · replace h := And.left h c3
        refine lv_iconst (v := 0) hx hb dX6_has_22 (by decide) ?_
        exact xro_z C rfl h dX6_has_23
      · replace h := And.right h c3
        refine lv_iconst (v := 1) hx hb dX6_has_18 (by decide) ?_
        refine lv_goto (tgt := 23) hx hb dX6_has_19 (by decide) ?_
        exact xro_z C rfl h dX6_has_23

def wp_X6_sizeOf (r0 : zS) (p1 : Int32) (post : Int32 → Prop) : Prop :=
  wp_X6_has r0 p1 (fun v1 => (v1 = 0 → post (0 : Int32) ) ∧ (¬ v1 = 0 → vp_in p1 48 ∧ (post (r0.2.1 2 p1.toNatClampNeg) )))
set_option maxHeartbeats 4000000 in
set_option maxRecDepth 100000 in
theorem c_X6_sizeOf {l : Launch} {D : va_G} {K : Nat → ClassId} {h0 : Nat} {a0 : Nat → Nat} {r0 : zS} {p1 : Int32} {sz : Nat} {post : Int32 → Prop}   (h : wp_X6_sizeOf r0 p1 post) : Met l yX6_sizeOf (Cond.code yX6_sizeOf cX6_sizeOf 2 (some .int) :: wsL_law) ({ frames := 1, cells := 0, slots := 0, locals := 21 } : Room) (va_Pc [.ref h0, .int p1] (xPre D vwCl (xty K) (wX6 K h0 a0 r0) sz)) (roI post) 0 0 (fun _ => False) := by
  refine xMet (by decide) rfl (Nat.le_of_ble_eq_true rfl) (fun p e s m args below meth c C hnm hP hD hsz ls hl => ?_)
  have hl : lv_has ls 2 [(0, .ref h0), (1, .int p1)] := hl
  obtain ⟨hx, hb, hr, hml, hown, hts, hlocks, hK, hT⟩ := id C
  unfold wp_X6_sizeOf at h
  refine lv_aload_n hx hb dX6_sizeOf_0 rfl (lv_at hl 0 rfl) ?_
  refine lv_iload_n hx hb dX6_sizeOf_1 rfl (lv_at hl 1 rfl) ?_
  refine xend_ro_i (xRunV_id (As := [.int p1]) (rest := []) C (c_X6_has h) k_X6_has mw_805 ⟨rfl, rfl⟩ ⟨Nat.le_of_ble_eq_true rfl, Nat.le_of_ble_eq_true rfl⟩ hP hD rfl rfl hl rfl rfl (Nat.le_of_ble_eq_true rfl) dX6_sizeOf_2 ⟨Nat.le_refl _, Nat.le_refl _⟩) (fun v1 h => ?_)
  refine lv_if_eq (tgt := 17) hx hb dX6_sizeOf_5 (by decide) (fun c2 => ?_) (fun c2 => ?_)
  · replace h := And.left h c2
    refine lv_iconst (v := 0) hx hb dX6_sizeOf_17 (by decide) ?_
    exact xro_i C h dX6_sizeOf_18
  · replace h := And.right h c2
    refine lv_aload_n hx hb dX6_sizeOf_8 rfl (lv_at hl 0 rfl) ?_
    refine va_get (D := D) (ci := 6) (v := .ref (a0 2)) (C := RX6) (T := TX6) (N := 5) hx hb hts inlX6 hown hK hP 0 rfl rfl 2 (by decide) (hts (.fieldLink RX6 19 "UnderTheDesks$Ways" "sizes" "[I") mw_91) (fun _ h9 => h9) rfl dX6_sizeOf_9 ?_
    refine lv_iload_n hx hb dX6_sizeOf_12 rfl (lv_at hl 1 rfl) ?_
    have hin := And.left h
    replace h := And.right h
    refine va_iald hx hb hK hP 2 0 rfl rfl hin dX6_sizeOf_13 ?_
    refine lv_goto (tgt := 18) hx hb dX6_sizeOf_14 (by decide) ?_
    exact xro_i C h dX6_sizeOf_18

def wp_X6_pupilOn (r0 : zS) (p1 : Int32) (p2 : Int32) (post : Int32 → Prop) : Prop :=
  (p2 < 0 → post (-1 : Int32) ) ∧ (¬ p2 < 0 → wp_X6_sizeOf r0 p1 (fun v2 => (v2 ≤ p2 → post (-1 : Int32) ) ∧ (¬ v2 ≤ p2 → vp_in ((p1 * (9 : Int32)) + p2) 432 ∧ (post (r0.2.1 1 ((p1 * (9 : Int32)) + p2).toNatClampNeg) ))))
set_option maxHeartbeats 4000000 in
set_option maxRecDepth 100000 in
theorem c_X6_pupilOn {l : Launch} {D : va_G} {K : Nat → ClassId} {h0 : Nat} {a0 : Nat → Nat} {r0 : zS} {p1 : Int32} {p2 : Int32} {sz : Nat} {post : Int32 → Prop}   (h : wp_X6_pupilOn r0 p1 p2 post) : Met l yX6_pupilOn (Cond.code yX6_pupilOn cX6_pupilOn 3 (some .int) :: wsL_law) ({ frames := 2, cells := 0, slots := 0, locals := 42 } : Room) (va_Pc [.ref h0, .int p1, .int p2] (xPre D vwCl (xty K) (wX6 K h0 a0 r0) sz)) (roI post) 0 0 (fun _ => False) := by
  refine xMet (by decide) rfl (Nat.le_of_ble_eq_true rfl) (fun p e s m args below meth c C hnm hP hD hsz ls hl => ?_)
  have hl : lv_has ls 3 [(0, .ref h0), (1, .int p1), (2, .int p2)] := hl
  obtain ⟨hx, hb, hr, hml, hown, hts, hlocks, hK, hT⟩ := id C
  unfold wp_X6_pupilOn at h
  refine lv_iload_n hx hb dX6_pupilOn_0 rfl (lv_at hl 2 rfl) ?_
  refine lv_if_lt (tgt := 27) hx hb dX6_pupilOn_1 (by decide) (fun c1 => ?_) (fun c1 => ?_)
  · replace h := And.left h c1
    refine lv_iconst (v := -1) hx hb dX6_pupilOn_27 (by decide) ?_
    exact xro_i C h dX6_pupilOn_28
  · replace h := And.right h c1
    refine lv_iload_n hx hb dX6_pupilOn_4 rfl (lv_at hl 2 rfl) ?_
    refine lv_aload_n hx hb dX6_pupilOn_5 rfl (lv_at hl 0 rfl) ?_
    refine lv_iload_n hx hb dX6_pupilOn_6 rfl (lv_at hl 1 rfl) ?_
    refine xend_ro_i (xRunV_id (As := [.int p1]) (rest := [.int p2]) C (c_X6_sizeOf h) k_X6_sizeOf mw_838 ⟨rfl, rfl⟩ ⟨Nat.le_of_ble_eq_true rfl, Nat.le_of_ble_eq_true rfl⟩ hP hD rfl rfl hl rfl rfl (Nat.le_of_ble_eq_true rfl) dX6_pupilOn_7 ⟨Nat.le_refl _, Nat.le_refl _⟩) (fun v2 h => ?_)
    refine lv_icmp_ge (tgt := 27) hx hb dX6_pupilOn_10 (by decide) (fun c3 => ?_) (fun c3 => ?_)
    · replace h := And.left h c3
      refine lv_iconst (v := -1) hx hb dX6_pupilOn_27 (by decide) ?_
      exact xro_i C h dX6_pupilOn_28
    · replace h := And.right h c3
      refine lv_aload_n hx hb dX6_pupilOn_13 rfl (lv_at hl 0 rfl) ?_
      refine va_get (D := D) (ci := 6) (v := .ref (a0 1)) (C := RX6) (T := TX6) (N := 5) hx hb hts inlX6 hown hK hP 0 rfl rfl 1 (by decide) (hts (.fieldLink RX6 15 "UnderTheDesks$Ways" "pupils" "[I") mw_90) (fun _ h9 => h9) rfl dX6_pupilOn_14 ?_
      refine lv_iload_n hx hb dX6_pupilOn_17 rfl (lv_at hl 1 rfl) ?_
      refine lv_bipush (v := 9) hx hb dX6_pupilOn_18 (by decide) ?_
      refine lv_imul hx hb dX6_pupilOn_20 ?_
      refine lv_iload_n hx hb dX6_pupilOn_21 rfl (lv_at hl 2 rfl) ?_
      refine lv_iadd hx hb dX6_pupilOn_22 ?_
      have hin := And.left h
      replace h := And.right h
      refine va_iald hx hb hK hP 1 0 rfl rfl hin dX6_pupilOn_23 ?_
      refine lv_goto (tgt := 28) hx hb dX6_pupilOn_24 (by decide) ?_
      exact xro_i C h dX6_pupilOn_28

def wb_X6_allOf_4 (r0 : zS) (p1 : Int32) (post : Int32 → Prop) (ih : Int32 → Int32 → Prop) (x2 : Int32) (x3 : Int32) : Prop :=
  wp_X6_sizeOf r0 p1 (fun v1 => (v1 ≤ x3 → post x2 ) ∧ (¬ v1 ≤ x3 → wp_X6_pupilOn r0 p1 x3 (fun v3 => ∀ v4 : Int32, v4 = (x2 ||| ((1 : Int32) <<< (v3 &&& 31))) → ∀ v5 : Int32, v5 = x3 + (1 : Int32) → ih v4 v5)))
def wp_X6_allOf_4 (r0 : zS) (p1 : Int32) (post : Int32 → Prop) (n : Nat) : Int32 → Int32 → Prop := Nat.rec (motive := fun _ => Int32 → Int32 → Prop) (fun _ _ => False) (fun _ ih => wb_X6_allOf_4 r0 p1 post ih) n
theorem wu_X6_allOf_4 (r0 : zS) (p1 : Int32) (post : Int32 → Prop) (n : Nat) (x2 : Int32) (x3 : Int32) : wp_X6_allOf_4 r0 p1 post (n + 1) x2 x3 = wb_X6_allOf_4 r0 p1 post (wp_X6_allOf_4 r0 p1 post n) x2 x3 := rfl
def wp_X6_allOf (r0 : zS) (p1 : Int32) (post : Int32 → Prop) : Prop :=
  ∃ n : Nat, wp_X6_allOf_4 r0 p1 post n (0 : Int32) (0 : Int32)
set_option maxHeartbeats 4000000 in
set_option maxRecDepth 100000 in
theorem t_X6_allOf_4 {p : Program} {l : Launch} {e : Env} {s : State} {m : MethodId} {args : Array Value} {below : List Frame} {meth : Method} {c : Code} {D : va_G} {K : Nat → ClassId} {h0 : Nat} {a0 : Nat → Nat} {r0 : zS} {p1 : Int32} {post : Int32 → Prop} (C : xC p s m args meth c cX6_allOf RX6 4 (some .int) D vwCl (xty K)) (hP : va_P D vwCl (wX6 K h0 a0 r0) s.heap) (hD : va_D (va_A (wX6 K h0 a0 r0) s.heap.size) (wX6 K h0 a0 r0)) : ∀ (n : Nat) (x2 : Int32) (x3 : Int32) (ls : Array Slot), lv_has ls 4 [(0, .ref h0), (1, .int p1), (2, .int x2), (3, .int x3)] → wp_X6_allOf_4 r0 p1 post n x2 x3 → W p l e ({ frames := 3, cells := 0, slots := 0, locals := 64 } : Room) s m args below meth c s.heap [] 0 0 (MQ below (roI post) args s 0 0 (fun _ => False)) (F0 m 4 ls []) := by
  obtain ⟨hx, hb, hr, hml, hown, hts, hlocks, hK, hT⟩ := id C
  intro n
  induction n with
  | zero =>
    intro x2 x3 ls hl h
    exact False.elim h
  | succ n ihn =>
    intro x2 x3 ls hl h
    rw [wu_X6_allOf_4] at h
    unfold wb_X6_allOf_4 at h
    refine lv_iload_n hx hb dX6_allOf_4 rfl (lv_at hl 3 rfl) ?_
    refine lv_aload_n hx hb dX6_allOf_5 rfl (lv_at hl 0 rfl) ?_
    refine lv_iload_n hx hb dX6_allOf_6 rfl (lv_at hl 1 rfl) ?_
    refine xend_ro_i (xRunV_id (As := [.int p1]) (rest := [.int x3]) C (c_X6_sizeOf h) k_X6_sizeOf mw_838 ⟨rfl, rfl⟩ ⟨Nat.le_of_ble_eq_true rfl, Nat.le_of_ble_eq_true rfl⟩ hP hD rfl rfl hl rfl rfl (Nat.le_of_ble_eq_true rfl) dX6_allOf_7 ⟨Nat.le_refl _, Nat.le_refl _⟩) (fun v1 h => ?_)
    refine lv_icmp_ge (tgt := 30) hx hb dX6_allOf_10 (by decide) (fun c2 => ?_) (fun c2 => ?_)
    · replace h := And.left h c2
      refine lv_iload_n hx hb dX6_allOf_30 rfl (lv_at hl 2 rfl) ?_
      exact xro_i C h dX6_allOf_31
    · replace h := And.right h c2
      refine lv_iload_n hx hb dX6_allOf_13 rfl (lv_at hl 2 rfl) ?_
      refine lv_iconst (v := 1) hx hb dX6_allOf_14 (by decide) ?_
      refine lv_aload_n hx hb dX6_allOf_15 rfl (lv_at hl 0 rfl) ?_
      refine lv_iload_n hx hb dX6_allOf_16 rfl (lv_at hl 1 rfl) ?_
      refine lv_iload_n hx hb dX6_allOf_17 rfl (lv_at hl 3 rfl) ?_
      refine xend_ro_i (xRunV_id (As := [.int p1, .int x3]) (rest := [.int (1 : Int32), .int x2]) C (c_X6_pupilOn h) k_X6_pupilOn mw_850 ⟨rfl, rfl⟩ ⟨Nat.le_of_ble_eq_true rfl, Nat.le_of_ble_eq_true rfl⟩ hP hD rfl rfl hl rfl rfl (Nat.le_of_ble_eq_true rfl) dX6_allOf_18 ⟨Nat.le_refl _, Nat.le_refl _⟩) (fun v3 h => ?_)
      refine lv_ishl hx hb dX6_allOf_21 ?_
      refine lv_ior hx hb dX6_allOf_22 ?_
      refine lv_topi (fun v4 ev4 => ?_)
      replace h := h v4 ev4
      refine lv_istore_n (lv' := [(2, .int v4), (0, .ref h0), (1, .int p1), (3, .int x3)]) hx hb dX6_allOf_23 rfl hl (by decide) rfl (fun ls hl => ?_)
      obtain ⟨v5, ev5⟩ : ∃ y : Int32, y = x3 + (1 : Int32) := ⟨_, rfl⟩
      replace h := h v5 ev5
      refine lv_iinc (v := v5) (lv' := [(3, .int v5), (2, .int v4), (0, .ref h0), (1, .int p1)]) hx hb dX6_allOf_24 hl (k := 3) rfl (by rw [ev5]; rfl) (by decide) rfl (fun ls hl => ?_)
      refine lv_goto (tgt := 4) hx hb dX6_allOf_27 (by decide) ?_
      exact ihn _ _ _ (lv_sub hl [2, 3, 1, 0] rfl) h
set_option maxHeartbeats 4000000 in
set_option maxRecDepth 100000 in
theorem c_X6_allOf {l : Launch} {D : va_G} {K : Nat → ClassId} {h0 : Nat} {a0 : Nat → Nat} {r0 : zS} {p1 : Int32} {sz : Nat} {post : Int32 → Prop}   (h : wp_X6_allOf r0 p1 post) : Met l yX6_allOf (Cond.code yX6_allOf cX6_allOf 4 (some .int) :: wsL_law) ({ frames := 3, cells := 0, slots := 0, locals := 64 } : Room) (va_Pc [.ref h0, .int p1] (xPre D vwCl (xty K) (wX6 K h0 a0 r0) sz)) (roI post) 0 0 (fun _ => False) := by
  refine xMet (by decide) rfl (Nat.le_of_ble_eq_true rfl) (fun p e s m args below meth c C hnm hP hD hsz ls hl => ?_)
  have hl : lv_has ls 4 [(0, .ref h0), (1, .int p1)] := hl
  obtain ⟨hx, hb, hr, hml, hown, hts, hlocks, hK, hT⟩ := id C
  unfold wp_X6_allOf at h
  refine lv_iconst (v := 0) hx hb dX6_allOf_0 (by decide) ?_
  refine lv_istore_n (lv' := [(2, .int (0 : Int32)), (0, .ref h0), (1, .int p1)]) hx hb dX6_allOf_1 rfl hl (by decide) rfl (fun ls hl => ?_)
  refine lv_iconst (v := 0) hx hb dX6_allOf_2 (by decide) ?_
  refine lv_istore_n (lv' := [(3, .int (0 : Int32)), (2, .int (0 : Int32)), (0, .ref h0), (1, .int p1)]) hx hb dX6_allOf_3 rfl hl (by decide) rfl (fun ls hl => ?_)
  obtain ⟨n0, h⟩ := h
  exact t_X6_allOf_4 C hP hD n0 _ _ _ (lv_sub hl [2, 3, 1, 0] rfl) h

def wb_X6_betweenOf_4 (r0 : zS) (p1 : Int32) (post : Int32 → Prop) (ih : Int32 → Int32 → Prop) (x2 : Int32) (x3 : Int32) : Prop :=
  wp_X6_sizeOf r0 p1 (fun v1 => ((v1 - (1 : Int32)) ≤ x3 → post x2 ) ∧ (¬ (v1 - (1 : Int32)) ≤ x3 → wp_X6_pupilOn r0 p1 x3 (fun v3 => ∀ v4 : Int32, v4 = (x2 ||| ((1 : Int32) <<< (v3 &&& 31))) → ∀ v5 : Int32, v5 = x3 + (1 : Int32) → ih v4 v5)))
def wp_X6_betweenOf_4 (r0 : zS) (p1 : Int32) (post : Int32 → Prop) (n : Nat) : Int32 → Int32 → Prop := Nat.rec (motive := fun _ => Int32 → Int32 → Prop) (fun _ _ => False) (fun _ ih => wb_X6_betweenOf_4 r0 p1 post ih) n
theorem wu_X6_betweenOf_4 (r0 : zS) (p1 : Int32) (post : Int32 → Prop) (n : Nat) (x2 : Int32) (x3 : Int32) : wp_X6_betweenOf_4 r0 p1 post (n + 1) x2 x3 = wb_X6_betweenOf_4 r0 p1 post (wp_X6_betweenOf_4 r0 p1 post n) x2 x3 := rfl
def wp_X6_betweenOf (r0 : zS) (p1 : Int32) (post : Int32 → Prop) : Prop :=
  ∃ n : Nat, wp_X6_betweenOf_4 r0 p1 post n (0 : Int32) (1 : Int32)
set_option maxHeartbeats 4000000 in
set_option maxRecDepth 100000 in
theorem t_X6_betweenOf_4 {p : Program} {l : Launch} {e : Env} {s : State} {m : MethodId} {args : Array Value} {below : List Frame} {meth : Method} {c : Code} {D : va_G} {K : Nat → ClassId} {h0 : Nat} {a0 : Nat → Nat} {r0 : zS} {p1 : Int32} {post : Int32 → Prop} (C : xC p s m args meth c cX6_betweenOf RX6 4 (some .int) D vwCl (xty K)) (hP : va_P D vwCl (wX6 K h0 a0 r0) s.heap) (hD : va_D (va_A (wX6 K h0 a0 r0) s.heap.size) (wX6 K h0 a0 r0)) : ∀ (n : Nat) (x2 : Int32) (x3 : Int32) (ls : Array Slot), lv_has ls 4 [(0, .ref h0), (1, .int p1), (2, .int x2), (3, .int x3)] → wp_X6_betweenOf_4 r0 p1 post n x2 x3 → W p l e ({ frames := 3, cells := 0, slots := 0, locals := 64 } : Room) s m args below meth c s.heap [] 0 0 (MQ below (roI post) args s 0 0 (fun _ => False)) (F0 m 4 ls []) := by
  obtain ⟨hx, hb, hr, hml, hown, hts, hlocks, hK, hT⟩ := id C
  intro n
  induction n with
  | zero =>
    intro x2 x3 ls hl h
    exact False.elim h
  | succ n ihn =>
    intro x2 x3 ls hl h
    rw [wu_X6_betweenOf_4] at h
    unfold wb_X6_betweenOf_4 at h
    refine lv_iload_n hx hb dX6_betweenOf_4 rfl (lv_at hl 3 rfl) ?_
    refine lv_aload_n hx hb dX6_betweenOf_5 rfl (lv_at hl 0 rfl) ?_
    refine lv_iload_n hx hb dX6_betweenOf_6 rfl (lv_at hl 1 rfl) ?_
    refine xend_ro_i (xRunV_id (As := [.int p1]) (rest := [.int x3]) C (c_X6_sizeOf h) k_X6_sizeOf mw_838 ⟨rfl, rfl⟩ ⟨Nat.le_of_ble_eq_true rfl, Nat.le_of_ble_eq_true rfl⟩ hP hD rfl rfl hl rfl rfl (Nat.le_of_ble_eq_true rfl) dX6_betweenOf_7 ⟨Nat.le_refl _, Nat.le_refl _⟩) (fun v1 h => ?_)
    refine lv_iconst (v := 1) hx hb dX6_betweenOf_10 (by decide) ?_
    refine lv_isub hx hb dX6_betweenOf_11 ?_
    refine lv_icmp_ge (tgt := 32) hx hb dX6_betweenOf_12 (by decide) (fun c2 => ?_) (fun c2 => ?_)
    · replace h := And.left h c2
      refine lv_iload_n hx hb dX6_betweenOf_32 rfl (lv_at hl 2 rfl) ?_
      exact xro_i C h dX6_betweenOf_33
    · replace h := And.right h c2
      refine lv_iload_n hx hb dX6_betweenOf_15 rfl (lv_at hl 2 rfl) ?_
      refine lv_iconst (v := 1) hx hb dX6_betweenOf_16 (by decide) ?_
      refine lv_aload_n hx hb dX6_betweenOf_17 rfl (lv_at hl 0 rfl) ?_
      refine lv_iload_n hx hb dX6_betweenOf_18 rfl (lv_at hl 1 rfl) ?_
      refine lv_iload_n hx hb dX6_betweenOf_19 rfl (lv_at hl 3 rfl) ?_
      refine xend_ro_i (xRunV_id (As := [.int p1, .int x3]) (rest := [.int (1 : Int32), .int x2]) C (c_X6_pupilOn h) k_X6_pupilOn mw_850 ⟨rfl, rfl⟩ ⟨Nat.le_of_ble_eq_true rfl, Nat.le_of_ble_eq_true rfl⟩ hP hD rfl rfl hl rfl rfl (Nat.le_of_ble_eq_true rfl) dX6_betweenOf_20 ⟨Nat.le_refl _, Nat.le_refl _⟩) (fun v3 h => ?_)
      refine lv_ishl hx hb dX6_betweenOf_23 ?_
      refine lv_ior hx hb dX6_betweenOf_24 ?_
      refine lv_topi (fun v4 ev4 => ?_)
      replace h := h v4 ev4
      refine lv_istore_n (lv' := [(2, .int v4), (0, .ref h0), (1, .int p1), (3, .int x3)]) hx hb dX6_betweenOf_25 rfl hl (by decide) rfl (fun ls hl => ?_)
      obtain ⟨v5, ev5⟩ : ∃ y : Int32, y = x3 + (1 : Int32) := ⟨_, rfl⟩
      replace h := h v5 ev5
      refine lv_iinc (v := v5) (lv' := [(3, .int v5), (2, .int v4), (0, .ref h0), (1, .int p1)]) hx hb dX6_betweenOf_26 hl (k := 3) rfl (by rw [ev5]; rfl) (by decide) rfl (fun ls hl => ?_)
      refine lv_goto (tgt := 4) hx hb dX6_betweenOf_29 (by decide) ?_
      exact ihn _ _ _ (lv_sub hl [2, 3, 1, 0] rfl) h
set_option maxHeartbeats 4000000 in
set_option maxRecDepth 100000 in
theorem c_X6_betweenOf {l : Launch} {D : va_G} {K : Nat → ClassId} {h0 : Nat} {a0 : Nat → Nat} {r0 : zS} {p1 : Int32} {sz : Nat} {post : Int32 → Prop}   (h : wp_X6_betweenOf r0 p1 post) : Met l yX6_betweenOf (Cond.code yX6_betweenOf cX6_betweenOf 4 (some .int) :: wsL_law) ({ frames := 3, cells := 0, slots := 0, locals := 64 } : Room) (va_Pc [.ref h0, .int p1] (xPre D vwCl (xty K) (wX6 K h0 a0 r0) sz)) (roI post) 0 0 (fun _ => False) := by
  refine xMet (by decide) rfl (Nat.le_of_ble_eq_true rfl) (fun p e s m args below meth c C hnm hP hD hsz ls hl => ?_)
  have hl : lv_has ls 4 [(0, .ref h0), (1, .int p1)] := hl
  obtain ⟨hx, hb, hr, hml, hown, hts, hlocks, hK, hT⟩ := id C
  unfold wp_X6_betweenOf at h
  refine lv_iconst (v := 0) hx hb dX6_betweenOf_0 (by decide) ?_
  refine lv_istore_n (lv' := [(2, .int (0 : Int32)), (0, .ref h0), (1, .int p1)]) hx hb dX6_betweenOf_1 rfl hl (by decide) rfl (fun ls hl => ?_)
  refine lv_iconst (v := 1) hx hb dX6_betweenOf_2 (by decide) ?_
  refine lv_istore_n (lv' := [(3, .int (1 : Int32)), (2, .int (0 : Int32)), (0, .ref h0), (1, .int p1)]) hx hb dX6_betweenOf_3 rfl hl (by decide) rfl (fun ls hl => ?_)
  obtain ⟨n0, h⟩ := h
  exact t_X6_betweenOf_4 C hP hD n0 _ _ _ (lv_sub hl [2, 3, 1, 0] rfl) h

def wp_X4_keep_60 (p1 : Int32) (p2 : Int32) (p3 : Int32) (post : (zS) → Prop) (r0 : zS) : Prop :=
  ((r0.1 4) < 0 → post r0) ∧ (¬ (r0.1 4) < 0 → vp_in (r0.1 4) 16 ∧ (∀ j3 : Nat, j3 = (r0.1 4).toNatClampNeg → vp_in ((zA r0 5 j3 p1).1 4) 16 ∧ (∀ j4 : Nat, j4 = ((zA r0 5 j3 p1).1 4).toNatClampNeg → vp_in ((zA (zA r0 5 j3 p1) 6 j4 p2).1 4) 16 ∧ (∀ j5 : Nat, j5 = ((zA (zA r0 5 j3 p1) 6 j4 p2).1 4).toNatClampNeg → ∀ v6 : Int32, v6 = (((zA (zA (zA r0 5 j3 p1) 6 j4 p2) 7 j5 p3).1 4) + (1 : Int32)) → post (zI (zA (zA (zA r0 5 j3 p1) 6 j4 p2) 7 j5 p3) 4 v6)))))
def wp_X4_keep (r0 : zS) (p1 : Int32) (p2 : Int32) (p3 : Int32) (post : (zS) → Prop) : Prop :=
  ((r0.1 4) < (16 : Int32) → wp_X4_keep_60 p1 p2 p3 post r0) ∧ (¬ (r0.1 4) < (16 : Int32) → ((¬ (1 : Int32) < 0 ∧ ¬ (0 : Int32) < 0 ∧ ¬ (15 : Int32) < 0) ∧ (1 : Int32).toNatClampNeg + (15 : Int32).toNatClampNeg ≤ 16 ∧ (0 : Int32).toNatClampNeg + (15 : Int32).toNatClampNeg ≤ 16) ∧ (∀ g7 : Nat → Int32, g7 = va_cpy (r0.2.1 5) (r0.2.1 5) (1 : Int32).toNatClampNeg (0 : Int32).toNatClampNeg (15 : Int32).toNatClampNeg → ((¬ (1 : Int32) < 0 ∧ ¬ (0 : Int32) < 0 ∧ ¬ (15 : Int32) < 0) ∧ (1 : Int32).toNatClampNeg + (15 : Int32).toNatClampNeg ≤ 16 ∧ (0 : Int32).toNatClampNeg + (15 : Int32).toNatClampNeg ≤ 16) ∧ (∀ g8 : Nat → Int32, g8 = va_cpy ((zG r0 5 g7).2.1 6) ((zG r0 5 g7).2.1 6) (1 : Int32).toNatClampNeg (0 : Int32).toNatClampNeg (15 : Int32).toNatClampNeg → ((¬ (1 : Int32) < 0 ∧ ¬ (0 : Int32) < 0 ∧ ¬ (15 : Int32) < 0) ∧ (1 : Int32).toNatClampNeg + (15 : Int32).toNatClampNeg ≤ 16 ∧ (0 : Int32).toNatClampNeg + (15 : Int32).toNatClampNeg ≤ 16) ∧ (∀ g9 : Nat → Int32, g9 = va_cpy ((zG (zG r0 5 g7) 6 g8).2.1 7) ((zG (zG r0 5 g7) 6 g8).2.1 7) (1 : Int32).toNatClampNeg (0 : Int32).toNatClampNeg (15 : Int32).toNatClampNeg → wp_X4_keep_60 p1 p2 p3 post (zI (zG (zG (zG r0 5 g7) 6 g8) 7 g9) 4 (15 : Int32))))))
set_option maxHeartbeats 4000000 in
set_option maxRecDepth 100000 in
theorem t_X4_keep_60 {p : Program} {l : Launch} {e : Env} {s : State} {m : MethodId} {args : Array Value} {below : List Frame} {meth : Method} {c : Code} {D : va_G} {K : Nat → ClassId} {h0 : Nat} {a0 : Nat → Nat} {p1 : Int32} {p2 : Int32} {p3 : Int32} {post : (zS) → Prop} {A : Nat → Prop} (C : xC p s m args meth c cX4_keep RX4 4 none D vwCl (xty K)) (hA : ∀ q, s.heap.size ≤ q → A q) : ∀ (r0 : zS) (H : Heap) (locs : List Loc) (ls : Array Slot), lv_has ls 4 [(0, .ref h0), (1, .int p1), (2, .int p2), (3, .int p3)] → va_P D vwCl (wX4 K h0 a0 r0) H → va_D A (wX4 K h0 a0 r0) → va_S A s.heap H locs → wp_X4_keep_60 p1 p2 p3 post r0 → W p l e ({ frames := 1, cells := 0, slots := 0, locals := 80 } : Room) s m args below meth c H locs 0 0 (MQ below (va_Qv (fun (u : (zS)) => post u) (fun (u : (zS)) t => va_P D vwCl (wX4 K h0 a0 u) t.heap) A) args s 0 0 A) (F0 m 60 ls []) := by
  obtain ⟨hx, hb, hr, hml, hown, hts, hlocks, hK, hT⟩ := id C
  intro r0 H locs ls hl hP hD hS h
  unfold wp_X4_keep_60 at h
  refine lv_aload_n hx hb dX4_keep_60 rfl (lv_at hl 0 rfl) ?_
  refine va_get (D := D) (ci := 4) (v := .int (r0.1 4)) (C := RX4) (T := TX4) (N := 8) hx hb hts inlX4 hown hK hP 0 rfl rfl 4 (by decide) (hts (.fieldLink RX4 24 "UnderTheDesks$Truth" "kept" "I") mw_68) (fun _ h9 => h9) rfl dX4_keep_61 ?_
  refine lv_if_lt (tgt := 107) hx hb dX4_keep_64 (by decide) (fun c2 => ?_) (fun c2 => ?_)
  · replace h := And.left h c2
    exact xrw_v C r0 h hP hS dX4_keep_107
  · replace h := And.right h c2
    refine lv_aload_n hx hb dX4_keep_67 rfl (lv_at hl 0 rfl) ?_
    refine va_get (D := D) (ci := 4) (v := .ref (a0 5)) (C := RX4) (T := TX4) (N := 8) hx hb hts inlX4 hown hK hP 0 rfl rfl 5 (by decide) (hts (.fieldLink RX4 27 "UnderTheDesks$Truth" "alls" "[I") mw_69) (fun _ h9 => h9) rfl dX4_keep_68 ?_
    refine lv_aload_n hx hb dX4_keep_71 rfl (lv_at hl 0 rfl) ?_
    refine va_get (D := D) (ci := 4) (v := .int (r0.1 4)) (C := RX4) (T := TX4) (N := 8) hx hb hts inlX4 hown hK hP 0 rfl rfl 4 (by decide) (hts (.fieldLink RX4 24 "UnderTheDesks$Truth" "kept" "I") mw_68) (fun _ h9 => h9) rfl dX4_keep_72 ?_
    refine lv_iload_n hx hb dX4_keep_75 rfl (lv_at hl 1 rfl) ?_
    have hin := And.left h
    obtain ⟨j3, ej3⟩ : ∃ j : Nat, j = (r0.1 4).toNatClampNeg := ⟨_, rfl⟩
    replace h := And.right h j3 ej3
    refine xiast hx hb hK hP hD hS 1 0 rfl rfl hin ej3 dX4_keep_76 (fun H locs hP hD hS => ?_)
    replace hP : va_P D vwCl (wX4 K h0 a0 (zA r0 5 j3 p1)) H := hP
    replace hD : va_D A (wX4 K h0 a0 (zA r0 5 j3 p1)) := hD
    refine lv_aload_n hx hb dX4_keep_77 rfl (lv_at hl 0 rfl) ?_
    refine va_get (D := D) (ci := 4) (v := .ref (a0 6)) (C := RX4) (T := TX4) (N := 8) hx hb hts inlX4 hown hK hP 0 rfl rfl 6 (by decide) (hts (.fieldLink RX4 31 "UnderTheDesks$Truth" "betweens" "[I") mw_70) (fun _ h9 => h9) rfl dX4_keep_78 ?_
    refine lv_aload_n hx hb dX4_keep_81 rfl (lv_at hl 0 rfl) ?_
    refine va_get (D := D) (ci := 4) (v := .int ((zA r0 5 j3 p1).1 4)) (C := RX4) (T := TX4) (N := 8) hx hb hts inlX4 hown hK hP 0 rfl rfl 4 (by decide) (hts (.fieldLink RX4 24 "UnderTheDesks$Truth" "kept" "I") mw_68) (fun _ h9 => h9) rfl dX4_keep_82 ?_
    refine lv_iload_n hx hb dX4_keep_85 rfl (lv_at hl 2 rfl) ?_
    have hin := And.left h
    obtain ⟨j4, ej4⟩ : ∃ j : Nat, j = ((zA r0 5 j3 p1).1 4).toNatClampNeg := ⟨_, rfl⟩
    replace h := And.right h j4 ej4
    refine xiast hx hb hK hP hD hS 2 0 rfl rfl hin ej4 dX4_keep_86 (fun H locs hP hD hS => ?_)
    replace hP : va_P D vwCl (wX4 K h0 a0 (zA (zA r0 5 j3 p1) 6 j4 p2)) H := hP
    replace hD : va_D A (wX4 K h0 a0 (zA (zA r0 5 j3 p1) 6 j4 p2)) := hD
    refine lv_aload_n hx hb dX4_keep_87 rfl (lv_at hl 0 rfl) ?_
    refine va_get (D := D) (ci := 4) (v := .ref (a0 7)) (C := RX4) (T := TX4) (N := 8) hx hb hts inlX4 hown hK hP 0 rfl rfl 7 (by decide) (hts (.fieldLink RX4 34 "UnderTheDesks$Truth" "outcomes" "[I") mw_71) (fun _ h9 => h9) rfl dX4_keep_88 ?_
    refine lv_aload_n hx hb dX4_keep_91 rfl (lv_at hl 0 rfl) ?_
    refine va_get (D := D) (ci := 4) (v := .int ((zA (zA r0 5 j3 p1) 6 j4 p2).1 4)) (C := RX4) (T := TX4) (N := 8) hx hb hts inlX4 hown hK hP 0 rfl rfl 4 (by decide) (hts (.fieldLink RX4 24 "UnderTheDesks$Truth" "kept" "I") mw_68) (fun _ h9 => h9) rfl dX4_keep_92 ?_
    refine lv_iload_n hx hb dX4_keep_95 rfl (lv_at hl 3 rfl) ?_
    have hin := And.left h
    obtain ⟨j5, ej5⟩ : ∃ j : Nat, j = ((zA (zA r0 5 j3 p1) 6 j4 p2).1 4).toNatClampNeg := ⟨_, rfl⟩
    replace h := And.right h j5 ej5
    refine xiast hx hb hK hP hD hS 3 0 rfl rfl hin ej5 dX4_keep_96 (fun H locs hP hD hS => ?_)
    replace hP : va_P D vwCl (wX4 K h0 a0 (zA (zA (zA r0 5 j3 p1) 6 j4 p2) 7 j5 p3)) H := hP
    replace hD : va_D A (wX4 K h0 a0 (zA (zA (zA r0 5 j3 p1) 6 j4 p2) 7 j5 p3)) := hD
    refine lv_aload_n hx hb dX4_keep_97 rfl (lv_at hl 0 rfl) ?_
    refine lv_dup hx hb dX4_keep_98 rfl ?_
    refine va_get (D := D) (ci := 4) (v := .int ((zA (zA (zA r0 5 j3 p1) 6 j4 p2) 7 j5 p3).1 4)) (C := RX4) (T := TX4) (N := 8) hx hb hts inlX4 hown hK hP 0 rfl rfl 4 (by decide) (hts (.fieldLink RX4 24 "UnderTheDesks$Truth" "kept" "I") mw_68) (fun _ h9 => h9) rfl dX4_keep_99 ?_
    refine lv_iconst (v := 1) hx hb dX4_keep_102 (by decide) ?_
    refine lv_iadd hx hb dX4_keep_103 ?_
    refine lv_topi (fun v6 ev6 => ?_)
    replace h := h v6 ev6
    refine va_put (D := D) (ci := 4) (v := .int v6) (ty := .int) (C := RX4) (T := TX4) (N := 8) hx hb hts inlX4 tyX4 tyX4_ok nmX4 hown hK hP hD hS 0 rfl rfl 4 (by decide) (hts (.fieldLink RX4 24 "UnderTheDesks$Truth" "kept" "I") mw_68) (fun _ h9 => h9) rfl (by decide +kernel) rfl rfl (Nat.le_of_ble_eq_true rfl) dX4_keep_104 (fun H locs hP hD hS => ?_)
    replace hP : va_P D vwCl (wX4 K h0 a0 (zI (zA (zA (zA r0 5 j3 p1) 6 j4 p2) 7 j5 p3) 4 v6)) H := hP
    replace hD : va_D A (wX4 K h0 a0 (zI (zA (zA (zA r0 5 j3 p1) 6 j4 p2) 7 j5 p3) 4 v6)) := hD
    exact xrw_v C (zI (zA (zA (zA r0 5 j3 p1) 6 j4 p2) 7 j5 p3) 4 v6) h hP hS dX4_keep_107
set_option maxHeartbeats 4000000 in
set_option maxRecDepth 100000 in
theorem c_X4_keep {l : Launch} {D : va_G} {K : Nat → ClassId} {h0 : Nat} {a0 : Nat → Nat} {r0 : zS} {p1 : Int32} {p2 : Int32} {p3 : Int32} {sz : Nat} {post : (zS) → Prop}   (h : wp_X4_keep r0 p1 p2 p3 post) : Met l yX4_keep (Cond.code yX4_keep cX4_keep 4 none :: wsL_law) ({ frames := 1, cells := 0, slots := 0, locals := 80 } : Room) (va_Pc [.ref h0, .int p1, .int p2, .int p3] (xPre D vwCl (xty K) (wX4 K h0 a0 r0) sz)) (va_Qv (fun (u : (zS)) => post u) (fun (u : (zS)) t => va_P D vwCl (wX4 K h0 a0 u) t.heap) (va_A (wX4 K h0 a0 r0) sz)) 0 0 (va_A (wX4 K h0 a0 r0) sz) := by
  refine xMet (by decide) rfl (Nat.le_of_ble_eq_true rfl) (fun p e s m args below meth c C hnm hP hD hsz ls hl => ?_)
  have hl : lv_has ls 4 [(0, .ref h0), (1, .int p1), (2, .int p2), (3, .int p3)] := hl
  obtain ⟨hx, hb, hr, hml, hown, hts, hlocks, hK, hT⟩ := id C
  subst hsz
  generalize hAe : va_A (wX4 K h0 a0 r0) s.heap.size = A at hD ⊢
  have hA : ∀ q : Nat, s.heap.size ≤ q → A q := fun q h => by rw [← hAe]; exact Or.inr h
  have hS : va_S A s.heap s.heap [] := va_S.rf
  have hP : va_P D vwCl (wX4 K h0 a0 r0) s.heap := hP
  unfold wp_X4_keep at h
  refine lv_aload_n hx hb dX4_keep_0 rfl (lv_at hl 0 rfl) ?_
  refine va_get (D := D) (ci := 4) (v := .int (r0.1 4)) (C := RX4) (T := TX4) (N := 8) hx hb hts inlX4 hown hK hP 0 rfl rfl 4 (by decide) (hts (.fieldLink RX4 24 "UnderTheDesks$Truth" "kept" "I") mw_68) (fun _ h9 => h9) rfl dX4_keep_1 ?_
  refine lv_bipush (v := 16) hx hb dX4_keep_4 (by decide) ?_
  refine lv_icmp_lt (tgt := 60) hx hb dX4_keep_6 (by decide) (fun c1 => ?_) (fun c1 => ?_)
  · replace h := And.left h c1
    exact t_X4_keep_60 C hA _ _ _ _ (lv_sub hl [0, 1, 2, 3] rfl) hP hD hS h
  · replace h := And.right h c1
    refine lv_aload_n hx hb dX4_keep_9 rfl (lv_at hl 0 rfl) ?_
    refine va_get (D := D) (ci := 4) (v := .ref (a0 5)) (C := RX4) (T := TX4) (N := 8) hx hb hts inlX4 hown hK hP 0 rfl rfl 5 (by decide) (hts (.fieldLink RX4 27 "UnderTheDesks$Truth" "alls" "[I") mw_69) (fun _ h9 => h9) rfl dX4_keep_10 ?_
    refine lv_iconst (v := 1) hx hb dX4_keep_13 (by decide) ?_
    refine lv_aload_n hx hb dX4_keep_14 rfl (lv_at hl 0 rfl) ?_
    refine va_get (D := D) (ci := 4) (v := .ref (a0 5)) (C := RX4) (T := TX4) (N := 8) hx hb hts inlX4 hown hK hP 0 rfl rfl 5 (by decide) (hts (.fieldLink RX4 27 "UnderTheDesks$Truth" "alls" "[I") mw_69) (fun _ h9 => h9) rfl dX4_keep_15 ?_
    refine lv_iconst (v := 0) hx hb dX4_keep_18 (by decide) ?_
    refine lv_bipush (v := 15) hx hb dX4_keep_19 (by decide) ?_
    have hcp := And.left h
    replace h := And.right h
    obtain ⟨g7, eg7⟩ : ∃ z : Nat → Int32, z = va_cpy (r0.2.1 5) (r0.2.1 5) (1 : Int32).toNatClampNeg (0 : Int32).toNatClampNeg (15 : Int32).toNatClampNeg := ⟨_, rfl⟩
    replace h := h g7 eg7
    refine xcopyi hx hb (by rw [hml]; exact hl.1.symm) hown (hts _ mw_1146) (hts _ mw_215) (hts _ mw_216) (hts _ mw_217) hK hP hD hS 1 1 0 0 rfl rfl rfl rfl rfl hcp.1.1 hcp.1.2.1 hcp.1.2.2 hcp.2.1 hcp.2.2 (fun i _ => rfl) eg7 (Nat.le_of_ble_eq_true rfl) (Nat.le_of_ble_eq_true rfl) dX4_keep_21 (fun H locs hP hD hS => ?_)
    replace hP : va_P D vwCl (wX4 K h0 a0 (zG r0 5 g7)) H := hP
    replace hD : va_D A (wX4 K h0 a0 (zG r0 5 g7)) := hD
    refine lv_aload_n hx hb dX4_keep_24 rfl (lv_at hl 0 rfl) ?_
    refine va_get (D := D) (ci := 4) (v := .ref (a0 6)) (C := RX4) (T := TX4) (N := 8) hx hb hts inlX4 hown hK hP 0 rfl rfl 6 (by decide) (hts (.fieldLink RX4 31 "UnderTheDesks$Truth" "betweens" "[I") mw_70) (fun _ h9 => h9) rfl dX4_keep_25 ?_
    refine lv_iconst (v := 1) hx hb dX4_keep_28 (by decide) ?_
    refine lv_aload_n hx hb dX4_keep_29 rfl (lv_at hl 0 rfl) ?_
    refine va_get (D := D) (ci := 4) (v := .ref (a0 6)) (C := RX4) (T := TX4) (N := 8) hx hb hts inlX4 hown hK hP 0 rfl rfl 6 (by decide) (hts (.fieldLink RX4 31 "UnderTheDesks$Truth" "betweens" "[I") mw_70) (fun _ h9 => h9) rfl dX4_keep_30 ?_
    refine lv_iconst (v := 0) hx hb dX4_keep_33 (by decide) ?_
    refine lv_bipush (v := 15) hx hb dX4_keep_34 (by decide) ?_
    have hcp := And.left h
    replace h := And.right h
    obtain ⟨g8, eg8⟩ : ∃ z : Nat → Int32, z = va_cpy ((zG r0 5 g7).2.1 6) ((zG r0 5 g7).2.1 6) (1 : Int32).toNatClampNeg (0 : Int32).toNatClampNeg (15 : Int32).toNatClampNeg := ⟨_, rfl⟩
    replace h := h g8 eg8
    refine xcopyi hx hb (by rw [hml]; exact hl.1.symm) hown (hts _ mw_1146) (hts _ mw_215) (hts _ mw_216) (hts _ mw_217) hK hP hD hS 2 2 0 0 rfl rfl rfl rfl rfl hcp.1.1 hcp.1.2.1 hcp.1.2.2 hcp.2.1 hcp.2.2 (fun i _ => rfl) eg8 (Nat.le_of_ble_eq_true rfl) (Nat.le_of_ble_eq_true rfl) dX4_keep_36 (fun H locs hP hD hS => ?_)
    replace hP : va_P D vwCl (wX4 K h0 a0 (zG (zG r0 5 g7) 6 g8)) H := hP
    replace hD : va_D A (wX4 K h0 a0 (zG (zG r0 5 g7) 6 g8)) := hD
    refine lv_aload_n hx hb dX4_keep_39 rfl (lv_at hl 0 rfl) ?_
    refine va_get (D := D) (ci := 4) (v := .ref (a0 7)) (C := RX4) (T := TX4) (N := 8) hx hb hts inlX4 hown hK hP 0 rfl rfl 7 (by decide) (hts (.fieldLink RX4 34 "UnderTheDesks$Truth" "outcomes" "[I") mw_71) (fun _ h9 => h9) rfl dX4_keep_40 ?_
    refine lv_iconst (v := 1) hx hb dX4_keep_43 (by decide) ?_
    refine lv_aload_n hx hb dX4_keep_44 rfl (lv_at hl 0 rfl) ?_
    refine va_get (D := D) (ci := 4) (v := .ref (a0 7)) (C := RX4) (T := TX4) (N := 8) hx hb hts inlX4 hown hK hP 0 rfl rfl 7 (by decide) (hts (.fieldLink RX4 34 "UnderTheDesks$Truth" "outcomes" "[I") mw_71) (fun _ h9 => h9) rfl dX4_keep_45 ?_
    refine lv_iconst (v := 0) hx hb dX4_keep_48 (by decide) ?_
    refine lv_bipush (v := 15) hx hb dX4_keep_49 (by decide) ?_
    have hcp := And.left h
    replace h := And.right h
    obtain ⟨g9, eg9⟩ : ∃ z : Nat → Int32, z = va_cpy ((zG (zG r0 5 g7) 6 g8).2.1 7) ((zG (zG r0 5 g7) 6 g8).2.1 7) (1 : Int32).toNatClampNeg (0 : Int32).toNatClampNeg (15 : Int32).toNatClampNeg := ⟨_, rfl⟩
    replace h := h g9 eg9
    refine xcopyi hx hb (by rw [hml]; exact hl.1.symm) hown (hts _ mw_1146) (hts _ mw_215) (hts _ mw_216) (hts _ mw_217) hK hP hD hS 3 3 0 0 rfl rfl rfl rfl rfl hcp.1.1 hcp.1.2.1 hcp.1.2.2 hcp.2.1 hcp.2.2 (fun i _ => rfl) eg9 (Nat.le_of_ble_eq_true rfl) (Nat.le_of_ble_eq_true rfl) dX4_keep_51 (fun H locs hP hD hS => ?_)
    replace hP : va_P D vwCl (wX4 K h0 a0 (zG (zG (zG r0 5 g7) 6 g8) 7 g9)) H := hP
    replace hD : va_D A (wX4 K h0 a0 (zG (zG (zG r0 5 g7) 6 g8) 7 g9)) := hD
    refine lv_aload_n hx hb dX4_keep_54 rfl (lv_at hl 0 rfl) ?_
    refine lv_bipush (v := 15) hx hb dX4_keep_55 (by decide) ?_
    refine va_put (D := D) (ci := 4) (v := .int (15 : Int32)) (ty := .int) (C := RX4) (T := TX4) (N := 8) hx hb hts inlX4 tyX4 tyX4_ok nmX4 hown hK hP hD hS 0 rfl rfl 4 (by decide) (hts (.fieldLink RX4 24 "UnderTheDesks$Truth" "kept" "I") mw_68) (fun _ h9 => h9) rfl (by decide +kernel) rfl rfl (Nat.le_of_ble_eq_true rfl) dX4_keep_57 (fun H locs hP hD hS => ?_)
    replace hP : va_P D vwCl (wX4 K h0 a0 (zI (zG (zG (zG r0 5 g7) 6 g8) 7 g9) 4 (15 : Int32))) H := hP
    replace hD : va_D A (wX4 K h0 a0 (zI (zG (zG (zG r0 5 g7) 6 g8) 7 g9) 4 (15 : Int32))) := hD
    exact t_X4_keep_60 C hA _ _ _ _ (lv_sub hl [0, 1, 2, 3] rfl) hP hD hS h

def wp_X4_pass_151 (r1 : zS) (r2 : zS) (p3 : Int32) (post : Int32 → (zS) → Prop) (r0 : zS) (x5 : Int32) (y0 : Int32) (y1 : Int32) (y2 : Int32) : Prop :=
  wp_X4_keep r0 y2 y1 y0 (fun s10 => (x5 = 0 → post (1 : Int32) s10) ∧ (¬ x5 = 0 → post (0 : Int32) s10))
def wp_X4_pass_130 (r1 : zS) (r2 : zS) (p3 : Int32) (post : Int32 → (zS) → Prop) (r0 : zS) (x5 : Int32) : Prop :=
  wp_X6_allOf r2 p3 (fun v6 => wp_X6_betweenOf r2 p3 (fun v7 => (x5 = 0 → wp_X4_pass_151 r1 r2 p3 post r0 x5 (1 : Int32) v7 v6) ∧ (¬ x5 = 0 → wp_X4_pass_151 r1 r2 p3 post r0 x5 (0 : Int32) v7 v6)))
def wp_X4_pass_105 (r1 : zS) (r2 : zS) (p3 : Int32) (post : Int32 → (zS) → Prop) (r0 : zS) (x5 : Int32) : Prop :=
  ∀ v4 : Int32, v4 = ((r0.1 2) + (1 : Int32)) → (x5 = 0 → ∀ v12 : Int32, v12 = (((zI r0 2 v4).1 3) + (1 : Int32)) → wp_X4_pass_130 r1 r2 p3 post (zI (zI r0 2 v4) 3 v12) x5) ∧ (¬ x5 = 0 → wp_X4_pass_130 r1 r2 p3 post (zI r0 2 v4) x5)
def wp_X4_pass_77 (r1 : zS) (r2 : zS) (p3 : Int32) (post : Int32 → (zS) → Prop) (k15 : (zS) → Int32 → Int32 → Int32 → Prop) (r0 : zS) (x4 : Int32) (x6 : Int32) (y0 : Int32) : Prop :=
  wp_X6_pupilOn r2 p3 x6 (fun v20 => wp_X1_handOf r1 v20 (fun v21 => ∀ v22 : Int32, v22 = ((r0.1 0) + v21) → ∀ v23 : Int32, v23 = x6 + (1 : Int32) → k15 (zI r0 0 v22) x4 y0 v23))
def wp_X4_pass_51 (r1 : zS) (r2 : zS) (p3 : Int32) (post : Int32 → (zS) → Prop) (k15 : (zS) → Int32 → Int32 → Int32 → Prop) (r0 : zS) (x4 : Int32) (x6 : Int32) (y0 : Int32) (y1 : Int32) : Prop :=
  wp_X1_lossOf r1 y1 y0 (r0.1 0) (fun v16 => wp_X4_draw r0 (1000 : Int32) (fun v17 s18 => (v16 ≤ v17 → wp_X4_pass_77 r1 r2 p3 post k15 s18 x4 x6 (0 : Int32)) ∧ (¬ v16 ≤ v17 → wp_X4_pass_77 r1 r2 p3 post k15 s18 x4 x6 (1 : Int32))))
def wb_X4_pass_15 (r1 : zS) (r2 : zS) (p3 : Int32) (post : Int32 → (zS) → Prop) (ih : (zS) → Int32 → Int32 → Int32 → Prop) (r0 : zS) (x4 : Int32) (x5 : Int32) (x6 : Int32) : Prop :=
  (x4 ≤ x6 → wp_X4_pass_105 r1 r2 p3 post r0 x5) ∧ (¬ x4 ≤ x6 → (x5 = 0 → wp_X6_pupilOn r2 p3 (x6 + (1 : Int32)) (fun v14 => (x6 = (x4 - (1 : Int32)) → wp_X4_pass_51 r1 r2 p3 post ih r0 x4 x6 (1 : Int32) v14) ∧ (¬ x6 = (x4 - (1 : Int32)) → wp_X4_pass_51 r1 r2 p3 post ih r0 x4 x6 (0 : Int32) v14))) ∧ (¬ x5 = 0 → wp_X4_pass_105 r1 r2 p3 post r0 x5))
def wp_X4_pass_15 (r1 : zS) (r2 : zS) (p3 : Int32) (post : Int32 → (zS) → Prop) (n : Nat) : (zS) → Int32 → Int32 → Int32 → Prop := Nat.rec (motive := fun _ => (zS) → Int32 → Int32 → Int32 → Prop) (fun _ _ _ _ => False) (fun _ ih => wb_X4_pass_15 r1 r2 p3 post ih) n
theorem wu_X4_pass_15 (r1 : zS) (r2 : zS) (p3 : Int32) (post : Int32 → (zS) → Prop) (n : Nat) (r0 : zS) (x4 : Int32) (x5 : Int32) (x6 : Int32) : wp_X4_pass_15 r1 r2 p3 post (n + 1) r0 x4 x5 x6 = wb_X4_pass_15 r1 r2 p3 post (wp_X4_pass_15 r1 r2 p3 post n) r0 x4 x5 x6 := rfl
def wp_X4_pass (r0 : zS) (r1 : zS) (r2 : zS) (p3 : Int32) (post : Int32 → (zS) → Prop) : Prop :=
  wp_X6_sizeOf r2 p3 (fun v1 => ∀ v2 : Int32, v2 = (v1 - (1 : Int32)) → ∃ n : Nat, wp_X4_pass_15 r1 r2 p3 post n r0 v2 (0 : Int32) (0 : Int32))
set_option maxHeartbeats 4000000 in
set_option maxRecDepth 100000 in
theorem t_X4_pass_151 {p : Program} {l : Launch} {e : Env} {s : State} {m : MethodId} {args : Array Value} {below : List Frame} {meth : Method} {c : Code} {D : va_G} {K : Nat → ClassId} {h0 : Nat} {a0 : Nat → Nat} {h1 : Nat} {a1 : Nat → Nat} {r1 : zS} {h2 : Nat} {a2 : Nat → Nat} {r2 : zS} {p3 : Int32} {post : Int32 → (zS) → Prop} {A : Nat → Prop} (C : xC p s m args meth c cX4_pass RX4 8 (some .boolean) D vwCl (xty K)) (hA : ∀ q, s.heap.size ≤ q → A q) : ∀ (r0 : zS) (x5 : Int32) (y0 : Int32) (y1 : Int32) (y2 : Int32) (H : Heap) (locs : List Loc) (ls : Array Slot), lv_has ls 8 [(5, .int x5)] → va_P D vwCl (wX4 K h0 a0 r0 ++ (wX1 K h1 a1 r1 ++ (wX6 K h2 a2 r2))) H → va_D A (wX4 K h0 a0 r0 ++ (wX1 K h1 a1 r1 ++ (wX6 K h2 a2 r2))) → va_S A s.heap H locs → wp_X4_pass_151 r1 r2 p3 post r0 x5 y0 y1 y2 → W p l e ({ frames := 4, cells := 0, slots := 0, locals := 104 } : Room) s m args below meth c H locs 0 0 (MQ below (va_Qi (fun r (u : (zS)) => post r u) (fun (u : (zS)) t => va_P D vwCl (wX4 K h0 a0 u ++ (wX1 K h1 a1 r1 ++ (wX6 K h2 a2 r2))) t.heap) A) args s 0 0 A) (F0 m 151 ls [.int y0, .int y1, .int y2, .ref h0]) := by
  obtain ⟨hx, hb, hr, hml, hown, hts, hlocks, hK, hT⟩ := id C
  intro r0 x5 y0 y1 y2 H locs ls hl hP hD hS h
  unfold wp_X4_pass_151 at h
  refine xend_rw_v (wf := fun (u : (zS)) => (wX4 K h0 a0 u)) (xRunV (wc := (wX4 K h0 a0 r0)) (As := [.int y2, .int y1, .int y0]) (rest := []) C (c_X4_keep h) k_X4_keep mw_1142 ⟨rfl, rfl⟩ ⟨Nat.le_of_ble_eq_true rfl, Nat.le_of_ble_eq_true rfl⟩ hP hD [0, 1, 2, 3] rfl rfl rfl rfl hl rfl rfl (Nat.le_of_ble_eq_true rfl) dX4_pass_151 ⟨Nat.le_refl _, Nat.le_refl _⟩) hP hD hS hA [0, 1, 2, 3] rfl rfl (fun _ => rfl) (fun s10 H locs h hP hD hS => ?_)
  replace hP : va_P D vwCl (wX4 K h0 a0 s10 ++ (wX1 K h1 a1 r1 ++ (wX6 K h2 a2 r2))) H := hP
  replace hD : va_D A (wX4 K h0 a0 s10 ++ (wX1 K h1 a1 r1 ++ (wX6 K h2 a2 r2))) := hD
  refine lv_iload hx hb dX4_pass_154 (lv_at hl 0 rfl) ?_
  refine lv_if_ne (tgt := 163) hx hb dX4_pass_156 (by decide) (fun c11 => ?_) (fun c11 => ?_)
  · replace h := And.right h c11
    refine lv_iconst (v := 0) hx hb dX4_pass_163 (by decide) ?_
    exact xrw_z C s10 rfl h hP hS dX4_pass_164
  · replace h := And.left h c11
    refine lv_iconst (v := 1) hx hb dX4_pass_159 (by decide) ?_
    refine lv_goto (tgt := 164) hx hb dX4_pass_160 (by decide) ?_
    exact xrw_z C s10 rfl h hP hS dX4_pass_164
set_option maxHeartbeats 4000000 in
set_option maxRecDepth 100000 in
theorem t_X4_pass_130 {p : Program} {l : Launch} {e : Env} {s : State} {m : MethodId} {args : Array Value} {below : List Frame} {meth : Method} {c : Code} {D : va_G} {K : Nat → ClassId} {h0 : Nat} {a0 : Nat → Nat} {h1 : Nat} {a1 : Nat → Nat} {r1 : zS} {h2 : Nat} {a2 : Nat → Nat} {r2 : zS} {p3 : Int32} {post : Int32 → (zS) → Prop} {A : Nat → Prop} (C : xC p s m args meth c cX4_pass RX4 8 (some .boolean) D vwCl (xty K)) (hA : ∀ q, s.heap.size ≤ q → A q) : ∀ (r0 : zS) (x5 : Int32) (H : Heap) (locs : List Loc) (ls : Array Slot), lv_has ls 8 [(0, .ref h0), (2, .ref h2), (3, .int p3), (5, .int x5)] → va_P D vwCl (wX4 K h0 a0 r0 ++ (wX1 K h1 a1 r1 ++ (wX6 K h2 a2 r2))) H → va_D A (wX4 K h0 a0 r0 ++ (wX1 K h1 a1 r1 ++ (wX6 K h2 a2 r2))) → va_S A s.heap H locs → wp_X4_pass_130 r1 r2 p3 post r0 x5 → W p l e ({ frames := 4, cells := 0, slots := 0, locals := 104 } : Room) s m args below meth c H locs 0 0 (MQ below (va_Qi (fun r (u : (zS)) => post r u) (fun (u : (zS)) t => va_P D vwCl (wX4 K h0 a0 u ++ (wX1 K h1 a1 r1 ++ (wX6 K h2 a2 r2))) t.heap) A) args s 0 0 A) (F0 m 130 ls []) := by
  obtain ⟨hx, hb, hr, hml, hown, hts, hlocks, hK, hT⟩ := id C
  intro r0 x5 H locs ls hl hP hD hS h
  unfold wp_X4_pass_130 at h
  refine lv_aload_n hx hb dX4_pass_130 rfl (lv_at hl 0 rfl) ?_
  refine lv_aload_n hx hb dX4_pass_131 rfl (lv_at hl 1 rfl) ?_
  refine lv_iload_n hx hb dX4_pass_132 rfl (lv_at hl 2 rfl) ?_
  refine xend_ro_i (xRunV (wc := (wX6 K h2 a2 r2)) (As := [.int p3]) (rest := [.ref h0]) C (c_X6_allOf h) k_X6_allOf mw_1140 ⟨rfl, rfl⟩ ⟨Nat.le_of_ble_eq_true rfl, Nat.le_of_ble_eq_true rfl⟩ hP hD [10, 11, 12, 13, 14] rfl rfl rfl rfl hl rfl rfl (Nat.le_of_ble_eq_true rfl) dX4_pass_133 ⟨Nat.le_refl _, Nat.le_refl _⟩) (fun v6 h => ?_)
  refine lv_aload_n hx hb dX4_pass_136 rfl (lv_at hl 1 rfl) ?_
  refine lv_iload_n hx hb dX4_pass_137 rfl (lv_at hl 2 rfl) ?_
  refine xend_ro_i (xRunV (wc := (wX6 K h2 a2 r2)) (As := [.int p3]) (rest := [.int v6, .ref h0]) C (c_X6_betweenOf h) k_X6_betweenOf mw_1141 ⟨rfl, rfl⟩ ⟨Nat.le_of_ble_eq_true rfl, Nat.le_of_ble_eq_true rfl⟩ hP hD [10, 11, 12, 13, 14] rfl rfl rfl rfl hl rfl rfl (Nat.le_of_ble_eq_true rfl) dX4_pass_138 ⟨Nat.le_refl _, Nat.le_refl _⟩) (fun v7 h => ?_)
  refine lv_iload hx hb dX4_pass_141 (lv_at hl 3 rfl) ?_
  refine lv_if_eq (tgt := 150) hx hb dX4_pass_143 (by decide) (fun c8 => ?_) (fun c8 => ?_)
  · replace h := And.left h c8
    refine lv_iconst (v := 1) hx hb dX4_pass_150 (by decide) ?_
    exact t_X4_pass_151 C hA _ _ _ _ _ _ _ _ (lv_sub hl [3] rfl) hP hD hS h
  · replace h := And.right h c8
    refine lv_iconst (v := 0) hx hb dX4_pass_146 (by decide) ?_
    refine lv_goto (tgt := 151) hx hb dX4_pass_147 (by decide) ?_
    exact t_X4_pass_151 C hA _ _ _ _ _ _ _ _ (lv_sub hl [3] rfl) hP hD hS h
set_option maxHeartbeats 4000000 in
set_option maxRecDepth 100000 in
theorem t_X4_pass_105 {p : Program} {l : Launch} {e : Env} {s : State} {m : MethodId} {args : Array Value} {below : List Frame} {meth : Method} {c : Code} {D : va_G} {K : Nat → ClassId} {h0 : Nat} {a0 : Nat → Nat} {h1 : Nat} {a1 : Nat → Nat} {r1 : zS} {h2 : Nat} {a2 : Nat → Nat} {r2 : zS} {p3 : Int32} {post : Int32 → (zS) → Prop} {A : Nat → Prop} (C : xC p s m args meth c cX4_pass RX4 8 (some .boolean) D vwCl (xty K)) (hA : ∀ q, s.heap.size ≤ q → A q) : ∀ (r0 : zS) (x5 : Int32) (H : Heap) (locs : List Loc) (ls : Array Slot), lv_has ls 8 [(0, .ref h0), (2, .ref h2), (3, .int p3), (5, .int x5)] → va_P D vwCl (wX4 K h0 a0 r0 ++ (wX1 K h1 a1 r1 ++ (wX6 K h2 a2 r2))) H → va_D A (wX4 K h0 a0 r0 ++ (wX1 K h1 a1 r1 ++ (wX6 K h2 a2 r2))) → va_S A s.heap H locs → wp_X4_pass_105 r1 r2 p3 post r0 x5 → W p l e ({ frames := 4, cells := 0, slots := 0, locals := 104 } : Room) s m args below meth c H locs 0 0 (MQ below (va_Qi (fun r (u : (zS)) => post r u) (fun (u : (zS)) t => va_P D vwCl (wX4 K h0 a0 u ++ (wX1 K h1 a1 r1 ++ (wX6 K h2 a2 r2))) t.heap) A) args s 0 0 A) (F0 m 105 ls []) := by
  obtain ⟨hx, hb, hr, hml, hown, hts, hlocks, hK, hT⟩ := id C
  intro r0 x5 H locs ls hl hP hD hS h
  unfold wp_X4_pass_105 at h
  refine lv_aload_n hx hb dX4_pass_105 rfl (lv_at hl 0 rfl) ?_
  refine lv_dup hx hb dX4_pass_106 rfl ?_
  refine va_get (D := D) (ci := 4) (v := .int (r0.1 2)) (C := RX4) (T := TX4) (N := 8) hx hb hts inlX4 hown hK hP 0 rfl rfl 2 (by decide) (hts (.fieldLink RX4 18 "UnderTheDesks$Truth" "sent" "I") mw_66) (fun _ h9 => h9) rfl dX4_pass_107 ?_
  refine lv_iconst (v := 1) hx hb dX4_pass_110 (by decide) ?_
  refine lv_iadd hx hb dX4_pass_111 ?_
  refine lv_topi (fun v4 ev4 => ?_)
  replace h := h v4 ev4
  refine va_put (D := D) (ci := 4) (v := .int v4) (ty := .int) (C := RX4) (T := TX4) (N := 8) hx hb hts inlX4 tyX4 tyX4_ok nmX4 hown hK hP hD hS 0 rfl rfl 2 (by decide) (hts (.fieldLink RX4 18 "UnderTheDesks$Truth" "sent" "I") mw_66) (fun _ h9 => h9) rfl (by decide +kernel) rfl rfl (Nat.le_of_ble_eq_true rfl) dX4_pass_112 (fun H locs hP hD hS => ?_)
  replace hP : va_P D vwCl (wX4 K h0 a0 (zI r0 2 v4) ++ (wX1 K h1 a1 r1 ++ (wX6 K h2 a2 r2))) H := hP
  replace hD : va_D A (wX4 K h0 a0 (zI r0 2 v4) ++ (wX1 K h1 a1 r1 ++ (wX6 K h2 a2 r2))) := hD
  refine lv_iload hx hb dX4_pass_115 (lv_at hl 3 rfl) ?_
  refine lv_if_ne (tgt := 130) hx hb dX4_pass_117 (by decide) (fun c5 => ?_) (fun c5 => ?_)
  · replace h := And.right h c5
    exact t_X4_pass_130 C hA _ _ _ _ _ (lv_sub hl [0, 1, 2, 3] rfl) hP hD hS h
  · replace h := And.left h c5
    refine lv_aload_n hx hb dX4_pass_120 rfl (lv_at hl 0 rfl) ?_
    refine lv_dup hx hb dX4_pass_121 rfl ?_
    refine va_get (D := D) (ci := 4) (v := .int ((zI r0 2 v4).1 3)) (C := RX4) (T := TX4) (N := 8) hx hb hts inlX4 hown hK hP 0 rfl rfl 3 (by decide) (hts (.fieldLink RX4 21 "UnderTheDesks$Truth" "arrivals" "I") mw_67) (fun _ h9 => h9) rfl dX4_pass_122 ?_
    refine lv_iconst (v := 1) hx hb dX4_pass_125 (by decide) ?_
    refine lv_iadd hx hb dX4_pass_126 ?_
    refine lv_topi (fun v12 ev12 => ?_)
    replace h := h v12 ev12
    refine va_put (D := D) (ci := 4) (v := .int v12) (ty := .int) (C := RX4) (T := TX4) (N := 8) hx hb hts inlX4 tyX4 tyX4_ok nmX4 hown hK hP hD hS 0 rfl rfl 3 (by decide) (hts (.fieldLink RX4 21 "UnderTheDesks$Truth" "arrivals" "I") mw_67) (fun _ h9 => h9) rfl (by decide +kernel) rfl rfl (Nat.le_of_ble_eq_true rfl) dX4_pass_127 (fun H locs hP hD hS => ?_)
    replace hP : va_P D vwCl (wX4 K h0 a0 (zI (zI r0 2 v4) 3 v12) ++ (wX1 K h1 a1 r1 ++ (wX6 K h2 a2 r2))) H := hP
    replace hD : va_D A (wX4 K h0 a0 (zI (zI r0 2 v4) 3 v12) ++ (wX1 K h1 a1 r1 ++ (wX6 K h2 a2 r2))) := hD
    exact t_X4_pass_130 C hA _ _ _ _ _ (lv_sub hl [0, 1, 2, 3] rfl) hP hD hS h
set_option maxHeartbeats 4000000 in
set_option maxRecDepth 100000 in
theorem t_X4_pass_77 {p : Program} {l : Launch} {e : Env} {s : State} {m : MethodId} {args : Array Value} {below : List Frame} {meth : Method} {c : Code} {D : va_G} {K : Nat → ClassId} {h0 : Nat} {a0 : Nat → Nat} {h1 : Nat} {a1 : Nat → Nat} {r1 : zS} {h2 : Nat} {a2 : Nat → Nat} {r2 : zS} {p3 : Int32} {post : Int32 → (zS) → Prop} {A : Nat → Prop} (C : xC p s m args meth c cX4_pass RX4 8 (some .boolean) D vwCl (xty K)) (hA : ∀ q, s.heap.size ≤ q → A q) {k15 : (zS) → Int32 → Int32 → Int32 → Prop} (hk15 : ∀ (r0 : zS) (x4 : Int32) (x5 : Int32) (x6 : Int32) (H : Heap) (locs : List Loc) (ls : Array Slot), lv_has ls 8 [(0, .ref h0), (1, .ref h1), (2, .ref h2), (3, .int p3), (4, .int x4), (5, .int x5), (6, .int x6)] → va_P D vwCl (wX4 K h0 a0 r0 ++ (wX1 K h1 a1 r1 ++ (wX6 K h2 a2 r2))) H → va_D A (wX4 K h0 a0 r0 ++ (wX1 K h1 a1 r1 ++ (wX6 K h2 a2 r2))) → va_S A s.heap H locs → k15 r0 x4 x5 x6  → W p l e ({ frames := 4, cells := 0, slots := 0, locals := 104 } : Room) s m args below meth c H locs 0 0 (MQ below (va_Qi (fun r (u : (zS)) => post r u) (fun (u : (zS)) t => va_P D vwCl (wX4 K h0 a0 u ++ (wX1 K h1 a1 r1 ++ (wX6 K h2 a2 r2))) t.heap) A) args s 0 0 A) (F0 m 15 ls [])) : ∀ (r0 : zS) (x4 : Int32) (x6 : Int32) (y0 : Int32) (H : Heap) (locs : List Loc) (ls : Array Slot), lv_has ls 8 [(0, .ref h0), (1, .ref h1), (2, .ref h2), (3, .int p3), (4, .int x4), (6, .int x6)] → va_P D vwCl (wX4 K h0 a0 r0 ++ (wX1 K h1 a1 r1 ++ (wX6 K h2 a2 r2))) H → va_D A (wX4 K h0 a0 r0 ++ (wX1 K h1 a1 r1 ++ (wX6 K h2 a2 r2))) → va_S A s.heap H locs → wp_X4_pass_77 r1 r2 p3 post k15 r0 x4 x6 y0 → W p l e ({ frames := 4, cells := 0, slots := 0, locals := 104 } : Room) s m args below meth c H locs 0 0 (MQ below (va_Qi (fun r (u : (zS)) => post r u) (fun (u : (zS)) t => va_P D vwCl (wX4 K h0 a0 u ++ (wX1 K h1 a1 r1 ++ (wX6 K h2 a2 r2))) t.heap) A) args s 0 0 A) (F0 m 77 ls [.int y0]) := by
  obtain ⟨hx, hb, hr, hml, hown, hts, hlocks, hK, hT⟩ := id C
  intro r0 x4 x6 y0 H locs ls hl hP hD hS h
  unfold wp_X4_pass_77 at h
  refine lv_istore (lv' := [(5, .int y0), (0, .ref h0), (1, .ref h1), (2, .ref h2), (3, .int p3), (4, .int x4), (6, .int x6)]) hx hb dX4_pass_77 hl (by decide) rfl (fun ls hl => ?_)
  refine lv_aload_n hx hb dX4_pass_79 rfl (lv_at hl 1 rfl) ?_
  refine lv_dup hx hb dX4_pass_80 rfl ?_
  refine va_get (D := D) (ci := 4) (v := .int (r0.1 0)) (C := RX4) (T := TX4) (N := 8) hx hb hts inlX4 hown hK hP 0 rfl rfl 0 (by decide) (hts (.fieldLink RX4 9 "UnderTheDesks$Truth" "second" "I") mw_64) (fun _ h9 => h9) rfl dX4_pass_81 ?_
  refine lv_aload_n hx hb dX4_pass_84 rfl (lv_at hl 2 rfl) ?_
  refine lv_aload_n hx hb dX4_pass_85 rfl (lv_at hl 3 rfl) ?_
  refine lv_iload_n hx hb dX4_pass_86 rfl (lv_at hl 4 rfl) ?_
  refine lv_iload hx hb dX4_pass_87 (lv_at hl 6 rfl) ?_
  refine xend_ro_i (xRunV (wc := (wX6 K h2 a2 r2)) (As := [.int p3, .int x6]) (rest := [.ref h1, .int (r0.1 0), .ref h0]) C (c_X6_pupilOn h) k_X6_pupilOn mw_1132 ⟨rfl, rfl⟩ ⟨Nat.le_of_ble_eq_true rfl, Nat.le_of_ble_eq_true rfl⟩ hP hD [10, 11, 12, 13, 14] rfl rfl rfl rfl hl rfl rfl (Nat.le_of_ble_eq_true rfl) dX4_pass_89 ⟨Nat.le_refl _, Nat.le_refl _⟩) (fun v20 h => ?_)
  refine xend_ro_i (xRunV (wc := (wX1 K h1 a1 r1)) (As := [.int v20]) (rest := [.int (r0.1 0), .ref h0]) C (c_X1_handOf h) k_X1_handOf mw_1139 ⟨rfl, rfl⟩ ⟨Nat.le_of_ble_eq_true rfl, Nat.le_of_ble_eq_true rfl⟩ hP hD [4, 5, 6, 7, 8, 9] rfl rfl rfl rfl hl rfl rfl (Nat.le_of_ble_eq_true rfl) dX4_pass_92 ⟨Nat.le_refl _, Nat.le_refl _⟩) (fun v21 h => ?_)
  refine lv_iadd hx hb dX4_pass_95 ?_
  refine lv_topi (fun v22 ev22 => ?_)
  replace h := h v22 ev22
  refine va_put (D := D) (ci := 4) (v := .int v22) (ty := .int) (C := RX4) (T := TX4) (N := 8) hx hb hts inlX4 tyX4 tyX4_ok nmX4 hown hK hP hD hS 0 rfl rfl 0 (by decide) (hts (.fieldLink RX4 9 "UnderTheDesks$Truth" "second" "I") mw_64) (fun _ h9 => h9) rfl (by decide +kernel) rfl rfl (Nat.le_of_ble_eq_true rfl) dX4_pass_96 (fun H locs hP hD hS => ?_)
  replace hP : va_P D vwCl (wX4 K h0 a0 (zI r0 0 v22) ++ (wX1 K h1 a1 r1 ++ (wX6 K h2 a2 r2))) H := hP
  replace hD : va_D A (wX4 K h0 a0 (zI r0 0 v22) ++ (wX1 K h1 a1 r1 ++ (wX6 K h2 a2 r2))) := hD
  obtain ⟨v23, ev23⟩ : ∃ y : Int32, y = x6 + (1 : Int32) := ⟨_, rfl⟩
  replace h := h v23 ev23
  refine lv_iinc (v := v23) (lv' := [(6, .int v23), (5, .int y0), (0, .ref h0), (1, .ref h1), (2, .ref h2), (3, .int p3), (4, .int x4)]) hx hb dX4_pass_99 hl (k := 6) rfl (by rw [ev23]; rfl) (by decide) rfl (fun ls hl => ?_)
  refine lv_goto (tgt := 15) hx hb dX4_pass_102 (by decide) ?_
  exact hk15 _ _ _ _ _ _ _ (lv_sub hl [2, 3, 4, 5, 6, 1, 0] rfl) hP hD hS h
set_option maxHeartbeats 4000000 in
set_option maxRecDepth 100000 in
theorem t_X4_pass_51 {p : Program} {l : Launch} {e : Env} {s : State} {m : MethodId} {args : Array Value} {below : List Frame} {meth : Method} {c : Code} {D : va_G} {K : Nat → ClassId} {h0 : Nat} {a0 : Nat → Nat} {h1 : Nat} {a1 : Nat → Nat} {r1 : zS} {h2 : Nat} {a2 : Nat → Nat} {r2 : zS} {p3 : Int32} {post : Int32 → (zS) → Prop} {A : Nat → Prop} (C : xC p s m args meth c cX4_pass RX4 8 (some .boolean) D vwCl (xty K)) (hA : ∀ q, s.heap.size ≤ q → A q) {k15 : (zS) → Int32 → Int32 → Int32 → Prop} (hk15 : ∀ (r0 : zS) (x4 : Int32) (x5 : Int32) (x6 : Int32) (H : Heap) (locs : List Loc) (ls : Array Slot), lv_has ls 8 [(0, .ref h0), (1, .ref h1), (2, .ref h2), (3, .int p3), (4, .int x4), (5, .int x5), (6, .int x6)] → va_P D vwCl (wX4 K h0 a0 r0 ++ (wX1 K h1 a1 r1 ++ (wX6 K h2 a2 r2))) H → va_D A (wX4 K h0 a0 r0 ++ (wX1 K h1 a1 r1 ++ (wX6 K h2 a2 r2))) → va_S A s.heap H locs → k15 r0 x4 x5 x6  → W p l e ({ frames := 4, cells := 0, slots := 0, locals := 104 } : Room) s m args below meth c H locs 0 0 (MQ below (va_Qi (fun r (u : (zS)) => post r u) (fun (u : (zS)) t => va_P D vwCl (wX4 K h0 a0 u ++ (wX1 K h1 a1 r1 ++ (wX6 K h2 a2 r2))) t.heap) A) args s 0 0 A) (F0 m 15 ls [])) : ∀ (r0 : zS) (x4 : Int32) (x6 : Int32) (y0 : Int32) (y1 : Int32) (H : Heap) (locs : List Loc) (ls : Array Slot), lv_has ls 8 [(0, .ref h0), (1, .ref h1), (2, .ref h2), (3, .int p3), (4, .int x4), (6, .int x6)] → va_P D vwCl (wX4 K h0 a0 r0 ++ (wX1 K h1 a1 r1 ++ (wX6 K h2 a2 r2))) H → va_D A (wX4 K h0 a0 r0 ++ (wX1 K h1 a1 r1 ++ (wX6 K h2 a2 r2))) → va_S A s.heap H locs → wp_X4_pass_51 r1 r2 p3 post k15 r0 x4 x6 y0 y1 → W p l e ({ frames := 4, cells := 0, slots := 0, locals := 104 } : Room) s m args below meth c H locs 0 0 (MQ below (va_Qi (fun r (u : (zS)) => post r u) (fun (u : (zS)) t => va_P D vwCl (wX4 K h0 a0 u ++ (wX1 K h1 a1 r1 ++ (wX6 K h2 a2 r2))) t.heap) A) args s 0 0 A) (F0 m 51 ls [.int y0, .int y1, .ref h1]) := by
  obtain ⟨hx, hb, hr, hml, hown, hts, hlocks, hK, hT⟩ := id C
  intro r0 x4 x6 y0 y1 H locs ls hl hP hD hS h
  unfold wp_X4_pass_51 at h
  refine lv_aload_n hx hb dX4_pass_51 rfl (lv_at hl 0 rfl) ?_
  refine va_get (D := D) (ci := 4) (v := .int (r0.1 0)) (C := RX4) (T := TX4) (N := 8) hx hb hts inlX4 hown hK hP 0 rfl rfl 0 (by decide) (hts (.fieldLink RX4 9 "UnderTheDesks$Truth" "second" "I") mw_64) (fun _ h9 => h9) rfl dX4_pass_52 ?_
  refine xend_ro_i (xRunV (wc := (wX1 K h1 a1 r1)) (As := [.int y1, .int y0, .int (r0.1 0)]) (rest := []) C (c_X1_lossOf h) k_X1_lossOf mw_1133 ⟨rfl, rfl⟩ ⟨Nat.le_of_ble_eq_true rfl, Nat.le_of_ble_eq_true rfl⟩ hP hD [4, 5, 6, 7, 8, 9] rfl rfl rfl rfl hl rfl rfl (Nat.le_of_ble_eq_true rfl) dX4_pass_55 ⟨Nat.le_refl _, Nat.le_refl _⟩) (fun v16 h => ?_)
  refine lv_istore (lv' := [(7, .int v16), (0, .ref h0), (1, .ref h1), (2, .ref h2), (3, .int p3), (4, .int x4), (6, .int x6)]) hx hb dX4_pass_58 hl (by decide) rfl (fun ls hl => ?_)
  refine lv_aload_n hx hb dX4_pass_60 rfl (lv_at hl 1 rfl) ?_
  refine lv_sipush (v := 1000) hx hb dX4_pass_61 (by decide) ?_
  refine xend_rw_i (wf := fun (u : (zS)) => (wX4 K h0 a0 u)) (xRunV (wc := (wX4 K h0 a0 r0)) (As := [.int (1000 : Int32)]) (rest := []) C (c_X4_draw h) k_X4_draw mw_1134 ⟨rfl, rfl⟩ ⟨Nat.le_of_ble_eq_true rfl, Nat.le_of_ble_eq_true rfl⟩ hP hD [0, 1, 2, 3] rfl rfl rfl rfl hl rfl rfl (Nat.le_of_ble_eq_true rfl) dX4_pass_64 ⟨Nat.le_refl _, Nat.le_refl _⟩) hP hD hS hA [0, 1, 2, 3] rfl rfl (fun _ => rfl) (fun v17 s18 H locs h hP hD hS => ?_)
  replace hP : va_P D vwCl (wX4 K h0 a0 s18 ++ (wX1 K h1 a1 r1 ++ (wX6 K h2 a2 r2))) H := hP
  replace hD : va_D A (wX4 K h0 a0 s18 ++ (wX1 K h1 a1 r1 ++ (wX6 K h2 a2 r2))) := hD
  refine lv_iload hx hb dX4_pass_67 (lv_at hl 0 rfl) ?_
  refine lv_icmp_ge (tgt := 76) hx hb dX4_pass_69 (by decide) (fun c19 => ?_) (fun c19 => ?_)
  · replace h := And.left h c19
    refine lv_iconst (v := 0) hx hb dX4_pass_76 (by decide) ?_
    exact t_X4_pass_77 C hA hk15 _ _ _ _ _ _ _ (lv_sub hl [1, 2, 3, 4, 5, 6] rfl) hP hD hS h
  · replace h := And.right h c19
    refine lv_iconst (v := 1) hx hb dX4_pass_72 (by decide) ?_
    refine lv_goto (tgt := 77) hx hb dX4_pass_73 (by decide) ?_
    exact t_X4_pass_77 C hA hk15 _ _ _ _ _ _ _ (lv_sub hl [1, 2, 3, 4, 5, 6] rfl) hP hD hS h
set_option maxHeartbeats 4000000 in
set_option maxRecDepth 100000 in
theorem t_X4_pass_15 {p : Program} {l : Launch} {e : Env} {s : State} {m : MethodId} {args : Array Value} {below : List Frame} {meth : Method} {c : Code} {D : va_G} {K : Nat → ClassId} {h0 : Nat} {a0 : Nat → Nat} {h1 : Nat} {a1 : Nat → Nat} {r1 : zS} {h2 : Nat} {a2 : Nat → Nat} {r2 : zS} {p3 : Int32} {post : Int32 → (zS) → Prop} {A : Nat → Prop} (C : xC p s m args meth c cX4_pass RX4 8 (some .boolean) D vwCl (xty K)) (hA : ∀ q, s.heap.size ≤ q → A q) : ∀ (n : Nat) (r0 : zS) (x4 : Int32) (x5 : Int32) (x6 : Int32) (H : Heap) (locs : List Loc) (ls : Array Slot), lv_has ls 8 [(0, .ref h0), (1, .ref h1), (2, .ref h2), (3, .int p3), (4, .int x4), (5, .int x5), (6, .int x6)] → va_P D vwCl (wX4 K h0 a0 r0 ++ (wX1 K h1 a1 r1 ++ (wX6 K h2 a2 r2))) H → va_D A (wX4 K h0 a0 r0 ++ (wX1 K h1 a1 r1 ++ (wX6 K h2 a2 r2))) → va_S A s.heap H locs → wp_X4_pass_15 r1 r2 p3 post n r0 x4 x5 x6 → W p l e ({ frames := 4, cells := 0, slots := 0, locals := 104 } : Room) s m args below meth c H locs 0 0 (MQ below (va_Qi (fun r (u : (zS)) => post r u) (fun (u : (zS)) t => va_P D vwCl (wX4 K h0 a0 u ++ (wX1 K h1 a1 r1 ++ (wX6 K h2 a2 r2))) t.heap) A) args s 0 0 A) (F0 m 15 ls []) := by
  obtain ⟨hx, hb, hr, hml, hown, hts, hlocks, hK, hT⟩ := id C
  intro n
  induction n with
  | zero =>
    intro r0 x4 x5 x6 H locs ls hl hP hD hS h
    exact False.elim h
  | succ n ihn =>
    intro r0 x4 x5 x6 H locs ls hl hP hD hS h
    rw [wu_X4_pass_15] at h
    unfold wb_X4_pass_15 at h
    refine lv_iload hx hb dX4_pass_15 (lv_at hl 6 rfl) ?_
    refine lv_iload hx hb dX4_pass_17 (lv_at hl 4 rfl) ?_
    refine lv_icmp_ge (tgt := 105) hx hb dX4_pass_19 (by decide) (fun c3 => ?_) (fun c3 => ?_)
    · replace h := And.left h c3
      exact t_X4_pass_105 C hA _ _ _ _ _ (lv_sub hl [0, 2, 3, 5] rfl) hP hD hS h
    · replace h := And.right h c3
      refine lv_iload hx hb dX4_pass_22 (lv_at hl 5 rfl) ?_
      refine lv_if_ne (tgt := 105) hx hb dX4_pass_24 (by decide) (fun c13 => ?_) (fun c13 => ?_)
      · replace h := And.right h c13
        exact t_X4_pass_105 C hA _ _ _ _ _ (lv_sub hl [0, 2, 3, 5] rfl) hP hD hS h
      · replace h := And.left h c13
        refine lv_aload_n hx hb dX4_pass_27 rfl (lv_at hl 1 rfl) ?_
        refine lv_aload_n hx hb dX4_pass_28 rfl (lv_at hl 2 rfl) ?_
        refine lv_iload_n hx hb dX4_pass_29 rfl (lv_at hl 3 rfl) ?_
        refine lv_iload hx hb dX4_pass_30 (lv_at hl 6 rfl) ?_
        refine lv_iconst (v := 1) hx hb dX4_pass_32 (by decide) ?_
        refine lv_iadd hx hb dX4_pass_33 ?_
        refine xend_ro_i (xRunV (wc := (wX6 K h2 a2 r2)) (As := [.int p3, .int (x6 + (1 : Int32))]) (rest := [.ref h1]) C (c_X6_pupilOn h) k_X6_pupilOn mw_1132 ⟨rfl, rfl⟩ ⟨Nat.le_of_ble_eq_true rfl, Nat.le_of_ble_eq_true rfl⟩ hP hD [10, 11, 12, 13, 14] rfl rfl rfl rfl hl rfl rfl (Nat.le_of_ble_eq_true rfl) dX4_pass_34 ⟨Nat.le_refl _, Nat.le_refl _⟩) (fun v14 h => ?_)
        refine lv_iload hx hb dX4_pass_37 (lv_at hl 6 rfl) ?_
        refine lv_iload hx hb dX4_pass_39 (lv_at hl 4 rfl) ?_
        refine lv_iconst (v := 1) hx hb dX4_pass_41 (by decide) ?_
        refine lv_isub hx hb dX4_pass_42 ?_
        refine lv_icmp_ne (tgt := 50) hx hb dX4_pass_43 (by decide) (fun c15 => ?_) (fun c15 => ?_)
        · replace h := And.right h c15
          refine lv_iconst (v := 0) hx hb dX4_pass_50 (by decide) ?_
          exact t_X4_pass_51 C hA ihn _ _ _ _ _ _ _ _ (lv_sub hl [0, 1, 2, 3, 4, 6] rfl) hP hD hS h
        · replace h := And.left h c15
          refine lv_iconst (v := 1) hx hb dX4_pass_46 (by decide) ?_
          refine lv_goto (tgt := 51) hx hb dX4_pass_47 (by decide) ?_
          exact t_X4_pass_51 C hA ihn _ _ _ _ _ _ _ _ (lv_sub hl [0, 1, 2, 3, 4, 6] rfl) hP hD hS h
set_option maxHeartbeats 4000000 in
set_option maxRecDepth 100000 in
theorem c_X4_pass {l : Launch} {D : va_G} {K : Nat → ClassId} {h0 : Nat} {a0 : Nat → Nat} {r0 : zS} {h1 : Nat} {a1 : Nat → Nat} {r1 : zS} {h2 : Nat} {a2 : Nat → Nat} {r2 : zS} {p3 : Int32} {sz : Nat} {post : Int32 → (zS) → Prop}   (h : wp_X4_pass r0 r1 r2 p3 post) : Met l yX4_pass (Cond.code yX4_pass cX4_pass 8 (some .boolean) :: wsL_law) ({ frames := 4, cells := 0, slots := 0, locals := 104 } : Room) (va_Pc [.ref h0, .ref h1, .ref h2, .int p3] (xPre D vwCl (xty K) (wX4 K h0 a0 r0 ++ (wX1 K h1 a1 r1 ++ (wX6 K h2 a2 r2))) sz)) (va_Qi (fun r (u : (zS)) => post r u) (fun (u : (zS)) t => va_P D vwCl (wX4 K h0 a0 u ++ (wX1 K h1 a1 r1 ++ (wX6 K h2 a2 r2))) t.heap) (va_A (wX4 K h0 a0 r0 ++ (wX1 K h1 a1 r1 ++ (wX6 K h2 a2 r2))) sz)) 0 0 (va_A (wX4 K h0 a0 r0 ++ (wX1 K h1 a1 r1 ++ (wX6 K h2 a2 r2))) sz) := by
  refine xMet (by decide) rfl (Nat.le_of_ble_eq_true rfl) (fun p e s m args below meth c C hnm hP hD hsz ls hl => ?_)
  have hl : lv_has ls 8 [(0, .ref h0), (1, .ref h1), (2, .ref h2), (3, .int p3)] := hl
  obtain ⟨hx, hb, hr, hml, hown, hts, hlocks, hK, hT⟩ := id C
  subst hsz
  generalize hAe : va_A (wX4 K h0 a0 r0 ++ (wX1 K h1 a1 r1 ++ (wX6 K h2 a2 r2))) s.heap.size = A at hD ⊢
  have hA : ∀ q : Nat, s.heap.size ≤ q → A q := fun q h => by rw [← hAe]; exact Or.inr h
  have hS : va_S A s.heap s.heap [] := va_S.rf
  have hP : va_P D vwCl (wX4 K h0 a0 r0 ++ (wX1 K h1 a1 r1 ++ (wX6 K h2 a2 r2))) s.heap := hP
  unfold wp_X4_pass at h
  refine lv_aload_n hx hb dX4_pass_0 rfl (lv_at hl 2 rfl) ?_
  refine lv_iload_n hx hb dX4_pass_1 rfl (lv_at hl 3 rfl) ?_
  refine xend_ro_i (xRunV (wc := (wX6 K h2 a2 r2)) (As := [.int p3]) (rest := []) C (c_X6_sizeOf h) k_X6_sizeOf mw_1131 ⟨rfl, rfl⟩ ⟨Nat.le_of_ble_eq_true rfl, Nat.le_of_ble_eq_true rfl⟩ hP hD [10, 11, 12, 13, 14] rfl rfl rfl rfl hl rfl rfl (Nat.le_of_ble_eq_true rfl) dX4_pass_2 ⟨Nat.le_refl _, Nat.le_refl _⟩) (fun v1 h => ?_)
  refine lv_iconst (v := 1) hx hb dX4_pass_5 (by decide) ?_
  refine lv_isub hx hb dX4_pass_6 ?_
  refine lv_topi (fun v2 ev2 => ?_)
  replace h := h v2 ev2
  refine lv_istore (lv' := [(4, .int v2), (0, .ref h0), (1, .ref h1), (2, .ref h2), (3, .int p3)]) hx hb dX4_pass_7 hl (by decide) rfl (fun ls hl => ?_)
  refine lv_iconst (v := 0) hx hb dX4_pass_9 (by decide) ?_
  refine lv_istore (lv' := [(5, .int (0 : Int32)), (4, .int v2), (0, .ref h0), (1, .ref h1), (2, .ref h2), (3, .int p3)]) hx hb dX4_pass_10 hl (by decide) rfl (fun ls hl => ?_)
  refine lv_iconst (v := 0) hx hb dX4_pass_12 (by decide) ?_
  refine lv_istore (lv' := [(6, .int (0 : Int32)), (5, .int (0 : Int32)), (4, .int v2), (0, .ref h0), (1, .ref h1), (2, .ref h2), (3, .int p3)]) hx hb dX4_pass_13 hl (by decide) rfl (fun ls hl => ?_)
  obtain ⟨n0, h⟩ := h
  exact t_X4_pass_15 C hA n0 _ _ _ _ _ _ _ (lv_sub hl [3, 4, 5, 6, 2, 1, 0] rfl) hP hD hS h

def wp_X4_hasNote (r0 : zS) (p1 : Int32) (post : Int32 → Prop) : Prop :=
  (p1 < 0 → post (0 : Int32) ) ∧ (¬ p1 < 0 → ((r0.1 4) ≤ p1 → post (0 : Int32) ) ∧ (¬ (r0.1 4) ≤ p1 → ((16 : Int32) ≤ p1 → post (0 : Int32) ) ∧ (¬ (16 : Int32) ≤ p1 → post (1 : Int32) )))
set_option maxHeartbeats 4000000 in
set_option maxRecDepth 100000 in
theorem c_X4_hasNote {l : Launch} {D : va_G} {K : Nat → ClassId} {h0 : Nat} {a0 : Nat → Nat} {r0 : zS} {p1 : Int32} {sz : Nat} {post : Int32 → Prop}   (h : wp_X4_hasNote r0 p1 post) : Met l yX4_hasNote (Cond.code yX4_hasNote cX4_hasNote 2 (some .boolean) :: wsL_law) ({ frames := 0, cells := 0, slots := 0, locals := 0 } : Room) (va_Pc [.ref h0, .int p1] (xPre D vwCl (xty K) (wX4 K h0 a0 r0) sz)) (roI post) 0 0 (fun _ => False) := by
  refine xMet (by decide) rfl (Nat.le_of_ble_eq_true rfl) (fun p e s m args below meth c C hnm hP hD hsz ls hl => ?_)
  have hl : lv_has ls 2 [(0, .ref h0), (1, .int p1)] := hl
  obtain ⟨hx, hb, hr, hml, hown, hts, hlocks, hK, hT⟩ := id C
  unfold wp_X4_hasNote at h
  refine lv_iload_n hx hb dX4_hasNote_0 rfl (lv_at hl 1 rfl) ?_
  refine lv_if_lt (tgt := 22) hx hb dX4_hasNote_1 (by decide) (fun c1 => ?_) (fun c1 => ?_)
  · replace h := And.left h c1
    refine lv_iconst (v := 0) hx hb dX4_hasNote_22 (by decide) ?_
    exact xro_z C rfl h dX4_hasNote_23
  · replace h := And.right h c1
    refine lv_iload_n hx hb dX4_hasNote_4 rfl (lv_at hl 1 rfl) ?_
    refine lv_aload_n hx hb dX4_hasNote_5 rfl (lv_at hl 0 rfl) ?_
    refine va_get (D := D) (ci := 4) (v := .int (r0.1 4)) (C := RX4) (T := TX4) (N := 8) hx hb hts inlX4 hown hK hP 0 rfl rfl 4 (by decide) (hts (.fieldLink RX4 24 "UnderTheDesks$Truth" "kept" "I") mw_68) (fun _ h9 => h9) rfl dX4_hasNote_6 ?_
    refine lv_icmp_ge (tgt := 22) hx hb dX4_hasNote_9 (by decide) (fun c2 => ?_) (fun c2 => ?_)
    · replace h := And.left h c2
      refine lv_iconst (v := 0) hx hb dX4_hasNote_22 (by decide) ?_
      exact xro_z C rfl h dX4_hasNote_23
    · replace h := And.right h c2
      refine lv_iload_n hx hb dX4_hasNote_12 rfl (lv_at hl 1 rfl) ?_
      refine lv_bipush (v := 16) hx hb dX4_hasNote_13 (by decide) ?_
      refine lv_icmp_ge (tgt := 22) hx hb dX4_hasNote_15 (by decide) (fun c3 => ?_) (fun c3 => ?_)
      · replace h := And.left h c3
        refine lv_iconst (v := 0) hx hb dX4_hasNote_22 (by decide) ?_
        exact xro_z C rfl h dX4_hasNote_23
      · replace h := And.right h c3
        refine lv_iconst (v := 1) hx hb dX4_hasNote_18 (by decide) ?_
        refine lv_goto (tgt := 23) hx hb dX4_hasNote_19 (by decide) ?_
        exact xro_z C rfl h dX4_hasNote_23

def wp_X4_allOf (r0 : zS) (p1 : Int32) (post : Int32 → Prop) : Prop :=
  wp_X4_hasNote r0 p1 (fun v1 => (v1 = 0 → post (0 : Int32) ) ∧ (¬ v1 = 0 → vp_in p1 16 ∧ (post (r0.2.1 5 p1.toNatClampNeg) )))
set_option maxHeartbeats 4000000 in
set_option maxRecDepth 100000 in
theorem c_X4_allOf {l : Launch} {D : va_G} {K : Nat → ClassId} {h0 : Nat} {a0 : Nat → Nat} {r0 : zS} {p1 : Int32} {sz : Nat} {post : Int32 → Prop}   (h : wp_X4_allOf r0 p1 post) : Met l yX4_allOf (Cond.code yX4_allOf cX4_allOf 2 (some .int) :: wsL_law) ({ frames := 1, cells := 0, slots := 0, locals := 21 } : Room) (va_Pc [.ref h0, .int p1] (xPre D vwCl (xty K) (wX4 K h0 a0 r0) sz)) (roI post) 0 0 (fun _ => False) := by
  refine xMet (by decide) rfl (Nat.le_of_ble_eq_true rfl) (fun p e s m args below meth c C hnm hP hD hsz ls hl => ?_)
  have hl : lv_has ls 2 [(0, .ref h0), (1, .int p1)] := hl
  obtain ⟨hx, hb, hr, hml, hown, hts, hlocks, hK, hT⟩ := id C
  unfold wp_X4_allOf at h
  refine lv_aload_n hx hb dX4_allOf_0 rfl (lv_at hl 0 rfl) ?_
  refine lv_iload_n hx hb dX4_allOf_1 rfl (lv_at hl 1 rfl) ?_
  refine xend_ro_i (xRunV_id (As := [.int p1]) (rest := []) C (c_X4_hasNote h) k_X4_hasNote mw_1173 ⟨rfl, rfl⟩ ⟨Nat.le_of_ble_eq_true rfl, Nat.le_of_ble_eq_true rfl⟩ hP hD rfl rfl hl rfl rfl (Nat.le_of_ble_eq_true rfl) dX4_allOf_2 ⟨Nat.le_refl _, Nat.le_refl _⟩) (fun v1 h => ?_)
  refine lv_if_eq (tgt := 17) hx hb dX4_allOf_5 (by decide) (fun c2 => ?_) (fun c2 => ?_)
  · replace h := And.left h c2
    refine lv_iconst (v := 0) hx hb dX4_allOf_17 (by decide) ?_
    exact xro_i C h dX4_allOf_18
  · replace h := And.right h c2
    refine lv_aload_n hx hb dX4_allOf_8 rfl (lv_at hl 0 rfl) ?_
    refine va_get (D := D) (ci := 4) (v := .ref (a0 5)) (C := RX4) (T := TX4) (N := 8) hx hb hts inlX4 hown hK hP 0 rfl rfl 5 (by decide) (hts (.fieldLink RX4 27 "UnderTheDesks$Truth" "alls" "[I") mw_69) (fun _ h9 => h9) rfl dX4_allOf_9 ?_
    refine lv_iload_n hx hb dX4_allOf_12 rfl (lv_at hl 1 rfl) ?_
    have hin := And.left h
    replace h := And.right h
    refine va_iald hx hb hK hP 1 0 rfl rfl hin dX4_allOf_13 ?_
    refine lv_goto (tgt := 18) hx hb dX4_allOf_14 (by decide) ?_
    exact xro_i C h dX4_allOf_18

def wp_X4_hasCome (r0 : zS) (p1 : Int32) (post : Int32 → Prop) : Prop :=
  wp_X4_hasNote r0 p1 (fun v1 => (v1 = 0 → post (0 : Int32) ) ∧ (¬ v1 = 0 → vp_in p1 16 ∧ (((r0.2.1 7 p1.toNatClampNeg) = (1 : Int32) → post (1 : Int32) ) ∧ (¬ (r0.2.1 7 p1.toNatClampNeg) = (1 : Int32) → post (0 : Int32) ))))
set_option maxHeartbeats 4000000 in
set_option maxRecDepth 100000 in
theorem c_X4_hasCome {l : Launch} {D : va_G} {K : Nat → ClassId} {h0 : Nat} {a0 : Nat → Nat} {r0 : zS} {p1 : Int32} {sz : Nat} {post : Int32 → Prop}   (h : wp_X4_hasCome r0 p1 post) : Met l yX4_hasCome (Cond.code yX4_hasCome cX4_hasCome 2 (some .boolean) :: wsL_law) ({ frames := 1, cells := 0, slots := 0, locals := 21 } : Room) (va_Pc [.ref h0, .int p1] (xPre D vwCl (xty K) (wX4 K h0 a0 r0) sz)) (roI post) 0 0 (fun _ => False) := by
  refine xMet (by decide) rfl (Nat.le_of_ble_eq_true rfl) (fun p e s m args below meth c C hnm hP hD hsz ls hl => ?_)
  have hl : lv_has ls 2 [(0, .ref h0), (1, .int p1)] := hl
  obtain ⟨hx, hb, hr, hml, hown, hts, hlocks, hK, hT⟩ := id C
  unfold wp_X4_hasCome at h
  refine lv_aload_n hx hb dX4_hasCome_0 rfl (lv_at hl 0 rfl) ?_
  refine lv_iload_n hx hb dX4_hasCome_1 rfl (lv_at hl 1 rfl) ?_
  refine xend_ro_i (xRunV_id (As := [.int p1]) (rest := []) C (c_X4_hasNote h) k_X4_hasNote mw_1173 ⟨rfl, rfl⟩ ⟨Nat.le_of_ble_eq_true rfl, Nat.le_of_ble_eq_true rfl⟩ hP hD rfl rfl hl rfl rfl (Nat.le_of_ble_eq_true rfl) dX4_hasCome_2 ⟨Nat.le_refl _, Nat.le_refl _⟩) (fun v1 h => ?_)
  refine lv_if_eq (tgt := 22) hx hb dX4_hasCome_5 (by decide) (fun c2 => ?_) (fun c2 => ?_)
  · replace h := And.left h c2
    refine lv_iconst (v := 0) hx hb dX4_hasCome_22 (by decide) ?_
    exact xro_z C rfl h dX4_hasCome_23
  · replace h := And.right h c2
    refine lv_aload_n hx hb dX4_hasCome_8 rfl (lv_at hl 0 rfl) ?_
    refine va_get (D := D) (ci := 4) (v := .ref (a0 7)) (C := RX4) (T := TX4) (N := 8) hx hb hts inlX4 hown hK hP 0 rfl rfl 7 (by decide) (hts (.fieldLink RX4 34 "UnderTheDesks$Truth" "outcomes" "[I") mw_71) (fun _ h9 => h9) rfl dX4_hasCome_9 ?_
    refine lv_iload_n hx hb dX4_hasCome_12 rfl (lv_at hl 1 rfl) ?_
    have hin := And.left h
    replace h := And.right h
    refine va_iald hx hb hK hP 3 0 rfl rfl hin dX4_hasCome_13 ?_
    refine lv_iconst (v := 1) hx hb dX4_hasCome_14 (by decide) ?_
    refine lv_icmp_ne (tgt := 22) hx hb dX4_hasCome_15 (by decide) (fun c3 => ?_) (fun c3 => ?_)
    · replace h := And.right h c3
      refine lv_iconst (v := 0) hx hb dX4_hasCome_22 (by decide) ?_
      exact xro_z C rfl h dX4_hasCome_23
    · replace h := And.left h c3
      refine lv_iconst (v := 1) hx hb dX4_hasCome_18 (by decide) ?_
      refine lv_goto (tgt := 23) hx hb dX4_hasCome_19 (by decide) ?_
      exact xro_z C rfl h dX4_hasCome_23

def wp_X4_lostBy_46 (r0 : zS) (p1 : Int32) (post : Int32 → Prop) (k4 : Int32 → Int32 → Prop) (x2 : Int32) (x3 : Int32) : Prop :=
  ∀ v4 : Int32, v4 = x3 + (1 : Int32) → k4 x2 v4
def wb_X4_lostBy_4 (r0 : zS) (p1 : Int32) (post : Int32 → Prop) (ih : Int32 → Int32 → Prop) (x2 : Int32) (x3 : Int32) : Prop :=
  ((r0.1 4) ≤ x3 → post x2 ) ∧ (¬ (r0.1 4) ≤ x3 → ((16 : Int32) ≤ x3 → post x2 ) ∧ (¬ (16 : Int32) ≤ x3 → vp_in x3 16 ∧ (((((r0.2.1 6 x3.toNatClampNeg) >>> (p1 &&& 31)) &&& (1 : Int32)) = 0 → wp_X4_lostBy_46 r0 p1 post ih x2 x3) ∧ (¬ (((r0.2.1 6 x3.toNatClampNeg) >>> (p1 &&& 31)) &&& (1 : Int32)) = 0 → vp_in x3 16 ∧ (((r0.2.1 7 x3.toNatClampNeg) = (1 : Int32) → post (0 : Int32) ) ∧ (¬ (r0.2.1 7 x3.toNatClampNeg) = (1 : Int32) → ∀ v6 : Int32, v6 = x2 + (1 : Int32) → wp_X4_lostBy_46 r0 p1 post ih v6 x3))))))
def wp_X4_lostBy_4 (r0 : zS) (p1 : Int32) (post : Int32 → Prop) (n : Nat) : Int32 → Int32 → Prop := Nat.rec (motive := fun _ => Int32 → Int32 → Prop) (fun _ _ => False) (fun _ ih => wb_X4_lostBy_4 r0 p1 post ih) n
theorem wu_X4_lostBy_4 (r0 : zS) (p1 : Int32) (post : Int32 → Prop) (n : Nat) (x2 : Int32) (x3 : Int32) : wp_X4_lostBy_4 r0 p1 post (n + 1) x2 x3 = wb_X4_lostBy_4 r0 p1 post (wp_X4_lostBy_4 r0 p1 post n) x2 x3 := rfl
def wp_X4_lostBy (r0 : zS) (p1 : Int32) (post : Int32 → Prop) : Prop :=
  ∃ n : Nat, wp_X4_lostBy_4 r0 p1 post n (0 : Int32) (0 : Int32)
set_option maxHeartbeats 4000000 in
set_option maxRecDepth 100000 in
theorem t_X4_lostBy_46 {p : Program} {l : Launch} {e : Env} {s : State} {m : MethodId} {args : Array Value} {below : List Frame} {meth : Method} {c : Code} {D : va_G} {K : Nat → ClassId} {h0 : Nat} {a0 : Nat → Nat} {r0 : zS} {p1 : Int32} {post : Int32 → Prop} (C : xC p s m args meth c cX4_lostBy RX4 4 (some .int) D vwCl (xty K)) (hP : va_P D vwCl (wX4 K h0 a0 r0) s.heap) (hD : va_D (va_A (wX4 K h0 a0 r0) s.heap.size) (wX4 K h0 a0 r0)) {k4 : Int32 → Int32 → Prop} (hk4 : ∀ (x2 : Int32) (x3 : Int32) (ls : Array Slot), lv_has ls 4 [(0, .ref h0), (1, .int p1), (2, .int x2), (3, .int x3)] → k4  x2 x3  → W p l e ({ frames := 0, cells := 0, slots := 0, locals := 0 } : Room) s m args below meth c s.heap [] 0 0 (MQ below (roI post) args s 0 0 (fun _ => False)) (F0 m 4 ls [])) : ∀ (x2 : Int32) (x3 : Int32) (ls : Array Slot), lv_has ls 4 [(0, .ref h0), (1, .int p1), (2, .int x2), (3, .int x3)] → wp_X4_lostBy_46 r0 p1 post k4 x2 x3 → W p l e ({ frames := 0, cells := 0, slots := 0, locals := 0 } : Room) s m args below meth c s.heap [] 0 0 (MQ below (roI post) args s 0 0 (fun _ => False)) (F0 m 46 ls []) := by
  obtain ⟨hx, hb, hr, hml, hown, hts, hlocks, hK, hT⟩ := id C
  intro x2 x3 ls hl h
  unfold wp_X4_lostBy_46 at h
  obtain ⟨v4, ev4⟩ : ∃ y : Int32, y = x3 + (1 : Int32) := ⟨_, rfl⟩
  replace h := h v4 ev4
  refine lv_iinc (v := v4) (lv' := [(3, .int v4), (0, .ref h0), (1, .int p1), (2, .int x2)]) hx hb dX4_lostBy_46 hl (k := 3) rfl (by rw [ev4]; rfl) (by decide) rfl (fun ls hl => ?_)
  refine lv_goto (tgt := 4) hx hb dX4_lostBy_49 (by decide) ?_
  exact hk4 _ _ _ (lv_sub hl [1, 2, 3, 0] rfl) h
set_option maxHeartbeats 4000000 in
set_option maxRecDepth 100000 in
theorem t_X4_lostBy_4 {p : Program} {l : Launch} {e : Env} {s : State} {m : MethodId} {args : Array Value} {below : List Frame} {meth : Method} {c : Code} {D : va_G} {K : Nat → ClassId} {h0 : Nat} {a0 : Nat → Nat} {r0 : zS} {p1 : Int32} {post : Int32 → Prop} (C : xC p s m args meth c cX4_lostBy RX4 4 (some .int) D vwCl (xty K)) (hP : va_P D vwCl (wX4 K h0 a0 r0) s.heap) (hD : va_D (va_A (wX4 K h0 a0 r0) s.heap.size) (wX4 K h0 a0 r0)) : ∀ (n : Nat) (x2 : Int32) (x3 : Int32) (ls : Array Slot), lv_has ls 4 [(0, .ref h0), (1, .int p1), (2, .int x2), (3, .int x3)] → wp_X4_lostBy_4 r0 p1 post n x2 x3 → W p l e ({ frames := 0, cells := 0, slots := 0, locals := 0 } : Room) s m args below meth c s.heap [] 0 0 (MQ below (roI post) args s 0 0 (fun _ => False)) (F0 m 4 ls []) := by
  obtain ⟨hx, hb, hr, hml, hown, hts, hlocks, hK, hT⟩ := id C
  intro n
  induction n with
  | zero =>
    intro x2 x3 ls hl h
    exact False.elim h
  | succ n ihn =>
    intro x2 x3 ls hl h
    rw [wu_X4_lostBy_4] at h
    unfold wb_X4_lostBy_4 at h
    refine lv_iload_n hx hb dX4_lostBy_4 rfl (lv_at hl 3 rfl) ?_
    refine lv_aload_n hx hb dX4_lostBy_5 rfl (lv_at hl 0 rfl) ?_
    refine va_get (D := D) (ci := 4) (v := .int (r0.1 4)) (C := RX4) (T := TX4) (N := 8) hx hb hts inlX4 hown hK hP 0 rfl rfl 4 (by decide) (hts (.fieldLink RX4 24 "UnderTheDesks$Truth" "kept" "I") mw_68) (fun _ h9 => h9) rfl dX4_lostBy_6 ?_
    refine lv_icmp_ge (tgt := 52) hx hb dX4_lostBy_9 (by decide) (fun c1 => ?_) (fun c1 => ?_)
    · replace h := And.left h c1
      refine lv_iload_n hx hb dX4_lostBy_52 rfl (lv_at hl 2 rfl) ?_
      exact xro_i C h dX4_lostBy_53
    · replace h := And.right h c1
      refine lv_iload_n hx hb dX4_lostBy_12 rfl (lv_at hl 3 rfl) ?_
      refine lv_bipush (v := 16) hx hb dX4_lostBy_13 (by decide) ?_
      refine lv_icmp_ge (tgt := 52) hx hb dX4_lostBy_15 (by decide) (fun c2 => ?_) (fun c2 => ?_)
      · replace h := And.left h c2
        refine lv_iload_n hx hb dX4_lostBy_52 rfl (lv_at hl 2 rfl) ?_
        exact xro_i C h dX4_lostBy_53
      · replace h := And.right h c2
        refine lv_aload_n hx hb dX4_lostBy_18 rfl (lv_at hl 0 rfl) ?_
        refine va_get (D := D) (ci := 4) (v := .ref (a0 6)) (C := RX4) (T := TX4) (N := 8) hx hb hts inlX4 hown hK hP 0 rfl rfl 6 (by decide) (hts (.fieldLink RX4 31 "UnderTheDesks$Truth" "betweens" "[I") mw_70) (fun _ h9 => h9) rfl dX4_lostBy_19 ?_
        refine lv_iload_n hx hb dX4_lostBy_22 rfl (lv_at hl 3 rfl) ?_
        have hin := And.left h
        replace h := And.right h
        refine va_iald hx hb hK hP 2 0 rfl rfl hin dX4_lostBy_23 ?_
        refine lv_iload_n hx hb dX4_lostBy_24 rfl (lv_at hl 1 rfl) ?_
        refine lv_ishr hx hb dX4_lostBy_25 ?_
        refine lv_iconst (v := 1) hx hb dX4_lostBy_26 (by decide) ?_
        refine lv_iand hx hb dX4_lostBy_27 ?_
        refine lv_if_eq (tgt := 46) hx hb dX4_lostBy_28 (by decide) (fun c3 => ?_) (fun c3 => ?_)
        · replace h := And.left h c3
          exact t_X4_lostBy_46 C hP hD ihn _ _ _ (lv_sub hl [0, 1, 2, 3] rfl) h
        · replace h := And.right h c3
          refine lv_aload_n hx hb dX4_lostBy_31 rfl (lv_at hl 0 rfl) ?_
          refine va_get (D := D) (ci := 4) (v := .ref (a0 7)) (C := RX4) (T := TX4) (N := 8) hx hb hts inlX4 hown hK hP 0 rfl rfl 7 (by decide) (hts (.fieldLink RX4 34 "UnderTheDesks$Truth" "outcomes" "[I") mw_71) (fun _ h9 => h9) rfl dX4_lostBy_32 ?_
          refine lv_iload_n hx hb dX4_lostBy_35 rfl (lv_at hl 3 rfl) ?_
          have hin := And.left h
          replace h := And.right h
          refine va_iald hx hb hK hP 3 0 rfl rfl hin dX4_lostBy_36 ?_
          refine lv_iconst (v := 1) hx hb dX4_lostBy_37 (by decide) ?_
          refine lv_icmp_ne (tgt := 43) hx hb dX4_lostBy_38 (by decide) (fun c5 => ?_) (fun c5 => ?_)
          · replace h := And.right h c5
            obtain ⟨v6, ev6⟩ : ∃ y : Int32, y = x2 + (1 : Int32) := ⟨_, rfl⟩
            replace h := h v6 ev6
            refine lv_iinc (v := v6) (lv' := [(2, .int v6), (0, .ref h0), (1, .int p1), (3, .int x3)]) hx hb dX4_lostBy_43 hl (k := 2) rfl (by rw [ev6]; rfl) (by decide) rfl (fun ls hl => ?_)
            exact t_X4_lostBy_46 C hP hD ihn _ _ _ (lv_sub hl [1, 2, 0, 3] rfl) h
          · replace h := And.left h c5
            refine lv_iconst (v := 0) hx hb dX4_lostBy_41 (by decide) ?_
            exact xro_i C h dX4_lostBy_42
set_option maxHeartbeats 4000000 in
set_option maxRecDepth 100000 in
theorem c_X4_lostBy {l : Launch} {D : va_G} {K : Nat → ClassId} {h0 : Nat} {a0 : Nat → Nat} {r0 : zS} {p1 : Int32} {sz : Nat} {post : Int32 → Prop}   (h : wp_X4_lostBy r0 p1 post) : Met l yX4_lostBy (Cond.code yX4_lostBy cX4_lostBy 4 (some .int) :: wsL_law) ({ frames := 0, cells := 0, slots := 0, locals := 0 } : Room) (va_Pc [.ref h0, .int p1] (xPre D vwCl (xty K) (wX4 K h0 a0 r0) sz)) (roI post) 0 0 (fun _ => False) := by
  refine xMet (by decide) rfl (Nat.le_of_ble_eq_true rfl) (fun p e s m args below meth c C hnm hP hD hsz ls hl => ?_)
  have hl : lv_has ls 4 [(0, .ref h0), (1, .int p1)] := hl
  obtain ⟨hx, hb, hr, hml, hown, hts, hlocks, hK, hT⟩ := id C
  unfold wp_X4_lostBy at h
  refine lv_iconst (v := 0) hx hb dX4_lostBy_0 (by decide) ?_
  refine lv_istore_n (lv' := [(2, .int (0 : Int32)), (0, .ref h0), (1, .int p1)]) hx hb dX4_lostBy_1 rfl hl (by decide) rfl (fun ls hl => ?_)
  refine lv_iconst (v := 0) hx hb dX4_lostBy_2 (by decide) ?_
  refine lv_istore_n (lv' := [(3, .int (0 : Int32)), (2, .int (0 : Int32)), (0, .ref h0), (1, .int p1)]) hx hb dX4_lostBy_3 rfl hl (by decide) rfl (fun ls hl => ?_)
  obtain ⟨n0, h⟩ := h
  exact t_X4_lostBy_4 C hP hD n0 _ _ _ (lv_sub hl [2, 3, 1, 0] rfl) h

def wp_X5_take_121 (r1 : zS) (r2 : zS) (p3 : Int32) (p4 : Int32) (post : (zS) → Prop) (k33 : (zS) → Int32 → Int32 → Prop) (r0 : zS) (x5 : Int32) (x6 : Int32) (y0 : Int32) : Prop :=
  (xbool y0 ∧ xfitz y0) ∧ (wp_X6_pupilOn r2 p3 x6 (fun v10 => wp_X1_handOf r1 v10 (fun v11 => ∀ v12 : Int32, v12 = (((zI r0 3 y0).1 2) + v11) → ∀ v13 : Int32, v13 = x6 + (1 : Int32) → k33 (zI (zI r0 3 y0) 2 v12) x5 v13)))
def wp_X5_take_116 (r1 : zS) (r2 : zS) (p3 : Int32) (p4 : Int32) (post : (zS) → Prop) (k33 : (zS) → Int32 → Int32 → Prop) (r0 : zS) (x5 : Int32) (x6 : Int32) : Prop :=
  wp_X5_take_121 r1 r2 p3 p4 post k33 r0 x5 x6 (1 : Int32)
def wp_X5_take_73 (r1 : zS) (r2 : zS) (p3 : Int32) (p4 : Int32) (post : (zS) → Prop) (k33 : (zS) → Int32 → Int32 → Prop) (r0 : zS) (x5 : Int32) (x6 : Int32) (x7 : Int32) (y0 : Int32) (y1 : Int32) : Prop :=
  wp_X1_lossOf r1 y1 y0 x7 (fun v7 => ∀ v8 : Int32, v8 = (((r0.1 1) * ((1000 : Int32) - v7)) / (1000 : Int32)) → (((zI r0 1 v8).1 3) = 0 → wp_X1_looks r1 x7 (fun v14 => (v14 = 0 → wp_X5_take_121 r1 r2 p3 p4 post k33 (zI r0 1 v8) x5 x6 (0 : Int32)) ∧ (¬ v14 = 0 → wp_X5_take_116 r1 r2 p3 p4 post k33 (zI r0 1 v8) x5 x6))) ∧ (¬ ((zI r0 1 v8).1 3) = 0 → wp_X5_take_116 r1 r2 p3 p4 post k33 (zI r0 1 v8) x5 x6))
def wb_X5_take_33 (r1 : zS) (r2 : zS) (p3 : Int32) (p4 : Int32) (post : (zS) → Prop) (ih : (zS) → Int32 → Int32 → Prop) (r0 : zS) (x5 : Int32) (x6 : Int32) : Prop :=
  (x5 ≤ x6 → post r0) ∧ (¬ x5 ≤ x6 → ∀ v4 : Int32, v4 = (p4 + (r0.1 2)) → wp_X6_pupilOn r2 p3 (x6 + (1 : Int32)) (fun v5 => (x6 = (x5 - (1 : Int32)) → wp_X5_take_73 r1 r2 p3 p4 post ih r0 x5 x6 v4 (1 : Int32) v5) ∧ (¬ x6 = (x5 - (1 : Int32)) → wp_X5_take_73 r1 r2 p3 p4 post ih r0 x5 x6 v4 (0 : Int32) v5)))
def wp_X5_take_33 (r1 : zS) (r2 : zS) (p3 : Int32) (p4 : Int32) (post : (zS) → Prop) (n : Nat) : (zS) → Int32 → Int32 → Prop := Nat.rec (motive := fun _ => (zS) → Int32 → Int32 → Prop) (fun _ _ _ => False) (fun _ ih => wb_X5_take_33 r1 r2 p3 p4 post ih) n
theorem wu_X5_take_33 (r1 : zS) (r2 : zS) (p3 : Int32) (p4 : Int32) (post : (zS) → Prop) (n : Nat) (r0 : zS) (x5 : Int32) (x6 : Int32) : wp_X5_take_33 r1 r2 p3 p4 post (n + 1) r0 x5 x6 = wb_X5_take_33 r1 r2 p3 p4 post (wp_X5_take_33 r1 r2 p3 p4 post n) r0 x5 x6 := rfl
def wp_X5_take (r0 : zS) (r1 : zS) (r2 : zS) (p3 : Int32) (p4 : Int32) (post : (zS) → Prop) : Prop :=
  wp_X6_sizeOf r2 p3 (fun v1 => ∀ v2 : Int32, v2 = (v1 - (1 : Int32)) → ∃ n : Nat, wp_X5_take_33 r1 r2 p3 p4 post n (zI (zI (zI (zI r0 0 p3) 1 (1000000 : Int32)) 2 (0 : Int32)) 3 (0 : Int32)) v2 (0 : Int32))
set_option maxHeartbeats 4000000 in
set_option maxRecDepth 100000 in
theorem t_X5_take_121 {p : Program} {l : Launch} {e : Env} {s : State} {m : MethodId} {args : Array Value} {below : List Frame} {meth : Method} {c : Code} {D : va_G} {K : Nat → ClassId} {h0 : Nat} {a0 : Nat → Nat} {h1 : Nat} {a1 : Nat → Nat} {r1 : zS} {h2 : Nat} {a2 : Nat → Nat} {r2 : zS} {p3 : Int32} {p4 : Int32} {post : (zS) → Prop} {A : Nat → Prop} (C : xC p s m args meth c cX5_take RX5 9 none D vwCl (xty K)) (hA : ∀ q, s.heap.size ≤ q → A q) {k33 : (zS) → Int32 → Int32 → Prop} (hk33 : ∀ (r0 : zS) (x5 : Int32) (x6 : Int32) (H : Heap) (locs : List Loc) (ls : Array Slot), lv_has ls 9 [(0, .ref h0), (1, .ref h1), (2, .ref h2), (3, .int p3), (4, .int p4), (5, .int x5), (6, .int x6)] → va_P D vwCl (wX5 K h0 a0 r0 ++ (wX1 K h1 a1 r1 ++ (wX6 K h2 a2 r2))) H → va_D A (wX5 K h0 a0 r0 ++ (wX1 K h1 a1 r1 ++ (wX6 K h2 a2 r2))) → va_S A s.heap H locs → k33 r0 x5 x6  → W p l e ({ frames := 3, cells := 0, slots := 0, locals := 104 } : Room) s m args below meth c H locs 0 0 (MQ below (va_Qv (fun (u : (zS)) => post u) (fun (u : (zS)) t => va_P D vwCl (wX5 K h0 a0 u ++ (wX1 K h1 a1 r1 ++ (wX6 K h2 a2 r2))) t.heap) A) args s 0 0 A) (F0 m 33 ls [])) : ∀ (r0 : zS) (x5 : Int32) (x6 : Int32) (y0 : Int32) (H : Heap) (locs : List Loc) (ls : Array Slot), lv_has ls 9 [(0, .ref h0), (1, .ref h1), (2, .ref h2), (3, .int p3), (4, .int p4), (5, .int x5), (6, .int x6)] → va_P D vwCl (wX5 K h0 a0 r0 ++ (wX1 K h1 a1 r1 ++ (wX6 K h2 a2 r2))) H → va_D A (wX5 K h0 a0 r0 ++ (wX1 K h1 a1 r1 ++ (wX6 K h2 a2 r2))) → va_S A s.heap H locs → wp_X5_take_121 r1 r2 p3 p4 post k33 r0 x5 x6 y0 → W p l e ({ frames := 3, cells := 0, slots := 0, locals := 104 } : Room) s m args below meth c H locs 0 0 (MQ below (va_Qv (fun (u : (zS)) => post u) (fun (u : (zS)) t => va_P D vwCl (wX5 K h0 a0 u ++ (wX1 K h1 a1 r1 ++ (wX6 K h2 a2 r2))) t.heap) A) args s 0 0 A) (F0 m 121 ls [.int y0, .ref h0]) := by
  obtain ⟨hx, hb, hr, hml, hown, hts, hlocks, hK, hT⟩ := id C
  intro r0 x5 x6 y0 H locs ls hl hP hD hS h
  unfold wp_X5_take_121 at h
  have hbl := And.left h
  replace h := And.right h
  refine va_put (D := D) (ci := 5) (v := .int y0) (ty := .boolean) (C := RX5) (T := TX5) (N := 4) hx hb hts inlX5 tyX5 tyX5_ok nmX5 hown hK hP hD hS 0 rfl rfl 3 (by decide) (hts (.fieldLink RX5 21 "UnderTheDesks$Walk" "seen" "Z") mw_100) (fun _ h9 => h9) rfl (by decide +kernel) hbl.1 hbl.2 (Nat.le_of_ble_eq_true rfl) dX5_take_121 (fun H locs hP hD hS => ?_)
  replace hP : va_P D vwCl (wX5 K h0 a0 (zI r0 3 y0) ++ (wX1 K h1 a1 r1 ++ (wX6 K h2 a2 r2))) H := hP
  replace hD : va_D A (wX5 K h0 a0 (zI r0 3 y0) ++ (wX1 K h1 a1 r1 ++ (wX6 K h2 a2 r2))) := hD
  refine lv_aload_n hx hb dX5_take_124 rfl (lv_at hl 0 rfl) ?_
  refine lv_dup hx hb dX5_take_125 rfl ?_
  refine va_get (D := D) (ci := 5) (v := .int ((zI r0 3 y0).1 2)) (C := RX5) (T := TX5) (N := 4) hx hb hts inlX5 hown hK hP 0 rfl rfl 2 (by decide) (hts (.fieldLink RX5 18 "UnderTheDesks$Walk" "seconds" "I") mw_99) (fun _ h9 => h9) rfl dX5_take_126 ?_
  refine lv_aload_n hx hb dX5_take_129 rfl (lv_at hl 1 rfl) ?_
  refine lv_aload_n hx hb dX5_take_130 rfl (lv_at hl 2 rfl) ?_
  refine lv_iload_n hx hb dX5_take_131 rfl (lv_at hl 3 rfl) ?_
  refine lv_iload hx hb dX5_take_132 (lv_at hl 6 rfl) ?_
  refine xend_ro_i (xRunV (wc := (wX6 K h2 a2 r2)) (As := [.int p3, .int x6]) (rest := [.ref h1, .int ((zI r0 3 y0).1 2), .ref h0]) C (c_X6_pupilOn h) k_X6_pupilOn mw_834 ⟨rfl, rfl⟩ ⟨Nat.le_of_ble_eq_true rfl, Nat.le_of_ble_eq_true rfl⟩ hP hD [7, 8, 9, 10, 11] rfl rfl rfl rfl hl rfl rfl (Nat.le_of_ble_eq_true rfl) dX5_take_134 ⟨Nat.le_refl _, Nat.le_refl _⟩) (fun v10 h => ?_)
  refine xend_ro_i (xRunV (wc := (wX1 K h1 a1 r1)) (As := [.int v10]) (rest := [.int ((zI r0 3 y0).1 2), .ref h0]) C (c_X1_handOf h) k_X1_handOf mw_841 ⟨rfl, rfl⟩ ⟨Nat.le_of_ble_eq_true rfl, Nat.le_of_ble_eq_true rfl⟩ hP hD [1, 2, 3, 4, 5, 6] rfl rfl rfl rfl hl rfl rfl (Nat.le_of_ble_eq_true rfl) dX5_take_137 ⟨Nat.le_refl _, Nat.le_refl _⟩) (fun v11 h => ?_)
  refine lv_iadd hx hb dX5_take_140 ?_
  refine lv_topi (fun v12 ev12 => ?_)
  replace h := h v12 ev12
  refine va_put (D := D) (ci := 5) (v := .int v12) (ty := .int) (C := RX5) (T := TX5) (N := 4) hx hb hts inlX5 tyX5 tyX5_ok nmX5 hown hK hP hD hS 0 rfl rfl 2 (by decide) (hts (.fieldLink RX5 18 "UnderTheDesks$Walk" "seconds" "I") mw_99) (fun _ h9 => h9) rfl (by decide +kernel) rfl rfl (Nat.le_of_ble_eq_true rfl) dX5_take_141 (fun H locs hP hD hS => ?_)
  replace hP : va_P D vwCl (wX5 K h0 a0 (zI (zI r0 3 y0) 2 v12) ++ (wX1 K h1 a1 r1 ++ (wX6 K h2 a2 r2))) H := hP
  replace hD : va_D A (wX5 K h0 a0 (zI (zI r0 3 y0) 2 v12) ++ (wX1 K h1 a1 r1 ++ (wX6 K h2 a2 r2))) := hD
  obtain ⟨v13, ev13⟩ : ∃ y : Int32, y = x6 + (1 : Int32) := ⟨_, rfl⟩
  replace h := h v13 ev13
  refine lv_iinc (v := v13) (lv' := [(6, .int v13), (0, .ref h0), (1, .ref h1), (2, .ref h2), (3, .int p3), (4, .int p4), (5, .int x5)]) hx hb dX5_take_144 hl (k := 6) rfl (by rw [ev13]; rfl) (by decide) rfl (fun ls hl => ?_)
  refine lv_goto (tgt := 33) hx hb dX5_take_147 (by decide) ?_
  exact hk33 _ _ _ _ _ _ (lv_sub hl [1, 2, 3, 4, 5, 6, 0] rfl) hP hD hS h
set_option maxHeartbeats 4000000 in
set_option maxRecDepth 100000 in
theorem t_X5_take_116 {p : Program} {l : Launch} {e : Env} {s : State} {m : MethodId} {args : Array Value} {below : List Frame} {meth : Method} {c : Code} {D : va_G} {K : Nat → ClassId} {h0 : Nat} {a0 : Nat → Nat} {h1 : Nat} {a1 : Nat → Nat} {r1 : zS} {h2 : Nat} {a2 : Nat → Nat} {r2 : zS} {p3 : Int32} {p4 : Int32} {post : (zS) → Prop} {A : Nat → Prop} (C : xC p s m args meth c cX5_take RX5 9 none D vwCl (xty K)) (hA : ∀ q, s.heap.size ≤ q → A q) {k33 : (zS) → Int32 → Int32 → Prop} (hk33 : ∀ (r0 : zS) (x5 : Int32) (x6 : Int32) (H : Heap) (locs : List Loc) (ls : Array Slot), lv_has ls 9 [(0, .ref h0), (1, .ref h1), (2, .ref h2), (3, .int p3), (4, .int p4), (5, .int x5), (6, .int x6)] → va_P D vwCl (wX5 K h0 a0 r0 ++ (wX1 K h1 a1 r1 ++ (wX6 K h2 a2 r2))) H → va_D A (wX5 K h0 a0 r0 ++ (wX1 K h1 a1 r1 ++ (wX6 K h2 a2 r2))) → va_S A s.heap H locs → k33 r0 x5 x6  → W p l e ({ frames := 3, cells := 0, slots := 0, locals := 104 } : Room) s m args below meth c H locs 0 0 (MQ below (va_Qv (fun (u : (zS)) => post u) (fun (u : (zS)) t => va_P D vwCl (wX5 K h0 a0 u ++ (wX1 K h1 a1 r1 ++ (wX6 K h2 a2 r2))) t.heap) A) args s 0 0 A) (F0 m 33 ls [])) : ∀ (r0 : zS) (x5 : Int32) (x6 : Int32) (H : Heap) (locs : List Loc) (ls : Array Slot), lv_has ls 9 [(0, .ref h0), (1, .ref h1), (2, .ref h2), (3, .int p3), (4, .int p4), (5, .int x5), (6, .int x6)] → va_P D vwCl (wX5 K h0 a0 r0 ++ (wX1 K h1 a1 r1 ++ (wX6 K h2 a2 r2))) H → va_D A (wX5 K h0 a0 r0 ++ (wX1 K h1 a1 r1 ++ (wX6 K h2 a2 r2))) → va_S A s.heap H locs → wp_X5_take_116 r1 r2 p3 p4 post k33 r0 x5 x6 → W p l e ({ frames := 3, cells := 0, slots := 0, locals := 104 } : Room) s m args below meth c H locs 0 0 (MQ below (va_Qv (fun (u : (zS)) => post u) (fun (u : (zS)) t => va_P D vwCl (wX5 K h0 a0 u ++ (wX1 K h1 a1 r1 ++ (wX6 K h2 a2 r2))) t.heap) A) args s 0 0 A) (F0 m 116 ls [.ref h0]) := by
  obtain ⟨hx, hb, hr, hml, hown, hts, hlocks, hK, hT⟩ := id C
  intro r0 x5 x6 H locs ls hl hP hD hS h
  unfold wp_X5_take_116 at h
  refine lv_iconst (v := 1) hx hb dX5_take_116 (by decide) ?_
  refine lv_goto (tgt := 121) hx hb dX5_take_117 (by decide) ?_
  exact t_X5_take_121 C hA hk33 _ _ _ _ _ _ _ (lv_sub hl [0, 1, 2, 3, 4, 5, 6] rfl) hP hD hS h
set_option maxHeartbeats 4000000 in
set_option maxRecDepth 100000 in
theorem t_X5_take_73 {p : Program} {l : Launch} {e : Env} {s : State} {m : MethodId} {args : Array Value} {below : List Frame} {meth : Method} {c : Code} {D : va_G} {K : Nat → ClassId} {h0 : Nat} {a0 : Nat → Nat} {h1 : Nat} {a1 : Nat → Nat} {r1 : zS} {h2 : Nat} {a2 : Nat → Nat} {r2 : zS} {p3 : Int32} {p4 : Int32} {post : (zS) → Prop} {A : Nat → Prop} (C : xC p s m args meth c cX5_take RX5 9 none D vwCl (xty K)) (hA : ∀ q, s.heap.size ≤ q → A q) {k33 : (zS) → Int32 → Int32 → Prop} (hk33 : ∀ (r0 : zS) (x5 : Int32) (x6 : Int32) (H : Heap) (locs : List Loc) (ls : Array Slot), lv_has ls 9 [(0, .ref h0), (1, .ref h1), (2, .ref h2), (3, .int p3), (4, .int p4), (5, .int x5), (6, .int x6)] → va_P D vwCl (wX5 K h0 a0 r0 ++ (wX1 K h1 a1 r1 ++ (wX6 K h2 a2 r2))) H → va_D A (wX5 K h0 a0 r0 ++ (wX1 K h1 a1 r1 ++ (wX6 K h2 a2 r2))) → va_S A s.heap H locs → k33 r0 x5 x6  → W p l e ({ frames := 3, cells := 0, slots := 0, locals := 104 } : Room) s m args below meth c H locs 0 0 (MQ below (va_Qv (fun (u : (zS)) => post u) (fun (u : (zS)) t => va_P D vwCl (wX5 K h0 a0 u ++ (wX1 K h1 a1 r1 ++ (wX6 K h2 a2 r2))) t.heap) A) args s 0 0 A) (F0 m 33 ls [])) : ∀ (r0 : zS) (x5 : Int32) (x6 : Int32) (x7 : Int32) (y0 : Int32) (y1 : Int32) (H : Heap) (locs : List Loc) (ls : Array Slot), lv_has ls 9 [(0, .ref h0), (1, .ref h1), (2, .ref h2), (3, .int p3), (4, .int p4), (5, .int x5), (6, .int x6), (7, .int x7)] → va_P D vwCl (wX5 K h0 a0 r0 ++ (wX1 K h1 a1 r1 ++ (wX6 K h2 a2 r2))) H → va_D A (wX5 K h0 a0 r0 ++ (wX1 K h1 a1 r1 ++ (wX6 K h2 a2 r2))) → va_S A s.heap H locs → wp_X5_take_73 r1 r2 p3 p4 post k33 r0 x5 x6 x7 y0 y1 → W p l e ({ frames := 3, cells := 0, slots := 0, locals := 104 } : Room) s m args below meth c H locs 0 0 (MQ below (va_Qv (fun (u : (zS)) => post u) (fun (u : (zS)) t => va_P D vwCl (wX5 K h0 a0 u ++ (wX1 K h1 a1 r1 ++ (wX6 K h2 a2 r2))) t.heap) A) args s 0 0 A) (F0 m 73 ls [.int y0, .int y1, .ref h1]) := by
  obtain ⟨hx, hb, hr, hml, hown, hts, hlocks, hK, hT⟩ := id C
  intro r0 x5 x6 x7 y0 y1 H locs ls hl hP hD hS h
  unfold wp_X5_take_73 at h
  refine lv_iload hx hb dX5_take_73 (lv_at hl 7 rfl) ?_
  refine xend_ro_i (xRunV (wc := (wX1 K h1 a1 r1)) (As := [.int y1, .int y0, .int x7]) (rest := []) C (c_X1_lossOf h) k_X1_lossOf mw_839 ⟨rfl, rfl⟩ ⟨Nat.le_of_ble_eq_true rfl, Nat.le_of_ble_eq_true rfl⟩ hP hD [1, 2, 3, 4, 5, 6] rfl rfl rfl rfl hl rfl rfl (Nat.le_of_ble_eq_true rfl) dX5_take_75 ⟨Nat.le_refl _, Nat.le_refl _⟩) (fun v7 h => ?_)
  refine lv_istore (lv' := [(8, .int v7), (0, .ref h0), (1, .ref h1), (2, .ref h2), (3, .int p3), (4, .int p4), (5, .int x5), (6, .int x6), (7, .int x7)]) hx hb dX5_take_78 hl (by decide) rfl (fun ls hl => ?_)
  refine lv_aload_n hx hb dX5_take_80 rfl (lv_at hl 1 rfl) ?_
  refine lv_aload_n hx hb dX5_take_81 rfl (lv_at hl 1 rfl) ?_
  refine va_get (D := D) (ci := 5) (v := .int (r0.1 1)) (C := RX5) (T := TX5) (N := 4) hx hb hts inlX5 hown hK hP 0 rfl rfl 1 (by decide) (hts (.fieldLink RX5 15 "UnderTheDesks$Walk" "chance" "I") mw_98) (fun _ h9 => h9) rfl dX5_take_82 ?_
  refine lv_sipush (v := 1000) hx hb dX5_take_85 (by decide) ?_
  refine lv_iload hx hb dX5_take_88 (lv_at hl 0 rfl) ?_
  refine lv_isub hx hb dX5_take_90 ?_
  refine lv_imul hx hb dX5_take_91 ?_
  refine lv_sipush (v := 1000) hx hb dX5_take_92 (by decide) ?_
  refine lv_idiv hx hb dX5_take_95 (by decide) ?_
  refine lv_topi (fun v8 ev8 => ?_)
  replace h := h v8 ev8
  refine va_put (D := D) (ci := 5) (v := .int v8) (ty := .int) (C := RX5) (T := TX5) (N := 4) hx hb hts inlX5 tyX5 tyX5_ok nmX5 hown hK hP hD hS 0 rfl rfl 1 (by decide) (hts (.fieldLink RX5 15 "UnderTheDesks$Walk" "chance" "I") mw_98) (fun _ h9 => h9) rfl (by decide +kernel) rfl rfl (Nat.le_of_ble_eq_true rfl) dX5_take_96 (fun H locs hP hD hS => ?_)
  replace hP : va_P D vwCl (wX5 K h0 a0 (zI r0 1 v8) ++ (wX1 K h1 a1 r1 ++ (wX6 K h2 a2 r2))) H := hP
  replace hD : va_D A (wX5 K h0 a0 (zI r0 1 v8) ++ (wX1 K h1 a1 r1 ++ (wX6 K h2 a2 r2))) := hD
  refine lv_aload_n hx hb dX5_take_99 rfl (lv_at hl 1 rfl) ?_
  refine lv_aload_n hx hb dX5_take_100 rfl (lv_at hl 1 rfl) ?_
  refine va_get (D := D) (ci := 5) (v := .int ((zI r0 1 v8).1 3)) (C := RX5) (T := TX5) (N := 4) hx hb hts inlX5 hown hK hP 0 rfl rfl 3 (by decide) (hts (.fieldLink RX5 21 "UnderTheDesks$Walk" "seen" "Z") mw_100) (fun _ h9 => h9) rfl dX5_take_101 ?_
  refine lv_if_ne (tgt := 116) hx hb dX5_take_104 (by decide) (fun c9 => ?_) (fun c9 => ?_)
  · replace h := And.right h c9
    exact t_X5_take_116 C hA hk33 _ _ _ _ _ _ (lv_sub hl [1, 2, 3, 4, 5, 6, 7] rfl) hP hD hS h
  · replace h := And.left h c9
    refine lv_aload_n hx hb dX5_take_107 rfl (lv_at hl 2 rfl) ?_
    refine lv_iload hx hb dX5_take_108 (lv_at hl 8 rfl) ?_
    refine xend_ro_i (xRunV (wc := (wX1 K h1 a1 r1)) (As := [.int x7]) (rest := [.ref h0]) C (c_X1_looks h) k_X1_looks mw_840 ⟨rfl, rfl⟩ ⟨Nat.le_of_ble_eq_true rfl, Nat.le_of_ble_eq_true rfl⟩ hP hD [1, 2, 3, 4, 5, 6] rfl rfl rfl rfl hl rfl rfl (Nat.le_of_ble_eq_true rfl) dX5_take_110 ⟨Nat.le_refl _, Nat.le_refl _⟩) (fun v14 h => ?_)
    refine lv_if_eq (tgt := 120) hx hb dX5_take_113 (by decide) (fun c15 => ?_) (fun c15 => ?_)
    · replace h := And.left h c15
      refine lv_iconst (v := 0) hx hb dX5_take_120 (by decide) ?_
      exact t_X5_take_121 C hA hk33 _ _ _ _ _ _ _ (lv_sub hl [1, 2, 3, 4, 5, 6, 7] rfl) hP hD hS h
    · replace h := And.right h c15
      exact t_X5_take_116 C hA hk33 _ _ _ _ _ _ (lv_sub hl [1, 2, 3, 4, 5, 6, 7] rfl) hP hD hS h
set_option maxHeartbeats 4000000 in
set_option maxRecDepth 100000 in
theorem t_X5_take_33 {p : Program} {l : Launch} {e : Env} {s : State} {m : MethodId} {args : Array Value} {below : List Frame} {meth : Method} {c : Code} {D : va_G} {K : Nat → ClassId} {h0 : Nat} {a0 : Nat → Nat} {h1 : Nat} {a1 : Nat → Nat} {r1 : zS} {h2 : Nat} {a2 : Nat → Nat} {r2 : zS} {p3 : Int32} {p4 : Int32} {post : (zS) → Prop} {A : Nat → Prop} (C : xC p s m args meth c cX5_take RX5 9 none D vwCl (xty K)) (hA : ∀ q, s.heap.size ≤ q → A q) : ∀ (n : Nat) (r0 : zS) (x5 : Int32) (x6 : Int32) (H : Heap) (locs : List Loc) (ls : Array Slot), lv_has ls 9 [(0, .ref h0), (1, .ref h1), (2, .ref h2), (3, .int p3), (4, .int p4), (5, .int x5), (6, .int x6)] → va_P D vwCl (wX5 K h0 a0 r0 ++ (wX1 K h1 a1 r1 ++ (wX6 K h2 a2 r2))) H → va_D A (wX5 K h0 a0 r0 ++ (wX1 K h1 a1 r1 ++ (wX6 K h2 a2 r2))) → va_S A s.heap H locs → wp_X5_take_33 r1 r2 p3 p4 post n r0 x5 x6 → W p l e ({ frames := 3, cells := 0, slots := 0, locals := 104 } : Room) s m args below meth c H locs 0 0 (MQ below (va_Qv (fun (u : (zS)) => post u) (fun (u : (zS)) t => va_P D vwCl (wX5 K h0 a0 u ++ (wX1 K h1 a1 r1 ++ (wX6 K h2 a2 r2))) t.heap) A) args s 0 0 A) (F0 m 33 ls []) := by
  obtain ⟨hx, hb, hr, hml, hown, hts, hlocks, hK, hT⟩ := id C
  intro n
  induction n with
  | zero =>
    intro r0 x5 x6 H locs ls hl hP hD hS h
    exact False.elim h
  | succ n ihn =>
    intro r0 x5 x6 H locs ls hl hP hD hS h
    rw [wu_X5_take_33] at h
    unfold wb_X5_take_33 at h
    refine lv_iload hx hb dX5_take_33 (lv_at hl 6 rfl) ?_
    refine lv_iload hx hb dX5_take_35 (lv_at hl 5 rfl) ?_
    refine lv_icmp_ge (tgt := 150) hx hb dX5_take_37 (by decide) (fun c3 => ?_) (fun c3 => ?_)
    · replace h := And.left h c3
      exact xrw_v C r0 h hP hS dX5_take_150
    · replace h := And.right h c3
      refine lv_iload hx hb dX5_take_40 (lv_at hl 4 rfl) ?_
      refine lv_aload_n hx hb dX5_take_42 rfl (lv_at hl 0 rfl) ?_
      refine va_get (D := D) (ci := 5) (v := .int (r0.1 2)) (C := RX5) (T := TX5) (N := 4) hx hb hts inlX5 hown hK hP 0 rfl rfl 2 (by decide) (hts (.fieldLink RX5 18 "UnderTheDesks$Walk" "seconds" "I") mw_99) (fun _ h9 => h9) rfl dX5_take_43 ?_
      refine lv_iadd hx hb dX5_take_46 ?_
      refine lv_topi (fun v4 ev4 => ?_)
      replace h := h v4 ev4
      refine lv_istore (lv' := [(7, .int v4), (0, .ref h0), (1, .ref h1), (2, .ref h2), (3, .int p3), (4, .int p4), (5, .int x5), (6, .int x6)]) hx hb dX5_take_47 hl (by decide) rfl (fun ls hl => ?_)
      refine lv_aload_n hx hb dX5_take_49 rfl (lv_at hl 2 rfl) ?_
      refine lv_aload_n hx hb dX5_take_50 rfl (lv_at hl 3 rfl) ?_
      refine lv_iload_n hx hb dX5_take_51 rfl (lv_at hl 4 rfl) ?_
      refine lv_iload hx hb dX5_take_52 (lv_at hl 7 rfl) ?_
      refine lv_iconst (v := 1) hx hb dX5_take_54 (by decide) ?_
      refine lv_iadd hx hb dX5_take_55 ?_
      refine xend_ro_i (xRunV (wc := (wX6 K h2 a2 r2)) (As := [.int p3, .int (x6 + (1 : Int32))]) (rest := [.ref h1]) C (c_X6_pupilOn h) k_X6_pupilOn mw_834 ⟨rfl, rfl⟩ ⟨Nat.le_of_ble_eq_true rfl, Nat.le_of_ble_eq_true rfl⟩ hP hD [7, 8, 9, 10, 11] rfl rfl rfl rfl hl rfl rfl (Nat.le_of_ble_eq_true rfl) dX5_take_56 ⟨Nat.le_refl _, Nat.le_refl _⟩) (fun v5 h => ?_)
      refine lv_iload hx hb dX5_take_59 (lv_at hl 7 rfl) ?_
      refine lv_iload hx hb dX5_take_61 (lv_at hl 6 rfl) ?_
      refine lv_iconst (v := 1) hx hb dX5_take_63 (by decide) ?_
      refine lv_isub hx hb dX5_take_64 ?_
      refine lv_icmp_ne (tgt := 72) hx hb dX5_take_65 (by decide) (fun c6 => ?_) (fun c6 => ?_)
      · replace h := And.right h c6
        refine lv_iconst (v := 0) hx hb dX5_take_72 (by decide) ?_
        exact t_X5_take_73 C hA ihn _ _ _ _ _ _ _ _ _ (lv_sub hl [1, 2, 3, 4, 5, 6, 7, 0] rfl) hP hD hS h
      · replace h := And.left h c6
        refine lv_iconst (v := 1) hx hb dX5_take_68 (by decide) ?_
        refine lv_goto (tgt := 73) hx hb dX5_take_69 (by decide) ?_
        exact t_X5_take_73 C hA ihn _ _ _ _ _ _ _ _ _ (lv_sub hl [1, 2, 3, 4, 5, 6, 7, 0] rfl) hP hD hS h
set_option maxHeartbeats 4000000 in
set_option maxRecDepth 100000 in
theorem c_X5_take {l : Launch} {D : va_G} {K : Nat → ClassId} {h0 : Nat} {a0 : Nat → Nat} {r0 : zS} {h1 : Nat} {a1 : Nat → Nat} {r1 : zS} {h2 : Nat} {a2 : Nat → Nat} {r2 : zS} {p3 : Int32} {p4 : Int32} {sz : Nat} {post : (zS) → Prop}   (h : wp_X5_take r0 r1 r2 p3 p4 post) : Met l yX5_take (Cond.code yX5_take cX5_take 9 none :: wsL_law) ({ frames := 3, cells := 0, slots := 0, locals := 104 } : Room) (va_Pc [.ref h0, .ref h1, .ref h2, .int p3, .int p4] (xPre D vwCl (xty K) (wX5 K h0 a0 r0 ++ (wX1 K h1 a1 r1 ++ (wX6 K h2 a2 r2))) sz)) (va_Qv (fun (u : (zS)) => post u) (fun (u : (zS)) t => va_P D vwCl (wX5 K h0 a0 u ++ (wX1 K h1 a1 r1 ++ (wX6 K h2 a2 r2))) t.heap) (va_A (wX5 K h0 a0 r0 ++ (wX1 K h1 a1 r1 ++ (wX6 K h2 a2 r2))) sz)) 0 0 (va_A (wX5 K h0 a0 r0 ++ (wX1 K h1 a1 r1 ++ (wX6 K h2 a2 r2))) sz) := by
  refine xMet (by decide) rfl (Nat.le_of_ble_eq_true rfl) (fun p e s m args below meth c C hnm hP hD hsz ls hl => ?_)
  have hl : lv_has ls 9 [(0, .ref h0), (1, .ref h1), (2, .ref h2), (3, .int p3), (4, .int p4)] := hl
  obtain ⟨hx, hb, hr, hml, hown, hts, hlocks, hK, hT⟩ := id C
  subst hsz
  generalize hAe : va_A (wX5 K h0 a0 r0 ++ (wX1 K h1 a1 r1 ++ (wX6 K h2 a2 r2))) s.heap.size = A at hD ⊢
  have hA : ∀ q : Nat, s.heap.size ≤ q → A q := fun q h => by rw [← hAe]; exact Or.inr h
  have hS : va_S A s.heap s.heap [] := va_S.rf
  have hP : va_P D vwCl (wX5 K h0 a0 r0 ++ (wX1 K h1 a1 r1 ++ (wX6 K h2 a2 r2))) s.heap := hP
  unfold wp_X5_take at h
  refine lv_aload_n hx hb dX5_take_0 rfl (lv_at hl 0 rfl) ?_
  refine lv_iload_n hx hb dX5_take_1 rfl (lv_at hl 3 rfl) ?_
  refine va_put (D := D) (ci := 5) (v := .int p3) (ty := .int) (C := RX5) (T := TX5) (N := 4) hx hb hts inlX5 tyX5 tyX5_ok nmX5 hown hK hP hD hS 0 rfl rfl 0 (by decide) (hts (.fieldLink RX5 9 "UnderTheDesks$Walk" "way" "I") mw_97) (fun _ h9 => h9) rfl (by decide +kernel) rfl rfl (Nat.le_of_ble_eq_true rfl) dX5_take_2 (fun H locs hP hD hS => ?_)
  replace hP : va_P D vwCl (wX5 K h0 a0 (zI r0 0 p3) ++ (wX1 K h1 a1 r1 ++ (wX6 K h2 a2 r2))) H := hP
  replace hD : va_D A (wX5 K h0 a0 (zI r0 0 p3) ++ (wX1 K h1 a1 r1 ++ (wX6 K h2 a2 r2))) := hD
  refine lv_aload_n hx hb dX5_take_5 rfl (lv_at hl 0 rfl) ?_
  refine lv_ldc hx hb hown (hts _ mw_832) dX5_take_6 ?_
  refine va_put (D := D) (ci := 5) (v := .int (1000000 : Int32)) (ty := .int) (C := RX5) (T := TX5) (N := 4) hx hb hts inlX5 tyX5 tyX5_ok nmX5 hown hK hP hD hS 0 rfl rfl 1 (by decide) (hts (.fieldLink RX5 15 "UnderTheDesks$Walk" "chance" "I") mw_98) (fun _ h9 => h9) rfl (by decide +kernel) rfl rfl (Nat.le_of_ble_eq_true rfl) dX5_take_8 (fun H locs hP hD hS => ?_)
  replace hP : va_P D vwCl (wX5 K h0 a0 (zI (zI r0 0 p3) 1 (1000000 : Int32)) ++ (wX1 K h1 a1 r1 ++ (wX6 K h2 a2 r2))) H := hP
  replace hD : va_D A (wX5 K h0 a0 (zI (zI r0 0 p3) 1 (1000000 : Int32)) ++ (wX1 K h1 a1 r1 ++ (wX6 K h2 a2 r2))) := hD
  refine lv_aload_n hx hb dX5_take_11 rfl (lv_at hl 0 rfl) ?_
  refine lv_iconst (v := 0) hx hb dX5_take_12 (by decide) ?_
  refine va_put (D := D) (ci := 5) (v := .int (0 : Int32)) (ty := .int) (C := RX5) (T := TX5) (N := 4) hx hb hts inlX5 tyX5 tyX5_ok nmX5 hown hK hP hD hS 0 rfl rfl 2 (by decide) (hts (.fieldLink RX5 18 "UnderTheDesks$Walk" "seconds" "I") mw_99) (fun _ h9 => h9) rfl (by decide +kernel) rfl rfl (Nat.le_of_ble_eq_true rfl) dX5_take_13 (fun H locs hP hD hS => ?_)
  replace hP : va_P D vwCl (wX5 K h0 a0 (zI (zI (zI r0 0 p3) 1 (1000000 : Int32)) 2 (0 : Int32)) ++ (wX1 K h1 a1 r1 ++ (wX6 K h2 a2 r2))) H := hP
  replace hD : va_D A (wX5 K h0 a0 (zI (zI (zI r0 0 p3) 1 (1000000 : Int32)) 2 (0 : Int32)) ++ (wX1 K h1 a1 r1 ++ (wX6 K h2 a2 r2))) := hD
  refine lv_aload_n hx hb dX5_take_16 rfl (lv_at hl 0 rfl) ?_
  refine lv_iconst (v := 0) hx hb dX5_take_17 (by decide) ?_
  refine va_put (D := D) (ci := 5) (v := .int (0 : Int32)) (ty := .boolean) (C := RX5) (T := TX5) (N := 4) hx hb hts inlX5 tyX5 tyX5_ok nmX5 hown hK hP hD hS 0 rfl rfl 3 (by decide) (hts (.fieldLink RX5 21 "UnderTheDesks$Walk" "seen" "Z") mw_100) (fun _ h9 => h9) rfl (by decide +kernel) rfl rfl (Nat.le_of_ble_eq_true rfl) dX5_take_18 (fun H locs hP hD hS => ?_)
  replace hP : va_P D vwCl (wX5 K h0 a0 (zI (zI (zI (zI r0 0 p3) 1 (1000000 : Int32)) 2 (0 : Int32)) 3 (0 : Int32)) ++ (wX1 K h1 a1 r1 ++ (wX6 K h2 a2 r2))) H := hP
  replace hD : va_D A (wX5 K h0 a0 (zI (zI (zI (zI r0 0 p3) 1 (1000000 : Int32)) 2 (0 : Int32)) 3 (0 : Int32)) ++ (wX1 K h1 a1 r1 ++ (wX6 K h2 a2 r2))) := hD
  refine lv_aload_n hx hb dX5_take_21 rfl (lv_at hl 2 rfl) ?_
  refine lv_iload_n hx hb dX5_take_22 rfl (lv_at hl 3 rfl) ?_
  refine xend_ro_i (xRunV (wc := (wX6 K h2 a2 r2)) (As := [.int p3]) (rest := []) C (c_X6_sizeOf h) k_X6_sizeOf mw_833 ⟨rfl, rfl⟩ ⟨Nat.le_of_ble_eq_true rfl, Nat.le_of_ble_eq_true rfl⟩ hP hD [7, 8, 9, 10, 11] rfl rfl rfl rfl hl rfl rfl (Nat.le_of_ble_eq_true rfl) dX5_take_23 ⟨Nat.le_refl _, Nat.le_refl _⟩) (fun v1 h => ?_)
  refine lv_iconst (v := 1) hx hb dX5_take_26 (by decide) ?_
  refine lv_isub hx hb dX5_take_27 ?_
  refine lv_topi (fun v2 ev2 => ?_)
  replace h := h v2 ev2
  refine lv_istore (lv' := [(5, .int v2), (0, .ref h0), (1, .ref h1), (2, .ref h2), (3, .int p3), (4, .int p4)]) hx hb dX5_take_28 hl (by decide) rfl (fun ls hl => ?_)
  refine lv_iconst (v := 0) hx hb dX5_take_30 (by decide) ?_
  refine lv_istore (lv' := [(6, .int (0 : Int32)), (5, .int v2), (0, .ref h0), (1, .ref h1), (2, .ref h2), (3, .int p3), (4, .int p4)]) hx hb dX5_take_31 hl (by decide) rfl (fun ls hl => ?_)
  obtain ⟨n0, h⟩ := h
  exact t_X5_take_33 C hA n0 _ _ _ _ _ _ (lv_sub hl [2, 3, 4, 5, 6, 1, 0] rfl) hP hD hS h

def wp_X5_isWanted (r0 : zS) (r1 : zS) (r2 : zS) (p3 : Int32) (post : Int32 → Prop) : Prop :=
  (p3 = (1 : Int32) → wp_X6_betweenOf r2 (r0.1 0) (fun v4 => wp_X1_readersAmong r1 v4 (fun v5 => (v5 = 0 → post (1 : Int32) ) ∧ (¬ v5 = 0 → post (0 : Int32) )))) ∧ (¬ p3 = (1 : Int32) → (p3 = (2 : Int32) → ((r0.1 3) = 0 → post (1 : Int32) ) ∧ (¬ (r0.1 3) = 0 → post (0 : Int32) )) ∧ (¬ p3 = (2 : Int32) → post (1 : Int32) ))
set_option maxHeartbeats 4000000 in
set_option maxRecDepth 100000 in
theorem c_X5_isWanted {l : Launch} {D : va_G} {K : Nat → ClassId} {h0 : Nat} {a0 : Nat → Nat} {r0 : zS} {h1 : Nat} {a1 : Nat → Nat} {r1 : zS} {h2 : Nat} {a2 : Nat → Nat} {r2 : zS} {p3 : Int32} {sz : Nat} {post : Int32 → Prop}   (h : wp_X5_isWanted r0 r1 r2 p3 post) : Met l yX5_isWanted (Cond.code yX5_isWanted cX5_isWanted 4 (some .boolean) :: wsL_law) ({ frames := 4, cells := 0, slots := 0, locals := 87 } : Room) (va_Pc [.ref h0, .ref h1, .ref h2, .int p3] (xPre D vwCl (xty K) (wX5 K h0 a0 r0 ++ (wX1 K h1 a1 r1 ++ (wX6 K h2 a2 r2))) sz)) (roI post) 0 0 (fun _ => False) := by
  refine xMet (by decide) rfl (Nat.le_of_ble_eq_true rfl) (fun p e s m args below meth c C hnm hP hD hsz ls hl => ?_)
  have hl : lv_has ls 4 [(0, .ref h0), (1, .ref h1), (2, .ref h2), (3, .int p3)] := hl
  obtain ⟨hx, hb, hr, hml, hown, hts, hlocks, hK, hT⟩ := id C
  unfold wp_X5_isWanted at h
  refine lv_iload_n hx hb dX5_isWanted_0 rfl (lv_at hl 3 rfl) ?_
  refine lv_iconst (v := 1) hx hb dX5_isWanted_1 (by decide) ?_
  refine lv_icmp_ne (tgt := 26) hx hb dX5_isWanted_2 (by decide) (fun c1 => ?_) (fun c1 => ?_)
  · replace h := And.right h c1
    refine lv_iload_n hx hb dX5_isWanted_26 rfl (lv_at hl 3 rfl) ?_
    refine lv_iconst (v := 2) hx hb dX5_isWanted_27 (by decide) ?_
    refine lv_icmp_ne (tgt := 38) hx hb dX5_isWanted_28 (by decide) (fun c2 => ?_) (fun c2 => ?_)
    · replace h := And.right h c2
      refine lv_iconst (v := 1) hx hb dX5_isWanted_38 (by decide) ?_
      refine lv_goto (tgt := 43) hx hb dX5_isWanted_39 (by decide) ?_
      exact xro_z C rfl h dX5_isWanted_43
    · replace h := And.left h c2
      refine lv_aload_n hx hb dX5_isWanted_31 rfl (lv_at hl 0 rfl) ?_
      refine va_get (D := D) (ci := 5) (v := .int (r0.1 3)) (C := RX5) (T := TX5) (N := 4) hx hb hts inlX5 hown hK hP 0 rfl rfl 3 (by decide) (hts (.fieldLink RX5 21 "UnderTheDesks$Walk" "seen" "Z") mw_100) (fun _ h9 => h9) rfl dX5_isWanted_32 ?_
      refine lv_if_ne (tgt := 42) hx hb dX5_isWanted_35 (by decide) (fun c3 => ?_) (fun c3 => ?_)
      · replace h := And.right h c3
        refine lv_iconst (v := 0) hx hb dX5_isWanted_42 (by decide) ?_
        exact xro_z C rfl h dX5_isWanted_43
      · replace h := And.left h c3
        refine lv_iconst (v := 1) hx hb dX5_isWanted_38 (by decide) ?_
        refine lv_goto (tgt := 43) hx hb dX5_isWanted_39 (by decide) ?_
        exact xro_z C rfl h dX5_isWanted_43
  · replace h := And.left h c1
    refine lv_aload_n hx hb dX5_isWanted_5 rfl (lv_at hl 1 rfl) ?_
    refine lv_aload_n hx hb dX5_isWanted_6 rfl (lv_at hl 2 rfl) ?_
    refine lv_aload_n hx hb dX5_isWanted_7 rfl (lv_at hl 0 rfl) ?_
    refine va_get (D := D) (ci := 5) (v := .int (r0.1 0)) (C := RX5) (T := TX5) (N := 4) hx hb hts inlX5 hown hK hP 0 rfl rfl 0 (by decide) (hts (.fieldLink RX5 9 "UnderTheDesks$Walk" "way" "I") mw_97) (fun _ h9 => h9) rfl dX5_isWanted_8 ?_
    refine xend_ro_i (xRunV (wc := (wX6 K h2 a2 r2)) (As := [.int (r0.1 0)]) (rest := [.ref h1]) C (c_X6_betweenOf h) k_X6_betweenOf mw_846 ⟨rfl, rfl⟩ ⟨Nat.le_of_ble_eq_true rfl, Nat.le_of_ble_eq_true rfl⟩ hP hD [7, 8, 9, 10, 11] rfl rfl rfl rfl hl rfl rfl (Nat.le_of_ble_eq_true rfl) dX5_isWanted_11 ⟨Nat.le_refl _, Nat.le_refl _⟩) (fun v4 h => ?_)
    refine xend_ro_i (xRunV (wc := (wX1 K h1 a1 r1)) (As := [.int v4]) (rest := []) C (c_X1_readersAmong h) k_X1_readersAmong mw_851 ⟨rfl, rfl⟩ ⟨Nat.le_of_ble_eq_true rfl, Nat.le_of_ble_eq_true rfl⟩ hP hD [1, 2, 3, 4, 5, 6] rfl rfl rfl rfl hl rfl rfl (Nat.le_of_ble_eq_true rfl) dX5_isWanted_14 ⟨Nat.le_refl _, Nat.le_refl _⟩) (fun v5 h => ?_)
    refine lv_if_ne (tgt := 24) hx hb dX5_isWanted_17 (by decide) (fun c6 => ?_) (fun c6 => ?_)
    · replace h := And.right h c6
      refine lv_iconst (v := 0) hx hb dX5_isWanted_24 (by decide) ?_
      exact xro_z C rfl h dX5_isWanted_25
    · replace h := And.left h c6
      refine lv_iconst (v := 1) hx hb dX5_isWanted_20 (by decide) ?_
      refine lv_goto (tgt := 25) hx hb dX5_isWanted_21 (by decide) ?_
      exact xro_z C rfl h dX5_isWanted_25

def wp_X5_takeSurest_93 (r1 : zS) (r2 : zS) (p3 : Int32) (p4 : Int32) (post : Int32 → (zS) → Prop) (k9 : (zS) → Int32 → Int32 → Int32 → Prop) (r0 : zS) (x5 : Int32) (x6 : Int32) (x7 : Int32) : Prop :=
  ∀ v9 : Int32, v9 = x7 + (1 : Int32) → k9 r0 x5 x6 v9
def wp_X5_takeSurest_65 (r1 : zS) (r2 : zS) (p3 : Int32) (p4 : Int32) (post : Int32 → (zS) → Prop) (k9 : (zS) → Int32 → Int32 → Int32 → Prop) (r0 : zS) (x5 : Int32) (x6 : Int32) (x7 : Int32) (y0 : Int32) : Prop :=
  (y0 = 0 → wp_X5_takeSurest_93 r1 r2 p3 p4 post k9 r0 x5 x6 x7) ∧ (¬ y0 = 0 → wp_X5_isWanted r0 r1 r2 p4 (fun v10 => (v10 = 0 → wp_X5_takeSurest_93 r1 r2 p3 p4 post k9 r0 x5 x6 x7) ∧ (¬ v10 = 0 → ∀ v12 : Int32, v12 = (r0.1 1) → wp_X5_takeSurest_93 r1 r2 p3 p4 post k9 r0 x7 v12 x7)))
def wp_X5_takeSurest_60 (r1 : zS) (r2 : zS) (p3 : Int32) (p4 : Int32) (post : Int32 → (zS) → Prop) (k9 : (zS) → Int32 → Int32 → Int32 → Prop) (r0 : zS) (x5 : Int32) (x6 : Int32) (x7 : Int32) : Prop :=
  wp_X5_takeSurest_65 r1 r2 p3 p4 post k9 r0 x5 x6 x7 (1 : Int32)
def wp_X5_takeSurest_64 (r1 : zS) (r2 : zS) (p3 : Int32) (p4 : Int32) (post : Int32 → (zS) → Prop) (k9 : (zS) → Int32 → Int32 → Int32 → Prop) (r0 : zS) (x5 : Int32) (x6 : Int32) (x7 : Int32) : Prop :=
  wp_X5_takeSurest_65 r1 r2 p3 p4 post k9 r0 x5 x6 x7 (0 : Int32)
def wb_X5_takeSurest_9 (r1 : zS) (r2 : zS) (p3 : Int32) (p4 : Int32) (post : Int32 → (zS) → Prop) (ih : (zS) → Int32 → Int32 → Int32 → Prop) (r0 : zS) (x5 : Int32) (x6 : Int32) (x7 : Int32) : Prop :=
  ((r2.1 0) ≤ x7 → wp_X5_take r0 r1 r2 x5 p3 (fun s3 => (x5 = (-1 : Int32) → post (0 : Int32) s3) ∧ (¬ x5 = (-1 : Int32) → post (1 : Int32) s3))) ∧ (¬ (r2.1 0) ≤ x7 → wp_X5_take r0 r1 r2 x7 p3 (fun s6 => (x6 < (s6.1 1) → wp_X5_takeSurest_60 r1 r2 p3 p4 post ih s6 x5 x6 x7) ∧ (¬ x6 < (s6.1 1) → ((s6.1 1) = x6 → wp_X6_sizeOf r2 x7 (fun v14 => wp_X6_sizeOf r2 x5 (fun v15 => (v15 ≤ v14 → wp_X5_takeSurest_64 r1 r2 p3 p4 post ih s6 x5 x6 x7) ∧ (¬ v15 ≤ v14 → wp_X5_takeSurest_60 r1 r2 p3 p4 post ih s6 x5 x6 x7)))) ∧ (¬ (s6.1 1) = x6 → wp_X5_takeSurest_64 r1 r2 p3 p4 post ih s6 x5 x6 x7))))
def wp_X5_takeSurest_9 (r1 : zS) (r2 : zS) (p3 : Int32) (p4 : Int32) (post : Int32 → (zS) → Prop) (n : Nat) : (zS) → Int32 → Int32 → Int32 → Prop := Nat.rec (motive := fun _ => (zS) → Int32 → Int32 → Int32 → Prop) (fun _ _ _ _ => False) (fun _ ih => wb_X5_takeSurest_9 r1 r2 p3 p4 post ih) n
theorem wu_X5_takeSurest_9 (r1 : zS) (r2 : zS) (p3 : Int32) (p4 : Int32) (post : Int32 → (zS) → Prop) (n : Nat) (r0 : zS) (x5 : Int32) (x6 : Int32) (x7 : Int32) : wp_X5_takeSurest_9 r1 r2 p3 p4 post (n + 1) r0 x5 x6 x7 = wb_X5_takeSurest_9 r1 r2 p3 p4 post (wp_X5_takeSurest_9 r1 r2 p3 p4 post n) r0 x5 x6 x7 := rfl
def wp_X5_takeSurest (r0 : zS) (r1 : zS) (r2 : zS) (p3 : Int32) (p4 : Int32) (post : Int32 → (zS) → Prop) : Prop :=
  ∃ n : Nat, wp_X5_takeSurest_9 r1 r2 p3 p4 post n r0 (-1 : Int32) (-1 : Int32) (0 : Int32)
set_option maxHeartbeats 4000000 in
set_option maxRecDepth 100000 in
theorem t_X5_takeSurest_93 {p : Program} {l : Launch} {e : Env} {s : State} {m : MethodId} {args : Array Value} {below : List Frame} {meth : Method} {c : Code} {D : va_G} {K : Nat → ClassId} {h0 : Nat} {a0 : Nat → Nat} {h1 : Nat} {a1 : Nat → Nat} {r1 : zS} {h2 : Nat} {a2 : Nat → Nat} {r2 : zS} {p3 : Int32} {p4 : Int32} {post : Int32 → (zS) → Prop} {A : Nat → Prop} (C : xC p s m args meth c cX5_takeSurest RX5 9 (some .boolean) D vwCl (xty K)) (hA : ∀ q, s.heap.size ≤ q → A q) {k9 : (zS) → Int32 → Int32 → Int32 → Prop} (hk9 : ∀ (r0 : zS) (x5 : Int32) (x6 : Int32) (x7 : Int32) (H : Heap) (locs : List Loc) (ls : Array Slot), lv_has ls 9 [(0, .ref h0), (1, .ref h1), (2, .ref h2), (3, .int p3), (4, .int p4), (5, .int x5), (6, .int x6), (7, .int x7)] → va_P D vwCl (wX5 K h0 a0 r0 ++ (wX1 K h1 a1 r1 ++ (wX6 K h2 a2 r2))) H → va_D A (wX5 K h0 a0 r0 ++ (wX1 K h1 a1 r1 ++ (wX6 K h2 a2 r2))) → va_S A s.heap H locs → k9 r0 x5 x6 x7  → W p l e ({ frames := 5, cells := 0, slots := 0, locals := 132 } : Room) s m args below meth c H locs 0 0 (MQ below (va_Qi (fun r (u : (zS)) => post r u) (fun (u : (zS)) t => va_P D vwCl (wX5 K h0 a0 u ++ (wX1 K h1 a1 r1 ++ (wX6 K h2 a2 r2))) t.heap) A) args s 0 0 A) (F0 m 9 ls [])) : ∀ (r0 : zS) (x5 : Int32) (x6 : Int32) (x7 : Int32) (H : Heap) (locs : List Loc) (ls : Array Slot), lv_has ls 9 [(0, .ref h0), (1, .ref h1), (2, .ref h2), (3, .int p3), (4, .int p4), (5, .int x5), (6, .int x6), (7, .int x7)] → va_P D vwCl (wX5 K h0 a0 r0 ++ (wX1 K h1 a1 r1 ++ (wX6 K h2 a2 r2))) H → va_D A (wX5 K h0 a0 r0 ++ (wX1 K h1 a1 r1 ++ (wX6 K h2 a2 r2))) → va_S A s.heap H locs → wp_X5_takeSurest_93 r1 r2 p3 p4 post k9 r0 x5 x6 x7 → W p l e ({ frames := 5, cells := 0, slots := 0, locals := 132 } : Room) s m args below meth c H locs 0 0 (MQ below (va_Qi (fun r (u : (zS)) => post r u) (fun (u : (zS)) t => va_P D vwCl (wX5 K h0 a0 u ++ (wX1 K h1 a1 r1 ++ (wX6 K h2 a2 r2))) t.heap) A) args s 0 0 A) (F0 m 93 ls []) := by
  obtain ⟨hx, hb, hr, hml, hown, hts, hlocks, hK, hT⟩ := id C
  intro r0 x5 x6 x7 H locs ls hl hP hD hS h
  unfold wp_X5_takeSurest_93 at h
  obtain ⟨v9, ev9⟩ : ∃ y : Int32, y = x7 + (1 : Int32) := ⟨_, rfl⟩
  replace h := h v9 ev9
  refine lv_iinc (v := v9) (lv' := [(7, .int v9), (0, .ref h0), (1, .ref h1), (2, .ref h2), (3, .int p3), (4, .int p4), (5, .int x5), (6, .int x6)]) hx hb dX5_takeSurest_93 hl (k := 7) rfl (by rw [ev9]; rfl) (by decide) rfl (fun ls hl => ?_)
  refine lv_goto (tgt := 9) hx hb dX5_takeSurest_96 (by decide) ?_
  exact hk9 _ _ _ _ _ _ _ (lv_sub hl [1, 2, 3, 4, 5, 6, 7, 0] rfl) hP hD hS h
set_option maxHeartbeats 4000000 in
set_option maxRecDepth 100000 in
theorem t_X5_takeSurest_65 {p : Program} {l : Launch} {e : Env} {s : State} {m : MethodId} {args : Array Value} {below : List Frame} {meth : Method} {c : Code} {D : va_G} {K : Nat → ClassId} {h0 : Nat} {a0 : Nat → Nat} {h1 : Nat} {a1 : Nat → Nat} {r1 : zS} {h2 : Nat} {a2 : Nat → Nat} {r2 : zS} {p3 : Int32} {p4 : Int32} {post : Int32 → (zS) → Prop} {A : Nat → Prop} (C : xC p s m args meth c cX5_takeSurest RX5 9 (some .boolean) D vwCl (xty K)) (hA : ∀ q, s.heap.size ≤ q → A q) {k9 : (zS) → Int32 → Int32 → Int32 → Prop} (hk9 : ∀ (r0 : zS) (x5 : Int32) (x6 : Int32) (x7 : Int32) (H : Heap) (locs : List Loc) (ls : Array Slot), lv_has ls 9 [(0, .ref h0), (1, .ref h1), (2, .ref h2), (3, .int p3), (4, .int p4), (5, .int x5), (6, .int x6), (7, .int x7)] → va_P D vwCl (wX5 K h0 a0 r0 ++ (wX1 K h1 a1 r1 ++ (wX6 K h2 a2 r2))) H → va_D A (wX5 K h0 a0 r0 ++ (wX1 K h1 a1 r1 ++ (wX6 K h2 a2 r2))) → va_S A s.heap H locs → k9 r0 x5 x6 x7  → W p l e ({ frames := 5, cells := 0, slots := 0, locals := 132 } : Room) s m args below meth c H locs 0 0 (MQ below (va_Qi (fun r (u : (zS)) => post r u) (fun (u : (zS)) t => va_P D vwCl (wX5 K h0 a0 u ++ (wX1 K h1 a1 r1 ++ (wX6 K h2 a2 r2))) t.heap) A) args s 0 0 A) (F0 m 9 ls [])) : ∀ (r0 : zS) (x5 : Int32) (x6 : Int32) (x7 : Int32) (y0 : Int32) (H : Heap) (locs : List Loc) (ls : Array Slot), lv_has ls 9 [(0, .ref h0), (1, .ref h1), (2, .ref h2), (3, .int p3), (4, .int p4), (5, .int x5), (6, .int x6), (7, .int x7)] → va_P D vwCl (wX5 K h0 a0 r0 ++ (wX1 K h1 a1 r1 ++ (wX6 K h2 a2 r2))) H → va_D A (wX5 K h0 a0 r0 ++ (wX1 K h1 a1 r1 ++ (wX6 K h2 a2 r2))) → va_S A s.heap H locs → wp_X5_takeSurest_65 r1 r2 p3 p4 post k9 r0 x5 x6 x7 y0 → W p l e ({ frames := 5, cells := 0, slots := 0, locals := 132 } : Room) s m args below meth c H locs 0 0 (MQ below (va_Qi (fun r (u : (zS)) => post r u) (fun (u : (zS)) t => va_P D vwCl (wX5 K h0 a0 u ++ (wX1 K h1 a1 r1 ++ (wX6 K h2 a2 r2))) t.heap) A) args s 0 0 A) (F0 m 65 ls [.int y0]) := by
  obtain ⟨hx, hb, hr, hml, hown, hts, hlocks, hK, hT⟩ := id C
  intro r0 x5 x6 x7 y0 H locs ls hl hP hD hS h
  unfold wp_X5_takeSurest_65 at h
  refine lv_istore (lv' := [(8, .int y0), (0, .ref h0), (1, .ref h1), (2, .ref h2), (3, .int p3), (4, .int p4), (5, .int x5), (6, .int x6), (7, .int x7)]) hx hb dX5_takeSurest_65 hl (by decide) rfl (fun ls hl => ?_)
  refine lv_iload hx hb dX5_takeSurest_67 (lv_at hl 0 rfl) ?_
  refine lv_if_eq (tgt := 93) hx hb dX5_takeSurest_69 (by decide) (fun c8 => ?_) (fun c8 => ?_)
  · replace h := And.left h c8
    exact t_X5_takeSurest_93 C hA hk9 _ _ _ _ _ _ _ (lv_sub hl [1, 2, 3, 4, 5, 6, 7, 8] rfl) hP hD hS h
  · replace h := And.right h c8
    refine lv_aload_n hx hb dX5_takeSurest_72 rfl (lv_at hl 1 rfl) ?_
    refine lv_aload_n hx hb dX5_takeSurest_73 rfl (lv_at hl 2 rfl) ?_
    refine lv_aload_n hx hb dX5_takeSurest_74 rfl (lv_at hl 3 rfl) ?_
    refine lv_iload hx hb dX5_takeSurest_75 (lv_at hl 5 rfl) ?_
    refine xend_ro_i (xRunV_id (As := [.ref h1, .ref h2, .int p4]) (rest := []) C (c_X5_isWanted h) k_X5_isWanted mw_842 ⟨rfl, rfl⟩ ⟨Nat.le_of_ble_eq_true rfl, Nat.le_of_ble_eq_true rfl⟩ hP hD rfl rfl hl rfl rfl (Nat.le_of_ble_eq_true rfl) dX5_takeSurest_77 ⟨Nat.le_refl _, Nat.le_refl _⟩) (fun v10 h => ?_)
    refine lv_if_eq (tgt := 93) hx hb dX5_takeSurest_80 (by decide) (fun c11 => ?_) (fun c11 => ?_)
    · replace h := And.left h c11
      exact t_X5_takeSurest_93 C hA hk9 _ _ _ _ _ _ _ (lv_sub hl [1, 2, 3, 4, 5, 6, 7, 8] rfl) hP hD hS h
    · replace h := And.right h c11
      refine lv_iload hx hb dX5_takeSurest_83 (lv_at hl 8 rfl) ?_
      refine lv_istore (lv' := [(5, .int x7), (8, .int y0), (0, .ref h0), (1, .ref h1), (2, .ref h2), (3, .int p3), (4, .int p4), (6, .int x6), (7, .int x7)]) hx hb dX5_takeSurest_85 hl (by decide) rfl (fun ls hl => ?_)
      refine lv_aload_n hx hb dX5_takeSurest_87 rfl (lv_at hl 2 rfl) ?_
      refine va_get (D := D) (ci := 5) (v := .int (r0.1 1)) (C := RX5) (T := TX5) (N := 4) hx hb hts inlX5 hown hK hP 0 rfl rfl 1 (by decide) (hts (.fieldLink RX5 15 "UnderTheDesks$Walk" "chance" "I") mw_98) (fun _ h9 => h9) rfl dX5_takeSurest_88 ?_
      refine lv_topi (fun v12 ev12 => ?_)
      replace h := h v12 ev12
      refine lv_istore (lv' := [(6, .int v12), (5, .int x7), (8, .int y0), (0, .ref h0), (1, .ref h1), (2, .ref h2), (3, .int p3), (4, .int p4), (7, .int x7)]) hx hb dX5_takeSurest_91 hl (by decide) rfl (fun ls hl => ?_)
      exact t_X5_takeSurest_93 C hA hk9 _ _ _ _ _ _ _ (lv_sub hl [3, 4, 5, 6, 7, 1, 0, 8] rfl) hP hD hS h
set_option maxHeartbeats 4000000 in
set_option maxRecDepth 100000 in
theorem t_X5_takeSurest_60 {p : Program} {l : Launch} {e : Env} {s : State} {m : MethodId} {args : Array Value} {below : List Frame} {meth : Method} {c : Code} {D : va_G} {K : Nat → ClassId} {h0 : Nat} {a0 : Nat → Nat} {h1 : Nat} {a1 : Nat → Nat} {r1 : zS} {h2 : Nat} {a2 : Nat → Nat} {r2 : zS} {p3 : Int32} {p4 : Int32} {post : Int32 → (zS) → Prop} {A : Nat → Prop} (C : xC p s m args meth c cX5_takeSurest RX5 9 (some .boolean) D vwCl (xty K)) (hA : ∀ q, s.heap.size ≤ q → A q) {k9 : (zS) → Int32 → Int32 → Int32 → Prop} (hk9 : ∀ (r0 : zS) (x5 : Int32) (x6 : Int32) (x7 : Int32) (H : Heap) (locs : List Loc) (ls : Array Slot), lv_has ls 9 [(0, .ref h0), (1, .ref h1), (2, .ref h2), (3, .int p3), (4, .int p4), (5, .int x5), (6, .int x6), (7, .int x7)] → va_P D vwCl (wX5 K h0 a0 r0 ++ (wX1 K h1 a1 r1 ++ (wX6 K h2 a2 r2))) H → va_D A (wX5 K h0 a0 r0 ++ (wX1 K h1 a1 r1 ++ (wX6 K h2 a2 r2))) → va_S A s.heap H locs → k9 r0 x5 x6 x7  → W p l e ({ frames := 5, cells := 0, slots := 0, locals := 132 } : Room) s m args below meth c H locs 0 0 (MQ below (va_Qi (fun r (u : (zS)) => post r u) (fun (u : (zS)) t => va_P D vwCl (wX5 K h0 a0 u ++ (wX1 K h1 a1 r1 ++ (wX6 K h2 a2 r2))) t.heap) A) args s 0 0 A) (F0 m 9 ls [])) : ∀ (r0 : zS) (x5 : Int32) (x6 : Int32) (x7 : Int32) (H : Heap) (locs : List Loc) (ls : Array Slot), lv_has ls 9 [(0, .ref h0), (1, .ref h1), (2, .ref h2), (3, .int p3), (4, .int p4), (5, .int x5), (6, .int x6), (7, .int x7)] → va_P D vwCl (wX5 K h0 a0 r0 ++ (wX1 K h1 a1 r1 ++ (wX6 K h2 a2 r2))) H → va_D A (wX5 K h0 a0 r0 ++ (wX1 K h1 a1 r1 ++ (wX6 K h2 a2 r2))) → va_S A s.heap H locs → wp_X5_takeSurest_60 r1 r2 p3 p4 post k9 r0 x5 x6 x7 → W p l e ({ frames := 5, cells := 0, slots := 0, locals := 132 } : Room) s m args below meth c H locs 0 0 (MQ below (va_Qi (fun r (u : (zS)) => post r u) (fun (u : (zS)) t => va_P D vwCl (wX5 K h0 a0 u ++ (wX1 K h1 a1 r1 ++ (wX6 K h2 a2 r2))) t.heap) A) args s 0 0 A) (F0 m 60 ls []) := by
  obtain ⟨hx, hb, hr, hml, hown, hts, hlocks, hK, hT⟩ := id C
  intro r0 x5 x6 x7 H locs ls hl hP hD hS h
  unfold wp_X5_takeSurest_60 at h
  refine lv_iconst (v := 1) hx hb dX5_takeSurest_60 (by decide) ?_
  refine lv_goto (tgt := 65) hx hb dX5_takeSurest_61 (by decide) ?_
  exact t_X5_takeSurest_65 C hA hk9 _ _ _ _ _ _ _ _ (lv_sub hl [0, 1, 2, 3, 4, 5, 6, 7] rfl) hP hD hS h
set_option maxHeartbeats 4000000 in
set_option maxRecDepth 100000 in
theorem t_X5_takeSurest_64 {p : Program} {l : Launch} {e : Env} {s : State} {m : MethodId} {args : Array Value} {below : List Frame} {meth : Method} {c : Code} {D : va_G} {K : Nat → ClassId} {h0 : Nat} {a0 : Nat → Nat} {h1 : Nat} {a1 : Nat → Nat} {r1 : zS} {h2 : Nat} {a2 : Nat → Nat} {r2 : zS} {p3 : Int32} {p4 : Int32} {post : Int32 → (zS) → Prop} {A : Nat → Prop} (C : xC p s m args meth c cX5_takeSurest RX5 9 (some .boolean) D vwCl (xty K)) (hA : ∀ q, s.heap.size ≤ q → A q) {k9 : (zS) → Int32 → Int32 → Int32 → Prop} (hk9 : ∀ (r0 : zS) (x5 : Int32) (x6 : Int32) (x7 : Int32) (H : Heap) (locs : List Loc) (ls : Array Slot), lv_has ls 9 [(0, .ref h0), (1, .ref h1), (2, .ref h2), (3, .int p3), (4, .int p4), (5, .int x5), (6, .int x6), (7, .int x7)] → va_P D vwCl (wX5 K h0 a0 r0 ++ (wX1 K h1 a1 r1 ++ (wX6 K h2 a2 r2))) H → va_D A (wX5 K h0 a0 r0 ++ (wX1 K h1 a1 r1 ++ (wX6 K h2 a2 r2))) → va_S A s.heap H locs → k9 r0 x5 x6 x7  → W p l e ({ frames := 5, cells := 0, slots := 0, locals := 132 } : Room) s m args below meth c H locs 0 0 (MQ below (va_Qi (fun r (u : (zS)) => post r u) (fun (u : (zS)) t => va_P D vwCl (wX5 K h0 a0 u ++ (wX1 K h1 a1 r1 ++ (wX6 K h2 a2 r2))) t.heap) A) args s 0 0 A) (F0 m 9 ls [])) : ∀ (r0 : zS) (x5 : Int32) (x6 : Int32) (x7 : Int32) (H : Heap) (locs : List Loc) (ls : Array Slot), lv_has ls 9 [(0, .ref h0), (1, .ref h1), (2, .ref h2), (3, .int p3), (4, .int p4), (5, .int x5), (6, .int x6), (7, .int x7)] → va_P D vwCl (wX5 K h0 a0 r0 ++ (wX1 K h1 a1 r1 ++ (wX6 K h2 a2 r2))) H → va_D A (wX5 K h0 a0 r0 ++ (wX1 K h1 a1 r1 ++ (wX6 K h2 a2 r2))) → va_S A s.heap H locs → wp_X5_takeSurest_64 r1 r2 p3 p4 post k9 r0 x5 x6 x7 → W p l e ({ frames := 5, cells := 0, slots := 0, locals := 132 } : Room) s m args below meth c H locs 0 0 (MQ below (va_Qi (fun r (u : (zS)) => post r u) (fun (u : (zS)) t => va_P D vwCl (wX5 K h0 a0 u ++ (wX1 K h1 a1 r1 ++ (wX6 K h2 a2 r2))) t.heap) A) args s 0 0 A) (F0 m 64 ls []) := by
  obtain ⟨hx, hb, hr, hml, hown, hts, hlocks, hK, hT⟩ := id C
  intro r0 x5 x6 x7 H locs ls hl hP hD hS h
  unfold wp_X5_takeSurest_64 at h
  refine lv_iconst (v := 0) hx hb dX5_takeSurest_64 (by decide) ?_
  exact t_X5_takeSurest_65 C hA hk9 _ _ _ _ _ _ _ _ (lv_sub hl [0, 1, 2, 3, 4, 5, 6, 7] rfl) hP hD hS h
set_option maxHeartbeats 4000000 in
set_option maxRecDepth 100000 in
theorem t_X5_takeSurest_9 {p : Program} {l : Launch} {e : Env} {s : State} {m : MethodId} {args : Array Value} {below : List Frame} {meth : Method} {c : Code} {D : va_G} {K : Nat → ClassId} {h0 : Nat} {a0 : Nat → Nat} {h1 : Nat} {a1 : Nat → Nat} {r1 : zS} {h2 : Nat} {a2 : Nat → Nat} {r2 : zS} {p3 : Int32} {p4 : Int32} {post : Int32 → (zS) → Prop} {A : Nat → Prop} (C : xC p s m args meth c cX5_takeSurest RX5 9 (some .boolean) D vwCl (xty K)) (hA : ∀ q, s.heap.size ≤ q → A q) : ∀ (n : Nat) (r0 : zS) (x5 : Int32) (x6 : Int32) (x7 : Int32) (H : Heap) (locs : List Loc) (ls : Array Slot), lv_has ls 9 [(0, .ref h0), (1, .ref h1), (2, .ref h2), (3, .int p3), (4, .int p4), (5, .int x5), (6, .int x6), (7, .int x7)] → va_P D vwCl (wX5 K h0 a0 r0 ++ (wX1 K h1 a1 r1 ++ (wX6 K h2 a2 r2))) H → va_D A (wX5 K h0 a0 r0 ++ (wX1 K h1 a1 r1 ++ (wX6 K h2 a2 r2))) → va_S A s.heap H locs → wp_X5_takeSurest_9 r1 r2 p3 p4 post n r0 x5 x6 x7 → W p l e ({ frames := 5, cells := 0, slots := 0, locals := 132 } : Room) s m args below meth c H locs 0 0 (MQ below (va_Qi (fun r (u : (zS)) => post r u) (fun (u : (zS)) t => va_P D vwCl (wX5 K h0 a0 u ++ (wX1 K h1 a1 r1 ++ (wX6 K h2 a2 r2))) t.heap) A) args s 0 0 A) (F0 m 9 ls []) := by
  obtain ⟨hx, hb, hr, hml, hown, hts, hlocks, hK, hT⟩ := id C
  intro n
  induction n with
  | zero =>
    intro r0 x5 x6 x7 H locs ls hl hP hD hS h
    exact False.elim h
  | succ n ihn =>
    intro r0 x5 x6 x7 H locs ls hl hP hD hS h
    rw [wu_X5_takeSurest_9] at h
    unfold wb_X5_takeSurest_9 at h
    refine lv_iload hx hb dX5_takeSurest_9 (lv_at hl 7 rfl) ?_
    refine lv_aload_n hx hb dX5_takeSurest_11 rfl (lv_at hl 2 rfl) ?_
    refine va_get (D := D) (ci := 6) (v := .int (r2.1 0)) (C := RX6) (T := TX6) (N := 5) hx hb hts inlX6 hown hK hP 7 rfl rfl 0 (by decide) (hts (.fieldLink RX5 49 "UnderTheDesks$Ways" "count" "I") mw_827) (fun _ h9 => h9) rfl dX5_takeSurest_12 ?_
    refine lv_icmp_ge (tgt := 99) hx hb dX5_takeSurest_15 (by decide) (fun c1 => ?_) (fun c1 => ?_)
    · replace h := And.left h c1
      refine lv_aload_n hx hb dX5_takeSurest_99 rfl (lv_at hl 0 rfl) ?_
      refine lv_aload_n hx hb dX5_takeSurest_100 rfl (lv_at hl 1 rfl) ?_
      refine lv_aload_n hx hb dX5_takeSurest_101 rfl (lv_at hl 2 rfl) ?_
      refine lv_iload hx hb dX5_takeSurest_102 (lv_at hl 5 rfl) ?_
      refine lv_iload_n hx hb dX5_takeSurest_104 rfl (lv_at hl 3 rfl) ?_
      refine xend_rw_v_id (wf := fun (u : (zS)) => (wX5 K h0 a0 u ++ (wX1 K h1 a1 r1 ++ (wX6 K h2 a2 r2)))) (xRunV_id (As := [.ref h1, .ref h2, .int x5, .int p3]) (rest := []) C (c_X5_take h) k_X5_take mw_828 ⟨rfl, rfl⟩ ⟨Nat.le_of_ble_eq_true rfl, Nat.le_of_ble_eq_true rfl⟩ hP hD rfl rfl hl rfl rfl (Nat.le_of_ble_eq_true rfl) dX5_takeSurest_105 ⟨Nat.le_refl _, Nat.le_refl _⟩) hD hS hA (fun _ => rfl) (fun s3 H locs h hP hD hS => ?_)
      refine lv_iload hx hb dX5_takeSurest_108 (lv_at hl 5 rfl) ?_
      refine lv_iconst (v := -1) hx hb dX5_takeSurest_110 (by decide) ?_
      refine lv_icmp_eq (tgt := 118) hx hb dX5_takeSurest_111 (by decide) (fun c4 => ?_) (fun c4 => ?_)
      · replace h := And.left h c4
        refine lv_iconst (v := 0) hx hb dX5_takeSurest_118 (by decide) ?_
        exact xrw_z C s3 rfl h hP hS dX5_takeSurest_119
      · replace h := And.right h c4
        refine lv_iconst (v := 1) hx hb dX5_takeSurest_114 (by decide) ?_
        refine lv_goto (tgt := 119) hx hb dX5_takeSurest_115 (by decide) ?_
        exact xrw_z C s3 rfl h hP hS dX5_takeSurest_119
    · replace h := And.right h c1
      refine lv_aload_n hx hb dX5_takeSurest_18 rfl (lv_at hl 0 rfl) ?_
      refine lv_aload_n hx hb dX5_takeSurest_19 rfl (lv_at hl 1 rfl) ?_
      refine lv_aload_n hx hb dX5_takeSurest_20 rfl (lv_at hl 2 rfl) ?_
      refine lv_iload hx hb dX5_takeSurest_21 (lv_at hl 7 rfl) ?_
      refine lv_iload_n hx hb dX5_takeSurest_23 rfl (lv_at hl 3 rfl) ?_
      refine xend_rw_v_id (wf := fun (u : (zS)) => (wX5 K h0 a0 u ++ (wX1 K h1 a1 r1 ++ (wX6 K h2 a2 r2)))) (xRunV_id (As := [.ref h1, .ref h2, .int x7, .int p3]) (rest := []) C (c_X5_take h) k_X5_take mw_828 ⟨rfl, rfl⟩ ⟨Nat.le_of_ble_eq_true rfl, Nat.le_of_ble_eq_true rfl⟩ hP hD rfl rfl hl rfl rfl (Nat.le_of_ble_eq_true rfl) dX5_takeSurest_24 ⟨Nat.le_refl _, Nat.le_refl _⟩) hD hS hA (fun _ => rfl) (fun s6 H locs h hP hD hS => ?_)
      refine lv_aload_n hx hb dX5_takeSurest_27 rfl (lv_at hl 0 rfl) ?_
      refine va_get (D := D) (ci := 5) (v := .int (s6.1 1)) (C := RX5) (T := TX5) (N := 4) hx hb hts inlX5 hown hK hP 0 rfl rfl 1 (by decide) (hts (.fieldLink RX5 15 "UnderTheDesks$Walk" "chance" "I") mw_98) (fun _ h9 => h9) rfl dX5_takeSurest_28 ?_
      refine lv_iload hx hb dX5_takeSurest_31 (lv_at hl 6 rfl) ?_
      refine lv_icmp_gt (tgt := 60) hx hb dX5_takeSurest_33 (by decide) (fun c7 => ?_) (fun c7 => ?_)
      · replace h := And.left h c7
        exact t_X5_takeSurest_60 C hA ihn _ _ _ _ _ _ _ (lv_sub hl [0, 1, 2, 3, 4, 5, 6, 7] rfl) hP hD hS h
      · replace h := And.right h c7
        refine lv_aload_n hx hb dX5_takeSurest_36 rfl (lv_at hl 0 rfl) ?_
        refine va_get (D := D) (ci := 5) (v := .int (s6.1 1)) (C := RX5) (T := TX5) (N := 4) hx hb hts inlX5 hown hK hP 0 rfl rfl 1 (by decide) (hts (.fieldLink RX5 15 "UnderTheDesks$Walk" "chance" "I") mw_98) (fun _ h9 => h9) rfl dX5_takeSurest_37 ?_
        refine lv_iload hx hb dX5_takeSurest_40 (lv_at hl 6 rfl) ?_
        refine lv_icmp_ne (tgt := 64) hx hb dX5_takeSurest_42 (by decide) (fun c13 => ?_) (fun c13 => ?_)
        · replace h := And.right h c13
          exact t_X5_takeSurest_64 C hA ihn _ _ _ _ _ _ _ (lv_sub hl [0, 1, 2, 3, 4, 5, 6, 7] rfl) hP hD hS h
        · replace h := And.left h c13
          refine lv_aload_n hx hb dX5_takeSurest_45 rfl (lv_at hl 2 rfl) ?_
          refine lv_iload hx hb dX5_takeSurest_46 (lv_at hl 7 rfl) ?_
          refine xend_ro_i (xRunV (wc := (wX6 K h2 a2 r2)) (As := [.int x7]) (rest := []) C (c_X6_sizeOf h) k_X6_sizeOf mw_833 ⟨rfl, rfl⟩ ⟨Nat.le_of_ble_eq_true rfl, Nat.le_of_ble_eq_true rfl⟩ hP hD [7, 8, 9, 10, 11] rfl rfl rfl rfl hl rfl rfl (Nat.le_of_ble_eq_true rfl) dX5_takeSurest_48 ⟨Nat.le_refl _, Nat.le_refl _⟩) (fun v14 h => ?_)
          refine lv_aload_n hx hb dX5_takeSurest_51 rfl (lv_at hl 2 rfl) ?_
          refine lv_iload hx hb dX5_takeSurest_52 (lv_at hl 5 rfl) ?_
          refine xend_ro_i (xRunV (wc := (wX6 K h2 a2 r2)) (As := [.int x5]) (rest := [.int v14]) C (c_X6_sizeOf h) k_X6_sizeOf mw_833 ⟨rfl, rfl⟩ ⟨Nat.le_of_ble_eq_true rfl, Nat.le_of_ble_eq_true rfl⟩ hP hD [7, 8, 9, 10, 11] rfl rfl rfl rfl hl rfl rfl (Nat.le_of_ble_eq_true rfl) dX5_takeSurest_54 ⟨Nat.le_refl _, Nat.le_refl _⟩) (fun v15 h => ?_)
          refine lv_icmp_ge (tgt := 64) hx hb dX5_takeSurest_57 (by decide) (fun c16 => ?_) (fun c16 => ?_)
          · replace h := And.left h c16
            exact t_X5_takeSurest_64 C hA ihn _ _ _ _ _ _ _ (lv_sub hl [0, 1, 2, 3, 4, 5, 6, 7] rfl) hP hD hS h
          · replace h := And.right h c16
            exact t_X5_takeSurest_60 C hA ihn _ _ _ _ _ _ _ (lv_sub hl [0, 1, 2, 3, 4, 5, 6, 7] rfl) hP hD hS h
set_option maxHeartbeats 4000000 in
set_option maxRecDepth 100000 in
theorem c_X5_takeSurest {l : Launch} {D : va_G} {K : Nat → ClassId} {h0 : Nat} {a0 : Nat → Nat} {r0 : zS} {h1 : Nat} {a1 : Nat → Nat} {r1 : zS} {h2 : Nat} {a2 : Nat → Nat} {r2 : zS} {p3 : Int32} {p4 : Int32} {sz : Nat} {post : Int32 → (zS) → Prop}   (h : wp_X5_takeSurest r0 r1 r2 p3 p4 post) : Met l yX5_takeSurest (Cond.code yX5_takeSurest cX5_takeSurest 9 (some .boolean) :: wsL_law) ({ frames := 5, cells := 0, slots := 0, locals := 132 } : Room) (va_Pc [.ref h0, .ref h1, .ref h2, .int p3, .int p4] (xPre D vwCl (xty K) (wX5 K h0 a0 r0 ++ (wX1 K h1 a1 r1 ++ (wX6 K h2 a2 r2))) sz)) (va_Qi (fun r (u : (zS)) => post r u) (fun (u : (zS)) t => va_P D vwCl (wX5 K h0 a0 u ++ (wX1 K h1 a1 r1 ++ (wX6 K h2 a2 r2))) t.heap) (va_A (wX5 K h0 a0 r0 ++ (wX1 K h1 a1 r1 ++ (wX6 K h2 a2 r2))) sz)) 0 0 (va_A (wX5 K h0 a0 r0 ++ (wX1 K h1 a1 r1 ++ (wX6 K h2 a2 r2))) sz) := by
  refine xMet (by decide) rfl (Nat.le_of_ble_eq_true rfl) (fun p e s m args below meth c C hnm hP hD hsz ls hl => ?_)
  have hl : lv_has ls 9 [(0, .ref h0), (1, .ref h1), (2, .ref h2), (3, .int p3), (4, .int p4)] := hl
  obtain ⟨hx, hb, hr, hml, hown, hts, hlocks, hK, hT⟩ := id C
  subst hsz
  generalize hAe : va_A (wX5 K h0 a0 r0 ++ (wX1 K h1 a1 r1 ++ (wX6 K h2 a2 r2))) s.heap.size = A at hD ⊢
  have hA : ∀ q : Nat, s.heap.size ≤ q → A q := fun q h => by rw [← hAe]; exact Or.inr h
  have hS : va_S A s.heap s.heap [] := va_S.rf
  have hP : va_P D vwCl (wX5 K h0 a0 r0 ++ (wX1 K h1 a1 r1 ++ (wX6 K h2 a2 r2))) s.heap := hP
  unfold wp_X5_takeSurest at h
  refine lv_iconst (v := -1) hx hb dX5_takeSurest_0 (by decide) ?_
  refine lv_istore (lv' := [(5, .int (-1 : Int32)), (0, .ref h0), (1, .ref h1), (2, .ref h2), (3, .int p3), (4, .int p4)]) hx hb dX5_takeSurest_1 hl (by decide) rfl (fun ls hl => ?_)
  refine lv_iconst (v := -1) hx hb dX5_takeSurest_3 (by decide) ?_
  refine lv_istore (lv' := [(6, .int (-1 : Int32)), (5, .int (-1 : Int32)), (0, .ref h0), (1, .ref h1), (2, .ref h2), (3, .int p3), (4, .int p4)]) hx hb dX5_takeSurest_4 hl (by decide) rfl (fun ls hl => ?_)
  refine lv_iconst (v := 0) hx hb dX5_takeSurest_6 (by decide) ?_
  refine lv_istore (lv' := [(7, .int (0 : Int32)), (6, .int (-1 : Int32)), (5, .int (-1 : Int32)), (0, .ref h0), (1, .ref h1), (2, .ref h2), (3, .int p3), (4, .int p4)]) hx hb dX5_takeSurest_7 hl (by decide) rfl (fun ls hl => ?_)
  obtain ⟨n0, h⟩ := h
  exact t_X5_takeSurest_9 C hA n0 _ _ _ _ _ _ _ (lv_sub hl [3, 4, 5, 6, 7, 2, 1, 0] rfl) hP hD hS h

def wp_X6_setChance (r0 : zS) (p1 : Int32) (p2 : Int32) (post : (zS) → Prop) : Prop :=
  wp_X6_has r0 p1 (fun v1 => (v1 = 0 → post r0) ∧ (¬ v1 = 0 → vp_in p1 48 ∧ (∀ j3 : Nat, j3 = p1.toNatClampNeg → post (zA r0 3 j3 p2))))
set_option maxHeartbeats 4000000 in
set_option maxRecDepth 100000 in
theorem c_X6_setChance {l : Launch} {D : va_G} {K : Nat → ClassId} {h0 : Nat} {a0 : Nat → Nat} {r0 : zS} {p1 : Int32} {p2 : Int32} {sz : Nat} {post : (zS) → Prop}   (h : wp_X6_setChance r0 p1 p2 post) : Met l yX6_setChance (Cond.code yX6_setChance cX6_setChance 3 none :: wsL_law) ({ frames := 1, cells := 0, slots := 0, locals := 21 } : Room) (va_Pc [.ref h0, .int p1, .int p2] (xPre D vwCl (xty K) (wX6 K h0 a0 r0) sz)) (va_Qv (fun (u : (zS)) => post u) (fun (u : (zS)) t => va_P D vwCl (wX6 K h0 a0 u) t.heap) (va_A (wX6 K h0 a0 r0) sz)) 0 0 (va_A (wX6 K h0 a0 r0) sz) := by
  refine xMet (by decide) rfl (Nat.le_of_ble_eq_true rfl) (fun p e s m args below meth c C hnm hP hD hsz ls hl => ?_)
  have hl : lv_has ls 3 [(0, .ref h0), (1, .int p1), (2, .int p2)] := hl
  obtain ⟨hx, hb, hr, hml, hown, hts, hlocks, hK, hT⟩ := id C
  subst hsz
  generalize hAe : va_A (wX6 K h0 a0 r0) s.heap.size = A at hD ⊢
  have hA : ∀ q : Nat, s.heap.size ≤ q → A q := fun q h => by rw [← hAe]; exact Or.inr h
  have hS : va_S A s.heap s.heap [] := va_S.rf
  have hP : va_P D vwCl (wX6 K h0 a0 r0) s.heap := hP
  unfold wp_X6_setChance at h
  refine lv_aload_n hx hb dX6_setChance_0 rfl (lv_at hl 0 rfl) ?_
  refine lv_iload_n hx hb dX6_setChance_1 rfl (lv_at hl 1 rfl) ?_
  refine xend_ro_i (xRunV_id (As := [.int p1]) (rest := []) C (c_X6_has h) k_X6_has mw_805 ⟨rfl, rfl⟩ ⟨Nat.le_of_ble_eq_true rfl, Nat.le_of_ble_eq_true rfl⟩ hP hD rfl rfl hl rfl rfl (Nat.le_of_ble_eq_true rfl) dX6_setChance_2 ⟨Nat.le_refl _, Nat.le_refl _⟩) (fun v1 h => ?_)
  refine lv_if_eq (tgt := 15) hx hb dX6_setChance_5 (by decide) (fun c2 => ?_) (fun c2 => ?_)
  · replace h := And.left h c2
    exact xrw_v C r0 h hP hS dX6_setChance_15
  · replace h := And.right h c2
    refine lv_aload_n hx hb dX6_setChance_8 rfl (lv_at hl 0 rfl) ?_
    refine va_get (D := D) (ci := 6) (v := .ref (a0 3)) (C := RX6) (T := TX6) (N := 5) hx hb hts inlX6 hown hK hP 0 rfl rfl 3 (by decide) (hts (.fieldLink RX6 22 "UnderTheDesks$Ways" "chances" "[I") mw_92) (fun _ h9 => h9) rfl dX6_setChance_9 ?_
    refine lv_iload_n hx hb dX6_setChance_12 rfl (lv_at hl 1 rfl) ?_
    refine lv_iload_n hx hb dX6_setChance_13 rfl (lv_at hl 2 rfl) ?_
    have hin := And.left h
    obtain ⟨j3, ej3⟩ : ∃ j : Nat, j = p1.toNatClampNeg := ⟨_, rfl⟩
    replace h := And.right h j3 ej3
    refine xiast hx hb hK hP hD hS 3 0 rfl rfl hin ej3 dX6_setChance_14 (fun H locs hP hD hS => ?_)
    replace hP : va_P D vwCl (wX6 K h0 a0 (zA r0 3 j3 p2)) H := hP
    replace hD : va_D A (wX6 K h0 a0 (zA r0 3 j3 p2)) := hD
    exact xrw_v C (zA r0 3 j3 p2) h hP hS dX6_setChance_15

def wb_X5_rate_3 (r1 : zS) (p3 : Int32) (post : (zS) → (zS) → Prop) (ih : (zS) → (zS) → Int32 → Prop) (r0 : zS) (r2 : zS) (x4 : Int32) : Prop :=
  ((r2.1 0) ≤ x4 → post r0 r2) ∧ (¬ (r2.1 0) ≤ x4 → wp_X5_take r0 r1 r2 x4 p3 (fun s3 => wp_X6_setChance r2 x4 (s3.1 1) (fun s5 => ∀ v6 : Int32, v6 = x4 + (1 : Int32) → ih s3 s5 v6)))
def wp_X5_rate_3 (r1 : zS) (p3 : Int32) (post : (zS) → (zS) → Prop) (n : Nat) : (zS) → (zS) → Int32 → Prop := Nat.rec (motive := fun _ => (zS) → (zS) → Int32 → Prop) (fun _ _ _ => False) (fun _ ih => wb_X5_rate_3 r1 p3 post ih) n
theorem wu_X5_rate_3 (r1 : zS) (p3 : Int32) (post : (zS) → (zS) → Prop) (n : Nat) (r0 : zS) (r2 : zS) (x4 : Int32) : wp_X5_rate_3 r1 p3 post (n + 1) r0 r2 x4 = wb_X5_rate_3 r1 p3 post (wp_X5_rate_3 r1 p3 post n) r0 r2 x4 := rfl
def wp_X5_rate (r0 : zS) (r1 : zS) (r2 : zS) (p3 : Int32) (post : (zS) → (zS) → Prop) : Prop :=
  ∃ n : Nat, wp_X5_rate_3 r1 p3 post n r0 r2 (0 : Int32)
set_option maxHeartbeats 4000000 in
set_option maxRecDepth 100000 in
theorem t_X5_rate_3 {p : Program} {l : Launch} {e : Env} {s : State} {m : MethodId} {args : Array Value} {below : List Frame} {meth : Method} {c : Code} {D : va_G} {K : Nat → ClassId} {h0 : Nat} {a0 : Nat → Nat} {h1 : Nat} {a1 : Nat → Nat} {r1 : zS} {h2 : Nat} {a2 : Nat → Nat} {p3 : Int32} {post : (zS) → (zS) → Prop} {A : Nat → Prop} (C : xC p s m args meth c cX5_rate RX5 5 none D vwCl (xty K)) (hA : ∀ q, s.heap.size ≤ q → A q) : ∀ (n : Nat) (r0 : zS) (r2 : zS) (x4 : Int32) (H : Heap) (locs : List Loc) (ls : Array Slot), lv_has ls 5 [(0, .ref h0), (1, .ref h1), (2, .ref h2), (3, .int p3), (4, .int x4)] → va_P D vwCl (wX5 K h0 a0 r0 ++ (wX1 K h1 a1 r1 ++ (wX6 K h2 a2 r2))) H → va_D A (wX5 K h0 a0 r0 ++ (wX1 K h1 a1 r1 ++ (wX6 K h2 a2 r2))) → va_S A s.heap H locs → wp_X5_rate_3 r1 p3 post n r0 r2 x4 → W p l e ({ frames := 4, cells := 0, slots := 0, locals := 132 } : Room) s m args below meth c H locs 0 0 (MQ below (va_Qv (fun (u : (zS) × (zS)) => post u.1 u.2) (fun (u : (zS) × (zS)) t => va_P D vwCl (wX5 K h0 a0 u.1 ++ (wX1 K h1 a1 r1 ++ (wX6 K h2 a2 u.2))) t.heap) A) args s 0 0 A) (F0 m 3 ls []) := by
  obtain ⟨hx, hb, hr, hml, hown, hts, hlocks, hK, hT⟩ := id C
  intro n
  induction n with
  | zero =>
    intro r0 r2 x4 H locs ls hl hP hD hS h
    exact False.elim h
  | succ n ihn =>
    intro r0 r2 x4 H locs ls hl hP hD hS h
    rw [wu_X5_rate_3] at h
    unfold wb_X5_rate_3 at h
    refine lv_iload hx hb dX5_rate_3 (lv_at hl 4 rfl) ?_
    refine lv_aload_n hx hb dX5_rate_5 rfl (lv_at hl 2 rfl) ?_
    refine va_get (D := D) (ci := 6) (v := .int (r2.1 0)) (C := RX6) (T := TX6) (N := 5) hx hb hts inlX6 hown hK hP 7 rfl rfl 0 (by decide) (hts (.fieldLink RX5 49 "UnderTheDesks$Ways" "count" "I") mw_827) (fun _ h9 => h9) rfl dX5_rate_6 ?_
    refine lv_icmp_ge (tgt := 37) hx hb dX5_rate_9 (by decide) (fun c1 => ?_) (fun c1 => ?_)
    · replace h := And.left h c1
      exact xrw_v C (r0, r2) h hP hS dX5_rate_37
    · replace h := And.right h c1
      refine lv_aload_n hx hb dX5_rate_12 rfl (lv_at hl 0 rfl) ?_
      refine lv_aload_n hx hb dX5_rate_13 rfl (lv_at hl 1 rfl) ?_
      refine lv_aload_n hx hb dX5_rate_14 rfl (lv_at hl 2 rfl) ?_
      refine lv_iload hx hb dX5_rate_15 (lv_at hl 4 rfl) ?_
      refine lv_iload_n hx hb dX5_rate_17 rfl (lv_at hl 3 rfl) ?_
      refine xend_rw_v_id (wf := fun (u : (zS)) => (wX5 K h0 a0 u ++ (wX1 K h1 a1 r1 ++ (wX6 K h2 a2 r2)))) (xRunV_id (As := [.ref h1, .ref h2, .int x4, .int p3]) (rest := []) C (c_X5_take h) k_X5_take mw_828 ⟨rfl, rfl⟩ ⟨Nat.le_of_ble_eq_true rfl, Nat.le_of_ble_eq_true rfl⟩ hP hD rfl rfl hl rfl rfl (Nat.le_of_ble_eq_true rfl) dX5_rate_18 ⟨Nat.le_refl _, Nat.le_refl _⟩) hD hS hA (fun _ => rfl) (fun s3 H locs h hP hD hS => ?_)
      refine lv_aload_n hx hb dX5_rate_21 rfl (lv_at hl 2 rfl) ?_
      refine lv_iload hx hb dX5_rate_22 (lv_at hl 4 rfl) ?_
      refine lv_aload_n hx hb dX5_rate_24 rfl (lv_at hl 0 rfl) ?_
      refine va_get (D := D) (ci := 5) (v := .int (s3.1 1)) (C := RX5) (T := TX5) (N := 4) hx hb hts inlX5 hown hK hP 0 rfl rfl 1 (by decide) (hts (.fieldLink RX5 15 "UnderTheDesks$Walk" "chance" "I") mw_98) (fun _ h9 => h9) rfl dX5_rate_25 ?_
      refine xend_rw_v (wf := fun (u : (zS)) => (wX6 K h2 a2 u)) (xRunV (wc := (wX6 K h2 a2 r2)) (As := [.int x4, .int (s3.1 1)]) (rest := []) C (c_X6_setChance h) k_X6_setChance mw_902 ⟨rfl, rfl⟩ ⟨Nat.le_of_ble_eq_true rfl, Nat.le_of_ble_eq_true rfl⟩ hP hD [7, 8, 9, 10, 11] rfl rfl rfl rfl hl rfl rfl (Nat.le_of_ble_eq_true rfl) dX5_rate_28 ⟨Nat.le_refl _, Nat.le_refl _⟩) hP hD hS hA [7, 8, 9, 10, 11] rfl rfl (fun _ => rfl) (fun s5 H locs h hP hD hS => ?_)
      replace hP : va_P D vwCl (wX5 K h0 a0 s3 ++ (wX1 K h1 a1 r1 ++ (wX6 K h2 a2 s5))) H := hP
      replace hD : va_D A (wX5 K h0 a0 s3 ++ (wX1 K h1 a1 r1 ++ (wX6 K h2 a2 s5))) := hD
      obtain ⟨v6, ev6⟩ : ∃ y : Int32, y = x4 + (1 : Int32) := ⟨_, rfl⟩
      replace h := h v6 ev6
      refine lv_iinc (v := v6) (lv' := [(4, .int v6), (0, .ref h0), (1, .ref h1), (2, .ref h2), (3, .int p3)]) hx hb dX5_rate_31 hl (k := 4) rfl (by rw [ev6]; rfl) (by decide) rfl (fun ls hl => ?_)
      refine lv_goto (tgt := 3) hx hb dX5_rate_34 (by decide) ?_
      exact ihn _ _ _ _ _ _ (lv_sub hl [1, 2, 3, 4, 0] rfl) hP hD hS h
set_option maxHeartbeats 4000000 in
set_option maxRecDepth 100000 in
theorem c_X5_rate {l : Launch} {D : va_G} {K : Nat → ClassId} {h0 : Nat} {a0 : Nat → Nat} {r0 : zS} {h1 : Nat} {a1 : Nat → Nat} {r1 : zS} {h2 : Nat} {a2 : Nat → Nat} {r2 : zS} {p3 : Int32} {sz : Nat} {post : (zS) → (zS) → Prop}   (h : wp_X5_rate r0 r1 r2 p3 post) : Met l yX5_rate (Cond.code yX5_rate cX5_rate 5 none :: wsL_law) ({ frames := 4, cells := 0, slots := 0, locals := 132 } : Room) (va_Pc [.ref h0, .ref h1, .ref h2, .int p3] (xPre D vwCl (xty K) (wX5 K h0 a0 r0 ++ (wX1 K h1 a1 r1 ++ (wX6 K h2 a2 r2))) sz)) (va_Qv (fun (u : (zS) × (zS)) => post u.1 u.2) (fun (u : (zS) × (zS)) t => va_P D vwCl (wX5 K h0 a0 u.1 ++ (wX1 K h1 a1 r1 ++ (wX6 K h2 a2 u.2))) t.heap) (va_A (wX5 K h0 a0 r0 ++ (wX1 K h1 a1 r1 ++ (wX6 K h2 a2 r2))) sz)) 0 0 (va_A (wX5 K h0 a0 r0 ++ (wX1 K h1 a1 r1 ++ (wX6 K h2 a2 r2))) sz) := by
  refine xMet (by decide) rfl (Nat.le_of_ble_eq_true rfl) (fun p e s m args below meth c C hnm hP hD hsz ls hl => ?_)
  have hl : lv_has ls 5 [(0, .ref h0), (1, .ref h1), (2, .ref h2), (3, .int p3)] := hl
  obtain ⟨hx, hb, hr, hml, hown, hts, hlocks, hK, hT⟩ := id C
  subst hsz
  generalize hAe : va_A (wX5 K h0 a0 r0 ++ (wX1 K h1 a1 r1 ++ (wX6 K h2 a2 r2))) s.heap.size = A at hD ⊢
  have hA : ∀ q : Nat, s.heap.size ≤ q → A q := fun q h => by rw [← hAe]; exact Or.inr h
  have hS : va_S A s.heap s.heap [] := va_S.rf
  have hP : va_P D vwCl (wX5 K h0 a0 r0 ++ (wX1 K h1 a1 r1 ++ (wX6 K h2 a2 r2))) s.heap := hP
  unfold wp_X5_rate at h
  refine lv_iconst (v := 0) hx hb dX5_rate_0 (by decide) ?_
  refine lv_istore (lv' := [(4, .int (0 : Int32)), (0, .ref h0), (1, .ref h1), (2, .ref h2), (3, .int p3)]) hx hb dX5_rate_1 hl (by decide) rfl (fun ls hl => ?_)
  obtain ⟨n0, h⟩ := h
  exact t_X5_rate_3 C hA n0 _ _ _ _ _ _ (lv_sub hl [1, 2, 3, 4, 0] rfl) hP hD hS h

def wp_X6_keep (r0 : zS) (p1 : Int32) (post : (zS) → Prop) : Prop :=
  ((r0.1 0) < 0 → post r0) ∧ (¬ (r0.1 0) < 0 → ((48 : Int32) ≤ (r0.1 0) → post r0) ∧ (¬ (48 : Int32) ≤ (r0.1 0) → (p1 < (1 : Int32) → post r0) ∧ (¬ p1 < (1 : Int32) → ((9 : Int32) < p1 → post r0) ∧ (¬ (9 : Int32) < p1 → ((¬ (0 : Int32) < 0 ∧ ¬ ((r0.1 0) * (9 : Int32)) < 0 ∧ ¬ p1 < 0) ∧ (0 : Int32).toNatClampNeg + p1.toNatClampNeg ≤ 9 ∧ ((r0.1 0) * (9 : Int32)).toNatClampNeg + p1.toNatClampNeg ≤ 432) ∧ (∀ g5 : Nat → Int32, g5 = va_cpy (r0.2.1 4) (r0.2.1 1) (0 : Int32).toNatClampNeg ((r0.1 0) * (9 : Int32)).toNatClampNeg p1.toNatClampNeg → vp_in ((zG r0 1 g5).1 0) 48 ∧ (∀ j6 : Nat, j6 = ((zG r0 1 g5).1 0).toNatClampNeg → ∀ v7 : Int32, v7 = (((zA (zG r0 1 g5) 2 j6 p1).1 0) + (1 : Int32)) → post (zI (zA (zG r0 1 g5) 2 j6 p1) 0 v7)))))))
set_option maxHeartbeats 4000000 in
set_option maxRecDepth 100000 in
theorem c_X6_keep {l : Launch} {D : va_G} {K : Nat → ClassId} {h0 : Nat} {a0 : Nat → Nat} {r0 : zS} {p1 : Int32} {sz : Nat} {post : (zS) → Prop}   (h : wp_X6_keep r0 p1 post) : Met l yX6_keep (Cond.code yX6_keep cX6_keep 2 none :: wsL_law) ({ frames := 1, cells := 0, slots := 0, locals := 80 } : Room) (va_Pc [.ref h0, .int p1] (xPre D vwCl (xty K) (wX6 K h0 a0 r0) sz)) (va_Qv (fun (u : (zS)) => post u) (fun (u : (zS)) t => va_P D vwCl (wX6 K h0 a0 u) t.heap) (va_A (wX6 K h0 a0 r0) sz)) 0 0 (va_A (wX6 K h0 a0 r0) sz) := by
  refine xMet (by decide) rfl (Nat.le_of_ble_eq_true rfl) (fun p e s m args below meth c C hnm hP hD hsz ls hl => ?_)
  have hl : lv_has ls 2 [(0, .ref h0), (1, .int p1)] := hl
  obtain ⟨hx, hb, hr, hml, hown, hts, hlocks, hK, hT⟩ := id C
  subst hsz
  generalize hAe : va_A (wX6 K h0 a0 r0) s.heap.size = A at hD ⊢
  have hA : ∀ q : Nat, s.heap.size ≤ q → A q := fun q h => by rw [← hAe]; exact Or.inr h
  have hS : va_S A s.heap s.heap [] := va_S.rf
  have hP : va_P D vwCl (wX6 K h0 a0 r0) s.heap := hP
  unfold wp_X6_keep at h
  refine lv_aload_n hx hb dX6_keep_0 rfl (lv_at hl 0 rfl) ?_
  refine va_get (D := D) (ci := 6) (v := .int (r0.1 0)) (C := RX6) (T := TX6) (N := 5) hx hb hts inlX6 hown hK hP 0 rfl rfl 0 (by decide) (hts (.fieldLink RX6 9 "UnderTheDesks$Ways" "count" "I") mw_89) (fun _ h9 => h9) rfl dX6_keep_1 ?_
  refine lv_if_lt (tgt := 67) hx hb dX6_keep_4 (by decide) (fun c1 => ?_) (fun c1 => ?_)
  · replace h := And.left h c1
    exact xrw_v C r0 h hP hS dX6_keep_67
  · replace h := And.right h c1
    refine lv_aload_n hx hb dX6_keep_7 rfl (lv_at hl 0 rfl) ?_
    refine va_get (D := D) (ci := 6) (v := .int (r0.1 0)) (C := RX6) (T := TX6) (N := 5) hx hb hts inlX6 hown hK hP 0 rfl rfl 0 (by decide) (hts (.fieldLink RX6 9 "UnderTheDesks$Ways" "count" "I") mw_89) (fun _ h9 => h9) rfl dX6_keep_8 ?_
    refine lv_bipush (v := 48) hx hb dX6_keep_11 (by decide) ?_
    refine lv_icmp_ge (tgt := 67) hx hb dX6_keep_13 (by decide) (fun c2 => ?_) (fun c2 => ?_)
    · replace h := And.left h c2
      exact xrw_v C r0 h hP hS dX6_keep_67
    · replace h := And.right h c2
      refine lv_iload_n hx hb dX6_keep_16 rfl (lv_at hl 1 rfl) ?_
      refine lv_iconst (v := 1) hx hb dX6_keep_17 (by decide) ?_
      refine lv_icmp_lt (tgt := 67) hx hb dX6_keep_18 (by decide) (fun c3 => ?_) (fun c3 => ?_)
      · replace h := And.left h c3
        exact xrw_v C r0 h hP hS dX6_keep_67
      · replace h := And.right h c3
        refine lv_iload_n hx hb dX6_keep_21 rfl (lv_at hl 1 rfl) ?_
        refine lv_bipush (v := 9) hx hb dX6_keep_22 (by decide) ?_
        refine lv_icmp_gt (tgt := 67) hx hb dX6_keep_24 (by decide) (fun c4 => ?_) (fun c4 => ?_)
        · replace h := And.left h c4
          exact xrw_v C r0 h hP hS dX6_keep_67
        · replace h := And.right h c4
          refine lv_aload_n hx hb dX6_keep_27 rfl (lv_at hl 0 rfl) ?_
          refine va_get (D := D) (ci := 6) (v := .ref (a0 4)) (C := RX6) (T := TX6) (N := 5) hx hb hts inlX6 hown hK hP 0 rfl rfl 4 (by decide) (hts (.fieldLink RX6 25 "UnderTheDesks$Ways" "trail" "[I") mw_93) (fun _ h9 => h9) rfl dX6_keep_28 ?_
          refine lv_iconst (v := 0) hx hb dX6_keep_31 (by decide) ?_
          refine lv_aload_n hx hb dX6_keep_32 rfl (lv_at hl 0 rfl) ?_
          refine va_get (D := D) (ci := 6) (v := .ref (a0 1)) (C := RX6) (T := TX6) (N := 5) hx hb hts inlX6 hown hK hP 0 rfl rfl 1 (by decide) (hts (.fieldLink RX6 15 "UnderTheDesks$Ways" "pupils" "[I") mw_90) (fun _ h9 => h9) rfl dX6_keep_33 ?_
          refine lv_aload_n hx hb dX6_keep_36 rfl (lv_at hl 0 rfl) ?_
          refine va_get (D := D) (ci := 6) (v := .int (r0.1 0)) (C := RX6) (T := TX6) (N := 5) hx hb hts inlX6 hown hK hP 0 rfl rfl 0 (by decide) (hts (.fieldLink RX6 9 "UnderTheDesks$Ways" "count" "I") mw_89) (fun _ h9 => h9) rfl dX6_keep_37 ?_
          refine lv_bipush (v := 9) hx hb dX6_keep_40 (by decide) ?_
          refine lv_imul hx hb dX6_keep_42 ?_
          refine lv_iload_n hx hb dX6_keep_43 rfl (lv_at hl 1 rfl) ?_
          have hcp := And.left h
          replace h := And.right h
          obtain ⟨g5, eg5⟩ : ∃ z : Nat → Int32, z = va_cpy (r0.2.1 4) (r0.2.1 1) (0 : Int32).toNatClampNeg ((r0.1 0) * (9 : Int32)).toNatClampNeg p1.toNatClampNeg := ⟨_, rfl⟩
          replace h := h g5 eg5
          refine xcopyi hx hb (by rw [hml]; exact hl.1.symm) hown (hts _ mw_769) (hts _ mw_215) (hts _ mw_216) (hts _ mw_217) hK hP hD hS 4 1 0 0 rfl rfl rfl rfl rfl hcp.1.1 hcp.1.2.1 hcp.1.2.2 hcp.2.1 hcp.2.2 (fun i _ => rfl) eg5 (Nat.le_of_ble_eq_true rfl) (Nat.le_of_ble_eq_true rfl) dX6_keep_44 (fun H locs hP hD hS => ?_)
          replace hP : va_P D vwCl (wX6 K h0 a0 (zG r0 1 g5)) H := hP
          replace hD : va_D A (wX6 K h0 a0 (zG r0 1 g5)) := hD
          refine lv_aload_n hx hb dX6_keep_47 rfl (lv_at hl 0 rfl) ?_
          refine va_get (D := D) (ci := 6) (v := .ref (a0 2)) (C := RX6) (T := TX6) (N := 5) hx hb hts inlX6 hown hK hP 0 rfl rfl 2 (by decide) (hts (.fieldLink RX6 19 "UnderTheDesks$Ways" "sizes" "[I") mw_91) (fun _ h9 => h9) rfl dX6_keep_48 ?_
          refine lv_aload_n hx hb dX6_keep_51 rfl (lv_at hl 0 rfl) ?_
          refine va_get (D := D) (ci := 6) (v := .int ((zG r0 1 g5).1 0)) (C := RX6) (T := TX6) (N := 5) hx hb hts inlX6 hown hK hP 0 rfl rfl 0 (by decide) (hts (.fieldLink RX6 9 "UnderTheDesks$Ways" "count" "I") mw_89) (fun _ h9 => h9) rfl dX6_keep_52 ?_
          refine lv_iload_n hx hb dX6_keep_55 rfl (lv_at hl 1 rfl) ?_
          have hin := And.left h
          obtain ⟨j6, ej6⟩ : ∃ j : Nat, j = ((zG r0 1 g5).1 0).toNatClampNeg := ⟨_, rfl⟩
          replace h := And.right h j6 ej6
          refine xiast hx hb hK hP hD hS 2 0 rfl rfl hin ej6 dX6_keep_56 (fun H locs hP hD hS => ?_)
          replace hP : va_P D vwCl (wX6 K h0 a0 (zA (zG r0 1 g5) 2 j6 p1)) H := hP
          replace hD : va_D A (wX6 K h0 a0 (zA (zG r0 1 g5) 2 j6 p1)) := hD
          refine lv_aload_n hx hb dX6_keep_57 rfl (lv_at hl 0 rfl) ?_
          refine lv_dup hx hb dX6_keep_58 rfl ?_
          refine va_get (D := D) (ci := 6) (v := .int ((zA (zG r0 1 g5) 2 j6 p1).1 0)) (C := RX6) (T := TX6) (N := 5) hx hb hts inlX6 hown hK hP 0 rfl rfl 0 (by decide) (hts (.fieldLink RX6 9 "UnderTheDesks$Ways" "count" "I") mw_89) (fun _ h9 => h9) rfl dX6_keep_59 ?_
          refine lv_iconst (v := 1) hx hb dX6_keep_62 (by decide) ?_
          refine lv_iadd hx hb dX6_keep_63 ?_
          refine lv_topi (fun v7 ev7 => ?_)
          replace h := h v7 ev7
          refine va_put (D := D) (ci := 6) (v := .int v7) (ty := .int) (C := RX6) (T := TX6) (N := 5) hx hb hts inlX6 tyX6 tyX6_ok nmX6 hown hK hP hD hS 0 rfl rfl 0 (by decide) (hts (.fieldLink RX6 9 "UnderTheDesks$Ways" "count" "I") mw_89) (fun _ h9 => h9) rfl (by decide +kernel) rfl rfl (Nat.le_of_ble_eq_true rfl) dX6_keep_64 (fun H locs hP hD hS => ?_)
          replace hP : va_P D vwCl (wX6 K h0 a0 (zI (zA (zG r0 1 g5) 2 j6 p1) 0 v7)) H := hP
          replace hD : va_D A (wX6 K h0 a0 (zI (zA (zG r0 1 g5) 2 j6 p1) 0 v7)) := hD
          exact xrw_v C (zI (zA (zG r0 1 g5) 2 j6 p1) 0 v7) h hP hS dX6_keep_67

def wp_X6_extend_100 (r1 : zS) (p2 : Int32) (p3 : Int32) (p4 : Int32) (rec : (zS) → (zS) → Int32 → Int32 → Int32 → ((zS) → Prop) → Prop) (post : (zS) → Prop) (k57 : (zS) → Int32 → Int32 → Prop) (r0 : zS) (x6 : Int32) (x7 : Int32) : Prop :=
  ∀ v10 : Int32, v10 = x7 + (1 : Int32) → k57 r0 x6 v10
def wb_X6_extend_57 (r1 : zS) (p2 : Int32) (p3 : Int32) (p4 : Int32) (rec : (zS) → (zS) → Int32 → Int32 → Int32 → ((zS) → Prop) → Prop) (post : (zS) → Prop) (ih : (zS) → Int32 → Int32 → Prop) (r0 : zS) (x6 : Int32) (x7 : Int32) : Prop :=
  ((r1.1 1) ≤ x7 → post r0) ∧ (¬ (r1.1 1) ≤ x7 → (((x6 >>> (x7 &&& 31)) &&& (1 : Int32)) = 0 → wp_X6_extend_100 r1 p2 p3 p4 rec post ih r0 x6 x7) ∧ (¬ ((x6 >>> (x7 &&& 31)) &&& (1 : Int32)) = 0 → vp_in p3 9 ∧ (∀ j11 : Nat, j11 = p3.toNatClampNeg → rec (zA r0 4 j11 x7) r1 p2 (p3 + (1 : Int32)) (p4 ||| ((1 : Int32) <<< (x7 &&& 31))) (fun s13 => wp_X6_extend_100 r1 p2 p3 p4 rec post ih s13 x6 x7))))
def wp_X6_extend_57 (r1 : zS) (p2 : Int32) (p3 : Int32) (p4 : Int32) (rec : (zS) → (zS) → Int32 → Int32 → Int32 → ((zS) → Prop) → Prop) (post : (zS) → Prop) (n : Nat) : (zS) → Int32 → Int32 → Prop := Nat.rec (motive := fun _ => (zS) → Int32 → Int32 → Prop) (fun _ _ _ => False) (fun _ ih => wb_X6_extend_57 r1 p2 p3 p4 rec post ih) n
theorem wu_X6_extend_57 (r1 : zS) (p2 : Int32) (p3 : Int32) (p4 : Int32) (rec : (zS) → (zS) → Int32 → Int32 → Int32 → ((zS) → Prop) → Prop) (post : (zS) → Prop) (n : Nat) (r0 : zS) (x6 : Int32) (x7 : Int32) : wp_X6_extend_57 r1 p2 p3 p4 rec post (n + 1) r0 x6 x7 = wb_X6_extend_57 r1 p2 p3 p4 rec post (wp_X6_extend_57 r1 p2 p3 p4 rec post n) r0 x6 x7 := rfl
def wb_X6_extend (rec : (zS) → (zS) → Int32 → Int32 → Int32 → ((zS) → Prop) → Prop) (r0 : zS) (r1 : zS) (p2 : Int32) (p3 : Int32) (p4 : Int32) (post : (zS) → Prop) : Prop :=
  (p3 < (1 : Int32) → post r0) ∧ (¬ p3 < (1 : Int32) → (p3 ≤ (9 : Int32) → vp_in (p3 - (1 : Int32)) 9 ∧ (∀ v3 : Int32, v3 = (r0.2.1 4 (p3 - (1 : Int32)).toNatClampNeg) → (v3 = p2 → wp_X6_keep r0 p3 (fun s15 => post s15)) ∧ (¬ v3 = p2 → (p3 = (9 : Int32) → post r0) ∧ (¬ p3 = (9 : Int32) → wp_X1_nearOf r1 v3 (fun v6 => ∀ v7 : Int32, v7 = (v6 &&& (p4 ^^^ (-1 : Int32))) → ∃ n : Nat, wp_X6_extend_57 r1 p2 p3 p4 rec post n r0 v7 (0 : Int32)))))) ∧ (¬ p3 ≤ (9 : Int32) → post r0))
def wp_X6_extend (d : Nat) : (zS) → (zS) → Int32 → Int32 → Int32 → ((zS) → Prop) → Prop := Nat.rec (motive := fun _ => (zS) → (zS) → Int32 → Int32 → Int32 → ((zS) → Prop) → Prop) (fun _ _ _ _ _ _ => False) (fun _ rec => wb_X6_extend rec) d
theorem wu_X6_extend (d : Nat) (r0 : zS) (r1 : zS) (p2 : Int32) (p3 : Int32) (p4 : Int32) (post : (zS) → Prop) : wp_X6_extend (d + 1) r0 r1 p2 p3 p4 post = wb_X6_extend (wp_X6_extend d) r0 r1 p2 p3 p4 post := rfl
set_option maxHeartbeats 4000000 in
set_option maxRecDepth 100000 in
theorem t_X6_extend_100 {p : Program} {l : Launch} {e : Env} {s : State} {m : MethodId} {args : Array Value} {below : List Frame} {meth : Method} {c : Code} {D : va_G} {K : Nat → ClassId} {d : Nat} {h0 : Nat} {a0 : Nat → Nat} {h1 : Nat} {a1 : Nat → Nat} {r1 : zS} {p2 : Int32} {p3 : Int32} {p4 : Int32} {post : (zS) → Prop} {A : Nat → Prop} (C : xC p s m args meth c cX6_extend RX6 8 none D vwCl (xty K)) (hA : ∀ q, s.heap.size ≤ q → A q) {rec : (zS) → (zS) → Int32 → Int32 → Int32 → ((zS) → Prop) → Prop} (hrec : ∀ {h0 : Nat} {a0 : Nat → Nat} {r0 : zS} {h1 : Nat} {a1 : Nat → Nat} {r1 : zS} {p2 : Int32} {p3 : Int32} {p4 : Int32} {sz : Nat} {post : (zS) → Prop}, rec r0 r1 p2 p3 p4 post → Met l yX6_extend (Cond.code yX6_extend cX6_extend 8 none :: wsL_law) ({ frames := d + 3, cells := 0, slots := 0, locals := 40 * d + 141 } : Room) (va_Pc [.ref h0, .ref h1, .int p2, .int p3, .int p4] (xPre D vwCl (xty K) (wX6 K h0 a0 r0 ++ (wX1 K h1 a1 r1)) sz)) (va_Qv (fun (u : (zS)) => post u) (fun (u : (zS)) t => va_P D vwCl (wX6 K h0 a0 u ++ (wX1 K h1 a1 r1)) t.heap) (va_A (wX6 K h0 a0 r0 ++ (wX1 K h1 a1 r1)) sz)) 0 0 (va_A (wX6 K h0 a0 r0 ++ (wX1 K h1 a1 r1)) sz)) {k57 : (zS) → Int32 → Int32 → Prop} (hk57 : ∀ (r0 : zS) (x6 : Int32) (x7 : Int32) (H : Heap) (locs : List Loc) (ls : Array Slot), lv_has ls 8 [(0, .ref h0), (1, .ref h1), (2, .int p2), (3, .int p3), (4, .int p4), (6, .int x6), (7, .int x7)] → va_P D vwCl (wX6 K h0 a0 r0 ++ (wX1 K h1 a1 r1)) H → va_D A (wX6 K h0 a0 r0 ++ (wX1 K h1 a1 r1)) → va_S A s.heap H locs → k57 r0 x6 x7  → W p l e ({ frames := (d + 1) + 3, cells := 0, slots := 0, locals := 40 * (d + 1) + 141 } : Room) s m args below meth c H locs 0 0 (MQ below (va_Qv (fun (u : (zS)) => post u) (fun (u : (zS)) t => va_P D vwCl (wX6 K h0 a0 u ++ (wX1 K h1 a1 r1)) t.heap) A) args s 0 0 A) (F0 m 57 ls [])) : ∀ (r0 : zS) (x6 : Int32) (x7 : Int32) (H : Heap) (locs : List Loc) (ls : Array Slot), lv_has ls 8 [(0, .ref h0), (1, .ref h1), (2, .int p2), (3, .int p3), (4, .int p4), (6, .int x6), (7, .int x7)] → va_P D vwCl (wX6 K h0 a0 r0 ++ (wX1 K h1 a1 r1)) H → va_D A (wX6 K h0 a0 r0 ++ (wX1 K h1 a1 r1)) → va_S A s.heap H locs → wp_X6_extend_100 r1 p2 p3 p4 rec post k57 r0 x6 x7 → W p l e ({ frames := (d + 1) + 3, cells := 0, slots := 0, locals := 40 * (d + 1) + 141 } : Room) s m args below meth c H locs 0 0 (MQ below (va_Qv (fun (u : (zS)) => post u) (fun (u : (zS)) t => va_P D vwCl (wX6 K h0 a0 u ++ (wX1 K h1 a1 r1)) t.heap) A) args s 0 0 A) (F0 m 100 ls []) := by
  obtain ⟨hx, hb, hr, hml, hown, hts, hlocks, hK, hT⟩ := id C
  intro r0 x6 x7 H locs ls hl hP hD hS h
  unfold wp_X6_extend_100 at h
  obtain ⟨v10, ev10⟩ : ∃ y : Int32, y = x7 + (1 : Int32) := ⟨_, rfl⟩
  replace h := h v10 ev10
  refine lv_iinc (v := v10) (lv' := [(7, .int v10), (0, .ref h0), (1, .ref h1), (2, .int p2), (3, .int p3), (4, .int p4), (6, .int x6)]) hx hb dX6_extend_100 hl (k := 6) rfl (by rw [ev10]; rfl) (by decide) rfl (fun ls hl => ?_)
  refine lv_goto (tgt := 57) hx hb dX6_extend_103 (by decide) ?_
  exact hk57 _ _ _ _ _ _ (lv_sub hl [1, 2, 3, 4, 5, 6, 0] rfl) hP hD hS h
set_option maxHeartbeats 4000000 in
set_option maxRecDepth 100000 in
theorem t_X6_extend_57 {p : Program} {l : Launch} {e : Env} {s : State} {m : MethodId} {args : Array Value} {below : List Frame} {meth : Method} {c : Code} {D : va_G} {K : Nat → ClassId} {d : Nat} {h0 : Nat} {a0 : Nat → Nat} {h1 : Nat} {a1 : Nat → Nat} {r1 : zS} {p2 : Int32} {p3 : Int32} {p4 : Int32} {post : (zS) → Prop} {A : Nat → Prop} (C : xC p s m args meth c cX6_extend RX6 8 none D vwCl (xty K)) (hA : ∀ q, s.heap.size ≤ q → A q) {rec : (zS) → (zS) → Int32 → Int32 → Int32 → ((zS) → Prop) → Prop} (hrec : ∀ {h0 : Nat} {a0 : Nat → Nat} {r0 : zS} {h1 : Nat} {a1 : Nat → Nat} {r1 : zS} {p2 : Int32} {p3 : Int32} {p4 : Int32} {sz : Nat} {post : (zS) → Prop}, rec r0 r1 p2 p3 p4 post → Met l yX6_extend (Cond.code yX6_extend cX6_extend 8 none :: wsL_law) ({ frames := d + 3, cells := 0, slots := 0, locals := 40 * d + 141 } : Room) (va_Pc [.ref h0, .ref h1, .int p2, .int p3, .int p4] (xPre D vwCl (xty K) (wX6 K h0 a0 r0 ++ (wX1 K h1 a1 r1)) sz)) (va_Qv (fun (u : (zS)) => post u) (fun (u : (zS)) t => va_P D vwCl (wX6 K h0 a0 u ++ (wX1 K h1 a1 r1)) t.heap) (va_A (wX6 K h0 a0 r0 ++ (wX1 K h1 a1 r1)) sz)) 0 0 (va_A (wX6 K h0 a0 r0 ++ (wX1 K h1 a1 r1)) sz)) : ∀ (n : Nat) (r0 : zS) (x6 : Int32) (x7 : Int32) (H : Heap) (locs : List Loc) (ls : Array Slot), lv_has ls 8 [(0, .ref h0), (1, .ref h1), (2, .int p2), (3, .int p3), (4, .int p4), (6, .int x6), (7, .int x7)] → va_P D vwCl (wX6 K h0 a0 r0 ++ (wX1 K h1 a1 r1)) H → va_D A (wX6 K h0 a0 r0 ++ (wX1 K h1 a1 r1)) → va_S A s.heap H locs → wp_X6_extend_57 r1 p2 p3 p4 rec post n r0 x6 x7 → W p l e ({ frames := (d + 1) + 3, cells := 0, slots := 0, locals := 40 * (d + 1) + 141 } : Room) s m args below meth c H locs 0 0 (MQ below (va_Qv (fun (u : (zS)) => post u) (fun (u : (zS)) t => va_P D vwCl (wX6 K h0 a0 u ++ (wX1 K h1 a1 r1)) t.heap) A) args s 0 0 A) (F0 m 57 ls []) := by
  obtain ⟨hx, hb, hr, hml, hown, hts, hlocks, hK, hT⟩ := id C
  intro n
  induction n with
  | zero =>
    intro r0 x6 x7 H locs ls hl hP hD hS h
    exact False.elim h
  | succ n ihn =>
    intro r0 x6 x7 H locs ls hl hP hD hS h
    rw [wu_X6_extend_57] at h
    unfold wb_X6_extend_57 at h
    refine lv_iload hx hb dX6_extend_57 (lv_at hl 6 rfl) ?_
    refine lv_aload_n hx hb dX6_extend_59 rfl (lv_at hl 1 rfl) ?_
    refine va_get (D := D) (ci := 1) (v := .int (r1.1 1)) (C := RX1) (T := TX1) (N := 10) hx hb hts inlX1 hown hK hP 5 rfl rfl 1 (by decide) (hts (.fieldLink RX6 46 "UnderTheDesks$Room" "count" "I") mw_764) (fun _ h9 => h9) rfl dX6_extend_60 ?_
    refine lv_icmp_ge (tgt := 106) hx hb dX6_extend_63 (by decide) (fun c8 => ?_) (fun c8 => ?_)
    · replace h := And.left h c8
      exact xrw_v C r0 h hP hS dX6_extend_106
    · replace h := And.right h c8
      refine lv_iload hx hb dX6_extend_66 (lv_at hl 5 rfl) ?_
      refine lv_iload hx hb dX6_extend_68 (lv_at hl 6 rfl) ?_
      refine lv_ishr hx hb dX6_extend_70 ?_
      refine lv_iconst (v := 1) hx hb dX6_extend_71 (by decide) ?_
      refine lv_iand hx hb dX6_extend_72 ?_
      refine lv_if_eq (tgt := 100) hx hb dX6_extend_73 (by decide) (fun c9 => ?_) (fun c9 => ?_)
      · replace h := And.left h c9
        exact t_X6_extend_100 C hA hrec ihn _ _ _ _ _ _ (lv_sub hl [0, 1, 2, 3, 4, 5, 6] rfl) hP hD hS h
      · replace h := And.right h c9
        refine lv_aload_n hx hb dX6_extend_76 rfl (lv_at hl 0 rfl) ?_
        refine va_get (D := D) (ci := 6) (v := .ref (a0 4)) (C := RX6) (T := TX6) (N := 5) hx hb hts inlX6 hown hK hP 0 rfl rfl 4 (by decide) (hts (.fieldLink RX6 25 "UnderTheDesks$Ways" "trail" "[I") mw_93) (fun _ h9 => h9) rfl dX6_extend_77 ?_
        refine lv_iload_n hx hb dX6_extend_80 rfl (lv_at hl 3 rfl) ?_
        refine lv_iload hx hb dX6_extend_81 (lv_at hl 6 rfl) ?_
        have hin := And.left h
        obtain ⟨j11, ej11⟩ : ∃ j : Nat, j = p3.toNatClampNeg := ⟨_, rfl⟩
        replace h := And.right h j11 ej11
        refine xiast hx hb hK hP hD hS 4 0 rfl rfl hin ej11 dX6_extend_83 (fun H locs hP hD hS => ?_)
        replace hP : va_P D vwCl (wX6 K h0 a0 (zA r0 4 j11 x7) ++ (wX1 K h1 a1 r1)) H := hP
        replace hD : va_D A (wX6 K h0 a0 (zA r0 4 j11 x7) ++ (wX1 K h1 a1 r1)) := hD
        refine lv_aload_n hx hb dX6_extend_84 rfl (lv_at hl 0 rfl) ?_
        refine lv_aload_n hx hb dX6_extend_85 rfl (lv_at hl 1 rfl) ?_
        refine lv_iload_n hx hb dX6_extend_86 rfl (lv_at hl 2 rfl) ?_
        refine lv_iload_n hx hb dX6_extend_87 rfl (lv_at hl 3 rfl) ?_
        refine lv_iconst (v := 1) hx hb dX6_extend_88 (by decide) ?_
        refine lv_iadd hx hb dX6_extend_89 ?_
        refine lv_iload hx hb dX6_extend_90 (lv_at hl 4 rfl) ?_
        refine lv_iconst (v := 1) hx hb dX6_extend_92 (by decide) ?_
        refine lv_iload hx hb dX6_extend_93 (lv_at hl 6 rfl) ?_
        refine lv_ishl hx hb dX6_extend_95 ?_
        refine lv_ior hx hb dX6_extend_96 ?_
        refine xend_rw_v (wf := fun (u : (zS)) => (wX6 K h0 a0 u ++ (wX1 K h1 a1 r1))) (xRunS (wc := (wX6 K h0 a0 (zA r0 4 j11 x7) ++ (wX1 K h1 a1 r1))) (As := [.ref h0, .ref h1, .int p2, .int (p3 + (1 : Int32)), .int (p4 ||| ((1 : Int32) <<< (x7 &&& 31)))]) (rest := []) C (hrec h) k_X6_extend mw_761 ⟨rfl, rfl⟩ ⟨by dsimp only; omega, by dsimp only; omega⟩ hP hD [0, 1, 2, 3, 4, 5, 6, 7, 8, 9, 10] rfl rfl hl rfl rfl (Nat.le_of_ble_eq_true rfl) dX6_extend_97 ⟨Nat.le_refl _, Nat.le_refl _⟩) hP hD hS hA [0, 1, 2, 3, 4, 5, 6, 7, 8, 9, 10] rfl rfl (fun _ => rfl) (fun s13 H locs h hP hD hS => ?_)
        replace hP : va_P D vwCl (wX6 K h0 a0 s13 ++ (wX1 K h1 a1 r1)) H := hP
        replace hD : va_D A (wX6 K h0 a0 s13 ++ (wX1 K h1 a1 r1)) := hD
        exact t_X6_extend_100 C hA hrec ihn _ _ _ _ _ _ (lv_sub hl [0, 1, 2, 3, 4, 5, 6] rfl) hP hD hS h
set_option maxHeartbeats 4000000 in
set_option maxRecDepth 100000 in
theorem c_X6_extend {l : Launch} {D : va_G} {K : Nat → ClassId} : ∀ (d : Nat) {h0 : Nat} {a0 : Nat → Nat} {r0 : zS} {h1 : Nat} {a1 : Nat → Nat} {r1 : zS} {p2 : Int32} {p3 : Int32} {p4 : Int32} {sz : Nat} {post : (zS) → Prop}, wp_X6_extend d r0 r1 p2 p3 p4 post → Met l yX6_extend (Cond.code yX6_extend cX6_extend 8 none :: wsL_law) ({ frames := d + 3, cells := 0, slots := 0, locals := 40 * d + 141 } : Room) (va_Pc [.ref h0, .ref h1, .int p2, .int p3, .int p4] (xPre D vwCl (xty K) (wX6 K h0 a0 r0 ++ (wX1 K h1 a1 r1)) sz)) (va_Qv (fun (u : (zS)) => post u) (fun (u : (zS)) t => va_P D vwCl (wX6 K h0 a0 u ++ (wX1 K h1 a1 r1)) t.heap) (va_A (wX6 K h0 a0 r0 ++ (wX1 K h1 a1 r1)) sz)) 0 0 (va_A (wX6 K h0 a0 r0 ++ (wX1 K h1 a1 r1)) sz) := by
  intro d
  induction d with
  | zero =>
    intro h0 a0 r0 h1 a1 r1 p2 p3 p4 sz post h
    exact False.elim h
  | succ d ihd =>
    intro h0 a0 r0 h1 a1 r1 p2 p3 p4 sz post h
    refine xMet (by decide) rfl (Nat.le_of_ble_eq_true rfl) (fun p e s m args below meth c C hnm hP hD hsz ls hl => ?_)
    have hl : lv_has ls 8 [(0, .ref h0), (1, .ref h1), (2, .int p2), (3, .int p3), (4, .int p4)] := hl
    obtain ⟨hx, hb, hr, hml, hown, hts, hlocks, hK, hT⟩ := id C
    subst hsz
    generalize hAe : va_A (wX6 K h0 a0 r0 ++ (wX1 K h1 a1 r1)) s.heap.size = A at hD ⊢
    have hA : ∀ q : Nat, s.heap.size ≤ q → A q := fun q h => by rw [← hAe]; exact Or.inr h
    have hS : va_S A s.heap s.heap [] := va_S.rf
    have hP : va_P D vwCl (wX6 K h0 a0 r0 ++ (wX1 K h1 a1 r1)) s.heap := hP
    rw [wu_X6_extend] at h
    unfold wb_X6_extend at h
    generalize hrc : wp_X6_extend d = rec at h
    have hrec : ∀ {h0 : Nat} {a0 : Nat → Nat} {r0 : zS} {h1 : Nat} {a1 : Nat → Nat} {r1 : zS} {p2 : Int32} {p3 : Int32} {p4 : Int32} {sz : Nat} {post : (zS) → Prop}, rec r0 r1 p2 p3 p4 post → Met l yX6_extend (Cond.code yX6_extend cX6_extend 8 none :: wsL_law) ({ frames := d + 3, cells := 0, slots := 0, locals := 40 * d + 141 } : Room) (va_Pc [.ref h0, .ref h1, .int p2, .int p3, .int p4] (xPre D vwCl (xty K) (wX6 K h0 a0 r0 ++ (wX1 K h1 a1 r1)) sz)) (va_Qv (fun (u : (zS)) => post u) (fun (u : (zS)) t => va_P D vwCl (wX6 K h0 a0 u ++ (wX1 K h1 a1 r1)) t.heap) (va_A (wX6 K h0 a0 r0 ++ (wX1 K h1 a1 r1)) sz)) 0 0 (va_A (wX6 K h0 a0 r0 ++ (wX1 K h1 a1 r1)) sz) := by
      rw [← hrc]
      exact ihd
    refine lv_iload_n hx hb dX6_extend_0 rfl (lv_at hl 3 rfl) ?_
    refine lv_iconst (v := 1) hx hb dX6_extend_1 (by decide) ?_
    refine lv_icmp_lt (tgt := 11) hx hb dX6_extend_2 (by decide) (fun c1 => ?_) (fun c1 => ?_)
    · replace h := And.left h c1
      exact xrw_v C r0 h hP hS dX6_extend_11
    · replace h := And.right h c1
      refine lv_iload_n hx hb dX6_extend_5 rfl (lv_at hl 3 rfl) ?_
      refine lv_bipush (v := 9) hx hb dX6_extend_6 (by decide) ?_
      refine lv_icmp_le (tgt := 12) hx hb dX6_extend_8 (by decide) (fun c2 => ?_) (fun c2 => ?_)
      · replace h := And.left h c2
        refine lv_aload_n hx hb dX6_extend_12 rfl (lv_at hl 0 rfl) ?_
        refine va_get (D := D) (ci := 6) (v := .ref (a0 4)) (C := RX6) (T := TX6) (N := 5) hx hb hts inlX6 hown hK hP 0 rfl rfl 4 (by decide) (hts (.fieldLink RX6 25 "UnderTheDesks$Ways" "trail" "[I") mw_93) (fun _ h9 => h9) rfl dX6_extend_13 ?_
        refine lv_iload_n hx hb dX6_extend_16 rfl (lv_at hl 3 rfl) ?_
        refine lv_iconst (v := 1) hx hb dX6_extend_17 (by decide) ?_
        refine lv_isub hx hb dX6_extend_18 ?_
        have hin := And.left h
        replace h := And.right h
        refine va_iald hx hb hK hP 4 0 rfl rfl hin dX6_extend_19 ?_
        refine lv_topi (fun v3 ev3 => ?_)
        replace h := h v3 ev3
        refine lv_istore (lv' := [(5, .int v3), (0, .ref h0), (1, .ref h1), (2, .int p2), (3, .int p3), (4, .int p4)]) hx hb dX6_extend_20 hl (by decide) rfl (fun ls hl => ?_)
        refine lv_iload hx hb dX6_extend_22 (lv_at hl 0 rfl) ?_
        refine lv_iload_n hx hb dX6_extend_24 rfl (lv_at hl 3 rfl) ?_
        refine lv_icmp_ne (tgt := 34) hx hb dX6_extend_25 (by decide) (fun c4 => ?_) (fun c4 => ?_)
        · replace h := And.right h c4
          refine lv_iload_n hx hb dX6_extend_34 rfl (lv_at hl 4 rfl) ?_
          refine lv_bipush (v := 9) hx hb dX6_extend_35 (by decide) ?_
          refine lv_icmp_ne (tgt := 41) hx hb dX6_extend_37 (by decide) (fun c5 => ?_) (fun c5 => ?_)
          · replace h := And.right h c5
            refine lv_aload_n hx hb dX6_extend_41 rfl (lv_at hl 2 rfl) ?_
            refine lv_iload hx hb dX6_extend_42 (lv_at hl 0 rfl) ?_
            refine xend_ro_i (xRunV (wc := (wX1 K h1 a1 r1)) (As := [.int v3]) (rest := []) C (c_X1_nearOf h) k_X1_nearOf mw_770 ⟨rfl, rfl⟩ ⟨by dsimp only; omega, by dsimp only; omega⟩ hP hD [5, 6, 7, 8, 9, 10] rfl rfl rfl rfl hl rfl rfl (Nat.le_of_ble_eq_true rfl) dX6_extend_44 ⟨Nat.le_refl _, Nat.le_refl _⟩) (fun v6 h => ?_)
            refine lv_iload hx hb dX6_extend_47 (lv_at hl 5 rfl) ?_
            refine lv_iconst (v := -1) hx hb dX6_extend_49 (by decide) ?_
            refine lv_ixor hx hb dX6_extend_50 ?_
            refine lv_iand hx hb dX6_extend_51 ?_
            refine lv_topi (fun v7 ev7 => ?_)
            replace h := h v7 ev7
            refine lv_istore (lv' := [(6, .int v7), (5, .int v3), (0, .ref h0), (1, .ref h1), (2, .int p2), (3, .int p3), (4, .int p4)]) hx hb dX6_extend_52 hl (by decide) rfl (fun ls hl => ?_)
            refine lv_iconst (v := 0) hx hb dX6_extend_54 (by decide) ?_
            refine lv_istore (lv' := [(7, .int (0 : Int32)), (6, .int v7), (5, .int v3), (0, .ref h0), (1, .ref h1), (2, .int p2), (3, .int p3), (4, .int p4)]) hx hb dX6_extend_55 hl (by decide) rfl (fun ls hl => ?_)
            obtain ⟨n0, h⟩ := h
            exact t_X6_extend_57 C hA hrec n0 _ _ _ _ _ _ (lv_sub hl [3, 4, 5, 6, 7, 1, 0] rfl) hP hD hS h
          · replace h := And.left h c5
            exact xrw_v C r0 h hP hS dX6_extend_40
        · replace h := And.left h c4
          refine lv_aload_n hx hb dX6_extend_28 rfl (lv_at hl 1 rfl) ?_
          refine lv_iload_n hx hb dX6_extend_29 rfl (lv_at hl 4 rfl) ?_
          refine xend_rw_v (wf := fun (u : (zS)) => (wX6 K h0 a0 u)) (xRunV (wc := (wX6 K h0 a0 r0)) (As := [.int p3]) (rest := []) C (c_X6_keep h) k_X6_keep mw_765 ⟨rfl, rfl⟩ ⟨by dsimp only; omega, by dsimp only; omega⟩ hP hD [0, 1, 2, 3, 4] rfl rfl rfl rfl hl rfl rfl (Nat.le_of_ble_eq_true rfl) dX6_extend_30 ⟨Nat.le_refl _, Nat.le_refl _⟩) hP hD hS hA [0, 1, 2, 3, 4] rfl rfl (fun _ => rfl) (fun s15 H locs h hP hD hS => ?_)
          replace hP : va_P D vwCl (wX6 K h0 a0 s15 ++ (wX1 K h1 a1 r1)) H := hP
          replace hD : va_D A (wX6 K h0 a0 s15 ++ (wX1 K h1 a1 r1)) := hD
          exact xrw_v C s15 h hP hS dX6_extend_33
      · replace h := And.right h c2
        exact xrw_v C r0 h hP hS dX6_extend_11

def wp_X6_find (r0 : zS) (r1 : zS) (p2 : Int32) (p3 : Int32) (post : (zS) → Prop) : Prop :=
  wp_X1_has r1 p2 (fun v1 => (v1 = 0 → post (zI r0 0 (0 : Int32))) ∧ (¬ v1 = 0 → wp_X1_has r1 p3 (fun v3 => (v3 = 0 → post (zI r0 0 (0 : Int32))) ∧ (¬ v3 = 0 → vp_in (0 : Int32) 9 ∧ (∀ j5 : Nat, j5 = (0 : Int32).toNatClampNeg → wp_X6_extend 10 (zA (zI r0 0 (0 : Int32)) 4 j5 p2) r1 p3 (1 : Int32) ((1 : Int32) <<< (p2 &&& 31)) (fun s7 => post s7))))))
set_option maxHeartbeats 4000000 in
set_option maxRecDepth 100000 in
theorem c_X6_find {l : Launch} {D : va_G} {K : Nat → ClassId} {h0 : Nat} {a0 : Nat → Nat} {r0 : zS} {h1 : Nat} {a1 : Nat → Nat} {r1 : zS} {p2 : Int32} {p3 : Int32} {sz : Nat} {post : (zS) → Prop}   (h : wp_X6_find r0 r1 p2 p3 post) : Met l yX6_find (Cond.code yX6_find cX6_find 4 none :: wsL_law) ({ frames := 14, cells := 0, slots := 0, locals := 568 } : Room) (va_Pc [.ref h0, .ref h1, .int p2, .int p3] (xPre D vwCl (xty K) (wX6 K h0 a0 r0 ++ (wX1 K h1 a1 r1)) sz)) (va_Qv (fun (u : (zS)) => post u) (fun (u : (zS)) t => va_P D vwCl (wX6 K h0 a0 u ++ (wX1 K h1 a1 r1)) t.heap) (va_A (wX6 K h0 a0 r0 ++ (wX1 K h1 a1 r1)) sz)) 0 0 (va_A (wX6 K h0 a0 r0 ++ (wX1 K h1 a1 r1)) sz) := by
  refine xMet (by decide) rfl (Nat.le_of_ble_eq_true rfl) (fun p e s m args below meth c C hnm hP hD hsz ls hl => ?_)
  have hl : lv_has ls 4 [(0, .ref h0), (1, .ref h1), (2, .int p2), (3, .int p3)] := hl
  obtain ⟨hx, hb, hr, hml, hown, hts, hlocks, hK, hT⟩ := id C
  subst hsz
  generalize hAe : va_A (wX6 K h0 a0 r0 ++ (wX1 K h1 a1 r1)) s.heap.size = A at hD ⊢
  have hA : ∀ q : Nat, s.heap.size ≤ q → A q := fun q h => by rw [← hAe]; exact Or.inr h
  have hS : va_S A s.heap s.heap [] := va_S.rf
  have hP : va_P D vwCl (wX6 K h0 a0 r0 ++ (wX1 K h1 a1 r1)) s.heap := hP
  unfold wp_X6_find at h
  refine lv_aload_n hx hb dX6_find_0 rfl (lv_at hl 0 rfl) ?_
  refine lv_iconst (v := 0) hx hb dX6_find_1 (by decide) ?_
  refine va_put (D := D) (ci := 6) (v := .int (0 : Int32)) (ty := .int) (C := RX6) (T := TX6) (N := 5) hx hb hts inlX6 tyX6 tyX6_ok nmX6 hown hK hP hD hS 0 rfl rfl 0 (by decide) (hts (.fieldLink RX6 9 "UnderTheDesks$Ways" "count" "I") mw_89) (fun _ h9 => h9) rfl (by decide +kernel) rfl rfl (Nat.le_of_ble_eq_true rfl) dX6_find_2 (fun H locs hP hD hS => ?_)
  replace hP : va_P D vwCl (wX6 K h0 a0 (zI r0 0 (0 : Int32)) ++ (wX1 K h1 a1 r1)) H := hP
  replace hD : va_D A (wX6 K h0 a0 (zI r0 0 (0 : Int32)) ++ (wX1 K h1 a1 r1)) := hD
  refine lv_aload_n hx hb dX6_find_5 rfl (lv_at hl 1 rfl) ?_
  refine lv_iload_n hx hb dX6_find_6 rfl (lv_at hl 2 rfl) ?_
  refine xend_ro_i (xRunV (wc := (wX1 K h1 a1 r1)) (As := [.int p2]) (rest := []) C (c_X1_has h) k_X1_has mw_760 ⟨rfl, rfl⟩ ⟨Nat.le_of_ble_eq_true rfl, Nat.le_of_ble_eq_true rfl⟩ hP hD [5, 6, 7, 8, 9, 10] rfl rfl rfl rfl hl rfl rfl (Nat.le_of_ble_eq_true rfl) dX6_find_7 ⟨Nat.le_refl _, Nat.le_refl _⟩) (fun v1 h => ?_)
  refine lv_if_eq (tgt := 38) hx hb dX6_find_10 (by decide) (fun c2 => ?_) (fun c2 => ?_)
  · replace h := And.left h c2
    exact xrw_v C (zI r0 0 (0 : Int32)) h hP hS dX6_find_38
  · replace h := And.right h c2
    refine lv_aload_n hx hb dX6_find_13 rfl (lv_at hl 1 rfl) ?_
    refine lv_iload_n hx hb dX6_find_14 rfl (lv_at hl 3 rfl) ?_
    refine xend_ro_i (xRunV (wc := (wX1 K h1 a1 r1)) (As := [.int p3]) (rest := []) C (c_X1_has h) k_X1_has mw_760 ⟨rfl, rfl⟩ ⟨Nat.le_of_ble_eq_true rfl, Nat.le_of_ble_eq_true rfl⟩ hP hD [5, 6, 7, 8, 9, 10] rfl rfl rfl rfl hl rfl rfl (Nat.le_of_ble_eq_true rfl) dX6_find_15 ⟨Nat.le_refl _, Nat.le_refl _⟩) (fun v3 h => ?_)
    refine lv_if_eq (tgt := 38) hx hb dX6_find_18 (by decide) (fun c4 => ?_) (fun c4 => ?_)
    · replace h := And.left h c4
      exact xrw_v C (zI r0 0 (0 : Int32)) h hP hS dX6_find_38
    · replace h := And.right h c4
      refine lv_aload_n hx hb dX6_find_21 rfl (lv_at hl 0 rfl) ?_
      refine va_get (D := D) (ci := 6) (v := .ref (a0 4)) (C := RX6) (T := TX6) (N := 5) hx hb hts inlX6 hown hK hP 0 rfl rfl 4 (by decide) (hts (.fieldLink RX6 25 "UnderTheDesks$Ways" "trail" "[I") mw_93) (fun _ h9 => h9) rfl dX6_find_22 ?_
      refine lv_iconst (v := 0) hx hb dX6_find_25 (by decide) ?_
      refine lv_iload_n hx hb dX6_find_26 rfl (lv_at hl 2 rfl) ?_
      have hin := And.left h
      obtain ⟨j5, ej5⟩ : ∃ j : Nat, j = (0 : Int32).toNatClampNeg := ⟨_, rfl⟩
      replace h := And.right h j5 ej5
      refine xiast hx hb hK hP hD hS 4 0 rfl rfl hin ej5 dX6_find_27 (fun H locs hP hD hS => ?_)
      replace hP : va_P D vwCl (wX6 K h0 a0 (zA (zI r0 0 (0 : Int32)) 4 j5 p2) ++ (wX1 K h1 a1 r1)) H := hP
      replace hD : va_D A (wX6 K h0 a0 (zA (zI r0 0 (0 : Int32)) 4 j5 p2) ++ (wX1 K h1 a1 r1)) := hD
      refine lv_aload_n hx hb dX6_find_28 rfl (lv_at hl 0 rfl) ?_
      refine lv_aload_n hx hb dX6_find_29 rfl (lv_at hl 1 rfl) ?_
      refine lv_iload_n hx hb dX6_find_30 rfl (lv_at hl 3 rfl) ?_
      refine lv_iconst (v := 1) hx hb dX6_find_31 (by decide) ?_
      refine lv_iconst (v := 1) hx hb dX6_find_32 (by decide) ?_
      refine lv_iload_n hx hb dX6_find_33 rfl (lv_at hl 2 rfl) ?_
      refine lv_ishl hx hb dX6_find_34 ?_
      refine xend_rw_v (wf := fun (u : (zS)) => (wX6 K h0 a0 u ++ (wX1 K h1 a1 r1))) (xRunS (wc := (wX6 K h0 a0 (zA (zI r0 0 (0 : Int32)) 4 j5 p2) ++ (wX1 K h1 a1 r1))) (As := [.ref h0, .ref h1, .int p3, .int (1 : Int32), .int ((1 : Int32) <<< (p2 &&& 31))]) (rest := []) C (c_X6_extend 10 h) k_X6_extend mw_761 ⟨rfl, rfl⟩ ⟨Nat.le_of_ble_eq_true rfl, Nat.le_of_ble_eq_true rfl⟩ hP hD [0, 1, 2, 3, 4, 5, 6, 7, 8, 9, 10] rfl rfl hl rfl rfl (Nat.le_of_ble_eq_true rfl) dX6_find_35 ⟨Nat.le_refl _, Nat.le_refl _⟩) hP hD hS hA [0, 1, 2, 3, 4, 5, 6, 7, 8, 9, 10] rfl rfl (fun _ => rfl) (fun s7 H locs h hP hD hS => ?_)
      replace hP : va_P D vwCl (wX6 K h0 a0 s7 ++ (wX1 K h1 a1 r1)) H := hP
      replace hD : va_D A (wX6 K h0 a0 s7 ++ (wX1 K h1 a1 r1)) := hD
      exact xrw_v C s7 h hP hS dX6_find_38

def wp_X6_takeTold_36 (r1 : zS) (p2 : Int32) (post : (zS) → Prop) (r0 : zS) : Prop :=
  wp_X6_keep r0 p2 (fun s3 => post s3)
def wb_X6_takeTold_7 (r1 : zS) (p2 : Int32) (post : (zS) → Prop) (ih : (zS) → Int32 → Prop) (r0 : zS) (x3 : Int32) : Prop :=
  (p2 ≤ x3 → wp_X6_takeTold_36 r1 p2 post r0) ∧ (¬ p2 ≤ x3 → ((9 : Int32) ≤ x3 → wp_X6_takeTold_36 r1 p2 post r0) ∧ (¬ (9 : Int32) ≤ x3 → wp_X2_cell r1 x3 (fun v5 => ∀ v6 : Int32, v6 = (v5.toInt32) → vp_in x3 9 ∧ (∀ j7 : Nat, j7 = x3.toNatClampNeg → ∀ v8 : Int32, v8 = x3 + (1 : Int32) → ih (zA r0 4 j7 v6) v8))))
def wp_X6_takeTold_7 (r1 : zS) (p2 : Int32) (post : (zS) → Prop) (n : Nat) : (zS) → Int32 → Prop := Nat.rec (motive := fun _ => (zS) → Int32 → Prop) (fun _ _ => False) (fun _ ih => wb_X6_takeTold_7 r1 p2 post ih) n
theorem wu_X6_takeTold_7 (r1 : zS) (p2 : Int32) (post : (zS) → Prop) (n : Nat) (r0 : zS) (x3 : Int32) : wp_X6_takeTold_7 r1 p2 post (n + 1) r0 x3 = wb_X6_takeTold_7 r1 p2 post (wp_X6_takeTold_7 r1 p2 post n) r0 x3 := rfl
def wp_X6_takeTold (r0 : zS) (r1 : zS) (p2 : Int32) (post : (zS) → Prop) : Prop :=
  ∃ n : Nat, wp_X6_takeTold_7 r1 p2 post n (zI r0 0 (0 : Int32)) (0 : Int32)
set_option maxHeartbeats 4000000 in
set_option maxRecDepth 100000 in
theorem t_X6_takeTold_36 {p : Program} {l : Launch} {e : Env} {s : State} {m : MethodId} {args : Array Value} {below : List Frame} {meth : Method} {c : Code} {D : va_G} {K : Nat → ClassId} {h0 : Nat} {a0 : Nat → Nat} {h1 : Nat} {a1 : Nat → Nat} {r1 : zS} {p2 : Int32} {post : (zS) → Prop} {A : Nat → Prop} (C : xC p s m args meth c cX6_takeTold RX6 4 none D vwCl (xty K)) (hA : ∀ q, s.heap.size ≤ q → A q) : ∀ (r0 : zS) (H : Heap) (locs : List Loc) (ls : Array Slot), lv_has ls 4 [(0, .ref h0), (2, .int p2)] → va_P D vwCl (wX6 K h0 a0 r0 ++ (wX2 K h1 a1 r1)) H → va_D A (wX6 K h0 a0 r0 ++ (wX2 K h1 a1 r1)) → va_S A s.heap H locs → wp_X6_takeTold_36 r1 p2 post r0 → W p l e ({ frames := 2, cells := 0, slots := 0, locals := 101 } : Room) s m args below meth c H locs 0 0 (MQ below (va_Qv (fun (u : (zS)) => post u) (fun (u : (zS)) t => va_P D vwCl (wX6 K h0 a0 u ++ (wX2 K h1 a1 r1)) t.heap) A) args s 0 0 A) (F0 m 36 ls []) := by
  obtain ⟨hx, hb, hr, hml, hown, hts, hlocks, hK, hT⟩ := id C
  intro r0 H locs ls hl hP hD hS h
  unfold wp_X6_takeTold_36 at h
  refine lv_aload_n hx hb dX6_takeTold_36 rfl (lv_at hl 0 rfl) ?_
  refine lv_iload_n hx hb dX6_takeTold_37 rfl (lv_at hl 1 rfl) ?_
  refine xend_rw_v (wf := fun (u : (zS)) => (wX6 K h0 a0 u)) (xRunV (wc := (wX6 K h0 a0 r0)) (As := [.int p2]) (rest := []) C (c_X6_keep h) k_X6_keep mw_765 ⟨rfl, rfl⟩ ⟨Nat.le_of_ble_eq_true rfl, Nat.le_of_ble_eq_true rfl⟩ hP hD [0, 1, 2, 3, 4] rfl rfl rfl rfl hl rfl rfl (Nat.le_of_ble_eq_true rfl) dX6_takeTold_38 ⟨Nat.le_refl _, Nat.le_refl _⟩) hP hD hS hA [0, 1, 2, 3, 4] rfl rfl (fun _ => rfl) (fun s3 H locs h hP hD hS => ?_)
  replace hP : va_P D vwCl (wX6 K h0 a0 s3 ++ (wX2 K h1 a1 r1)) H := hP
  replace hD : va_D A (wX6 K h0 a0 s3 ++ (wX2 K h1 a1 r1)) := hD
  exact xrw_v C s3 h hP hS dX6_takeTold_41
set_option maxHeartbeats 4000000 in
set_option maxRecDepth 100000 in
theorem t_X6_takeTold_7 {p : Program} {l : Launch} {e : Env} {s : State} {m : MethodId} {args : Array Value} {below : List Frame} {meth : Method} {c : Code} {D : va_G} {K : Nat → ClassId} {h0 : Nat} {a0 : Nat → Nat} {h1 : Nat} {a1 : Nat → Nat} {r1 : zS} {p2 : Int32} {post : (zS) → Prop} {A : Nat → Prop} (C : xC p s m args meth c cX6_takeTold RX6 4 none D vwCl (xty K)) (hA : ∀ q, s.heap.size ≤ q → A q) : ∀ (n : Nat) (r0 : zS) (x3 : Int32) (H : Heap) (locs : List Loc) (ls : Array Slot), lv_has ls 4 [(0, .ref h0), (1, .ref h1), (2, .int p2), (3, .int x3)] → va_P D vwCl (wX6 K h0 a0 r0 ++ (wX2 K h1 a1 r1)) H → va_D A (wX6 K h0 a0 r0 ++ (wX2 K h1 a1 r1)) → va_S A s.heap H locs → wp_X6_takeTold_7 r1 p2 post n r0 x3 → W p l e ({ frames := 2, cells := 0, slots := 0, locals := 101 } : Room) s m args below meth c H locs 0 0 (MQ below (va_Qv (fun (u : (zS)) => post u) (fun (u : (zS)) t => va_P D vwCl (wX6 K h0 a0 u ++ (wX2 K h1 a1 r1)) t.heap) A) args s 0 0 A) (F0 m 7 ls []) := by
  obtain ⟨hx, hb, hr, hml, hown, hts, hlocks, hK, hT⟩ := id C
  intro n
  induction n with
  | zero =>
    intro r0 x3 H locs ls hl hP hD hS h
    exact False.elim h
  | succ n ihn =>
    intro r0 x3 H locs ls hl hP hD hS h
    rw [wu_X6_takeTold_7] at h
    unfold wb_X6_takeTold_7 at h
    refine lv_iload_n hx hb dX6_takeTold_7 rfl (lv_at hl 3 rfl) ?_
    refine lv_iload_n hx hb dX6_takeTold_8 rfl (lv_at hl 2 rfl) ?_
    refine lv_icmp_ge (tgt := 36) hx hb dX6_takeTold_9 (by decide) (fun c1 => ?_) (fun c1 => ?_)
    · replace h := And.left h c1
      exact t_X6_takeTold_36 C hA _ _ _ _ (lv_sub hl [0, 2] rfl) hP hD hS h
    · replace h := And.right h c1
      refine lv_iload_n hx hb dX6_takeTold_12 rfl (lv_at hl 3 rfl) ?_
      refine lv_bipush (v := 9) hx hb dX6_takeTold_13 (by decide) ?_
      refine lv_icmp_ge (tgt := 36) hx hb dX6_takeTold_15 (by decide) (fun c4 => ?_) (fun c4 => ?_)
      · replace h := And.left h c4
        exact t_X6_takeTold_36 C hA _ _ _ _ (lv_sub hl [0, 2] rfl) hP hD hS h
      · replace h := And.right h c4
        refine lv_aload_n hx hb dX6_takeTold_18 rfl (lv_at hl 0 rfl) ?_
        refine va_get (D := D) (ci := 6) (v := .ref (a0 4)) (C := RX6) (T := TX6) (N := 5) hx hb hts inlX6 hown hK hP 0 rfl rfl 4 (by decide) (hts (.fieldLink RX6 25 "UnderTheDesks$Ways" "trail" "[I") mw_93) (fun _ h9 => h9) rfl dX6_takeTold_19 ?_
        refine lv_iload_n hx hb dX6_takeTold_22 rfl (lv_at hl 3 rfl) ?_
        refine lv_aload_n hx hb dX6_takeTold_23 rfl (lv_at hl 1 rfl) ?_
        refine lv_iload_n hx hb dX6_takeTold_24 rfl (lv_at hl 3 rfl) ?_
        refine xend_ro_l (xRunV (wc := (wX2 K h1 a1 r1)) (As := [.int x3]) (rest := [.int x3, .ref (a0 4)]) C (c_X2_cell h) k_X2_cell mw_1064 ⟨rfl, rfl⟩ ⟨Nat.le_of_ble_eq_true rfl, Nat.le_of_ble_eq_true rfl⟩ hP hD [5, 6] rfl rfl rfl rfl hl rfl rfl (Nat.le_of_ble_eq_true rfl) dX6_takeTold_25 ⟨Nat.le_refl _, Nat.le_refl _⟩) (fun v5 h => ?_)
        refine lv_l2i hx hb dX6_takeTold_28 rfl ?_
        refine lv_topi (fun v6 ev6 => ?_)
        replace h := h v6 ev6
        have hin := And.left h
        obtain ⟨j7, ej7⟩ : ∃ j : Nat, j = x3.toNatClampNeg := ⟨_, rfl⟩
        replace h := And.right h j7 ej7
        refine xiast hx hb hK hP hD hS 4 0 rfl rfl hin ej7 dX6_takeTold_29 (fun H locs hP hD hS => ?_)
        replace hP : va_P D vwCl (wX6 K h0 a0 (zA r0 4 j7 v6) ++ (wX2 K h1 a1 r1)) H := hP
        replace hD : va_D A (wX6 K h0 a0 (zA r0 4 j7 v6) ++ (wX2 K h1 a1 r1)) := hD
        obtain ⟨v8, ev8⟩ : ∃ y : Int32, y = x3 + (1 : Int32) := ⟨_, rfl⟩
        replace h := h v8 ev8
        refine lv_iinc (v := v8) (lv' := [(3, .int v8), (0, .ref h0), (1, .ref h1), (2, .int p2)]) hx hb dX6_takeTold_30 hl (k := 3) rfl (by rw [ev8]; rfl) (by decide) rfl (fun ls hl => ?_)
        refine lv_goto (tgt := 7) hx hb dX6_takeTold_33 (by decide) ?_
        exact ihn _ _ _ _ _ (lv_sub hl [1, 2, 3, 0] rfl) hP hD hS h
set_option maxHeartbeats 4000000 in
set_option maxRecDepth 100000 in
theorem c_X6_takeTold {l : Launch} {D : va_G} {K : Nat → ClassId} {h0 : Nat} {a0 : Nat → Nat} {r0 : zS} {h1 : Nat} {a1 : Nat → Nat} {r1 : zS} {p2 : Int32} {sz : Nat} {post : (zS) → Prop}   (h : wp_X6_takeTold r0 r1 p2 post) : Met l yX6_takeTold (Cond.code yX6_takeTold cX6_takeTold 4 none :: wsL_law) ({ frames := 2, cells := 0, slots := 0, locals := 101 } : Room) (va_Pc [.ref h0, .ref h1, .int p2] (xPre D vwCl (xty K) (wX6 K h0 a0 r0 ++ (wX2 K h1 a1 r1)) sz)) (va_Qv (fun (u : (zS)) => post u) (fun (u : (zS)) t => va_P D vwCl (wX6 K h0 a0 u ++ (wX2 K h1 a1 r1)) t.heap) (va_A (wX6 K h0 a0 r0 ++ (wX2 K h1 a1 r1)) sz)) 0 0 (va_A (wX6 K h0 a0 r0 ++ (wX2 K h1 a1 r1)) sz) := by
  refine xMet (by decide) rfl (Nat.le_of_ble_eq_true rfl) (fun p e s m args below meth c C hnm hP hD hsz ls hl => ?_)
  have hl : lv_has ls 4 [(0, .ref h0), (1, .ref h1), (2, .int p2)] := hl
  obtain ⟨hx, hb, hr, hml, hown, hts, hlocks, hK, hT⟩ := id C
  subst hsz
  generalize hAe : va_A (wX6 K h0 a0 r0 ++ (wX2 K h1 a1 r1)) s.heap.size = A at hD ⊢
  have hA : ∀ q : Nat, s.heap.size ≤ q → A q := fun q h => by rw [← hAe]; exact Or.inr h
  have hS : va_S A s.heap s.heap [] := va_S.rf
  have hP : va_P D vwCl (wX6 K h0 a0 r0 ++ (wX2 K h1 a1 r1)) s.heap := hP
  unfold wp_X6_takeTold at h
  refine lv_aload_n hx hb dX6_takeTold_0 rfl (lv_at hl 0 rfl) ?_
  refine lv_iconst (v := 0) hx hb dX6_takeTold_1 (by decide) ?_
  refine va_put (D := D) (ci := 6) (v := .int (0 : Int32)) (ty := .int) (C := RX6) (T := TX6) (N := 5) hx hb hts inlX6 tyX6 tyX6_ok nmX6 hown hK hP hD hS 0 rfl rfl 0 (by decide) (hts (.fieldLink RX6 9 "UnderTheDesks$Ways" "count" "I") mw_89) (fun _ h9 => h9) rfl (by decide +kernel) rfl rfl (Nat.le_of_ble_eq_true rfl) dX6_takeTold_2 (fun H locs hP hD hS => ?_)
  replace hP : va_P D vwCl (wX6 K h0 a0 (zI r0 0 (0 : Int32)) ++ (wX2 K h1 a1 r1)) H := hP
  replace hD : va_D A (wX6 K h0 a0 (zI r0 0 (0 : Int32)) ++ (wX2 K h1 a1 r1)) := hD
  refine lv_iconst (v := 0) hx hb dX6_takeTold_5 (by decide) ?_
  refine lv_istore_n (lv' := [(3, .int (0 : Int32)), (0, .ref h0), (1, .ref h1), (2, .int p2)]) hx hb dX6_takeTold_6 rfl hl (by decide) rfl (fun ls hl => ?_)
  obtain ⟨n0, h⟩ := h
  exact t_X6_takeTold_7 C hA n0 _ _ _ _ _ (lv_sub hl [1, 2, 3, 0] rfl) hP hD hS h

def wp_X6_chanceOf (r0 : zS) (p1 : Int32) (post : Int32 → Prop) : Prop :=
  wp_X6_has r0 p1 (fun v1 => (v1 = 0 → post (0 : Int32) ) ∧ (¬ v1 = 0 → vp_in p1 48 ∧ (post (r0.2.1 3 p1.toNatClampNeg) )))
set_option maxHeartbeats 4000000 in
set_option maxRecDepth 100000 in
theorem c_X6_chanceOf {l : Launch} {D : va_G} {K : Nat → ClassId} {h0 : Nat} {a0 : Nat → Nat} {r0 : zS} {p1 : Int32} {sz : Nat} {post : Int32 → Prop}   (h : wp_X6_chanceOf r0 p1 post) : Met l yX6_chanceOf (Cond.code yX6_chanceOf cX6_chanceOf 2 (some .int) :: wsL_law) ({ frames := 1, cells := 0, slots := 0, locals := 21 } : Room) (va_Pc [.ref h0, .int p1] (xPre D vwCl (xty K) (wX6 K h0 a0 r0) sz)) (roI post) 0 0 (fun _ => False) := by
  refine xMet (by decide) rfl (Nat.le_of_ble_eq_true rfl) (fun p e s m args below meth c C hnm hP hD hsz ls hl => ?_)
  have hl : lv_has ls 2 [(0, .ref h0), (1, .int p1)] := hl
  obtain ⟨hx, hb, hr, hml, hown, hts, hlocks, hK, hT⟩ := id C
  unfold wp_X6_chanceOf at h
  refine lv_aload_n hx hb dX6_chanceOf_0 rfl (lv_at hl 0 rfl) ?_
  refine lv_iload_n hx hb dX6_chanceOf_1 rfl (lv_at hl 1 rfl) ?_
  refine xend_ro_i (xRunV_id (As := [.int p1]) (rest := []) C (c_X6_has h) k_X6_has mw_805 ⟨rfl, rfl⟩ ⟨Nat.le_of_ble_eq_true rfl, Nat.le_of_ble_eq_true rfl⟩ hP hD rfl rfl hl rfl rfl (Nat.le_of_ble_eq_true rfl) dX6_chanceOf_2 ⟨Nat.le_refl _, Nat.le_refl _⟩) (fun v1 h => ?_)
  refine lv_if_eq (tgt := 17) hx hb dX6_chanceOf_5 (by decide) (fun c2 => ?_) (fun c2 => ?_)
  · replace h := And.left h c2
    refine lv_iconst (v := 0) hx hb dX6_chanceOf_17 (by decide) ?_
    exact xro_i C h dX6_chanceOf_18
  · replace h := And.right h c2
    refine lv_aload_n hx hb dX6_chanceOf_8 rfl (lv_at hl 0 rfl) ?_
    refine va_get (D := D) (ci := 6) (v := .ref (a0 3)) (C := RX6) (T := TX6) (N := 5) hx hb hts inlX6 hown hK hP 0 rfl rfl 3 (by decide) (hts (.fieldLink RX6 22 "UnderTheDesks$Ways" "chances" "[I") mw_92) (fun _ h9 => h9) rfl dX6_chanceOf_9 ?_
    refine lv_iload_n hx hb dX6_chanceOf_12 rfl (lv_at hl 1 rfl) ?_
    have hin := And.left h
    replace h := And.right h
    refine va_iald hx hb hK hP 3 0 rfl rfl hin dX6_chanceOf_13 ?_
    refine lv_goto (tgt := 18) hx hb dX6_chanceOf_14 (by decide) ?_
    exact xro_i C h dX6_chanceOf_18
