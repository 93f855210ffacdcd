def wp_X1_takeOver (r0 : zS) (r1 : zS) (post : (zS) → Prop) : Prop :=
  ∀ v1 : Int32, v1 = (r1.1 0) → ∀ v2 : Int32, v2 = (r1.1 1) → ∀ v3 : Int32, v3 = (r1.1 2) → ∀ v4 : Int32, v4 = (r1.1 3) → ∀ v5 : Int32, v5 = (r1.1 4) → ((¬ (0 : Int32) < 0 ∧ ¬ (0 : Int32) < 0 ∧ ¬ (12 : Int32) < 0) ∧ (0 : Int32).toNatClampNeg + (12 : Int32).toNatClampNeg ≤ 12 ∧ (0 : Int32).toNatClampNeg + (12 : Int32).toNatClampNeg ≤ 12) ∧ (∀ g6 : Nat → Int32, g6 = va_cpy (r1.2.1 5) ((zI (zI (zI (zI (zI r0 0 v1) 1 v2) 2 v3) 3 v4) 4 v5).2.1 5) (0 : Int32).toNatClampNeg (0 : Int32).toNatClampNeg (12 : Int32).toNatClampNeg → ((¬ (0 : Int32) < 0 ∧ ¬ (0 : Int32) < 0 ∧ ¬ (12 : Int32) < 0) ∧ (0 : Int32).toNatClampNeg + (12 : Int32).toNatClampNeg ≤ 12 ∧ (0 : Int32).toNatClampNeg + (12 : Int32).toNatClampNeg ≤ 12) ∧ (∀ g7 : Nat → Int32, g7 = va_cpy (r1.2.1 6) ((zG (zI (zI (zI (zI (zI r0 0 v1) 1 v2) 2 v3) 3 v4) 4 v5) 5 g6).2.1 6) (0 : Int32).toNatClampNeg (0 : Int32).toNatClampNeg (12 : Int32).toNatClampNeg → ((¬ (0 : Int32) < 0 ∧ ¬ (0 : Int32) < 0 ∧ ¬ (12 : Int32) < 0) ∧ (0 : Int32).toNatClampNeg + (12 : Int32).toNatClampNeg ≤ 12 ∧ (0 : Int32).toNatClampNeg + (12 : Int32).toNatClampNeg ≤ 12) ∧ (∀ g8 : Nat → Int32, g8 = va_cpy (r1.2.1 7) ((zG (zG (zI (zI (zI (zI (zI r0 0 v1) 1 v2) 2 v3) 3 v4) 4 v5) 5 g6) 6 g7).2.1 7) (0 : Int32).toNatClampNeg (0 : Int32).toNatClampNeg (12 : Int32).toNatClampNeg → ((¬ (0 : Int32) < 0 ∧ ¬ (0 : Int32) < 0 ∧ ¬ (12 : Int32) < 0) ∧ (0 : Int32).toNatClampNeg + (12 : Int32).toNatClampNeg ≤ 12 ∧ (0 : Int32).toNatClampNeg + (12 : Int32).toNatClampNeg ≤ 12) ∧ (∀ g9 : Nat → Int32, g9 = va_cpy (r1.2.1 8) ((zG (zG (zG (zI (zI (zI (zI (zI r0 0 v1) 1 v2) 2 v3) 3 v4) 4 v5) 5 g6) 6 g7) 7 g8).2.1 8) (0 : Int32).toNatClampNeg (0 : Int32).toNatClampNeg (12 : Int32).toNatClampNeg → ((¬ (0 : Int32) < 0 ∧ ¬ (0 : Int32) < 0 ∧ ¬ (12 : Int32) < 0) ∧ (0 : Int32).toNatClampNeg + (12 : Int32).toNatClampNeg ≤ 12 ∧ (0 : Int32).toNatClampNeg + (12 : Int32).toNatClampNeg ≤ 12) ∧ (∀ g10 : Nat → Int32, g10 = va_cpy (r1.2.1 9) ((zG (zG (zG (zG (zI (zI (zI (zI (zI r0 0 v1) 1 v2) 2 v3) 3 v4) 4 v5) 5 g6) 6 g7) 7 g8) 8 g9).2.1 9) (0 : Int32).toNatClampNeg (0 : Int32).toNatClampNeg (12 : Int32).toNatClampNeg → post (zG (zG (zG (zG (zG (zI (zI (zI (zI (zI r0 0 v1) 1 v2) 2 v3) 3 v4) 4 v5) 5 g6) 6 g7) 7 g8) 8 g9) 9 g10))))))
set_option maxHeartbeats 4000000 in
set_option maxRecDepth 100000 in
theorem c_X1_takeOver {l : Launch} {D : va_G} {K : Nat → ClassId} {h0 : Nat} {a0 : Nat → Nat} {r0 : zS} {h1 : Nat} {a1 : Nat → Nat} {r1 : zS}  {sz : Nat} {post : (zS) → Prop}   (h : wp_X1_takeOver r0 r1 post) : Met l yX1_takeOver (Cond.code yX1_takeOver cX1_takeOver 2 none :: wsL_law) ({ frames := 1, cells := 0, slots := 0, locals := 80 } : Room) (va_Pc [.ref h0, .ref h1] (xPre D vwCl (xty K) (wX1 K h0 a0 r0 ++ (wX1 K h1 a1 r1)) sz)) (va_Qv (fun (u : (zS)) => post u) (fun (u : (zS)) t => va_P D vwCl (wX1 K h0 a0 u ++ (wX1 K h1 a1 r1)) t.heap) (va_A (wX1 K h0 a0 r0 ++ (wX1 K h1 a1 r1)) sz)) 0 0 (va_A (wX1 K h0 a0 r0 ++ (wX1 K h1 a1 r1)) sz) := by
  refine xMet (by decide) rfl (Nat.le_of_ble_eq_true rfl) (fun p e s m args below meth c C hnm hP hD hsz ls hl => ?_)
  have hl : lv_has ls 2 [(0, .ref h0), (1, .ref h1)] := hl
  obtain ⟨hx, hb, hr, hml, hown, hts, hlocks, hK, hT⟩ := id C
  subst hsz
  generalize hAe : va_A (wX1 K h0 a0 r0 ++ (wX1 K h1 a1 r1)) s.heap.size = A at hD ⊢
  have hA : ∀ q : Nat, s.heap.size ≤ q → A q := fun q h => by rw [← hAe]; exact Or.inr h
  have hS : va_S A s.heap s.heap [] := va_S.rf
  have hP : va_P D vwCl (wX1 K h0 a0 r0 ++ (wX1 K h1 a1 r1)) s.heap := hP
  unfold wp_X1_takeOver at h
  refine lv_aload_n hx hb dX1_takeOver_0 rfl (lv_at hl 0 rfl) ?_
  refine lv_aload_n hx hb dX1_takeOver_1 rfl (lv_at hl 1 rfl) ?_
  refine va_get (D := D) (ci := 1) (v := .int (r1.1 0)) (C := RX1) (T := TX1) (N := 10) hx hb hts inlX1 hown hK hP 6 rfl rfl 0 (by decide) (hts (.fieldLink RX1 9 "UnderTheDesks$Room" "rowCount" "I") mw_51) (fun _ h9 => h9) rfl dX1_takeOver_2 ?_
  refine lv_topi (fun v1 ev1 => ?_)
  replace h := h v1 ev1
  refine va_put (D := D) (ci := 1) (v := .int v1) (ty := .int) (C := RX1) (T := TX1) (N := 10) hx hb hts inlX1 tyX1 tyX1_ok nmX1 hown hK hP hD hS 0 rfl rfl 0 (by decide) (hts (.fieldLink RX1 9 "UnderTheDesks$Room" "rowCount" "I") mw_51) (fun _ h9 => h9) rfl (by decide +kernel) rfl rfl (Nat.le_of_ble_eq_true rfl) dX1_takeOver_5 (fun H locs hP hD hS => ?_)
  replace hP : va_P D vwCl (wX1 K h0 a0 (zI r0 0 v1) ++ (wX1 K h1 a1 r1)) H := hP
  replace hD : va_D A (wX1 K h0 a0 (zI r0 0 v1) ++ (wX1 K h1 a1 r1)) := hD
  refine lv_aload_n hx hb dX1_takeOver_8 rfl (lv_at hl 0 rfl) ?_
  refine lv_aload_n hx hb dX1_takeOver_9 rfl (lv_at hl 1 rfl) ?_
  refine va_get (D := D) (ci := 1) (v := .int (r1.1 1)) (C := RX1) (T := TX1) (N := 10) hx hb hts inlX1 hown hK hP 6 rfl rfl 1 (by decide) (hts (.fieldLink RX1 15 "UnderTheDesks$Room" "count" "I") mw_52) (fun _ h9 => h9) rfl dX1_takeOver_10 ?_
  refine lv_topi (fun v2 ev2 => ?_)
  replace h := h v2 ev2
  refine va_put (D := D) (ci := 1) (v := .int v2) (ty := .int) (C := RX1) (T := TX1) (N := 10) hx hb hts inlX1 tyX1 tyX1_ok nmX1 hown hK hP hD hS 0 rfl rfl 1 (by decide) (hts (.fieldLink RX1 15 "UnderTheDesks$Room" "count" "I") mw_52) (fun _ h9 => h9) rfl (by decide +kernel) rfl rfl (Nat.le_of_ble_eq_true rfl) dX1_takeOver_13 (fun H locs hP hD hS => ?_)
  replace hP : va_P D vwCl (wX1 K h0 a0 (zI (zI r0 0 v1) 1 v2) ++ (wX1 K h1 a1 r1)) H := hP
  replace hD : va_D A (wX1 K h0 a0 (zI (zI r0 0 v1) 1 v2) ++ (wX1 K h1 a1 r1)) := hD
  refine lv_aload_n hx hb dX1_takeOver_16 rfl (lv_at hl 0 rfl) ?_
  refine lv_aload_n hx hb dX1_takeOver_17 rfl (lv_at hl 1 rfl) ?_
  refine va_get (D := D) (ci := 1) (v := .int (r1.1 2)) (C := RX1) (T := TX1) (N := 10) hx hb hts inlX1 hown hK hP 6 rfl rfl 2 (by decide) (hts (.fieldLink RX1 18 "UnderTheDesks$Room" "term" "I") mw_53) (fun _ h9 => h9) rfl dX1_takeOver_18 ?_
  refine lv_topi (fun v3 ev3 => ?_)
  replace h := h v3 ev3
  refine va_put (D := D) (ci := 1) (v := .int v3) (ty := .int) (C := RX1) (T := TX1) (N := 10) hx hb hts inlX1 tyX1 tyX1_ok nmX1 hown hK hP hD hS 0 rfl rfl 2 (by decide) (hts (.fieldLink RX1 18 "UnderTheDesks$Room" "term" "I") mw_53) (fun _ h9 => h9) rfl (by decide +kernel) rfl rfl (Nat.le_of_ble_eq_true rfl) dX1_takeOver_21 (fun H locs hP hD hS => ?_)
  replace hP : va_P D vwCl (wX1 K h0 a0 (zI (zI (zI r0 0 v1) 1 v2) 2 v3) ++ (wX1 K h1 a1 r1)) H := hP
  replace hD : va_D A (wX1 K h0 a0 (zI (zI (zI r0 0 v1) 1 v2) 2 v3) ++ (wX1 K h1 a1 r1)) := hD
  refine lv_aload_n hx hb dX1_takeOver_24 rfl (lv_at hl 0 rfl) ?_
  refine lv_aload_n hx hb dX1_takeOver_25 rfl (lv_at hl 1 rfl) ?_
  refine va_get (D := D) (ci := 1) (v := .int (r1.1 3)) (C := RX1) (T := TX1) (N := 10) hx hb hts inlX1 hown hK hP 6 rfl rfl 3 (by decide) (hts (.fieldLink RX1 21 "UnderTheDesks$Room" "turned" "I") mw_54) (fun _ h9 => h9) rfl dX1_takeOver_26 ?_
  refine lv_topi (fun v4 ev4 => ?_)
  replace h := h v4 ev4
  refine va_put (D := D) (ci := 1) (v := .int v4) (ty := .int) (C := RX1) (T := TX1) (N := 10) hx hb hts inlX1 tyX1 tyX1_ok nmX1 hown hK hP hD hS 0 rfl rfl 3 (by decide) (hts (.fieldLink RX1 21 "UnderTheDesks$Room" "turned" "I") mw_54) (fun _ h9 => h9) rfl (by decide +kernel) rfl rfl (Nat.le_of_ble_eq_true rfl) dX1_takeOver_29 (fun H locs hP hD hS => ?_)
  replace hP : va_P D vwCl (wX1 K h0 a0 (zI (zI (zI (zI r0 0 v1) 1 v2) 2 v3) 3 v4) ++ (wX1 K h1 a1 r1)) H := hP
  replace hD : va_D A (wX1 K h0 a0 (zI (zI (zI (zI r0 0 v1) 1 v2) 2 v3) 3 v4) ++ (wX1 K h1 a1 r1)) := hD
  refine lv_aload_n hx hb dX1_takeOver_32 rfl (lv_at hl 0 rfl) ?_
  refine lv_aload_n hx hb dX1_takeOver_33 rfl (lv_at hl 1 rfl) ?_
  refine va_get (D := D) (ci := 1) (v := .int (r1.1 4)) (C := RX1) (T := TX1) (N := 10) hx hb hts inlX1 hown hK hP 6 rfl rfl 4 (by decide) (hts (.fieldLink RX1 24 "UnderTheDesks$Room" "eye" "I") mw_55) (fun _ h9 => h9) rfl dX1_takeOver_34 ?_
  refine lv_topi (fun v5 ev5 => ?_)
  replace h := h v5 ev5
  refine va_put (D := D) (ci := 1) (v := .int v5) (ty := .int) (C := RX1) (T := TX1) (N := 10) hx hb hts inlX1 tyX1 tyX1_ok nmX1 hown hK hP hD hS 0 rfl rfl 4 (by decide) (hts (.fieldLink RX1 24 "UnderTheDesks$Room" "eye" "I") mw_55) (fun _ h9 => h9) rfl (by decide +kernel) rfl rfl (Nat.le_of_ble_eq_true rfl) dX1_takeOver_37 (fun H locs hP hD hS => ?_)
  replace hP : va_P D vwCl (wX1 K h0 a0 (zI (zI (zI (zI (zI r0 0 v1) 1 v2) 2 v3) 3 v4) 4 v5) ++ (wX1 K h1 a1 r1)) H := hP
  replace hD : va_D A (wX1 K h0 a0 (zI (zI (zI (zI (zI r0 0 v1) 1 v2) 2 v3) 3 v4) 4 v5) ++ (wX1 K h1 a1 r1)) := hD
  refine lv_aload_n hx hb dX1_takeOver_40 rfl (lv_at hl 1 rfl) ?_
  refine va_get (D := D) (ci := 1) (v := .ref (a1 5)) (C := RX1) (T := TX1) (N := 10) hx hb hts inlX1 hown hK hP 6 rfl rfl 5 (by decide) (hts (.fieldLink RX1 27 "UnderTheDesks$Room" "kinds" "[I") mw_56) (fun _ h9 => h9) rfl dX1_takeOver_41 ?_
  refine lv_iconst (v := 0) hx hb dX1_takeOver_44 (by decide) ?_
  refine lv_aload_n hx hb dX1_takeOver_45 rfl (lv_at hl 0 rfl) ?_
  refine va_get (D := D) (ci := 1) (v := .ref (a0 5)) (C := RX1) (T := TX1) (N := 10) hx hb hts inlX1 hown hK hP 0 rfl rfl 5 (by decide) (hts (.fieldLink RX1 27 "UnderTheDesks$Room" "kinds" "[I") mw_56) (fun _ h9 => h9) rfl dX1_takeOver_46 ?_
  refine lv_iconst (v := 0) hx hb dX1_takeOver_49 (by decide) ?_
  refine lv_bipush (v := 12) hx hb dX1_takeOver_50 (by decide) ?_
  have hcp := And.left h
  replace h := And.right h
  obtain ⟨g6, eg6⟩ : ∃ z : Nat → Int32, z = va_cpy (r1.2.1 5) ((zI (zI (zI (zI (zI r0 0 v1) 1 v2) 2 v3) 3 v4) 4 v5).2.1 5) (0 : Int32).toNatClampNeg (0 : Int32).toNatClampNeg (12 : Int32).toNatClampNeg := ⟨_, rfl⟩
  replace h := h g6 eg6
  refine xcopyi hx hb (by rw [hml]; exact hl.1.symm) hown (hts _ mw_521) (hts _ mw_215) (hts _ mw_216) (hts _ mw_217) hK hP hD hS 7 1 0 0 rfl rfl rfl rfl rfl hcp.1.1 hcp.1.2.1 hcp.1.2.2 hcp.2.1 hcp.2.2 (fun i _ => rfl) eg6 (Nat.le_of_ble_eq_true rfl) (Nat.le_of_ble_eq_true rfl) dX1_takeOver_52 (fun H locs hP hD hS => ?_)
  replace hP : va_P D vwCl (wX1 K h0 a0 (zG (zI (zI (zI (zI (zI r0 0 v1) 1 v2) 2 v3) 3 v4) 4 v5) 5 g6) ++ (wX1 K h1 a1 r1)) H := hP
  replace hD : va_D A (wX1 K h0 a0 (zG (zI (zI (zI (zI (zI r0 0 v1) 1 v2) 2 v3) 3 v4) 4 v5) 5 g6) ++ (wX1 K h1 a1 r1)) := hD
  refine lv_aload_n hx hb dX1_takeOver_55 rfl (lv_at hl 1 rfl) ?_
  refine va_get (D := D) (ci := 1) (v := .ref (a1 6)) (C := RX1) (T := TX1) (N := 10) hx hb hts inlX1 hown hK hP 6 rfl rfl 6 (by decide) (hts (.fieldLink RX1 31 "UnderTheDesks$Room" "desks" "[I") mw_57) (fun _ h9 => h9) rfl dX1_takeOver_56 ?_
  refine lv_iconst (v := 0) hx hb dX1_takeOver_59 (by decide) ?_
  refine lv_aload_n hx hb dX1_takeOver_60 rfl (lv_at hl 0 rfl) ?_
  refine va_get (D := D) (ci := 1) (v := .ref (a0 6)) (C := RX1) (T := TX1) (N := 10) hx hb hts inlX1 hown hK hP 0 rfl rfl 6 (by decide) (hts (.fieldLink RX1 31 "UnderTheDesks$Room" "desks" "[I") mw_57) (fun _ h9 => h9) rfl dX1_takeOver_61 ?_
  refine lv_iconst (v := 0) hx hb dX1_takeOver_64 (by decide) ?_
  refine lv_bipush (v := 12) hx hb dX1_takeOver_65 (by decide) ?_
  have hcp := And.left h
  replace h := And.right h
  obtain ⟨g7, eg7⟩ : ∃ z : Nat → Int32, z = va_cpy (r1.2.1 6) ((zG (zI (zI (zI (zI (zI r0 0 v1) 1 v2) 2 v3) 3 v4) 4 v5) 5 g6).2.1 6) (0 : Int32).toNatClampNeg (0 : Int32).toNatClampNeg (12 : Int32).toNatClampNeg := ⟨_, rfl⟩
  replace h := h g7 eg7
  refine xcopyi hx hb (by rw [hml]; exact hl.1.symm) hown (hts _ mw_521) (hts _ mw_215) (hts _ mw_216) (hts _ mw_217) hK hP hD hS 8 2 0 0 rfl rfl rfl rfl rfl hcp.1.1 hcp.1.2.1 hcp.1.2.2 hcp.2.1 hcp.2.2 (fun i _ => rfl) eg7 (Nat.le_of_ble_eq_true rfl) (Nat.le_of_ble_eq_true rfl) dX1_takeOver_67 (fun H locs hP hD hS => ?_)
  replace hP : va_P D vwCl (wX1 K h0 a0 (zG (zG (zI (zI (zI (zI (zI r0 0 v1) 1 v2) 2 v3) 3 v4) 4 v5) 5 g6) 6 g7) ++ (wX1 K h1 a1 r1)) H := hP
  replace hD : va_D A (wX1 K h0 a0 (zG (zG (zI (zI (zI (zI (zI r0 0 v1) 1 v2) 2 v3) 3 v4) 4 v5) 5 g6) 6 g7) ++ (wX1 K h1 a1 r1)) := hD
  refine lv_aload_n hx hb dX1_takeOver_70 rfl (lv_at hl 1 rfl) ?_
  refine va_get (D := D) (ci := 1) (v := .ref (a1 7)) (C := RX1) (T := TX1) (N := 10) hx hb hts inlX1 hown hK hP 6 rfl rfl 7 (by decide) (hts (.fieldLink RX1 34 "UnderTheDesks$Room" "marks" "[I") mw_58) (fun _ h9 => h9) rfl dX1_takeOver_71 ?_
  refine lv_iconst (v := 0) hx hb dX1_takeOver_74 (by decide) ?_
  refine lv_aload_n hx hb dX1_takeOver_75 rfl (lv_at hl 0 rfl) ?_
  refine va_get (D := D) (ci := 1) (v := .ref (a0 7)) (C := RX1) (T := TX1) (N := 10) hx hb hts inlX1 hown hK hP 0 rfl rfl 7 (by decide) (hts (.fieldLink RX1 34 "UnderTheDesks$Room" "marks" "[I") mw_58) (fun _ h9 => h9) rfl dX1_takeOver_76 ?_
  refine lv_iconst (v := 0) hx hb dX1_takeOver_79 (by decide) ?_
  refine lv_bipush (v := 12) hx hb dX1_takeOver_80 (by decide) ?_
  have hcp := And.left h
  replace h := And.right h
  obtain ⟨g8, eg8⟩ : ∃ z : Nat → Int32, z = va_cpy (r1.2.1 7) ((zG (zG (zI (zI (zI (zI (zI r0 0 v1) 1 v2) 2 v3) 3 v4) 4 v5) 5 g6) 6 g7).2.1 7) (0 : Int32).toNatClampNeg (0 : Int32).toNatClampNeg (12 : Int32).toNatClampNeg := ⟨_, rfl⟩
  replace h := h g8 eg8
  refine xcopyi hx hb (by rw [hml]; exact hl.1.symm) hown (hts _ mw_521) (hts _ mw_215) (hts _ mw_216) (hts _ mw_217) hK hP hD hS 9 3 0 0 rfl rfl rfl rfl rfl hcp.1.1 hcp.1.2.1 hcp.1.2.2 hcp.2.1 hcp.2.2 (fun i _ => rfl) eg8 (Nat.le_of_ble_eq_true rfl) (Nat.le_of_ble_eq_true rfl) dX1_takeOver_82 (fun H locs hP hD hS => ?_)
  replace hP : va_P D vwCl (wX1 K h0 a0 (zG (zG (zG (zI (zI (zI (zI (zI r0 0 v1) 1 v2) 2 v3) 3 v4) 4 v5) 5 g6) 6 g7) 7 g8) ++ (wX1 K h1 a1 r1)) H := hP
  replace hD : va_D A (wX1 K h0 a0 (zG (zG (zG (zI (zI (zI (zI (zI r0 0 v1) 1 v2) 2 v3) 3 v4) 4 v5) 5 g6) 6 g7) 7 g8) ++ (wX1 K h1 a1 r1)) := hD
  refine lv_aload_n hx hb dX1_takeOver_85 rfl (lv_at hl 1 rfl) ?_
  refine va_get (D := D) (ci := 1) (v := .ref (a1 8)) (C := RX1) (T := TX1) (N := 10) hx hb hts inlX1 hown hK hP 6 rfl rfl 8 (by decide) (hts (.fieldLink RX1 37 "UnderTheDesks$Room" "barred" "[I") mw_59) (fun _ h9 => h9) rfl dX1_takeOver_86 ?_
  refine lv_iconst (v := 0) hx hb dX1_takeOver_89 (by decide) ?_
  refine lv_aload_n hx hb dX1_takeOver_90 rfl (lv_at hl 0 rfl) ?_
  refine va_get (D := D) (ci := 1) (v := .ref (a0 8)) (C := RX1) (T := TX1) (N := 10) hx hb hts inlX1 hown hK hP 0 rfl rfl 8 (by decide) (hts (.fieldLink RX1 37 "UnderTheDesks$Room" "barred" "[I") mw_59) (fun _ h9 => h9) rfl dX1_takeOver_91 ?_
  refine lv_iconst (v := 0) hx hb dX1_takeOver_94 (by decide) ?_
  refine lv_bipush (v := 12) hx hb dX1_takeOver_95 (by decide) ?_
  have hcp := And.left h
  replace h := And.right h
  obtain ⟨g9, eg9⟩ : ∃ z : Nat → Int32, z = va_cpy (r1.2.1 8) ((zG (zG (zG (zI (zI (zI (zI (zI r0 0 v1) 1 v2) 2 v3) 3 v4) 4 v5) 5 g6) 6 g7) 7 g8).2.1 8) (0 : Int32).toNatClampNeg (0 : Int32).toNatClampNeg (12 : Int32).toNatClampNeg := ⟨_, rfl⟩
  replace h := h g9 eg9
  refine xcopyi hx hb (by rw [hml]; exact hl.1.symm) hown (hts _ mw_521) (hts _ mw_215) (hts _ mw_216) (hts _ mw_217) hK hP hD hS 10 4 0 0 rfl rfl rfl rfl rfl hcp.1.1 hcp.1.2.1 hcp.1.2.2 hcp.2.1 hcp.2.2 (fun i _ => rfl) eg9 (Nat.le_of_ble_eq_true rfl) (Nat.le_of_ble_eq_true rfl) dX1_takeOver_97 (fun H locs hP hD hS => ?_)
  replace hP : va_P D vwCl (wX1 K h0 a0 (zG (zG (zG (zG (zI (zI (zI (zI (zI r0 0 v1) 1 v2) 2 v3) 3 v4) 4 v5) 5 g6) 6 g7) 7 g8) 8 g9) ++ (wX1 K h1 a1 r1)) H := hP
  replace hD : va_D A (wX1 K h0 a0 (zG (zG (zG (zG (zI (zI (zI (zI (zI r0 0 v1) 1 v2) 2 v3) 3 v4) 4 v5) 5 g6) 6 g7) 7 g8) 8 g9) ++ (wX1 K h1 a1 r1)) := hD
  refine lv_aload_n hx hb dX1_takeOver_100 rfl (lv_at hl 1 rfl) ?_
  refine va_get (D := D) (ci := 1) (v := .ref (a1 9)) (C := RX1) (T := TX1) (N := 10) hx hb hts inlX1 hown hK hP 6 rfl rfl 9 (by decide) (hts (.fieldLink RX1 40 "UnderTheDesks$Room" "near" "[I") mw_60) (fun _ h9 => h9) rfl dX1_takeOver_101 ?_
  refine lv_iconst (v := 0) hx hb dX1_takeOver_104 (by decide) ?_
  refine lv_aload_n hx hb dX1_takeOver_105 rfl (lv_at hl 0 rfl) ?_
  refine va_get (D := D) (ci := 1) (v := .ref (a0 9)) (C := RX1) (T := TX1) (N := 10) hx hb hts inlX1 hown hK hP 0 rfl rfl 9 (by decide) (hts (.fieldLink RX1 40 "UnderTheDesks$Room" "near" "[I") mw_60) (fun _ h9 => h9) rfl dX1_takeOver_106 ?_
  refine lv_iconst (v := 0) hx hb dX1_takeOver_109 (by decide) ?_
  refine lv_bipush (v := 12) hx hb dX1_takeOver_110 (by decide) ?_
  have hcp := And.left h
  replace h := And.right h
  obtain ⟨g10, eg10⟩ : ∃ z : Nat → Int32, z = va_cpy (r1.2.1 9) ((zG (zG (zG (zG (zI (zI (zI (zI (zI r0 0 v1) 1 v2) 2 v3) 3 v4) 4 v5) 5 g6) 6 g7) 7 g8) 8 g9).2.1 9) (0 : Int32).toNatClampNeg (0 : Int32).toNatClampNeg (12 : Int32).toNatClampNeg := ⟨_, rfl⟩
  replace h := h g10 eg10
  refine xcopyi hx hb (by rw [hml]; exact hl.1.symm) hown (hts _ mw_521) (hts _ mw_215) (hts _ mw_216) (hts _ mw_217) hK hP hD hS 11 5 0 0 rfl rfl rfl rfl rfl hcp.1.1 hcp.1.2.1 hcp.1.2.2 hcp.2.1 hcp.2.2 (fun i _ => rfl) eg10 (Nat.le_of_ble_eq_true rfl) (Nat.le_of_ble_eq_true rfl) dX1_takeOver_112 (fun H locs hP hD hS => ?_)
  replace hP : va_P D vwCl (wX1 K h0 a0 (zG (zG (zG (zG (zG (zI (zI (zI (zI (zI r0 0 v1) 1 v2) 2 v3) 3 v4) 4 v5) 5 g6) 6 g7) 7 g8) 8 g9) 9 g10) ++ (wX1 K h1 a1 r1)) H := hP
  replace hD : va_D A (wX1 K h0 a0 (zG (zG (zG (zG (zG (zI (zI (zI (zI (zI r0 0 v1) 1 v2) 2 v3) 3 v4) 4 v5) 5 g6) 6 g7) 7 g8) 8 g9) 9 g10) ++ (wX1 K h1 a1 r1)) := hD
  exact xrw_v C (zG (zG (zG (zG (zG (zI (zI (zI (zI (zI r0 0 v1) 1 v2) 2 v3) 3 v4) 4 v5) 5 g6) 6 g7) 7 g8) 8 g9) 9 g10) h hP hS dX1_takeOver_115

def wp_X1_has (r0 : zS) (p1 : Int32) (post : Int32 → Prop) : Prop :=
  (p1 < 0 → post (0 : Int32) ) ∧ (¬ p1 < 0 → ((r0.1 1) ≤ p1 → post (0 : Int32) ) ∧ (¬ (r0.1 1) ≤ p1 → ((12 : Int32) ≤ p1 → post (0 : Int32) ) ∧ (¬ (12 : Int32) ≤ p1 → post (1 : Int32) )))
set_option maxHeartbeats 4000000 in
set_option maxRecDepth 100000 in
theorem c_X1_has {l : Launch} {D : va_G} {K : Nat → ClassId} {h0 : Nat} {a0 : Nat → Nat} {r0 : zS} {p1 : Int32} {sz : Nat} {post : Int32 → Prop}   (h : wp_X1_has r0 p1 post) : Met l yX1_has (Cond.code yX1_has cX1_has 2 (some .boolean) :: wsL_law) ({ frames := 0, cells := 0, slots := 0, locals := 0 } : Room) (va_Pc [.ref h0, .int p1] (xPre D vwCl (xty K) (wX1 K h0 a0 r0) sz)) (roI post) 0 0 (fun _ => False) := by
  refine xMet (by decide) rfl (Nat.le_of_ble_eq_true rfl) (fun p e s m args below meth c C hnm hP hD hsz ls hl => ?_)
  have hl : lv_has ls 2 [(0, .ref h0), (1, .int p1)] := hl
  obtain ⟨hx, hb, hr, hml, hown, hts, hlocks, hK, hT⟩ := id C
  unfold wp_X1_has at h
  refine lv_iload_n hx hb dX1_has_0 rfl (lv_at hl 1 rfl) ?_
  refine lv_if_lt (tgt := 22) hx hb dX1_has_1 (by decide) (fun c1 => ?_) (fun c1 => ?_)
  · replace h := And.left h c1
    refine lv_iconst (v := 0) hx hb dX1_has_22 (by decide) ?_
    exact xro_z C rfl h dX1_has_23
  · replace h := And.right h c1
    refine lv_iload_n hx hb dX1_has_4 rfl (lv_at hl 1 rfl) ?_
    refine lv_aload_n hx hb dX1_has_5 rfl (lv_at hl 0 rfl) ?_
    refine va_get (D := D) (ci := 1) (v := .int (r0.1 1)) (C := RX1) (T := TX1) (N := 10) hx hb hts inlX1 hown hK hP 0 rfl rfl 1 (by decide) (hts (.fieldLink RX1 15 "UnderTheDesks$Room" "count" "I") mw_52) (fun _ h9 => h9) rfl dX1_has_6 ?_
    refine lv_icmp_ge (tgt := 22) hx hb dX1_has_9 (by decide) (fun c2 => ?_) (fun c2 => ?_)
    · replace h := And.left h c2
      refine lv_iconst (v := 0) hx hb dX1_has_22 (by decide) ?_
      exact xro_z C rfl h dX1_has_23
    · replace h := And.right h c2
      refine lv_iload_n hx hb dX1_has_12 rfl (lv_at hl 1 rfl) ?_
      refine lv_bipush (v := 12) hx hb dX1_has_13 (by decide) ?_
      refine lv_icmp_ge (tgt := 22) hx hb dX1_has_15 (by decide) (fun c3 => ?_) (fun c3 => ?_)
      · replace h := And.left h c3
        refine lv_iconst (v := 0) hx hb dX1_has_22 (by decide) ?_
        exact xro_z C rfl h dX1_has_23
      · replace h := And.right h c3
        refine lv_iconst (v := 1) hx hb dX1_has_18 (by decide) ?_
        refine lv_goto (tgt := 23) hx hb dX1_has_19 (by decide) ?_
        exact xro_z C rfl h dX1_has_23

def wp_X1_isFull (r0 : zS) (post : Int32 → Prop) : Prop :=
  ((r0.1 1) < (12 : Int32) → post (0 : Int32) ) ∧ (¬ (r0.1 1) < (12 : Int32) → post (1 : Int32) )
set_option maxHeartbeats 4000000 in
set_option maxRecDepth 100000 in
theorem c_X1_isFull {l : Launch} {D : va_G} {K : Nat → ClassId} {h0 : Nat} {a0 : Nat → Nat} {r0 : zS}  {sz : Nat} {post : Int32 → Prop}   (h : wp_X1_isFull r0 post) : Met l yX1_isFull (Cond.code yX1_isFull cX1_isFull 1 (some .boolean) :: wsL_law) ({ frames := 0, cells := 0, slots := 0, locals := 0 } : Room) (va_Pc [.ref h0] (xPre D vwCl (xty K) (wX1 K h0 a0 r0) sz)) (roI post) 0 0 (fun _ => False) := by
  refine xMet (by decide) rfl (Nat.le_of_ble_eq_true rfl) (fun p e s m args below meth c C hnm hP hD hsz ls hl => ?_)
  have hl : lv_has ls 1 [(0, .ref h0)] := hl
  obtain ⟨hx, hb, hr, hml, hown, hts, hlocks, hK, hT⟩ := id C
  unfold wp_X1_isFull at h
  refine lv_aload_n hx hb dX1_isFull_0 rfl (lv_at hl 0 rfl) ?_
  refine va_get (D := D) (ci := 1) (v := .int (r0.1 1)) (C := RX1) (T := TX1) (N := 10) hx hb hts inlX1 hown hK hP 0 rfl rfl 1 (by decide) (hts (.fieldLink RX1 15 "UnderTheDesks$Room" "count" "I") mw_52) (fun _ h9 => h9) rfl dX1_isFull_1 ?_
  refine lv_bipush (v := 12) hx hb dX1_isFull_4 (by decide) ?_
  refine lv_icmp_lt (tgt := 13) hx hb dX1_isFull_6 (by decide) (fun c1 => ?_) (fun c1 => ?_)
  · replace h := And.left h c1
    refine lv_iconst (v := 0) hx hb dX1_isFull_13 (by decide) ?_
    exact xro_z C rfl h dX1_isFull_14
  · replace h := And.right h c1
    refine lv_iconst (v := 1) hx hb dX1_isFull_9 (by decide) ?_
    refine lv_goto (tgt := 14) hx hb dX1_isFull_10 (by decide) ?_
    exact xro_z C rfl h dX1_isFull_14

def wp_X1_deskCount (r0 : zS) (post : Int32 → Prop) : Prop :=
  post ((r0.1 0) * (4 : Int32)) 
set_option maxHeartbeats 4000000 in
set_option maxRecDepth 100000 in
theorem c_X1_deskCount {l : Launch} {D : va_G} {K : Nat → ClassId} {h0 : Nat} {a0 : Nat → Nat} {r0 : zS}  {sz : Nat} {post : Int32 → Prop}   (h : wp_X1_deskCount r0 post) : Met l yX1_deskCount (Cond.code yX1_deskCount cX1_deskCount 1 (some .int) :: wsL_law) ({ frames := 0, cells := 0, slots := 0, locals := 0 } : Room) (va_Pc [.ref h0] (xPre D vwCl (xty K) (wX1 K h0 a0 r0) sz)) (roI post) 0 0 (fun _ => False) := by
  refine xMet (by decide) rfl (Nat.le_of_ble_eq_true rfl) (fun p e s m args below meth c C hnm hP hD hsz ls hl => ?_)
  have hl : lv_has ls 1 [(0, .ref h0)] := hl
  obtain ⟨hx, hb, hr, hml, hown, hts, hlocks, hK, hT⟩ := id C
  unfold wp_X1_deskCount at h
  refine lv_aload_n hx hb dX1_deskCount_0 rfl (lv_at hl 0 rfl) ?_
  refine va_get (D := D) (ci := 1) (v := .int (r0.1 0)) (C := RX1) (T := TX1) (N := 10) hx hb hts inlX1 hown hK hP 0 rfl rfl 0 (by decide) (hts (.fieldLink RX1 9 "UnderTheDesks$Room" "rowCount" "I") mw_51) (fun _ h9 => h9) rfl dX1_deskCount_1 ?_
  refine lv_iconst (v := 4) hx hb dX1_deskCount_4 (by decide) ?_
  refine lv_imul hx hb dX1_deskCount_5 ?_
  exact xro_i C h dX1_deskCount_6

def wp_X1_hasDesk (r0 : zS) (p1 : Int32) (post : Int32 → Prop) : Prop :=
  (p1 < 0 → post (0 : Int32) ) ∧ (¬ p1 < 0 → wp_X1_deskCount r0 (fun v2 => (v2 ≤ p1 → post (0 : Int32) ) ∧ (¬ v2 ≤ p1 → post (1 : Int32) )))
set_option maxHeartbeats 4000000 in
set_option maxRecDepth 100000 in
theorem c_X1_hasDesk {l : Launch} {D : va_G} {K : Nat → ClassId} {h0 : Nat} {a0 : Nat → Nat} {r0 : zS} {p1 : Int32} {sz : Nat} {post : Int32 → Prop}   (h : wp_X1_hasDesk r0 p1 post) : Met l yX1_hasDesk (Cond.code yX1_hasDesk cX1_hasDesk 2 (some .boolean) :: wsL_law) ({ frames := 1, cells := 0, slots := 0, locals := 20 } : Room) (va_Pc [.ref h0, .int p1] (xPre D vwCl (xty K) (wX1 K h0 a0 r0) sz)) (roI post) 0 0 (fun _ => False) := by
  refine xMet (by decide) rfl (Nat.le_of_ble_eq_true rfl) (fun p e s m args below meth c C hnm hP hD hsz ls hl => ?_)
  have hl : lv_has ls 2 [(0, .ref h0), (1, .int p1)] := hl
  obtain ⟨hx, hb, hr, hml, hown, hts, hlocks, hK, hT⟩ := id C
  unfold wp_X1_hasDesk at h
  refine lv_iload_n hx hb dX1_hasDesk_0 rfl (lv_at hl 1 rfl) ?_
  refine lv_if_lt (tgt := 16) hx hb dX1_hasDesk_1 (by decide) (fun c1 => ?_) (fun c1 => ?_)
  · replace h := And.left h c1
    refine lv_iconst (v := 0) hx hb dX1_hasDesk_16 (by decide) ?_
    exact xro_z C rfl h dX1_hasDesk_17
  · replace h := And.right h c1
    refine lv_iload_n hx hb dX1_hasDesk_4 rfl (lv_at hl 1 rfl) ?_
    refine lv_aload_n hx hb dX1_hasDesk_5 rfl (lv_at hl 0 rfl) ?_
    refine xend_ro_i (xRunV_id (As := []) (rest := [.int p1]) C (c_X1_deskCount h) k_X1_deskCount mw_378 ⟨rfl, rfl⟩ ⟨Nat.le_of_ble_eq_true rfl, Nat.le_of_ble_eq_true rfl⟩ hP hD rfl rfl hl rfl rfl (Nat.le_of_ble_eq_true rfl) dX1_hasDesk_6 ⟨Nat.le_refl _, Nat.le_refl _⟩) (fun v2 h => ?_)
    refine lv_icmp_ge (tgt := 16) hx hb dX1_hasDesk_9 (by decide) (fun c3 => ?_) (fun c3 => ?_)
    · replace h := And.left h c3
      refine lv_iconst (v := 0) hx hb dX1_hasDesk_16 (by decide) ?_
      exact xro_z C rfl h dX1_hasDesk_17
    · replace h := And.right h c3
      refine lv_iconst (v := 1) hx hb dX1_hasDesk_12 (by decide) ?_
      refine lv_goto (tgt := 17) hx hb dX1_hasDesk_13 (by decide) ?_
      exact xro_z C rfl h dX1_hasDesk_17

def wp_X1_everybody (r0 : zS) (post : Int32 → Prop) : Prop :=
  post (((1 : Int32) <<< ((r0.1 1) &&& 31)) - (1 : Int32)) 
set_option maxHeartbeats 4000000 in
set_option maxRecDepth 100000 in
theorem c_X1_everybody {l : Launch} {D : va_G} {K : Nat → ClassId} {h0 : Nat} {a0 : Nat → Nat} {r0 : zS}  {sz : Nat} {post : Int32 → Prop}   (h : wp_X1_everybody r0 post) : Met l yX1_everybody (Cond.code yX1_everybody cX1_everybody 1 (some .int) :: wsL_law) ({ frames := 0, cells := 0, slots := 0, locals := 0 } : Room) (va_Pc [.ref h0] (xPre D vwCl (xty K) (wX1 K h0 a0 r0) sz)) (roI post) 0 0 (fun _ => False) := by
  refine xMet (by decide) rfl (Nat.le_of_ble_eq_true rfl) (fun p e s m args below meth c C hnm hP hD hsz ls hl => ?_)
  have hl : lv_has ls 1 [(0, .ref h0)] := hl
  obtain ⟨hx, hb, hr, hml, hown, hts, hlocks, hK, hT⟩ := id C
  unfold wp_X1_everybody at h
  refine lv_iconst (v := 1) hx hb dX1_everybody_0 (by decide) ?_
  refine lv_aload_n hx hb dX1_everybody_1 rfl (lv_at hl 0 rfl) ?_
  refine va_get (D := D) (ci := 1) (v := .int (r0.1 1)) (C := RX1) (T := TX1) (N := 10) hx hb hts inlX1 hown hK hP 0 rfl rfl 1 (by decide) (hts (.fieldLink RX1 15 "UnderTheDesks$Room" "count" "I") mw_52) (fun _ h9 => h9) rfl dX1_everybody_2 ?_
  refine lv_ishl hx hb dX1_everybody_5 ?_
  refine lv_iconst (v := 1) hx hb dX1_everybody_6 (by decide) ?_
  refine lv_isub hx hb dX1_everybody_7 ?_
  exact xro_i C h dX1_everybody_8

def wp_X1_kindOf (r0 : zS) (p1 : Int32) (post : Int32 → Prop) : Prop :=
  wp_X1_has r0 p1 (fun v1 => (v1 = 0 → post (-1 : Int32) ) ∧ (¬ v1 = 0 → vp_in p1 12 ∧ (post (r0.2.1 5 p1.toNatClampNeg) )))
set_option maxHeartbeats 4000000 in
set_option maxRecDepth 100000 in
theorem c_X1_kindOf {l : Launch} {D : va_G} {K : Nat → ClassId} {h0 : Nat} {a0 : Nat → Nat} {r0 : zS} {p1 : Int32} {sz : Nat} {post : Int32 → Prop}   (h : wp_X1_kindOf r0 p1 post) : Met l yX1_kindOf (Cond.code yX1_kindOf cX1_kindOf 2 (some .int) :: wsL_law) ({ frames := 1, cells := 0, slots := 0, locals := 21 } : Room) (va_Pc [.ref h0, .int p1] (xPre D vwCl (xty K) (wX1 K h0 a0 r0) sz)) (roI post) 0 0 (fun _ => False) := by
  refine xMet (by decide) rfl (Nat.le_of_ble_eq_true rfl) (fun p e s m args below meth c C hnm hP hD hsz ls hl => ?_)
  have hl : lv_has ls 2 [(0, .ref h0), (1, .int p1)] := hl
  obtain ⟨hx, hb, hr, hml, hown, hts, hlocks, hK, hT⟩ := id C
  unfold wp_X1_kindOf at h
  refine lv_aload_n hx hb dX1_kindOf_0 rfl (lv_at hl 0 rfl) ?_
  refine lv_iload_n hx hb dX1_kindOf_1 rfl (lv_at hl 1 rfl) ?_
  refine xend_ro_i (xRunV_id (As := [.int p1]) (rest := []) C (c_X1_has h) k_X1_has mw_283 ⟨rfl, rfl⟩ ⟨Nat.le_of_ble_eq_true rfl, Nat.le_of_ble_eq_true rfl⟩ hP hD rfl rfl hl rfl rfl (Nat.le_of_ble_eq_true rfl) dX1_kindOf_2 ⟨Nat.le_refl _, Nat.le_refl _⟩) (fun v1 h => ?_)
  refine lv_if_eq (tgt := 17) hx hb dX1_kindOf_5 (by decide) (fun c2 => ?_) (fun c2 => ?_)
  · replace h := And.left h c2
    refine lv_iconst (v := -1) hx hb dX1_kindOf_17 (by decide) ?_
    exact xro_i C h dX1_kindOf_18
  · replace h := And.right h c2
    refine lv_aload_n hx hb dX1_kindOf_8 rfl (lv_at hl 0 rfl) ?_
    refine va_get (D := D) (ci := 1) (v := .ref (a0 5)) (C := RX1) (T := TX1) (N := 10) hx hb hts inlX1 hown hK hP 0 rfl rfl 5 (by decide) (hts (.fieldLink RX1 27 "UnderTheDesks$Room" "kinds" "[I") mw_56) (fun _ h9 => h9) rfl dX1_kindOf_9 ?_
    refine lv_iload_n hx hb dX1_kindOf_12 rfl (lv_at hl 1 rfl) ?_
    have hin := And.left h
    replace h := And.right h
    refine va_iald hx hb hK hP 1 0 rfl rfl hin dX1_kindOf_13 ?_
    refine lv_goto (tgt := 18) hx hb dX1_kindOf_14 (by decide) ?_
    exact xro_i C h dX1_kindOf_18

def wp_X1_deskOf (r0 : zS) (p1 : Int32) (post : Int32 → Prop) : Prop :=
  wp_X1_has r0 p1 (fun v1 => (v1 = 0 → post (-1 : Int32) ) ∧ (¬ v1 = 0 → vp_in p1 12 ∧ (post (r0.2.1 6 p1.toNatClampNeg) )))
set_option maxHeartbeats 4000000 in
set_option maxRecDepth 100000 in
theorem c_X1_deskOf {l : Launch} {D : va_G} {K : Nat → ClassId} {h0 : Nat} {a0 : Nat → Nat} {r0 : zS} {p1 : Int32} {sz : Nat} {post : Int32 → Prop}   (h : wp_X1_deskOf r0 p1 post) : Met l yX1_deskOf (Cond.code yX1_deskOf cX1_deskOf 2 (some .int) :: wsL_law) ({ frames := 1, cells := 0, slots := 0, locals := 21 } : Room) (va_Pc [.ref h0, .int p1] (xPre D vwCl (xty K) (wX1 K h0 a0 r0) sz)) (roI post) 0 0 (fun _ => False) := by
  refine xMet (by decide) rfl (Nat.le_of_ble_eq_true rfl) (fun p e s m args below meth c C hnm hP hD hsz ls hl => ?_)
  have hl : lv_has ls 2 [(0, .ref h0), (1, .int p1)] := hl
  obtain ⟨hx, hb, hr, hml, hown, hts, hlocks, hK, hT⟩ := id C
  unfold wp_X1_deskOf at h
  refine lv_aload_n hx hb dX1_deskOf_0 rfl (lv_at hl 0 rfl) ?_
  refine lv_iload_n hx hb dX1_deskOf_1 rfl (lv_at hl 1 rfl) ?_
  refine xend_ro_i (xRunV_id (As := [.int p1]) (rest := []) C (c_X1_has h) k_X1_has mw_283 ⟨rfl, rfl⟩ ⟨Nat.le_of_ble_eq_true rfl, Nat.le_of_ble_eq_true rfl⟩ hP hD rfl rfl hl rfl rfl (Nat.le_of_ble_eq_true rfl) dX1_deskOf_2 ⟨Nat.le_refl _, Nat.le_refl _⟩) (fun v1 h => ?_)
  refine lv_if_eq (tgt := 17) hx hb dX1_deskOf_5 (by decide) (fun c2 => ?_) (fun c2 => ?_)
  · replace h := And.left h c2
    refine lv_iconst (v := -1) hx hb dX1_deskOf_17 (by decide) ?_
    exact xro_i C h dX1_deskOf_18
  · replace h := And.right h c2
    refine lv_aload_n hx hb dX1_deskOf_8 rfl (lv_at hl 0 rfl) ?_
    refine va_get (D := D) (ci := 1) (v := .ref (a0 6)) (C := RX1) (T := TX1) (N := 10) hx hb hts inlX1 hown hK hP 0 rfl rfl 6 (by decide) (hts (.fieldLink RX1 31 "UnderTheDesks$Room" "desks" "[I") mw_57) (fun _ h9 => h9) rfl dX1_deskOf_9 ?_
    refine lv_iload_n hx hb dX1_deskOf_12 rfl (lv_at hl 1 rfl) ?_
    have hin := And.left h
    replace h := And.right h
    refine va_iald hx hb hK hP 2 0 rfl rfl hin dX1_deskOf_13 ?_
    refine lv_goto (tgt := 18) hx hb dX1_deskOf_14 (by decide) ?_
    exact xro_i C h dX1_deskOf_18

def wp_X1_markOf (r0 : zS) (p1 : Int32) (post : Int32 → Prop) : Prop :=
  wp_X1_has r0 p1 (fun v1 => (v1 = 0 → post (-1 : Int32) ) ∧ (¬ v1 = 0 → vp_in p1 12 ∧ (post (r0.2.1 7 p1.toNatClampNeg) )))
set_option maxHeartbeats 4000000 in
set_option maxRecDepth 100000 in
theorem c_X1_markOf {l : Launch} {D : va_G} {K : Nat → ClassId} {h0 : Nat} {a0 : Nat → Nat} {r0 : zS} {p1 : Int32} {sz : Nat} {post : Int32 → Prop}   (h : wp_X1_markOf r0 p1 post) : Met l yX1_markOf (Cond.code yX1_markOf cX1_markOf 2 (some .int) :: wsL_law) ({ frames := 1, cells := 0, slots := 0, locals := 21 } : Room) (va_Pc [.ref h0, .int p1] (xPre D vwCl (xty K) (wX1 K h0 a0 r0) sz)) (roI post) 0 0 (fun _ => False) := by
  refine xMet (by decide) rfl (Nat.le_of_ble_eq_true rfl) (fun p e s m args below meth c C hnm hP hD hsz ls hl => ?_)
  have hl : lv_has ls 2 [(0, .ref h0), (1, .int p1)] := hl
  obtain ⟨hx, hb, hr, hml, hown, hts, hlocks, hK, hT⟩ := id C
  unfold wp_X1_markOf at h
  refine lv_aload_n hx hb dX1_markOf_0 rfl (lv_at hl 0 rfl) ?_
  refine lv_iload_n hx hb dX1_markOf_1 rfl (lv_at hl 1 rfl) ?_
  refine xend_ro_i (xRunV_id (As := [.int p1]) (rest := []) C (c_X1_has h) k_X1_has mw_283 ⟨rfl, rfl⟩ ⟨Nat.le_of_ble_eq_true rfl, Nat.le_of_ble_eq_true rfl⟩ hP hD rfl rfl hl rfl rfl (Nat.le_of_ble_eq_true rfl) dX1_markOf_2 ⟨Nat.le_refl _, Nat.le_refl _⟩) (fun v1 h => ?_)
  refine lv_if_eq (tgt := 17) hx hb dX1_markOf_5 (by decide) (fun c2 => ?_) (fun c2 => ?_)
  · replace h := And.left h c2
    refine lv_iconst (v := -1) hx hb dX1_markOf_17 (by decide) ?_
    exact xro_i C h dX1_markOf_18
  · replace h := And.right h c2
    refine lv_aload_n hx hb dX1_markOf_8 rfl (lv_at hl 0 rfl) ?_
    refine va_get (D := D) (ci := 1) (v := .ref (a0 7)) (C := RX1) (T := TX1) (N := 10) hx hb hts inlX1 hown hK hP 0 rfl rfl 7 (by decide) (hts (.fieldLink RX1 34 "UnderTheDesks$Room" "marks" "[I") mw_58) (fun _ h9 => h9) rfl dX1_markOf_9 ?_
    refine lv_iload_n hx hb dX1_markOf_12 rfl (lv_at hl 1 rfl) ?_
    have hin := And.left h
    replace h := And.right h
    refine va_iald hx hb hK hP 3 0 rfl rfl hin dX1_markOf_13 ?_
    refine lv_goto (tgt := 18) hx hb dX1_markOf_14 (by decide) ?_
    exact xro_i C h dX1_markOf_18

def wp_X1_nearOf (r0 : zS) (p1 : Int32) (post : Int32 → Prop) : Prop :=
  wp_X1_has r0 p1 (fun v1 => (v1 = 0 → post (0 : Int32) ) ∧ (¬ v1 = 0 → vp_in p1 12 ∧ (post (r0.2.1 9 p1.toNatClampNeg) )))
set_option maxHeartbeats 4000000 in
set_option maxRecDepth 100000 in
theorem c_X1_nearOf {l : Launch} {D : va_G} {K : Nat → ClassId} {h0 : Nat} {a0 : Nat → Nat} {r0 : zS} {p1 : Int32} {sz : Nat} {post : Int32 → Prop}   (h : wp_X1_nearOf r0 p1 post) : Met l yX1_nearOf (Cond.code yX1_nearOf cX1_nearOf 2 (some .int) :: wsL_law) ({ frames := 1, cells := 0, slots := 0, locals := 21 } : Room) (va_Pc [.ref h0, .int p1] (xPre D vwCl (xty K) (wX1 K h0 a0 r0) sz)) (roI post) 0 0 (fun _ => False) := by
  refine xMet (by decide) rfl (Nat.le_of_ble_eq_true rfl) (fun p e s m args below meth c C hnm hP hD hsz ls hl => ?_)
  have hl : lv_has ls 2 [(0, .ref h0), (1, .int p1)] := hl
  obtain ⟨hx, hb, hr, hml, hown, hts, hlocks, hK, hT⟩ := id C
  unfold wp_X1_nearOf at h
  refine lv_aload_n hx hb dX1_nearOf_0 rfl (lv_at hl 0 rfl) ?_
  refine lv_iload_n hx hb dX1_nearOf_1 rfl (lv_at hl 1 rfl) ?_
  refine xend_ro_i (xRunV_id (As := [.int p1]) (rest := []) C (c_X1_has h) k_X1_has mw_283 ⟨rfl, rfl⟩ ⟨Nat.le_of_ble_eq_true rfl, Nat.le_of_ble_eq_true rfl⟩ hP hD rfl rfl hl rfl rfl (Nat.le_of_ble_eq_true rfl) dX1_nearOf_2 ⟨Nat.le_refl _, Nat.le_refl _⟩) (fun v1 h => ?_)
  refine lv_if_eq (tgt := 17) hx hb dX1_nearOf_5 (by decide) (fun c2 => ?_) (fun c2 => ?_)
  · replace h := And.left h c2
    refine lv_iconst (v := 0) hx hb dX1_nearOf_17 (by decide) ?_
    exact xro_i C h dX1_nearOf_18
  · replace h := And.right h c2
    refine lv_aload_n hx hb dX1_nearOf_8 rfl (lv_at hl 0 rfl) ?_
    refine va_get (D := D) (ci := 1) (v := .ref (a0 9)) (C := RX1) (T := TX1) (N := 10) hx hb hts inlX1 hown hK hP 0 rfl rfl 9 (by decide) (hts (.fieldLink RX1 40 "UnderTheDesks$Room" "near" "[I") mw_60) (fun _ h9 => h9) rfl dX1_nearOf_9 ?_
    refine lv_iload_n hx hb dX1_nearOf_12 rfl (lv_at hl 1 rfl) ?_
    have hin := And.left h
    replace h := And.right h
    refine va_iald hx hb hK hP 5 0 rfl rfl hin dX1_nearOf_13 ?_
    refine lv_goto (tgt := 18) hx hb dX1_nearOf_14 (by decide) ?_
    exact xro_i C h dX1_nearOf_18

def wp_X1_barredOf (r0 : zS) (p1 : Int32) (post : Int32 → Prop) : Prop :=
  wp_X1_has r0 p1 (fun v1 => (v1 = 0 → post (0 : Int32) ) ∧ (¬ v1 = 0 → vp_in p1 12 ∧ (post (r0.2.1 8 p1.toNatClampNeg) )))
set_option maxHeartbeats 4000000 in
set_option maxRecDepth 100000 in
theorem c_X1_barredOf {l : Launch} {D : va_G} {K : Nat → ClassId} {h0 : Nat} {a0 : Nat → Nat} {r0 : zS} {p1 : Int32} {sz : Nat} {post : Int32 → Prop}   (h : wp_X1_barredOf r0 p1 post) : Met l yX1_barredOf (Cond.code yX1_barredOf cX1_barredOf 2 (some .int) :: wsL_law) ({ frames := 1, cells := 0, slots := 0, locals := 21 } : Room) (va_Pc [.ref h0, .int p1] (xPre D vwCl (xty K) (wX1 K h0 a0 r0) sz)) (roI post) 0 0 (fun _ => False) := by
  refine xMet (by decide) rfl (Nat.le_of_ble_eq_true rfl) (fun p e s m args below meth c C hnm hP hD hsz ls hl => ?_)
  have hl : lv_has ls 2 [(0, .ref h0), (1, .int p1)] := hl
  obtain ⟨hx, hb, hr, hml, hown, hts, hlocks, hK, hT⟩ := id C
  unfold wp_X1_barredOf at h
  refine lv_aload_n hx hb dX1_barredOf_0 rfl (lv_at hl 0 rfl) ?_
  refine lv_iload_n hx hb dX1_barredOf_1 rfl (lv_at hl 1 rfl) ?_
  refine xend_ro_i (xRunV_id (As := [.int p1]) (rest := []) C (c_X1_has h) k_X1_has mw_283 ⟨rfl, rfl⟩ ⟨Nat.le_of_ble_eq_true rfl, Nat.le_of_ble_eq_true rfl⟩ hP hD rfl rfl hl rfl rfl (Nat.le_of_ble_eq_true rfl) dX1_barredOf_2 ⟨Nat.le_refl _, Nat.le_refl _⟩) (fun v1 h => ?_)
  refine lv_if_eq (tgt := 17) hx hb dX1_barredOf_5 (by decide) (fun c2 => ?_) (fun c2 => ?_)
  · replace h := And.left h c2
    refine lv_iconst (v := 0) hx hb dX1_barredOf_17 (by decide) ?_
    exact xro_i C h dX1_barredOf_18
  · replace h := And.right h c2
    refine lv_aload_n hx hb dX1_barredOf_8 rfl (lv_at hl 0 rfl) ?_
    refine va_get (D := D) (ci := 1) (v := .ref (a0 8)) (C := RX1) (T := TX1) (N := 10) hx hb hts inlX1 hown hK hP 0 rfl rfl 8 (by decide) (hts (.fieldLink RX1 37 "UnderTheDesks$Room" "barred" "[I") mw_59) (fun _ h9 => h9) rfl dX1_barredOf_9 ?_
    refine lv_iload_n hx hb dX1_barredOf_12 rfl (lv_at hl 1 rfl) ?_
    have hin := And.left h
    replace h := And.right h
    refine va_iald hx hb hK hP 4 0 rfl rfl hin dX1_barredOf_13 ?_
    refine lv_goto (tgt := 18) hx hb dX1_barredOf_14 (by decide) ?_
    exact xro_i C h dX1_barredOf_18

def wp_X1_neighboursOf (r0 : zS) (p1 : Int32) (post : Int32 → Prop) : Prop :=
  wp_X1_nearOf r0 p1 (fun v1 => wp_J6_bitCount_0f7a4 v1 (fun v2 => post v2 ))
set_option maxHeartbeats 4000000 in
set_option maxRecDepth 100000 in
theorem c_X1_neighboursOf {l : Launch} {D : va_G} {K : Nat → ClassId} {h0 : Nat} {a0 : Nat → Nat} {r0 : zS} {p1 : Int32} {sz : Nat} {post : Int32 → Prop}   (h : wp_X1_neighboursOf r0 p1 post) : Met l yX1_neighboursOf (Cond.code yX1_neighboursOf cX1_neighboursOf 2 (some .int) :: wsL_law) ({ frames := 2, cells := 0, slots := 0, locals := 42 } : Room) (va_Pc [.ref h0, .int p1] (xPre D vwCl (xty K) (wX1 K h0 a0 r0) sz)) (roI post) 0 0 (fun _ => False) := by
  refine xMet (by decide) rfl (Nat.le_of_ble_eq_true rfl) (fun p e s m args below meth c C hnm hP hD hsz ls hl => ?_)
  have hl : lv_has ls 2 [(0, .ref h0), (1, .int p1)] := hl
  obtain ⟨hx, hb, hr, hml, hown, hts, hlocks, hK, hT⟩ := id C
  unfold wp_X1_neighboursOf at h
  refine lv_aload_n hx hb dX1_neighboursOf_0 rfl (lv_at hl 0 rfl) ?_
  refine lv_iload_n hx hb dX1_neighboursOf_1 rfl (lv_at hl 1 rfl) ?_
  refine xend_ro_i (xRunV_id (As := [.int p1]) (rest := []) C (c_X1_nearOf h) k_X1_nearOf mw_302 ⟨rfl, rfl⟩ ⟨Nat.le_of_ble_eq_true rfl, Nat.le_of_ble_eq_true rfl⟩ hP hD rfl rfl hl rfl rfl (Nat.le_of_ble_eq_true rfl) dX1_neighboursOf_2 ⟨Nat.le_refl _, Nat.le_refl _⟩) (fun v1 h => ?_)
  refine xend_ro_i (xRunS (wc := ([] : va_W)) (As := [.int v1]) (rest := []) C (c_J6_bitCount_0f7a4 h) k_J6_bitCount_0f7a4 mw_306 ⟨rfl, rfl⟩ ⟨Nat.le_of_ble_eq_true rfl, Nat.le_of_ble_eq_true rfl⟩ hP hD [] rfl rfl hl rfl rfl (Nat.le_of_ble_eq_true rfl) dX1_neighboursOf_5 ⟨Nat.le_refl _, Nat.le_refl _⟩) (fun v2 h => ?_)
  exact xro_i C h dX1_neighboursOf_8

def wb_X1_holderOf_2 (r0 : zS) (p1 : Int32) (post : Int32 → Prop) (ih : Int32 → Prop) (x2 : Int32) : Prop :=
  ((r0.1 1) ≤ x2 → post (-1 : Int32) ) ∧ (¬ (r0.1 1) ≤ x2 → ((12 : Int32) ≤ x2 → post (-1 : Int32) ) ∧ (¬ (12 : Int32) ≤ x2 → vp_in x2 12 ∧ (((r0.2.1 6 x2.toNatClampNeg) = p1 → post x2 ) ∧ (¬ (r0.2.1 6 x2.toNatClampNeg) = p1 → ∀ v4 : Int32, v4 = x2 + (1 : Int32) → ih v4))))
def wp_X1_holderOf_2 (r0 : zS) (p1 : Int32) (post : Int32 → Prop) (n : Nat) : Int32 → Prop := Nat.rec (motive := fun _ => Int32 → Prop) (fun _ => False) (fun _ ih => wb_X1_holderOf_2 r0 p1 post ih) n
theorem wu_X1_holderOf_2 (r0 : zS) (p1 : Int32) (post : Int32 → Prop) (n : Nat) (x2 : Int32) : wp_X1_holderOf_2 r0 p1 post (n + 1) x2 = wb_X1_holderOf_2 r0 p1 post (wp_X1_holderOf_2 r0 p1 post n) x2 := rfl
def wp_X1_holderOf (r0 : zS) (p1 : Int32) (post : Int32 → Prop) : Prop :=
  ∃ n : Nat, wp_X1_holderOf_2 r0 p1 post n (0 : Int32)
set_option maxHeartbeats 4000000 in
set_option maxRecDepth 100000 in
theorem t_X1_holderOf_2 {p : Program} {l : Launch} {e : Env} {s : State} {m : MethodId} {args : Array Value} {below : List Frame} {meth : Method} {c : Code} {D : va_G} {K : Nat → ClassId} {h0 : Nat} {a0 : Nat → Nat} {r0 : zS} {p1 : Int32} {post : Int32 → Prop} (C : xC p s m args meth c cX1_holderOf RX1 3 (some .int) D vwCl (xty K)) (hP : va_P D vwCl (wX1 K h0 a0 r0) s.heap) (hD : va_D (va_A (wX1 K h0 a0 r0) s.heap.size) (wX1 K h0 a0 r0)) : ∀ (n : Nat) (x2 : Int32) (ls : Array Slot), lv_has ls 3 [(0, .ref h0), (1, .int p1), (2, .int x2)] → wp_X1_holderOf_2 r0 p1 post n x2 → W p l e ({ frames := 0, cells := 0, slots := 0, locals := 0 } : Room) s m args below meth c s.heap [] 0 0 (MQ below (roI post) args s 0 0 (fun _ => False)) (F0 m 2 ls []) := by
  obtain ⟨hx, hb, hr, hml, hown, hts, hlocks, hK, hT⟩ := id C
  intro n
  induction n with
  | zero =>
    intro x2 ls hl h
    exact False.elim h
  | succ n ihn =>
    intro x2 ls hl h
    rw [wu_X1_holderOf_2] at h
    unfold wb_X1_holderOf_2 at h
    refine lv_iload_n hx hb dX1_holderOf_2 rfl (lv_at hl 2 rfl) ?_
    refine lv_aload_n hx hb dX1_holderOf_3 rfl (lv_at hl 0 rfl) ?_
    refine va_get (D := D) (ci := 1) (v := .int (r0.1 1)) (C := RX1) (T := TX1) (N := 10) hx hb hts inlX1 hown hK hP 0 rfl rfl 1 (by decide) (hts (.fieldLink RX1 15 "UnderTheDesks$Room" "count" "I") mw_52) (fun _ h9 => h9) rfl dX1_holderOf_4 ?_
    refine lv_icmp_ge (tgt := 34) hx hb dX1_holderOf_7 (by decide) (fun c1 => ?_) (fun c1 => ?_)
    · replace h := And.left h c1
      refine lv_iconst (v := -1) hx hb dX1_holderOf_34 (by decide) ?_
      exact xro_i C h dX1_holderOf_35
    · replace h := And.right h c1
      refine lv_iload_n hx hb dX1_holderOf_10 rfl (lv_at hl 2 rfl) ?_
      refine lv_bipush (v := 12) hx hb dX1_holderOf_11 (by decide) ?_
      refine lv_icmp_ge (tgt := 34) hx hb dX1_holderOf_13 (by decide) (fun c2 => ?_) (fun c2 => ?_)
      · replace h := And.left h c2
        refine lv_iconst (v := -1) hx hb dX1_holderOf_34 (by decide) ?_
        exact xro_i C h dX1_holderOf_35
      · replace h := And.right h c2
        refine lv_aload_n hx hb dX1_holderOf_16 rfl (lv_at hl 0 rfl) ?_
        refine va_get (D := D) (ci := 1) (v := .ref (a0 6)) (C := RX1) (T := TX1) (N := 10) hx hb hts inlX1 hown hK hP 0 rfl rfl 6 (by decide) (hts (.fieldLink RX1 31 "UnderTheDesks$Room" "desks" "[I") mw_57) (fun _ h9 => h9) rfl dX1_holderOf_17 ?_
        refine lv_iload_n hx hb dX1_holderOf_20 rfl (lv_at hl 2 rfl) ?_
        have hin := And.left h
        replace h := And.right h
        refine va_iald hx hb hK hP 2 0 rfl rfl hin dX1_holderOf_21 ?_
        refine lv_iload_n hx hb dX1_holderOf_22 rfl (lv_at hl 1 rfl) ?_
        refine lv_icmp_ne (tgt := 28) hx hb dX1_holderOf_23 (by decide) (fun c3 => ?_) (fun c3 => ?_)
        · replace h := And.right h c3
          obtain ⟨v4, ev4⟩ : ∃ y : Int32, y = x2 + (1 : Int32) := ⟨_, rfl⟩
          replace h := h v4 ev4
          refine lv_iinc (v := v4) (lv' := [(2, .int v4), (0, .ref h0), (1, .int p1)]) hx hb dX1_holderOf_28 hl (k := 2) rfl (by rw [ev4]; rfl) (by decide) rfl (fun ls hl => ?_)
          refine lv_goto (tgt := 2) hx hb dX1_holderOf_31 (by decide) ?_
          exact ihn _ _ (lv_sub hl [1, 2, 0] rfl) h
        · replace h := And.left h c3
          refine lv_iload_n hx hb dX1_holderOf_26 rfl (lv_at hl 2 rfl) ?_
          exact xro_i C h dX1_holderOf_27
set_option maxHeartbeats 4000000 in
set_option maxRecDepth 100000 in
theorem c_X1_holderOf {l : Launch} {D : va_G} {K : Nat → ClassId} {h0 : Nat} {a0 : Nat → Nat} {r0 : zS} {p1 : Int32} {sz : Nat} {post : Int32 → Prop}   (h : wp_X1_holderOf r0 p1 post) : Met l yX1_holderOf (Cond.code yX1_holderOf cX1_holderOf 3 (some .int) :: wsL_law) ({ frames := 0, cells := 0, slots := 0, locals := 0 } : Room) (va_Pc [.ref h0, .int p1] (xPre D vwCl (xty K) (wX1 K h0 a0 r0) sz)) (roI post) 0 0 (fun _ => False) := by
  refine xMet (by decide) rfl (Nat.le_of_ble_eq_true rfl) (fun p e s m args below meth c C hnm hP hD hsz ls hl => ?_)
  have hl : lv_has ls 3 [(0, .ref h0), (1, .int p1)] := hl
  obtain ⟨hx, hb, hr, hml, hown, hts, hlocks, hK, hT⟩ := id C
  unfold wp_X1_holderOf at h
  refine lv_iconst (v := 0) hx hb dX1_holderOf_0 (by decide) ?_
  refine lv_istore_n (lv' := [(2, .int (0 : Int32)), (0, .ref h0), (1, .int p1)]) hx hb dX1_holderOf_1 rfl hl (by decide) rfl (fun ls hl => ?_)
  obtain ⟨n0, h⟩ := h
  exact t_X1_holderOf_2 C hP hD n0 _ _ (lv_sub hl [1, 2, 0] rfl) h

def wp_X1_areBeside (p0 : Int32) (p1 : Int32) (post : Int32 → Prop) : Prop :=
  (((if 0 ≤ ((p0 / (4 : Int32)) - (p1 / (4 : Int32))) then ((p0 / (4 : Int32)) - (p1 / (4 : Int32))) else 0 - ((p0 / (4 : Int32)) - (p1 / (4 : Int32)))) + (if 0 ≤ ((p0 - p0 / (4 : Int32) * (4 : Int32)) - (p1 - p1 / (4 : Int32) * (4 : Int32))) then ((p0 - p0 / (4 : Int32) * (4 : Int32)) - (p1 - p1 / (4 : Int32) * (4 : Int32))) else 0 - ((p0 - p0 / (4 : Int32) * (4 : Int32)) - (p1 - p1 / (4 : Int32) * (4 : Int32))))) = (1 : Int32) → post (1 : Int32) ) ∧ (¬ ((if 0 ≤ ((p0 / (4 : Int32)) - (p1 / (4 : Int32))) then ((p0 / (4 : Int32)) - (p1 / (4 : Int32))) else 0 - ((p0 / (4 : Int32)) - (p1 / (4 : Int32)))) + (if 0 ≤ ((p0 - p0 / (4 : Int32) * (4 : Int32)) - (p1 - p1 / (4 : Int32) * (4 : Int32))) then ((p0 - p0 / (4 : Int32) * (4 : Int32)) - (p1 - p1 / (4 : Int32) * (4 : Int32))) else 0 - ((p0 - p0 / (4 : Int32) * (4 : Int32)) - (p1 - p1 / (4 : Int32) * (4 : Int32))))) = (1 : Int32) → post (0 : Int32) )
set_option maxHeartbeats 4000000 in
set_option maxRecDepth 100000 in
theorem c_X1_areBeside {l : Launch} {D : va_G} {K : Nat → ClassId}  {p0 : Int32} {p1 : Int32} {sz : Nat} {post : Int32 → Prop}   (h : wp_X1_areBeside p0 p1 post) : Met l yX1_areBeside (Cond.code yX1_areBeside cX1_areBeside 2 (some .boolean) :: wsL_law) ({ frames := 1, cells := 0, slots := 0, locals := 80 } : Room) (va_Pc [.int p0, .int p1] (xPre D vwCl (xty K) ([] : va_W) sz)) (roI post) 0 0 (fun _ => False) := by
  refine xMet (by decide) rfl (Nat.le_of_ble_eq_true rfl) (fun p e s m args below meth c C hnm hP hD hsz ls hl => ?_)
  have hl : lv_has ls 2 [(0, .int p0), (1, .int p1)] := hl
  obtain ⟨hx, hb, hr, hml, hown, hts, hlocks, hK, hT⟩ := id C
  unfold wp_X1_areBeside at h
  refine lv_iload_n hx hb dX1_areBeside_0 rfl (lv_at hl 0 rfl) ?_
  refine lv_iconst (v := 4) hx hb dX1_areBeside_1 (by decide) ?_
  refine lv_idiv hx hb dX1_areBeside_2 (by decide) ?_
  refine lv_iload_n hx hb dX1_areBeside_3 rfl (lv_at hl 1 rfl) ?_
  refine lv_iconst (v := 4) hx hb dX1_areBeside_4 (by decide) ?_
  refine lv_idiv hx hb dX1_areBeside_5 (by decide) ?_
  refine lv_isub hx hb dX1_areBeside_6 ?_
  refine va_mabs hx hb (by rw [hml]; exact hl.1.symm) hown (hts _ mw_404) (hts _ mw_405) (hts _ mw_406) (hts _ mw_407) (Nat.le_of_ble_eq_true rfl) (Nat.le_of_ble_eq_true rfl) (Nat.le_of_ble_eq_true rfl) (Nat.le_of_ble_eq_true rfl) dX1_areBeside_7 ?_
  refine lv_iload_n hx hb dX1_areBeside_10 rfl (lv_at hl 0 rfl) ?_
  refine lv_iconst (v := 4) hx hb dX1_areBeside_11 (by decide) ?_
  refine lv_irem hx hb dX1_areBeside_12 (by decide) ?_
  refine lv_iload_n hx hb dX1_areBeside_13 rfl (lv_at hl 1 rfl) ?_
  refine lv_iconst (v := 4) hx hb dX1_areBeside_14 (by decide) ?_
  refine lv_irem hx hb dX1_areBeside_15 (by decide) ?_
  refine lv_isub hx hb dX1_areBeside_16 ?_
  refine va_mabs hx hb (by rw [hml]; exact hl.1.symm) hown (hts _ mw_404) (hts _ mw_405) (hts _ mw_406) (hts _ mw_407) (Nat.le_of_ble_eq_true rfl) (Nat.le_of_ble_eq_true rfl) (Nat.le_of_ble_eq_true rfl) (Nat.le_of_ble_eq_true rfl) dX1_areBeside_17 ?_
  refine lv_iadd hx hb dX1_areBeside_20 ?_
  refine lv_iconst (v := 1) hx hb dX1_areBeside_21 (by decide) ?_
  refine lv_icmp_ne (tgt := 29) hx hb dX1_areBeside_22 (by decide) (fun c1 => ?_) (fun c1 => ?_)
  · replace h := And.right h c1
    refine lv_iconst (v := 0) hx hb dX1_areBeside_29 (by decide) ?_
    exact xro_z C rfl h dX1_areBeside_30
  · replace h := And.left h c1
    refine lv_iconst (v := 1) hx hb dX1_areBeside_25 (by decide) ?_
    refine lv_goto (tgt := 30) hx hb dX1_areBeside_26 (by decide) ?_
    exact xro_z C rfl h dX1_areBeside_30

def wp_X1_link_88  (post : (zS) → Prop) (k2 : (zS) → Int32 → Prop) (r0 : zS) (x1 : Int32) : Prop :=
  ∀ v5 : Int32, v5 = x1 + (1 : Int32) → k2 r0 v5
def wp_X1_link_82  (post : (zS) → Prop) (k2 : (zS) → Int32 → Prop) (k25 : (zS) → Int32 → Int32 → Prop) (r0 : zS) (x1 : Int32) (x2 : Int32) : Prop :=
  ∀ v9 : Int32, v9 = x2 + (1 : Int32) → k25 r0 x1 v9
def wb_X1_link_25  (post : (zS) → Prop) (k2 : (zS) → Int32 → Prop) (ih : (zS) → Int32 → Int32 → Prop) (r0 : zS) (x1 : Int32) (x2 : Int32) : Prop :=
  ((r0.1 1) ≤ x2 → wp_X1_link_88  post k2 r0 x1) ∧ (¬ (r0.1 1) ≤ x2 → ((12 : Int32) ≤ x2 → wp_X1_link_88  post k2 r0 x1) ∧ (¬ (12 : Int32) ≤ x2 → vp_in x1 12 ∧ (vp_in x2 12 ∧ (wp_X1_areBeside (r0.2.1 6 x1.toNatClampNeg) (r0.2.1 6 x2.toNatClampNeg) (fun v7 => (v7 = 0 → wp_X1_link_82  post k2 ih r0 x1 x2) ∧ (¬ v7 = 0 → vp_in x1 12 ∧ (((((r0.2.1 8 x1.toNatClampNeg) >>> (x2 &&& 31)) &&& (1 : Int32)) = 0 → vp_in x1 12 ∧ (∀ v11 : Int32, v11 = ((r0.2.1 9 x1.toNatClampNeg) ||| ((1 : Int32) <<< (x2 &&& 31))) → vp_in x1 12 ∧ (∀ j12 : Nat, j12 = x1.toNatClampNeg → wp_X1_link_82  post k2 ih (zA r0 9 j12 v11) x1 x2))) ∧ (¬ (((r0.2.1 8 x1.toNatClampNeg) >>> (x2 &&& 31)) &&& (1 : Int32)) = 0 → wp_X1_link_82  post k2 ih r0 x1 x2))))))))
def wp_X1_link_25  (post : (zS) → Prop) (k2 : (zS) → Int32 → Prop) (n : Nat) : (zS) → Int32 → Int32 → Prop := Nat.rec (motive := fun _ => (zS) → Int32 → Int32 → Prop) (fun _ _ _ => False) (fun _ ih => wb_X1_link_25  post k2 ih) n
theorem wu_X1_link_25  (post : (zS) → Prop) (k2 : (zS) → Int32 → Prop) (n : Nat) (r0 : zS) (x1 : Int32) (x2 : Int32) : wp_X1_link_25  post k2 (n + 1) r0 x1 x2 = wb_X1_link_25  post k2 (wp_X1_link_25  post k2 n) r0 x1 x2 := rfl
def wb_X1_link_2  (post : (zS) → Prop) (ih : (zS) → Int32 → Prop) (r0 : zS) (x1 : Int32) : Prop :=
  ((r0.1 1) ≤ x1 → post r0) ∧ (¬ (r0.1 1) ≤ x1 → ((12 : Int32) ≤ x1 → post r0) ∧ (¬ (12 : Int32) ≤ x1 → vp_in x1 12 ∧ (∀ j3 : Nat, j3 = x1.toNatClampNeg → ∃ n : Nat, wp_X1_link_25  post ih n (zA r0 9 j3 (0 : Int32)) x1 (0 : Int32))))
def wp_X1_link_2  (post : (zS) → Prop) (n : Nat) : (zS) → Int32 → Prop := Nat.rec (motive := fun _ => (zS) → Int32 → Prop) (fun _ _ => False) (fun _ ih => wb_X1_link_2  post ih) n
theorem wu_X1_link_2  (post : (zS) → Prop) (n : Nat) (r0 : zS) (x1 : Int32) : wp_X1_link_2  post (n + 1) r0 x1 = wb_X1_link_2  post (wp_X1_link_2  post n) r0 x1 := rfl
def wp_X1_link (r0 : zS) (post : (zS) → Prop) : Prop :=
  ∃ n : Nat, wp_X1_link_2  post n r0 (0 : Int32)
set_option maxHeartbeats 4000000 in
set_option maxRecDepth 100000 in
theorem t_X1_link_88 {p : Program} {l : Launch} {e : Env} {s : State} {m : MethodId} {args : Array Value} {below : List Frame} {meth : Method} {c : Code} {D : va_G} {K : Nat → ClassId} {h0 : Nat} {a0 : Nat → Nat} {post : (zS) → Prop} {A : Nat → Prop} (C : xC p s m args meth c cX1_link RX1 3 none D vwCl (xty K)) (hA : ∀ q, s.heap.size ≤ q → A q) {k2 : (zS) → Int32 → Prop} (hk2 : ∀ (r0 : zS) (x1 : Int32) (H : Heap) (locs : List Loc) (ls : Array Slot), lv_has ls 3 [(0, .ref h0), (1, .int x1)] → va_P D vwCl (wX1 K h0 a0 r0) H → va_D A (wX1 K h0 a0 r0) → va_S A s.heap H locs → k2 r0 x1  → W p l e ({ frames := 2, cells := 0, slots := 0, locals := 101 } : Room) s m args below meth c H locs 0 0 (MQ below (va_Qv (fun (u : (zS)) => post u) (fun (u : (zS)) t => va_P D vwCl (wX1 K h0 a0 u) t.heap) A) args s 0 0 A) (F0 m 2 ls [])) : ∀ (r0 : zS) (x1 : Int32) (H : Heap) (locs : List Loc) (ls : Array Slot), lv_has ls 3 [(0, .ref h0), (1, .int x1)] → va_P D vwCl (wX1 K h0 a0 r0) H → va_D A (wX1 K h0 a0 r0) → va_S A s.heap H locs → wp_X1_link_88  post k2 r0 x1 → W p l e ({ frames := 2, cells := 0, slots := 0, locals := 101 } : Room) s m args below meth c H locs 0 0 (MQ below (va_Qv (fun (u : (zS)) => post u) (fun (u : (zS)) t => va_P D vwCl (wX1 K h0 a0 u) t.heap) A) args s 0 0 A) (F0 m 88 ls []) := by
  obtain ⟨hx, hb, hr, hml, hown, hts, hlocks, hK, hT⟩ := id C
  intro r0 x1 H locs ls hl hP hD hS h
  unfold wp_X1_link_88 at h
  obtain ⟨v5, ev5⟩ : ∃ y : Int32, y = x1 + (1 : Int32) := ⟨_, rfl⟩
  replace h := h v5 ev5
  refine lv_iinc (v := v5) (lv' := [(1, .int v5), (0, .ref h0)]) hx hb dX1_link_88 hl (k := 1) rfl (by rw [ev5]; rfl) (by decide) rfl (fun ls hl => ?_)
  refine lv_goto (tgt := 2) hx hb dX1_link_91 (by decide) ?_
  exact hk2 _ _ _ _ _ (lv_sub hl [1, 0] rfl) hP hD hS h
set_option maxHeartbeats 4000000 in
set_option maxRecDepth 100000 in
theorem t_X1_link_82 {p : Program} {l : Launch} {e : Env} {s : State} {m : MethodId} {args : Array Value} {below : List Frame} {meth : Method} {c : Code} {D : va_G} {K : Nat → ClassId} {h0 : Nat} {a0 : Nat → Nat} {post : (zS) → Prop} {A : Nat → Prop} (C : xC p s m args meth c cX1_link RX1 3 none D vwCl (xty K)) (hA : ∀ q, s.heap.size ≤ q → A q) {k2 : (zS) → Int32 → Prop} (hk2 : ∀ (r0 : zS) (x1 : Int32) (H : Heap) (locs : List Loc) (ls : Array Slot), lv_has ls 3 [(0, .ref h0), (1, .int x1)] → va_P D vwCl (wX1 K h0 a0 r0) H → va_D A (wX1 K h0 a0 r0) → va_S A s.heap H locs → k2 r0 x1  → W p l e ({ frames := 2, cells := 0, slots := 0, locals := 101 } : Room) s m args below meth c H locs 0 0 (MQ below (va_Qv (fun (u : (zS)) => post u) (fun (u : (zS)) t => va_P D vwCl (wX1 K h0 a0 u) t.heap) A) args s 0 0 A) (F0 m 2 ls [])) {k25 : (zS) → Int32 → Int32 → Prop} (hk25 : ∀ (r0 : zS) (x1 : Int32) (x2 : Int32) (H : Heap) (locs : List Loc) (ls : Array Slot), lv_has ls 3 [(0, .ref h0), (1, .int x1), (2, .int x2)] → va_P D vwCl (wX1 K h0 a0 r0) H → va_D A (wX1 K h0 a0 r0) → va_S A s.heap H locs → k25 r0 x1 x2  → W p l e ({ frames := 2, cells := 0, slots := 0, locals := 101 } : Room) s m args below meth c H locs 0 0 (MQ below (va_Qv (fun (u : (zS)) => post u) (fun (u : (zS)) t => va_P D vwCl (wX1 K h0 a0 u) t.heap) A) args s 0 0 A) (F0 m 25 ls [])) : ∀ (r0 : zS) (x1 : Int32) (x2 : Int32) (H : Heap) (locs : List Loc) (ls : Array Slot), lv_has ls 3 [(0, .ref h0), (1, .int x1), (2, .int x2)] → va_P D vwCl (wX1 K h0 a0 r0) H → va_D A (wX1 K h0 a0 r0) → va_S A s.heap H locs → wp_X1_link_82  post k2 k25 r0 x1 x2 → W p l e ({ frames := 2, cells := 0, slots := 0, locals := 101 } : Room) s m args below meth c H locs 0 0 (MQ below (va_Qv (fun (u : (zS)) => post u) (fun (u : (zS)) t => va_P D vwCl (wX1 K h0 a0 u) t.heap) A) args s 0 0 A) (F0 m 82 ls []) := by
  obtain ⟨hx, hb, hr, hml, hown, hts, hlocks, hK, hT⟩ := id C
  intro r0 x1 x2 H locs ls hl hP hD hS h
  unfold wp_X1_link_82 at h
  obtain ⟨v9, ev9⟩ : ∃ y : Int32, y = x2 + (1 : Int32) := ⟨_, rfl⟩
  replace h := h v9 ev9
  refine lv_iinc (v := v9) (lv' := [(2, .int v9), (0, .ref h0), (1, .int x1)]) hx hb dX1_link_82 hl (k := 2) rfl (by rw [ev9]; rfl) (by decide) rfl (fun ls hl => ?_)
  refine lv_goto (tgt := 25) hx hb dX1_link_85 (by decide) ?_
  exact hk25 _ _ _ _ _ _ (lv_sub hl [1, 2, 0] rfl) hP hD hS h
set_option maxHeartbeats 4000000 in
set_option maxRecDepth 100000 in
theorem t_X1_link_25 {p : Program} {l : Launch} {e : Env} {s : State} {m : MethodId} {args : Array Value} {below : List Frame} {meth : Method} {c : Code} {D : va_G} {K : Nat → ClassId} {h0 : Nat} {a0 : Nat → Nat} {post : (zS) → Prop} {A : Nat → Prop} (C : xC p s m args meth c cX1_link RX1 3 none D vwCl (xty K)) (hA : ∀ q, s.heap.size ≤ q → A q) {k2 : (zS) → Int32 → Prop} (hk2 : ∀ (r0 : zS) (x1 : Int32) (H : Heap) (locs : List Loc) (ls : Array Slot), lv_has ls 3 [(0, .ref h0), (1, .int x1)] → va_P D vwCl (wX1 K h0 a0 r0) H → va_D A (wX1 K h0 a0 r0) → va_S A s.heap H locs → k2 r0 x1  → W p l e ({ frames := 2, cells := 0, slots := 0, locals := 101 } : Room) s m args below meth c H locs 0 0 (MQ below (va_Qv (fun (u : (zS)) => post u) (fun (u : (zS)) t => va_P D vwCl (wX1 K h0 a0 u) t.heap) A) args s 0 0 A) (F0 m 2 ls [])) : ∀ (n : Nat) (r0 : zS) (x1 : Int32) (x2 : Int32) (H : Heap) (locs : List Loc) (ls : Array Slot), lv_has ls 3 [(0, .ref h0), (1, .int x1), (2, .int x2)] → va_P D vwCl (wX1 K h0 a0 r0) H → va_D A (wX1 K h0 a0 r0) → va_S A s.heap H locs → wp_X1_link_25  post k2 n r0 x1 x2 → W p l e ({ frames := 2, cells := 0, slots := 0, locals := 101 } : Room) s m args below meth c H locs 0 0 (MQ below (va_Qv (fun (u : (zS)) => post u) (fun (u : (zS)) t => va_P D vwCl (wX1 K h0 a0 u) t.heap) A) args s 0 0 A) (F0 m 25 ls []) := by
  obtain ⟨hx, hb, hr, hml, hown, hts, hlocks, hK, hT⟩ := id C
  intro n
  induction n with
  | zero =>
    intro r0 x1 x2 H locs ls hl hP hD hS h
    exact False.elim h
  | succ n ihn =>
    intro r0 x1 x2 H locs ls hl hP hD hS h
    rw [wu_X1_link_25] at h
    unfold wb_X1_link_25 at h
    refine lv_iload_n hx hb dX1_link_25 rfl (lv_at hl 2 rfl) ?_
    refine lv_aload_n hx hb dX1_link_26 rfl (lv_at hl 0 rfl) ?_
    refine va_get (D := D) (ci := 1) (v := .int (r0.1 1)) (C := RX1) (T := TX1) (N := 10) hx hb hts inlX1 hown hK hP 0 rfl rfl 1 (by decide) (hts (.fieldLink RX1 15 "UnderTheDesks$Room" "count" "I") mw_52) (fun _ h9 => h9) rfl dX1_link_27 ?_
    refine lv_icmp_ge (tgt := 88) hx hb dX1_link_30 (by decide) (fun c4 => ?_) (fun c4 => ?_)
    · replace h := And.left h c4
      exact t_X1_link_88 C hA hk2 _ _ _ _ _ (lv_sub hl [0, 1] rfl) hP hD hS h
    · replace h := And.right h c4
      refine lv_iload_n hx hb dX1_link_33 rfl (lv_at hl 2 rfl) ?_
      refine lv_bipush (v := 12) hx hb dX1_link_34 (by decide) ?_
      refine lv_icmp_ge (tgt := 88) hx hb dX1_link_36 (by decide) (fun c6 => ?_) (fun c6 => ?_)
      · replace h := And.left h c6
        exact t_X1_link_88 C hA hk2 _ _ _ _ _ (lv_sub hl [0, 1] rfl) hP hD hS h
      · replace h := And.right h c6
        refine lv_aload_n hx hb dX1_link_39 rfl (lv_at hl 0 rfl) ?_
        refine va_get (D := D) (ci := 1) (v := .ref (a0 6)) (C := RX1) (T := TX1) (N := 10) hx hb hts inlX1 hown hK hP 0 rfl rfl 6 (by decide) (hts (.fieldLink RX1 31 "UnderTheDesks$Room" "desks" "[I") mw_57) (fun _ h9 => h9) rfl dX1_link_40 ?_
        refine lv_iload_n hx hb dX1_link_43 rfl (lv_at hl 1 rfl) ?_
        have hin := And.left h
        replace h := And.right h
        refine va_iald hx hb hK hP 2 0 rfl rfl hin dX1_link_44 ?_
        refine lv_aload_n hx hb dX1_link_45 rfl (lv_at hl 0 rfl) ?_
        refine va_get (D := D) (ci := 1) (v := .ref (a0 6)) (C := RX1) (T := TX1) (N := 10) hx hb hts inlX1 hown hK hP 0 rfl rfl 6 (by decide) (hts (.fieldLink RX1 31 "UnderTheDesks$Room" "desks" "[I") mw_57) (fun _ h9 => h9) rfl dX1_link_46 ?_
        refine lv_iload_n hx hb dX1_link_49 rfl (lv_at hl 2 rfl) ?_
        have hin := And.left h
        replace h := And.right h
        refine va_iald hx hb hK hP 2 0 rfl rfl hin dX1_link_50 ?_
        refine xend_ro_i (xRunS (wc := ([] : va_W)) (As := [.int (r0.2.1 6 x1.toNatClampNeg), .int (r0.2.1 6 x2.toNatClampNeg)]) (rest := []) C (c_X1_areBeside h) k_X1_areBeside mw_401 ⟨rfl, rfl⟩ ⟨Nat.le_of_ble_eq_true rfl, Nat.le_of_ble_eq_true rfl⟩ hP hD [] rfl rfl hl rfl rfl (Nat.le_of_ble_eq_true rfl) dX1_link_51 ⟨Nat.le_refl _, Nat.le_refl _⟩) (fun v7 h => ?_)
        refine lv_if_eq (tgt := 82) hx hb dX1_link_54 (by decide) (fun c8 => ?_) (fun c8 => ?_)
        · replace h := And.left h c8
          exact t_X1_link_82 C hA hk2 ihn _ _ _ _ _ _ (lv_sub hl [0, 1, 2] rfl) hP hD hS h
        · replace h := And.right h c8
          refine lv_aload_n hx hb dX1_link_57 rfl (lv_at hl 0 rfl) ?_
          refine va_get (D := D) (ci := 1) (v := .ref (a0 8)) (C := RX1) (T := TX1) (N := 10) hx hb hts inlX1 hown hK hP 0 rfl rfl 8 (by decide) (hts (.fieldLink RX1 37 "UnderTheDesks$Room" "barred" "[I") mw_59) (fun _ h9 => h9) rfl dX1_link_58 ?_
          refine lv_iload_n hx hb dX1_link_61 rfl (lv_at hl 1 rfl) ?_
          have hin := And.left h
          replace h := And.right h
          refine va_iald hx hb hK hP 4 0 rfl rfl hin dX1_link_62 ?_
          refine lv_iload_n hx hb dX1_link_63 rfl (lv_at hl 2 rfl) ?_
          refine lv_ishr hx hb dX1_link_64 ?_
          refine lv_iconst (v := 1) hx hb dX1_link_65 (by decide) ?_
          refine lv_iand hx hb dX1_link_66 ?_
          refine lv_if_ne (tgt := 82) hx hb dX1_link_67 (by decide) (fun c10 => ?_) (fun c10 => ?_)
          · replace h := And.right h c10
            exact t_X1_link_82 C hA hk2 ihn _ _ _ _ _ _ (lv_sub hl [0, 1, 2] rfl) hP hD hS h
          · replace h := And.left h c10
            refine lv_aload_n hx hb dX1_link_70 rfl (lv_at hl 0 rfl) ?_
            refine va_get (D := D) (ci := 1) (v := .ref (a0 9)) (C := RX1) (T := TX1) (N := 10) hx hb hts inlX1 hown hK hP 0 rfl rfl 9 (by decide) (hts (.fieldLink RX1 40 "UnderTheDesks$Room" "near" "[I") mw_60) (fun _ h9 => h9) rfl dX1_link_71 ?_
            refine lv_iload_n hx hb dX1_link_74 rfl (lv_at hl 1 rfl) ?_
            refine lv_dup2_11 hx hb dX1_link_75 rfl rfl ?_
            have hin := And.left h
            replace h := And.right h
            refine va_iald hx hb hK hP 5 0 rfl rfl hin dX1_link_76 ?_
            refine lv_iconst (v := 1) hx hb dX1_link_77 (by decide) ?_
            refine lv_iload_n hx hb dX1_link_78 rfl (lv_at hl 2 rfl) ?_
            refine lv_ishl hx hb dX1_link_79 ?_
            refine lv_ior hx hb dX1_link_80 ?_
            refine lv_topi (fun v11 ev11 => ?_)
            replace h := h v11 ev11
            have hin := And.left h
            obtain ⟨j12, ej12⟩ : ∃ j : Nat, j = x1.toNatClampNeg := ⟨_, rfl⟩
            replace h := And.right h j12 ej12
            refine xiast hx hb hK hP hD hS 5 0 rfl rfl hin ej12 dX1_link_81 (fun H locs hP hD hS => ?_)
            replace hP : va_P D vwCl (wX1 K h0 a0 (zA r0 9 j12 v11)) H := hP
            replace hD : va_D A (wX1 K h0 a0 (zA r0 9 j12 v11)) := hD
            exact t_X1_link_82 C hA hk2 ihn _ _ _ _ _ _ (lv_sub hl [0, 1, 2] rfl) hP hD hS h
set_option maxHeartbeats 4000000 in
set_option maxRecDepth 100000 in
theorem t_X1_link_2 {p : Program} {l : Launch} {e : Env} {s : State} {m : MethodId} {args : Array Value} {below : List Frame} {meth : Method} {c : Code} {D : va_G} {K : Nat → ClassId} {h0 : Nat} {a0 : Nat → Nat} {post : (zS) → Prop} {A : Nat → Prop} (C : xC p s m args meth c cX1_link RX1 3 none D vwCl (xty K)) (hA : ∀ q, s.heap.size ≤ q → A q) : ∀ (n : Nat) (r0 : zS) (x1 : Int32) (H : Heap) (locs : List Loc) (ls : Array Slot), lv_has ls 3 [(0, .ref h0), (1, .int x1)] → va_P D vwCl (wX1 K h0 a0 r0) H → va_D A (wX1 K h0 a0 r0) → va_S A s.heap H locs → wp_X1_link_2  post n r0 x1 → W p l e ({ frames := 2, cells := 0, slots := 0, locals := 101 } : Room) s m args below meth c H locs 0 0 (MQ below (va_Qv (fun (u : (zS)) => post u) (fun (u : (zS)) t => va_P D vwCl (wX1 K h0 a0 u) t.heap) A) args s 0 0 A) (F0 m 2 ls []) := by
  obtain ⟨hx, hb, hr, hml, hown, hts, hlocks, hK, hT⟩ := id C
  intro n
  induction n with
  | zero =>
    intro r0 x1 H locs ls hl hP hD hS h
    exact False.elim h
  | succ n ihn =>
    intro r0 x1 H locs ls hl hP hD hS h
    rw [wu_X1_link_2] at h
    unfold wb_X1_link_2 at h
    refine lv_iload_n hx hb dX1_link_2 rfl (lv_at hl 1 rfl) ?_
    refine lv_aload_n hx hb dX1_link_3 rfl (lv_at hl 0 rfl) ?_
    refine va_get (D := D) (ci := 1) (v := .int (r0.1 1)) (C := RX1) (T := TX1) (N := 10) hx hb hts inlX1 hown hK hP 0 rfl rfl 1 (by decide) (hts (.fieldLink RX1 15 "UnderTheDesks$Room" "count" "I") mw_52) (fun _ h9 => h9) rfl dX1_link_4 ?_
    refine lv_icmp_ge (tgt := 94) hx hb dX1_link_7 (by decide) (fun c1 => ?_) (fun c1 => ?_)
    · replace h := And.left h c1
      exact xrw_v C r0 h hP hS dX1_link_94
    · replace h := And.right h c1
      refine lv_iload_n hx hb dX1_link_10 rfl (lv_at hl 1 rfl) ?_
      refine lv_bipush (v := 12) hx hb dX1_link_11 (by decide) ?_
      refine lv_icmp_ge (tgt := 94) hx hb dX1_link_13 (by decide) (fun c2 => ?_) (fun c2 => ?_)
      · replace h := And.left h c2
        exact xrw_v C r0 h hP hS dX1_link_94
      · replace h := And.right h c2
        refine lv_aload_n hx hb dX1_link_16 rfl (lv_at hl 0 rfl) ?_
        refine va_get (D := D) (ci := 1) (v := .ref (a0 9)) (C := RX1) (T := TX1) (N := 10) hx hb hts inlX1 hown hK hP 0 rfl rfl 9 (by decide) (hts (.fieldLink RX1 40 "UnderTheDesks$Room" "near" "[I") mw_60) (fun _ h9 => h9) rfl dX1_link_17 ?_
        refine lv_iload_n hx hb dX1_link_20 rfl (lv_at hl 1 rfl) ?_
        refine lv_iconst (v := 0) hx hb dX1_link_21 (by decide) ?_
        have hin := And.left h
        obtain ⟨j3, ej3⟩ : ∃ j : Nat, j = x1.toNatClampNeg := ⟨_, rfl⟩
        replace h := And.right h j3 ej3
        refine xiast hx hb hK hP hD hS 5 0 rfl rfl hin ej3 dX1_link_22 (fun H locs hP hD hS => ?_)
        replace hP : va_P D vwCl (wX1 K h0 a0 (zA r0 9 j3 (0 : Int32))) H := hP
        replace hD : va_D A (wX1 K h0 a0 (zA r0 9 j3 (0 : Int32))) := hD
        refine lv_iconst (v := 0) hx hb dX1_link_23 (by decide) ?_
        refine lv_istore_n (lv' := [(2, .int (0 : Int32)), (0, .ref h0), (1, .int x1)]) hx hb dX1_link_24 rfl hl (by decide) rfl (fun ls hl => ?_)
        obtain ⟨n0, h⟩ := h
        exact t_X1_link_25 C hA ihn n0 _ _ _ _ _ _ (lv_sub hl [1, 2, 0] rfl) hP hD hS h
set_option maxHeartbeats 4000000 in
set_option maxRecDepth 100000 in
theorem c_X1_link {l : Launch} {D : va_G} {K : Nat → ClassId} {h0 : Nat} {a0 : Nat → Nat} {r0 : zS}  {sz : Nat} {post : (zS) → Prop}   (h : wp_X1_link r0 post) : Met l yX1_link (Cond.code yX1_link cX1_link 3 none :: wsL_law) ({ frames := 2, cells := 0, slots := 0, locals := 101 } : Room) (va_Pc [.ref h0] (xPre D vwCl (xty K) (wX1 K h0 a0 r0) sz)) (va_Qv (fun (u : (zS)) => post u) (fun (u : (zS)) t => va_P D vwCl (wX1 K h0 a0 u) t.heap) (va_A (wX1 K h0 a0 r0) sz)) 0 0 (va_A (wX1 K h0 a0 r0) sz) := by
  refine xMet (by decide) rfl (Nat.le_of_ble_eq_true rfl) (fun p e s m args below meth c C hnm hP hD hsz ls hl => ?_)
  have hl : lv_has ls 3 [(0, .ref h0)] := hl
  obtain ⟨hx, hb, hr, hml, hown, hts, hlocks, hK, hT⟩ := id C
  subst hsz
  generalize hAe : va_A (wX1 K h0 a0 r0) s.heap.size = A at hD ⊢
  have hA : ∀ q : Nat, s.heap.size ≤ q → A q := fun q h => by rw [← hAe]; exact Or.inr h
  have hS : va_S A s.heap s.heap [] := va_S.rf
  have hP : va_P D vwCl (wX1 K h0 a0 r0) s.heap := hP
  unfold wp_X1_link at h
  refine lv_iconst (v := 0) hx hb dX1_link_0 (by decide) ?_
  refine lv_istore_n (lv' := [(1, .int (0 : Int32)), (0, .ref h0)]) hx hb dX1_link_1 rfl hl (by decide) rfl (fun ls hl => ?_)
  obtain ⟨n0, h⟩ := h
  exact t_X1_link_2 C hA n0 _ _ _ _ _ (lv_sub hl [1, 0] rfl) hP hD hS h

def wp_X1_seat (r0 : zS) (p1 : Int32) (p2 : Int32) (p3 : Int32) (post : Int32 → (zS) → Prop) : Prop :=
  ((r0.1 1) < 0 → post (-1 : Int32) r0) ∧ (¬ (r0.1 1) < 0 → ((r0.1 1) < (12 : Int32) → ∀ v3 : Int32, v3 = (r0.1 1) → ∀ v4 : Int32, v4 = ((r0.1 1) + (1 : Int32)) → vp_in v3 12 ∧ (∀ j5 : Nat, j5 = v3.toNatClampNeg → vp_in v3 12 ∧ (∀ j6 : Nat, j6 = v3.toNatClampNeg → vp_in v3 12 ∧ (∀ j7 : Nat, j7 = v3.toNatClampNeg → vp_in v3 12 ∧ (∀ j8 : Nat, j8 = v3.toNatClampNeg → wp_X1_link (zA (zA (zA (zA (zI r0 1 v4) 5 j5 p1) 6 j6 p2) 7 j7 p3) 8 j8 (0 : Int32)) (fun s10 => post v3 s10)))))) ∧ (¬ (r0.1 1) < (12 : Int32) → post (-1 : Int32) r0))
set_option maxHeartbeats 4000000 in
set_option maxRecDepth 100000 in
theorem c_X1_seat {l : Launch} {D : va_G} {K : Nat → ClassId} {h0 : Nat} {a0 : Nat → Nat} {r0 : zS} {p1 : Int32} {p2 : Int32} {p3 : Int32} {sz : Nat} {post : Int32 → (zS) → Prop}   (h : wp_X1_seat r0 p1 p2 p3 post) : Met l yX1_seat (Cond.code yX1_seat cX1_seat 5 (some .int) :: wsL_law) ({ frames := 3, cells := 0, slots := 0, locals := 123 } : Room) (va_Pc [.ref h0, .int p1, .int p2, .int p3] (xPre D vwCl (xty K) (wX1 K h0 a0 r0) sz)) (va_Qi (fun r (u : (zS)) => post r u) (fun (u : (zS)) t => va_P D vwCl (wX1 K h0 a0 u) t.heap) (va_A (wX1 K h0 a0 r0) sz)) 0 0 (va_A (wX1 K h0 a0 r0) sz) := by
  refine xMet (by decide) rfl (Nat.le_of_ble_eq_true rfl) (fun p e s m args below meth c C hnm hP hD hsz ls hl => ?_)
  have hl : lv_has ls 5 [(0, .ref h0), (1, .int p1), (2, .int p2), (3, .int p3)] := hl
  obtain ⟨hx, hb, hr, hml, hown, hts, hlocks, hK, hT⟩ := id C
  subst hsz
  generalize hAe : va_A (wX1 K h0 a0 r0) s.heap.size = A at hD ⊢
  have hA : ∀ q : Nat, s.heap.size ≤ q → A q := fun q h => by rw [← hAe]; exact Or.inr h
  have hS : va_S A s.heap s.heap [] := va_S.rf
  have hP : va_P D vwCl (wX1 K h0 a0 r0) s.heap := hP
  unfold wp_X1_seat at h
  refine lv_aload_n hx hb dX1_seat_0 rfl (lv_at hl 0 rfl) ?_
  refine va_get (D := D) (ci := 1) (v := .int (r0.1 1)) (C := RX1) (T := TX1) (N := 10) hx hb hts inlX1 hown hK hP 0 rfl rfl 1 (by decide) (hts (.fieldLink RX1 15 "UnderTheDesks$Room" "count" "I") mw_52) (fun _ h9 => h9) rfl dX1_seat_1 ?_
  refine lv_if_lt (tgt := 16) hx hb dX1_seat_4 (by decide) (fun c1 => ?_) (fun c1 => ?_)
  · replace h := And.left h c1
    refine lv_iconst (v := -1) hx hb dX1_seat_16 (by decide) ?_
    exact xrw_i C r0 h hP hS dX1_seat_17
  · replace h := And.right h c1
    refine lv_aload_n hx hb dX1_seat_7 rfl (lv_at hl 0 rfl) ?_
    refine va_get (D := D) (ci := 1) (v := .int (r0.1 1)) (C := RX1) (T := TX1) (N := 10) hx hb hts inlX1 hown hK hP 0 rfl rfl 1 (by decide) (hts (.fieldLink RX1 15 "UnderTheDesks$Room" "count" "I") mw_52) (fun _ h9 => h9) rfl dX1_seat_8 ?_
    refine lv_bipush (v := 12) hx hb dX1_seat_11 (by decide) ?_
    refine lv_icmp_lt (tgt := 18) hx hb dX1_seat_13 (by decide) (fun c2 => ?_) (fun c2 => ?_)
    · replace h := And.left h c2
      refine lv_aload_n hx hb dX1_seat_18 rfl (lv_at hl 0 rfl) ?_
      refine va_get (D := D) (ci := 1) (v := .int (r0.1 1)) (C := RX1) (T := TX1) (N := 10) hx hb hts inlX1 hown hK hP 0 rfl rfl 1 (by decide) (hts (.fieldLink RX1 15 "UnderTheDesks$Room" "count" "I") mw_52) (fun _ h9 => h9) rfl dX1_seat_19 ?_
      refine lv_topi (fun v3 ev3 => ?_)
      replace h := h v3 ev3
      refine lv_istore (lv' := [(4, .int v3), (0, .ref h0), (1, .int p1), (2, .int p2), (3, .int p3)]) hx hb dX1_seat_22 hl (by decide) rfl (fun ls hl => ?_)
      refine lv_aload_n hx hb dX1_seat_24 rfl (lv_at hl 1 rfl) ?_
      refine lv_dup hx hb dX1_seat_25 rfl ?_
      refine va_get (D := D) (ci := 1) (v := .int (r0.1 1)) (C := RX1) (T := TX1) (N := 10) hx hb hts inlX1 hown hK hP 0 rfl rfl 1 (by decide) (hts (.fieldLink RX1 15 "UnderTheDesks$Room" "count" "I") mw_52) (fun _ h9 => h9) rfl dX1_seat_26 ?_
      refine lv_iconst (v := 1) hx hb dX1_seat_29 (by decide) ?_
      refine lv_iadd hx hb dX1_seat_30 ?_
      refine lv_topi (fun v4 ev4 => ?_)
      replace h := h v4 ev4
      refine va_put (D := D) (ci := 1) (v := .int v4) (ty := .int) (C := RX1) (T := TX1) (N := 10) hx hb hts inlX1 tyX1 tyX1_ok nmX1 hown hK hP hD hS 0 rfl rfl 1 (by decide) (hts (.fieldLink RX1 15 "UnderTheDesks$Room" "count" "I") mw_52) (fun _ h9 => h9) rfl (by decide +kernel) rfl rfl (Nat.le_of_ble_eq_true rfl) dX1_seat_31 (fun H locs hP hD hS => ?_)
      replace hP : va_P D vwCl (wX1 K h0 a0 (zI r0 1 v4)) H := hP
      replace hD : va_D A (wX1 K h0 a0 (zI r0 1 v4)) := hD
      refine lv_aload_n hx hb dX1_seat_34 rfl (lv_at hl 1 rfl) ?_
      refine va_get (D := D) (ci := 1) (v := .ref (a0 5)) (C := RX1) (T := TX1) (N := 10) hx hb hts inlX1 hown hK hP 0 rfl rfl 5 (by decide) (hts (.fieldLink RX1 27 "UnderTheDesks$Room" "kinds" "[I") mw_56) (fun _ h9 => h9) rfl dX1_seat_35 ?_
      refine lv_iload hx hb dX1_seat_38 (lv_at hl 0 rfl) ?_
      refine lv_iload_n hx hb dX1_seat_40 rfl (lv_at hl 2 rfl) ?_
      have hin := And.left h
      obtain ⟨j5, ej5⟩ : ∃ j : Nat, j = v3.toNatClampNeg := ⟨_, rfl⟩
      replace h := And.right h j5 ej5
      refine xiast hx hb hK hP hD hS 1 0 rfl rfl hin ej5 dX1_seat_41 (fun H locs hP hD hS => ?_)
      replace hP : va_P D vwCl (wX1 K h0 a0 (zA (zI r0 1 v4) 5 j5 p1)) H := hP
      replace hD : va_D A (wX1 K h0 a0 (zA (zI r0 1 v4) 5 j5 p1)) := hD
      refine lv_aload_n hx hb dX1_seat_42 rfl (lv_at hl 1 rfl) ?_
      refine va_get (D := D) (ci := 1) (v := .ref (a0 6)) (C := RX1) (T := TX1) (N := 10) hx hb hts inlX1 hown hK hP 0 rfl rfl 6 (by decide) (hts (.fieldLink RX1 31 "UnderTheDesks$Room" "desks" "[I") mw_57) (fun _ h9 => h9) rfl dX1_seat_43 ?_
      refine lv_iload hx hb dX1_seat_46 (lv_at hl 0 rfl) ?_
      refine lv_iload_n hx hb dX1_seat_48 rfl (lv_at hl 3 rfl) ?_
      have hin := And.left h
      obtain ⟨j6, ej6⟩ : ∃ j : Nat, j = v3.toNatClampNeg := ⟨_, rfl⟩
      replace h := And.right h j6 ej6
      refine xiast hx hb hK hP hD hS 2 0 rfl rfl hin ej6 dX1_seat_49 (fun H locs hP hD hS => ?_)
      replace hP : va_P D vwCl (wX1 K h0 a0 (zA (zA (zI r0 1 v4) 5 j5 p1) 6 j6 p2)) H := hP
      replace hD : va_D A (wX1 K h0 a0 (zA (zA (zI r0 1 v4) 5 j5 p1) 6 j6 p2)) := hD
      refine lv_aload_n hx hb dX1_seat_50 rfl (lv_at hl 1 rfl) ?_
      refine va_get (D := D) (ci := 1) (v := .ref (a0 7)) (C := RX1) (T := TX1) (N := 10) hx hb hts inlX1 hown hK hP 0 rfl rfl 7 (by decide) (hts (.fieldLink RX1 34 "UnderTheDesks$Room" "marks" "[I") mw_58) (fun _ h9 => h9) rfl dX1_seat_51 ?_
      refine lv_iload hx hb dX1_seat_54 (lv_at hl 0 rfl) ?_
      refine lv_iload_n hx hb dX1_seat_56 rfl (lv_at hl 4 rfl) ?_
      have hin := And.left h
      obtain ⟨j7, ej7⟩ : ∃ j : Nat, j = v3.toNatClampNeg := ⟨_, rfl⟩
      replace h := And.right h j7 ej7
      refine xiast hx hb hK hP hD hS 3 0 rfl rfl hin ej7 dX1_seat_57 (fun H locs hP hD hS => ?_)
      replace hP : va_P D vwCl (wX1 K h0 a0 (zA (zA (zA (zI r0 1 v4) 5 j5 p1) 6 j6 p2) 7 j7 p3)) H := hP
      replace hD : va_D A (wX1 K h0 a0 (zA (zA (zA (zI r0 1 v4) 5 j5 p1) 6 j6 p2) 7 j7 p3)) := hD
      refine lv_aload_n hx hb dX1_seat_58 rfl (lv_at hl 1 rfl) ?_
      refine va_get (D := D) (ci := 1) (v := .ref (a0 8)) (C := RX1) (T := TX1) (N := 10) hx hb hts inlX1 hown hK hP 0 rfl rfl 8 (by decide) (hts (.fieldLink RX1 37 "UnderTheDesks$Room" "barred" "[I") mw_59) (fun _ h9 => h9) rfl dX1_seat_59 ?_
      refine lv_iload hx hb dX1_seat_62 (lv_at hl 0 rfl) ?_
      refine lv_iconst (v := 0) hx hb dX1_seat_64 (by decide) ?_
      have hin := And.left h
      obtain ⟨j8, ej8⟩ : ∃ j : Nat, j = v3.toNatClampNeg := ⟨_, rfl⟩
      replace h := And.right h j8 ej8
      refine xiast hx hb hK hP hD hS 4 0 rfl rfl hin ej8 dX1_seat_65 (fun H locs hP hD hS => ?_)
      replace hP : va_P D vwCl (wX1 K h0 a0 (zA (zA (zA (zA (zI r0 1 v4) 5 j5 p1) 6 j6 p2) 7 j7 p3) 8 j8 (0 : Int32))) H := hP
      replace hD : va_D A (wX1 K h0 a0 (zA (zA (zA (zA (zI r0 1 v4) 5 j5 p1) 6 j6 p2) 7 j7 p3) 8 j8 (0 : Int32))) := hD
      refine lv_aload_n hx hb dX1_seat_66 rfl (lv_at hl 1 rfl) ?_
      refine xend_rw_v_id (wf := fun (u : (zS)) => (wX1 K h0 a0 u)) (xRunV_id (As := []) (rest := []) C (c_X1_link h) k_X1_link mw_397 ⟨rfl, rfl⟩ ⟨Nat.le_of_ble_eq_true rfl, Nat.le_of_ble_eq_true rfl⟩ hP hD rfl rfl hl rfl rfl (Nat.le_of_ble_eq_true rfl) dX1_seat_67 ⟨Nat.le_refl _, Nat.le_refl _⟩) hD hS hA (fun _ => rfl) (fun s10 H locs h hP hD hS => ?_)
      refine lv_iload hx hb dX1_seat_70 (lv_at hl 0 rfl) ?_
      exact xrw_i C s10 h hP hS dX1_seat_72
    · replace h := And.right h c2
      refine lv_iconst (v := -1) hx hb dX1_seat_16 (by decide) ?_
      exact xrw_i C r0 h hP hS dX1_seat_17

def wp_X1_reseat (r0 : zS) (p1 : Int32) (p2 : Int32) (post : (zS) → Prop) : Prop :=
  wp_X1_has r0 p1 (fun v1 => (v1 = 0 → post r0) ∧ (¬ v1 = 0 → vp_in p1 12 ∧ (∀ j3 : Nat, j3 = p1.toNatClampNeg → wp_X1_link (zA r0 6 j3 p2) (fun s5 => post s5))))
set_option maxHeartbeats 4000000 in
set_option maxRecDepth 100000 in
theorem c_X1_reseat {l : Launch} {D : va_G} {K : Nat → ClassId} {h0 : Nat} {a0 : Nat → Nat} {r0 : zS} {p1 : Int32} {p2 : Int32} {sz : Nat} {post : (zS) → Prop}   (h : wp_X1_reseat r0 p1 p2 post) : Met l yX1_reseat (Cond.code yX1_reseat cX1_reseat 3 none :: wsL_law) ({ frames := 3, cells := 0, slots := 0, locals := 123 } : Room) (va_Pc [.ref h0, .int p1, .int p2] (xPre D vwCl (xty K) (wX1 K h0 a0 r0) sz)) (va_Qv (fun (u : (zS)) => post u) (fun (u : (zS)) t => va_P D vwCl (wX1 K h0 a0 u) t.heap) (va_A (wX1 K h0 a0 r0) sz)) 0 0 (va_A (wX1 K h0 a0 r0) sz) := by
  refine xMet (by decide) rfl (Nat.le_of_ble_eq_true rfl) (fun p e s m args below meth c C hnm hP hD hsz ls hl => ?_)
  have hl : lv_has ls 3 [(0, .ref h0), (1, .int p1), (2, .int p2)] := hl
  obtain ⟨hx, hb, hr, hml, hown, hts, hlocks, hK, hT⟩ := id C
  subst hsz
  generalize hAe : va_A (wX1 K h0 a0 r0) s.heap.size = A at hD ⊢
  have hA : ∀ q : Nat, s.heap.size ≤ q → A q := fun q h => by rw [← hAe]; exact Or.inr h
  have hS : va_S A s.heap s.heap [] := va_S.rf
  have hP : va_P D vwCl (wX1 K h0 a0 r0) s.heap := hP
  unfold wp_X1_reseat at h
  refine lv_aload_n hx hb dX1_reseat_0 rfl (lv_at hl 0 rfl) ?_
  refine lv_iload_n hx hb dX1_reseat_1 rfl (lv_at hl 1 rfl) ?_
  refine xend_ro_i (xRunV_id (As := [.int p1]) (rest := []) C (c_X1_has h) k_X1_has mw_283 ⟨rfl, rfl⟩ ⟨Nat.le_of_ble_eq_true rfl, Nat.le_of_ble_eq_true rfl⟩ hP hD rfl rfl hl rfl rfl (Nat.le_of_ble_eq_true rfl) dX1_reseat_2 ⟨Nat.le_refl _, Nat.le_refl _⟩) (fun v1 h => ?_)
  refine lv_if_eq (tgt := 19) hx hb dX1_reseat_5 (by decide) (fun c2 => ?_) (fun c2 => ?_)
  · replace h := And.left h c2
    exact xrw_v C r0 h hP hS dX1_reseat_19
  · replace h := And.right h c2
    refine lv_aload_n hx hb dX1_reseat_8 rfl (lv_at hl 0 rfl) ?_
    refine va_get (D := D) (ci := 1) (v := .ref (a0 6)) (C := RX1) (T := TX1) (N := 10) hx hb hts inlX1 hown hK hP 0 rfl rfl 6 (by decide) (hts (.fieldLink RX1 31 "UnderTheDesks$Room" "desks" "[I") mw_57) (fun _ h9 => h9) rfl dX1_reseat_9 ?_
    refine lv_iload_n hx hb dX1_reseat_12 rfl (lv_at hl 1 rfl) ?_
    refine lv_iload_n hx hb dX1_reseat_13 rfl (lv_at hl 2 rfl) ?_
    have hin := And.left h
    obtain ⟨j3, ej3⟩ : ∃ j : Nat, j = p1.toNatClampNeg := ⟨_, rfl⟩
    replace h := And.right h j3 ej3
    refine xiast hx hb hK hP hD hS 2 0 rfl rfl hin ej3 dX1_reseat_14 (fun H locs hP hD hS => ?_)
    replace hP : va_P D vwCl (wX1 K h0 a0 (zA r0 6 j3 p2)) H := hP
    replace hD : va_D A (wX1 K h0 a0 (zA r0 6 j3 p2)) := hD
    refine lv_aload_n hx hb dX1_reseat_15 rfl (lv_at hl 0 rfl) ?_
    refine xend_rw_v_id (wf := fun (u : (zS)) => (wX1 K h0 a0 u)) (xRunV_id (As := []) (rest := []) C (c_X1_link h) k_X1_link mw_397 ⟨rfl, rfl⟩ ⟨Nat.le_of_ble_eq_true rfl, Nat.le_of_ble_eq_true rfl⟩ hP hD rfl rfl hl rfl rfl (Nat.le_of_ble_eq_true rfl) dX1_reseat_16 ⟨Nat.le_refl _, Nat.le_refl _⟩) hD hS hA (fun _ => rfl) (fun s5 H locs h hP hD hS => ?_)
    exact xrw_v C s5 h hP hS dX1_reseat_19

def wp_X1_exchange (r0 : zS) (p1 : Int32) (p2 : Int32) (post : (zS) → Prop) : Prop :=
  wp_X1_has r0 p1 (fun v1 => (v1 = 0 → post r0) ∧ (¬ v1 = 0 → wp_X1_has r0 p2 (fun v3 => (v3 = 0 → post r0) ∧ (¬ v3 = 0 → vp_in p1 12 ∧ (∀ v5 : Int32, v5 = (r0.2.1 6 p1.toNatClampNeg) → vp_in p2 12 ∧ (∀ v6 : Int32, v6 = (r0.2.1 6 p2.toNatClampNeg) → vp_in p1 12 ∧ (∀ j7 : Nat, j7 = p1.toNatClampNeg → vp_in p2 12 ∧ (∀ j8 : Nat, j8 = p2.toNatClampNeg → wp_X1_link (zA (zA r0 6 j7 v6) 6 j8 v5) (fun s10 => post s10)))))))))
set_option maxHeartbeats 4000000 in
set_option maxRecDepth 100000 in
theorem c_X1_exchange {l : Launch} {D : va_G} {K : Nat → ClassId} {h0 : Nat} {a0 : Nat → Nat} {r0 : zS} {p1 : Int32} {p2 : Int32} {sz : Nat} {post : (zS) → Prop}   (h : wp_X1_exchange r0 p1 p2 post) : Met l yX1_exchange (Cond.code yX1_exchange cX1_exchange 4 none :: wsL_law) ({ frames := 3, cells := 0, slots := 0, locals := 123 } : Room) (va_Pc [.ref h0, .int p1, .int p2] (xPre D vwCl (xty K) (wX1 K h0 a0 r0) sz)) (va_Qv (fun (u : (zS)) => post u) (fun (u : (zS)) t => va_P D vwCl (wX1 K h0 a0 u) t.heap) (va_A (wX1 K h0 a0 r0) sz)) 0 0 (va_A (wX1 K h0 a0 r0) sz) := by
  refine xMet (by decide) rfl (Nat.le_of_ble_eq_true rfl) (fun p e s m args below meth c C hnm hP hD hsz ls hl => ?_)
  have hl : lv_has ls 4 [(0, .ref h0), (1, .int p1), (2, .int p2)] := hl
  obtain ⟨hx, hb, hr, hml, hown, hts, hlocks, hK, hT⟩ := id C
  subst hsz
  generalize hAe : va_A (wX1 K h0 a0 r0) s.heap.size = A at hD ⊢
  have hA : ∀ q : Nat, s.heap.size ≤ q → A q := fun q h => by rw [← hAe]; exact Or.inr h
  have hS : va_S A s.heap s.heap [] := va_S.rf
  have hP : va_P D vwCl (wX1 K h0 a0 r0) s.heap := hP
  unfold wp_X1_exchange at h
  refine lv_aload_n hx hb dX1_exchange_0 rfl (lv_at hl 0 rfl) ?_
  refine lv_iload_n hx hb dX1_exchange_1 rfl (lv_at hl 1 rfl) ?_
  refine xend_ro_i (xRunV_id (As := [.int p1]) (rest := []) C (c_X1_has h) k_X1_has mw_283 ⟨rfl, rfl⟩ ⟨Nat.le_of_ble_eq_true rfl, Nat.le_of_ble_eq_true rfl⟩ hP hD rfl rfl hl rfl rfl (Nat.le_of_ble_eq_true rfl) dX1_exchange_2 ⟨Nat.le_refl _, Nat.le_refl _⟩) (fun v1 h => ?_)
  refine lv_if_eq (tgt := 46) hx hb dX1_exchange_5 (by decide) (fun c2 => ?_) (fun c2 => ?_)
  · replace h := And.left h c2
    exact xrw_v C r0 h hP hS dX1_exchange_46
  · replace h := And.right h c2
    refine lv_aload_n hx hb dX1_exchange_8 rfl (lv_at hl 0 rfl) ?_
    refine lv_iload_n hx hb dX1_exchange_9 rfl (lv_at hl 2 rfl) ?_
    refine xend_ro_i (xRunV_id (As := [.int p2]) (rest := []) C (c_X1_has h) k_X1_has mw_283 ⟨rfl, rfl⟩ ⟨Nat.le_of_ble_eq_true rfl, Nat.le_of_ble_eq_true rfl⟩ hP hD rfl rfl hl rfl rfl (Nat.le_of_ble_eq_true rfl) dX1_exchange_10 ⟨Nat.le_refl _, Nat.le_refl _⟩) (fun v3 h => ?_)
    refine lv_if_eq (tgt := 46) hx hb dX1_exchange_13 (by decide) (fun c4 => ?_) (fun c4 => ?_)
    · replace h := And.left h c4
      exact xrw_v C r0 h hP hS dX1_exchange_46
    · replace h := And.right h c4
      refine lv_aload_n hx hb dX1_exchange_16 rfl (lv_at hl 0 rfl) ?_
      refine va_get (D := D) (ci := 1) (v := .ref (a0 6)) (C := RX1) (T := TX1) (N := 10) hx hb hts inlX1 hown hK hP 0 rfl rfl 6 (by decide) (hts (.fieldLink RX1 31 "UnderTheDesks$Room" "desks" "[I") mw_57) (fun _ h9 => h9) rfl dX1_exchange_17 ?_
      refine lv_iload_n hx hb dX1_exchange_20 rfl (lv_at hl 1 rfl) ?_
      have hin := And.left h
      replace h := And.right h
      refine va_iald hx hb hK hP 2 0 rfl rfl hin dX1_exchange_21 ?_
      refine lv_topi (fun v5 ev5 => ?_)
      replace h := h v5 ev5
      refine lv_istore_n (lv' := [(3, .int v5), (0, .ref h0), (1, .int p1), (2, .int p2)]) hx hb dX1_exchange_22 rfl hl (by decide) rfl (fun ls hl => ?_)
      refine lv_aload_n hx hb dX1_exchange_23 rfl (lv_at hl 1 rfl) ?_
      refine va_get (D := D) (ci := 1) (v := .ref (a0 6)) (C := RX1) (T := TX1) (N := 10) hx hb hts inlX1 hown hK hP 0 rfl rfl 6 (by decide) (hts (.fieldLink RX1 31 "UnderTheDesks$Room" "desks" "[I") mw_57) (fun _ h9 => h9) rfl dX1_exchange_24 ?_
      refine lv_iload_n hx hb dX1_exchange_27 rfl (lv_at hl 2 rfl) ?_
      refine lv_aload_n hx hb dX1_exchange_28 rfl (lv_at hl 1 rfl) ?_
      refine va_get (D := D) (ci := 1) (v := .ref (a0 6)) (C := RX1) (T := TX1) (N := 10) hx hb hts inlX1 hown hK hP 0 rfl rfl 6 (by decide) (hts (.fieldLink RX1 31 "UnderTheDesks$Room" "desks" "[I") mw_57) (fun _ h9 => h9) rfl dX1_exchange_29 ?_
      refine lv_iload_n hx hb dX1_exchange_32 rfl (lv_at hl 3 rfl) ?_
      have hin := And.left h
      replace h := And.right h
      refine va_iald hx hb hK hP 2 0 rfl rfl hin dX1_exchange_33 ?_
      refine lv_topi (fun v6 ev6 => ?_)
      replace h := h v6 ev6
      have hin := And.left h
      obtain ⟨j7, ej7⟩ : ∃ j : Nat, j = p1.toNatClampNeg := ⟨_, rfl⟩
      replace h := And.right h j7 ej7
      refine xiast hx hb hK hP hD hS 2 0 rfl rfl hin ej7 dX1_exchange_34 (fun H locs hP hD hS => ?_)
      replace hP : va_P D vwCl (wX1 K h0 a0 (zA r0 6 j7 v6)) H := hP
      replace hD : va_D A (wX1 K h0 a0 (zA r0 6 j7 v6)) := hD
      refine lv_aload_n hx hb dX1_exchange_35 rfl (lv_at hl 1 rfl) ?_
      refine va_get (D := D) (ci := 1) (v := .ref (a0 6)) (C := RX1) (T := TX1) (N := 10) hx hb hts inlX1 hown hK hP 0 rfl rfl 6 (by decide) (hts (.fieldLink RX1 31 "UnderTheDesks$Room" "desks" "[I") mw_57) (fun _ h9 => h9) rfl dX1_exchange_36 ?_
      refine lv_iload_n hx hb dX1_exchange_39 rfl (lv_at hl 3 rfl) ?_
      refine lv_iload_n hx hb dX1_exchange_40 rfl (lv_at hl 0 rfl) ?_
      have hin := And.left h
      obtain ⟨j8, ej8⟩ : ∃ j : Nat, j = p2.toNatClampNeg := ⟨_, rfl⟩
      replace h := And.right h j8 ej8
      refine xiast hx hb hK hP hD hS 2 0 rfl rfl hin ej8 dX1_exchange_41 (fun H locs hP hD hS => ?_)
      replace hP : va_P D vwCl (wX1 K h0 a0 (zA (zA r0 6 j7 v6) 6 j8 v5)) H := hP
      replace hD : va_D A (wX1 K h0 a0 (zA (zA r0 6 j7 v6) 6 j8 v5)) := hD
      refine lv_aload_n hx hb dX1_exchange_42 rfl (lv_at hl 1 rfl) ?_
      refine xend_rw_v_id (wf := fun (u : (zS)) => (wX1 K h0 a0 u)) (xRunV_id (As := []) (rest := []) C (c_X1_link h) k_X1_link mw_397 ⟨rfl, rfl⟩ ⟨Nat.le_of_ble_eq_true rfl, Nat.le_of_ble_eq_true rfl⟩ hP hD rfl rfl hl rfl rfl (Nat.le_of_ble_eq_true rfl) dX1_exchange_43 ⟨Nat.le_refl _, Nat.le_refl _⟩) hD hS hA (fun _ => rfl) (fun s10 H locs h hP hD hS => ?_)
      exact xrw_v C s10 h hP hS dX1_exchange_46

def wp_X1_areBarred (r0 : zS) (p1 : Int32) (p2 : Int32) (post : Int32 → Prop) : Prop :=
  wp_X1_barredOf r0 p1 (fun v1 => (((v1 >>> (p2 &&& 31)) &&& (1 : Int32)) = 0 → post (0 : Int32) ) ∧ (¬ ((v1 >>> (p2 &&& 31)) &&& (1 : Int32)) = 0 → post (1 : Int32) ))
set_option maxHeartbeats 4000000 in
set_option maxRecDepth 100000 in
theorem c_X1_areBarred {l : Launch} {D : va_G} {K : Nat → ClassId} {h0 : Nat} {a0 : Nat → Nat} {r0 : zS} {p1 : Int32} {p2 : Int32} {sz : Nat} {post : Int32 → Prop}   (h : wp_X1_areBarred r0 p1 p2 post) : Met l yX1_areBarred (Cond.code yX1_areBarred cX1_areBarred 3 (some .boolean) :: wsL_law) ({ frames := 2, cells := 0, slots := 0, locals := 42 } : Room) (va_Pc [.ref h0, .int p1, .int p2] (xPre D vwCl (xty K) (wX1 K h0 a0 r0) sz)) (roI post) 0 0 (fun _ => False) := by
  refine xMet (by decide) rfl (Nat.le_of_ble_eq_true rfl) (fun p e s m args below meth c C hnm hP hD hsz ls hl => ?_)
  have hl : lv_has ls 3 [(0, .ref h0), (1, .int p1), (2, .int p2)] := hl
  obtain ⟨hx, hb, hr, hml, hown, hts, hlocks, hK, hT⟩ := id C
  unfold wp_X1_areBarred at h
  refine lv_aload_n hx hb dX1_areBarred_0 rfl (lv_at hl 0 rfl) ?_
  refine lv_iload_n hx hb dX1_areBarred_1 rfl (lv_at hl 1 rfl) ?_
  refine xend_ro_i (xRunV_id (As := [.int p1]) (rest := []) C (c_X1_barredOf h) k_X1_barredOf mw_437 ⟨rfl, rfl⟩ ⟨Nat.le_of_ble_eq_true rfl, Nat.le_of_ble_eq_true rfl⟩ hP hD rfl rfl hl rfl rfl (Nat.le_of_ble_eq_true rfl) dX1_areBarred_2 ⟨Nat.le_refl _, Nat.le_refl _⟩) (fun v1 h => ?_)
  refine lv_iload_n hx hb dX1_areBarred_5 rfl (lv_at hl 2 rfl) ?_
  refine lv_ishr hx hb dX1_areBarred_6 ?_
  refine lv_iconst (v := 1) hx hb dX1_areBarred_7 (by decide) ?_
  refine lv_iand hx hb dX1_areBarred_8 ?_
  refine lv_if_eq (tgt := 16) hx hb dX1_areBarred_9 (by decide) (fun c2 => ?_) (fun c2 => ?_)
  · replace h := And.left h c2
    refine lv_iconst (v := 0) hx hb dX1_areBarred_16 (by decide) ?_
    exact xro_z C rfl h dX1_areBarred_17
  · replace h := And.right h c2
    refine lv_iconst (v := 1) hx hb dX1_areBarred_12 (by decide) ?_
    refine lv_goto (tgt := 17) hx hb dX1_areBarred_13 (by decide) ?_
    exact xro_z C rfl h dX1_areBarred_17

def wp_X1_setBarred_85 (p1 : Int32) (p2 : Int32) (p3 : Int32) (post : (zS) → Prop) (r0 : zS) (y0 : Int32) (y1 : Int32) : Prop :=
  vp_in y1 12 ∧ (∀ j8 : Nat, j8 = y1.toNatClampNeg → wp_X1_link (zA r0 8 j8 y0) (fun s10 => post s10))
def wp_X1_setBarred_50 (p1 : Int32) (p2 : Int32) (p3 : Int32) (post : (zS) → Prop) (r0 : zS) (y0 : Int32) (y1 : Int32) : Prop :=
  vp_in y1 12 ∧ (∀ j6 : Nat, j6 = y1.toNatClampNeg → (p3 = 0 → vp_in p2 12 ∧ (wp_X1_setBarred_85 p1 p2 p3 post (zA r0 8 j6 y0) (((zA r0 8 j6 y0).2.1 8 p2.toNatClampNeg) &&& (((1 : Int32) <<< (p1 &&& 31)) ^^^ (-1 : Int32))) p2)) ∧ (¬ p3 = 0 → vp_in p2 12 ∧ (wp_X1_setBarred_85 p1 p2 p3 post (zA r0 8 j6 y0) (((zA r0 8 j6 y0).2.1 8 p2.toNatClampNeg) ||| ((1 : Int32) <<< (p1 &&& 31))) p2)))
def wp_X1_setBarred (r0 : zS) (p1 : Int32) (p2 : Int32) (p3 : Int32) (post : (zS) → Prop) : Prop :=
  wp_X1_has r0 p1 (fun v1 => (v1 = 0 → post r0) ∧ (¬ v1 = 0 → wp_X1_has r0 p2 (fun v3 => (v3 = 0 → post r0) ∧ (¬ v3 = 0 → (p3 = 0 → vp_in p1 12 ∧ (wp_X1_setBarred_50 p1 p2 p3 post r0 ((r0.2.1 8 p1.toNatClampNeg) &&& (((1 : Int32) <<< (p2 &&& 31)) ^^^ (-1 : Int32))) p1)) ∧ (¬ p3 = 0 → vp_in p1 12 ∧ (wp_X1_setBarred_50 p1 p2 p3 post r0 ((r0.2.1 8 p1.toNatClampNeg) ||| ((1 : Int32) <<< (p2 &&& 31))) p1))))))
set_option maxHeartbeats 4000000 in
set_option maxRecDepth 100000 in
theorem t_X1_setBarred_85 {p : Program} {l : Launch} {e : Env} {s : State} {m : MethodId} {args : Array Value} {below : List Frame} {meth : Method} {c : Code} {D : va_G} {K : Nat → ClassId} {h0 : Nat} {a0 : Nat → Nat} {p1 : Int32} {p2 : Int32} {p3 : Int32} {post : (zS) → Prop} {A : Nat → Prop} (C : xC p s m args meth c cX1_setBarred RX1 4 none D vwCl (xty K)) (hA : ∀ q, s.heap.size ≤ q → A q) : ∀ (r0 : zS) (y0 : Int32) (y1 : Int32) (H : Heap) (locs : List Loc) (ls : Array Slot), lv_has ls 4 [(0, .ref h0)] → va_P D vwCl (wX1 K h0 a0 r0) H → va_D A (wX1 K h0 a0 r0) → va_S A s.heap H locs → wp_X1_setBarred_85 p1 p2 p3 post r0 y0 y1 → W p l e ({ frames := 3, cells := 0, slots := 0, locals := 123 } : Room) s m args below meth c H locs 0 0 (MQ below (va_Qv (fun (u : (zS)) => post u) (fun (u : (zS)) t => va_P D vwCl (wX1 K h0 a0 u) t.heap) A) args s 0 0 A) (F0 m 85 ls [.int y0, .int y1, .ref (a0 8)]) := by
  obtain ⟨hx, hb, hr, hml, hown, hts, hlocks, hK, hT⟩ := id C
  intro r0 y0 y1 H locs ls hl hP hD hS h
  unfold wp_X1_setBarred_85 at h
  have hin := And.left h
  obtain ⟨j8, ej8⟩ : ∃ j : Nat, j = y1.toNatClampNeg := ⟨_, rfl⟩
  replace h := And.right h j8 ej8
  refine xiast hx hb hK hP hD hS 4 0 rfl rfl hin ej8 dX1_setBarred_85 (fun H locs hP hD hS => ?_)
  replace hP : va_P D vwCl (wX1 K h0 a0 (zA r0 8 j8 y0)) H := hP
  replace hD : va_D A (wX1 K h0 a0 (zA r0 8 j8 y0)) := hD
  refine lv_aload_n hx hb dX1_setBarred_86 rfl (lv_at hl 0 rfl) ?_
  refine xend_rw_v_id (wf := fun (u : (zS)) => (wX1 K h0 a0 u)) (xRunV_id (As := []) (rest := []) C (c_X1_link h) k_X1_link mw_397 ⟨rfl, rfl⟩ ⟨Nat.le_of_ble_eq_true rfl, Nat.le_of_ble_eq_true rfl⟩ hP hD rfl rfl hl rfl rfl (Nat.le_of_ble_eq_true rfl) dX1_setBarred_87 ⟨Nat.le_refl _, Nat.le_refl _⟩) hD hS hA (fun _ => rfl) (fun s10 H locs h hP hD hS => ?_)
  exact xrw_v C s10 h hP hS dX1_setBarred_90
set_option maxHeartbeats 4000000 in
set_option maxRecDepth 100000 in
theorem t_X1_setBarred_50 {p : Program} {l : Launch} {e : Env} {s : State} {m : MethodId} {args : Array Value} {below : List Frame} {meth : Method} {c : Code} {D : va_G} {K : Nat → ClassId} {h0 : Nat} {a0 : Nat → Nat} {p1 : Int32} {p2 : Int32} {p3 : Int32} {post : (zS) → Prop} {A : Nat → Prop} (C : xC p s m args meth c cX1_setBarred RX1 4 none D vwCl (xty K)) (hA : ∀ q, s.heap.size ≤ q → A q) : ∀ (r0 : zS) (y0 : Int32) (y1 : Int32) (H : Heap) (locs : List Loc) (ls : Array Slot), lv_has ls 4 [(0, .ref h0), (1, .int p1), (2, .int p2), (3, .int p3)] → va_P D vwCl (wX1 K h0 a0 r0) H → va_D A (wX1 K h0 a0 r0) → va_S A s.heap H locs → wp_X1_setBarred_50 p1 p2 p3 post r0 y0 y1 → W p l e ({ frames := 3, cells := 0, slots := 0, locals := 123 } : Room) s m args below meth c H locs 0 0 (MQ below (va_Qv (fun (u : (zS)) => post u) (fun (u : (zS)) t => va_P D vwCl (wX1 K h0 a0 u) t.heap) A) args s 0 0 A) (F0 m 50 ls [.int y0, .int y1, .ref (a0 8)]) := by
  obtain ⟨hx, hb, hr, hml, hown, hts, hlocks, hK, hT⟩ := id C
  intro r0 y0 y1 H locs ls hl hP hD hS h
  unfold wp_X1_setBarred_50 at h
  have hin := And.left h
  obtain ⟨j6, ej6⟩ : ∃ j : Nat, j = y1.toNatClampNeg := ⟨_, rfl⟩
  replace h := And.right h j6 ej6
  refine xiast hx hb hK hP hD hS 4 0 rfl rfl hin ej6 dX1_setBarred_50 (fun H locs hP hD hS => ?_)
  replace hP : va_P D vwCl (wX1 K h0 a0 (zA r0 8 j6 y0)) H := hP
  replace hD : va_D A (wX1 K h0 a0 (zA r0 8 j6 y0)) := hD
  refine lv_aload_n hx hb dX1_setBarred_51 rfl (lv_at hl 0 rfl) ?_
  refine va_get (D := D) (ci := 1) (v := .ref (a0 8)) (C := RX1) (T := TX1) (N := 10) hx hb hts inlX1 hown hK hP 0 rfl rfl 8 (by decide) (hts (.fieldLink RX1 37 "UnderTheDesks$Room" "barred" "[I") mw_59) (fun _ h9 => h9) rfl dX1_setBarred_52 ?_
  refine lv_iload_n hx hb dX1_setBarred_55 rfl (lv_at hl 2 rfl) ?_
  refine lv_iload_n hx hb dX1_setBarred_56 rfl (lv_at hl 3 rfl) ?_
  refine lv_if_eq (tgt := 73) hx hb dX1_setBarred_57 (by decide) (fun c7 => ?_) (fun c7 => ?_)
  · replace h := And.left h c7
    refine lv_aload_n hx hb dX1_setBarred_73 rfl (lv_at hl 0 rfl) ?_
    refine va_get (D := D) (ci := 1) (v := .ref (a0 8)) (C := RX1) (T := TX1) (N := 10) hx hb hts inlX1 hown hK hP 0 rfl rfl 8 (by decide) (hts (.fieldLink RX1 37 "UnderTheDesks$Room" "barred" "[I") mw_59) (fun _ h9 => h9) rfl dX1_setBarred_74 ?_
    refine lv_iload_n hx hb dX1_setBarred_77 rfl (lv_at hl 2 rfl) ?_
    have hin := And.left h
    replace h := And.right h
    refine va_iald hx hb hK hP 4 0 rfl rfl hin dX1_setBarred_78 ?_
    refine lv_iconst (v := 1) hx hb dX1_setBarred_79 (by decide) ?_
    refine lv_iload_n hx hb dX1_setBarred_80 rfl (lv_at hl 1 rfl) ?_
    refine lv_ishl hx hb dX1_setBarred_81 ?_
    refine lv_iconst (v := -1) hx hb dX1_setBarred_82 (by decide) ?_
    refine lv_ixor hx hb dX1_setBarred_83 ?_
    refine lv_iand hx hb dX1_setBarred_84 ?_
    exact t_X1_setBarred_85 C hA _ _ _ _ _ _ (lv_sub hl [0] rfl) hP hD hS h
  · replace h := And.right h c7
    refine lv_aload_n hx hb dX1_setBarred_60 rfl (lv_at hl 0 rfl) ?_
    refine va_get (D := D) (ci := 1) (v := .ref (a0 8)) (C := RX1) (T := TX1) (N := 10) hx hb hts inlX1 hown hK hP 0 rfl rfl 8 (by decide) (hts (.fieldLink RX1 37 "UnderTheDesks$Room" "barred" "[I") mw_59) (fun _ h9 => h9) rfl dX1_setBarred_61 ?_
    refine lv_iload_n hx hb dX1_setBarred_64 rfl (lv_at hl 2 rfl) ?_
    have hin := And.left h
    replace h := And.right h
    refine va_iald hx hb hK hP 4 0 rfl rfl hin dX1_setBarred_65 ?_
    refine lv_iconst (v := 1) hx hb dX1_setBarred_66 (by decide) ?_
    refine lv_iload_n hx hb dX1_setBarred_67 rfl (lv_at hl 1 rfl) ?_
    refine lv_ishl hx hb dX1_setBarred_68 ?_
    refine lv_ior hx hb dX1_setBarred_69 ?_
    refine lv_goto (tgt := 85) hx hb dX1_setBarred_70 (by decide) ?_
    exact t_X1_setBarred_85 C hA _ _ _ _ _ _ (lv_sub hl [0] rfl) hP hD hS h
set_option maxHeartbeats 4000000 in
set_option maxRecDepth 100000 in
theorem c_X1_setBarred {l : Launch} {D : va_G} {K : Nat → ClassId} {h0 : Nat} {a0 : Nat → Nat} {r0 : zS} {p1 : Int32} {p2 : Int32} {p3 : Int32} {sz : Nat} {post : (zS) → Prop}   (h : wp_X1_setBarred r0 p1 p2 p3 post) : Met l yX1_setBarred (Cond.code yX1_setBarred cX1_setBarred 4 none :: wsL_law) ({ frames := 3, cells := 0, slots := 0, locals := 123 } : Room) (va_Pc [.ref h0, .int p1, .int p2, .int p3] (xPre D vwCl (xty K) (wX1 K h0 a0 r0) sz)) (va_Qv (fun (u : (zS)) => post u) (fun (u : (zS)) t => va_P D vwCl (wX1 K h0 a0 u) t.heap) (va_A (wX1 K h0 a0 r0) sz)) 0 0 (va_A (wX1 K h0 a0 r0) sz) := by
  refine xMet (by decide) rfl (Nat.le_of_ble_eq_true rfl) (fun p e s m args below meth c C hnm hP hD hsz ls hl => ?_)
  have hl : lv_has ls 4 [(0, .ref h0), (1, .int p1), (2, .int p2), (3, .int p3)] := hl
  obtain ⟨hx, hb, hr, hml, hown, hts, hlocks, hK, hT⟩ := id C
  subst hsz
  generalize hAe : va_A (wX1 K h0 a0 r0) s.heap.size = A at hD ⊢
  have hA : ∀ q : Nat, s.heap.size ≤ q → A q := fun q h => by rw [← hAe]; exact Or.inr h
  have hS : va_S A s.heap s.heap [] := va_S.rf
  have hP : va_P D vwCl (wX1 K h0 a0 r0) s.heap := hP
  unfold wp_X1_setBarred at h
  refine lv_aload_n hx hb dX1_setBarred_0 rfl (lv_at hl 0 rfl) ?_
  refine lv_iload_n hx hb dX1_setBarred_1 rfl (lv_at hl 1 rfl) ?_
  refine xend_ro_i (xRunV_id (As := [.int p1]) (rest := []) C (c_X1_has h) k_X1_has mw_283 ⟨rfl, rfl⟩ ⟨Nat.le_of_ble_eq_true rfl, Nat.le_of_ble_eq_true rfl⟩ hP hD rfl rfl hl rfl rfl (Nat.le_of_ble_eq_true rfl) dX1_setBarred_2 ⟨Nat.le_refl _, Nat.le_refl _⟩) (fun v1 h => ?_)
  refine lv_if_eq (tgt := 90) hx hb dX1_setBarred_5 (by decide) (fun c2 => ?_) (fun c2 => ?_)
  · replace h := And.left h c2
    exact xrw_v C r0 h hP hS dX1_setBarred_90
  · replace h := And.right h c2
    refine lv_aload_n hx hb dX1_setBarred_8 rfl (lv_at hl 0 rfl) ?_
    refine lv_iload_n hx hb dX1_setBarred_9 rfl (lv_at hl 2 rfl) ?_
    refine xend_ro_i (xRunV_id (As := [.int p2]) (rest := []) C (c_X1_has h) k_X1_has mw_283 ⟨rfl, rfl⟩ ⟨Nat.le_of_ble_eq_true rfl, Nat.le_of_ble_eq_true rfl⟩ hP hD rfl rfl hl rfl rfl (Nat.le_of_ble_eq_true rfl) dX1_setBarred_10 ⟨Nat.le_refl _, Nat.le_refl _⟩) (fun v3 h => ?_)
    refine lv_if_eq (tgt := 90) hx hb dX1_setBarred_13 (by decide) (fun c4 => ?_) (fun c4 => ?_)
    · replace h := And.left h c4
      exact xrw_v C r0 h hP hS dX1_setBarred_90
    · replace h := And.right h c4
      refine lv_aload_n hx hb dX1_setBarred_16 rfl (lv_at hl 0 rfl) ?_
      refine va_get (D := D) (ci := 1) (v := .ref (a0 8)) (C := RX1) (T := TX1) (N := 10) hx hb hts inlX1 hown hK hP 0 rfl rfl 8 (by decide) (hts (.fieldLink RX1 37 "UnderTheDesks$Room" "barred" "[I") mw_59) (fun _ h9 => h9) rfl dX1_setBarred_17 ?_
      refine lv_iload_n hx hb dX1_setBarred_20 rfl (lv_at hl 1 rfl) ?_
      refine lv_iload_n hx hb dX1_setBarred_21 rfl (lv_at hl 3 rfl) ?_
      refine lv_if_eq (tgt := 38) hx hb dX1_setBarred_22 (by decide) (fun c5 => ?_) (fun c5 => ?_)
      · replace h := And.left h c5
        refine lv_aload_n hx hb dX1_setBarred_38 rfl (lv_at hl 0 rfl) ?_
        refine va_get (D := D) (ci := 1) (v := .ref (a0 8)) (C := RX1) (T := TX1) (N := 10) hx hb hts inlX1 hown hK hP 0 rfl rfl 8 (by decide) (hts (.fieldLink RX1 37 "UnderTheDesks$Room" "barred" "[I") mw_59) (fun _ h9 => h9) rfl dX1_setBarred_39 ?_
        refine lv_iload_n hx hb dX1_setBarred_42 rfl (lv_at hl 1 rfl) ?_
        have hin := And.left h
        replace h := And.right h
        refine va_iald hx hb hK hP 4 0 rfl rfl hin dX1_setBarred_43 ?_
        refine lv_iconst (v := 1) hx hb dX1_setBarred_44 (by decide) ?_
        refine lv_iload_n hx hb dX1_setBarred_45 rfl (lv_at hl 2 rfl) ?_
        refine lv_ishl hx hb dX1_setBarred_46 ?_
        refine lv_iconst (v := -1) hx hb dX1_setBarred_47 (by decide) ?_
        refine lv_ixor hx hb dX1_setBarred_48 ?_
        refine lv_iand hx hb dX1_setBarred_49 ?_
        exact t_X1_setBarred_50 C hA _ _ _ _ _ _ (lv_sub hl [0, 1, 2, 3] rfl) hP hD hS h
      · replace h := And.right h c5
        refine lv_aload_n hx hb dX1_setBarred_25 rfl (lv_at hl 0 rfl) ?_
        refine va_get (D := D) (ci := 1) (v := .ref (a0 8)) (C := RX1) (T := TX1) (N := 10) hx hb hts inlX1 hown hK hP 0 rfl rfl 8 (by decide) (hts (.fieldLink RX1 37 "UnderTheDesks$Room" "barred" "[I") mw_59) (fun _ h9 => h9) rfl dX1_setBarred_26 ?_
        refine lv_iload_n hx hb dX1_setBarred_29 rfl (lv_at hl 1 rfl) ?_
        have hin := And.left h
        replace h := And.right h
        refine va_iald hx hb hK hP 4 0 rfl rfl hin dX1_setBarred_30 ?_
        refine lv_iconst (v := 1) hx hb dX1_setBarred_31 (by decide) ?_
        refine lv_iload_n hx hb dX1_setBarred_32 rfl (lv_at hl 2 rfl) ?_
        refine lv_ishl hx hb dX1_setBarred_33 ?_
        refine lv_ior hx hb dX1_setBarred_34 ?_
        refine lv_goto (tgt := 50) hx hb dX1_setBarred_35 (by decide) ?_
        exact t_X1_setBarred_50 C hA _ _ _ _ _ _ (lv_sub hl [0, 1, 2, 3] rfl) hP hD hS h

def wb_X1_barredPairs_4 (r0 : zS) (post : Int32 → Prop) (ih : Int32 → Int32 → Prop) (x1 : Int32) (x2 : Int32) : Prop :=
  ((r0.1 1) ≤ x2 → post (x1 / (2 : Int32)) ) ∧ (¬ (r0.1 1) ≤ x2 → wp_X1_barredOf r0 x2 (fun v2 => wp_J6_bitCount_0f7a4 v2 (fun v3 => ∀ v4 : Int32, v4 = (x1 + v3) → ∀ v5 : Int32, v5 = x2 + (1 : Int32) → ih v4 v5)))
def wp_X1_barredPairs_4 (r0 : zS) (post : Int32 → Prop) (n : Nat) : Int32 → Int32 → Prop := Nat.rec (motive := fun _ => Int32 → Int32 → Prop) (fun _ _ => False) (fun _ ih => wb_X1_barredPairs_4 r0 post ih) n
theorem wu_X1_barredPairs_4 (r0 : zS) (post : Int32 → Prop) (n : Nat) (x1 : Int32) (x2 : Int32) : wp_X1_barredPairs_4 r0 post (n + 1) x1 x2 = wb_X1_barredPairs_4 r0 post (wp_X1_barredPairs_4 r0 post n) x1 x2 := rfl
def wp_X1_barredPairs (r0 : zS) (post : Int32 → Prop) : Prop :=
  ∃ n : Nat, wp_X1_barredPairs_4 r0 post n (0 : Int32) (0 : Int32)
set_option maxHeartbeats 4000000 in
set_option maxRecDepth 100000 in
theorem t_X1_barredPairs_4 {p : Program} {l : Launch} {e : Env} {s : State} {m : MethodId} {args : Array Value} {below : List Frame} {meth : Method} {c : Code} {D : va_G} {K : Nat → ClassId} {h0 : Nat} {a0 : Nat → Nat} {r0 : zS} {post : Int32 → Prop} (C : xC p s m args meth c cX1_barredPairs RX1 3 (some .int) D vwCl (xty K)) (hP : va_P D vwCl (wX1 K h0 a0 r0) s.heap) (hD : va_D (va_A (wX1 K h0 a0 r0) s.heap.size) (wX1 K h0 a0 r0)) : ∀ (n : Nat) (x1 : Int32) (x2 : Int32) (ls : Array Slot), lv_has ls 3 [(0, .ref h0), (1, .int x1), (2, .int x2)] → wp_X1_barredPairs_4 r0 post n x1 x2 → W p l e ({ frames := 2, cells := 0, slots := 0, locals := 42 } : Room) s m args below meth c s.heap [] 0 0 (MQ below (roI post) args s 0 0 (fun _ => False)) (F0 m 4 ls []) := by
  obtain ⟨hx, hb, hr, hml, hown, hts, hlocks, hK, hT⟩ := id C
  intro n
  induction n with
  | zero =>
    intro x1 x2 ls hl h
    exact False.elim h
  | succ n ihn =>
    intro x1 x2 ls hl h
    rw [wu_X1_barredPairs_4] at h
    unfold wb_X1_barredPairs_4 at h
    refine lv_iload_n hx hb dX1_barredPairs_4 rfl (lv_at hl 2 rfl) ?_
    refine lv_aload_n hx hb dX1_barredPairs_5 rfl (lv_at hl 0 rfl) ?_
    refine va_get (D := D) (ci := 1) (v := .int (r0.1 1)) (C := RX1) (T := TX1) (N := 10) hx hb hts inlX1 hown hK hP 0 rfl rfl 1 (by decide) (hts (.fieldLink RX1 15 "UnderTheDesks$Room" "count" "I") mw_52) (fun _ h9 => h9) rfl dX1_barredPairs_6 ?_
    refine lv_icmp_ge (tgt := 29) hx hb dX1_barredPairs_9 (by decide) (fun c1 => ?_) (fun c1 => ?_)
    · replace h := And.left h c1
      refine lv_iload_n hx hb dX1_barredPairs_29 rfl (lv_at hl 1 rfl) ?_
      refine lv_iconst (v := 2) hx hb dX1_barredPairs_30 (by decide) ?_
      refine lv_idiv hx hb dX1_barredPairs_31 (by decide) ?_
      exact xro_i C h dX1_barredPairs_32
    · replace h := And.right h c1
      refine lv_iload_n hx hb dX1_barredPairs_12 rfl (lv_at hl 1 rfl) ?_
      refine lv_aload_n hx hb dX1_barredPairs_13 rfl (lv_at hl 0 rfl) ?_
      refine lv_iload_n hx hb dX1_barredPairs_14 rfl (lv_at hl 2 rfl) ?_
      refine xend_ro_i (xRunV_id (As := [.int x2]) (rest := [.int x1]) C (c_X1_barredOf h) k_X1_barredOf mw_437 ⟨rfl, rfl⟩ ⟨Nat.le_of_ble_eq_true rfl, Nat.le_of_ble_eq_true rfl⟩ hP hD rfl rfl hl rfl rfl (Nat.le_of_ble_eq_true rfl) dX1_barredPairs_15 ⟨Nat.le_refl _, Nat.le_refl _⟩) (fun v2 h => ?_)
      refine xend_ro_i (xRunS (wc := ([] : va_W)) (As := [.int v2]) (rest := [.int x1]) C (c_J6_bitCount_0f7a4 h) k_J6_bitCount_0f7a4 mw_306 ⟨rfl, rfl⟩ ⟨Nat.le_of_ble_eq_true rfl, Nat.le_of_ble_eq_true rfl⟩ hP hD [] rfl rfl hl rfl rfl (Nat.le_of_ble_eq_true rfl) dX1_barredPairs_18 ⟨Nat.le_refl _, Nat.le_refl _⟩) (fun v3 h => ?_)
      refine lv_iadd hx hb dX1_barredPairs_21 ?_
      refine lv_topi (fun v4 ev4 => ?_)
      replace h := h v4 ev4
      refine lv_istore_n (lv' := [(1, .int v4), (0, .ref h0), (2, .int x2)]) hx hb dX1_barredPairs_22 rfl hl (by decide) rfl (fun ls hl => ?_)
      obtain ⟨v5, ev5⟩ : ∃ y : Int32, y = x2 + (1 : Int32) := ⟨_, rfl⟩
      replace h := h v5 ev5
      refine lv_iinc (v := v5) (lv' := [(2, .int v5), (1, .int v4), (0, .ref h0)]) hx hb dX1_barredPairs_23 hl (k := 2) rfl (by rw [ev5]; rfl) (by decide) rfl (fun ls hl => ?_)
      refine lv_goto (tgt := 4) hx hb dX1_barredPairs_26 (by decide) ?_
      exact ihn _ _ _ (lv_sub hl [2, 1, 0] rfl) h
set_option maxHeartbeats 4000000 in
set_option maxRecDepth 100000 in
theorem c_X1_barredPairs {l : Launch} {D : va_G} {K : Nat → ClassId} {h0 : Nat} {a0 : Nat → Nat} {r0 : zS}  {sz : Nat} {post : Int32 → Prop}   (h : wp_X1_barredPairs r0 post) : Met l yX1_barredPairs (Cond.code yX1_barredPairs cX1_barredPairs 3 (some .int) :: wsL_law) ({ frames := 2, cells := 0, slots := 0, locals := 42 } : Room) (va_Pc [.ref h0] (xPre D vwCl (xty K) (wX1 K h0 a0 r0) sz)) (roI post) 0 0 (fun _ => False) := by
  refine xMet (by decide) rfl (Nat.le_of_ble_eq_true rfl) (fun p e s m args below meth c C hnm hP hD hsz ls hl => ?_)
  have hl : lv_has ls 3 [(0, .ref h0)] := hl
  obtain ⟨hx, hb, hr, hml, hown, hts, hlocks, hK, hT⟩ := id C
  unfold wp_X1_barredPairs at h
  refine lv_iconst (v := 0) hx hb dX1_barredPairs_0 (by decide) ?_
  refine lv_istore_n (lv' := [(1, .int (0 : Int32)), (0, .ref h0)]) hx hb dX1_barredPairs_1 rfl hl (by decide) rfl (fun ls hl => ?_)
  refine lv_iconst (v := 0) hx hb dX1_barredPairs_2 (by decide) ?_
  refine lv_istore_n (lv' := [(2, .int (0 : Int32)), (1, .int (0 : Int32)), (0, .ref h0)]) hx hb dX1_barredPairs_3 rfl hl (by decide) rfl (fun ls hl => ?_)
  obtain ⟨n0, h⟩ := h
  exact t_X1_barredPairs_4 C hP hD n0 _ _ _ (lv_sub hl [2, 1, 0] rfl) h

def wp_X1_readersAmong_37 (r0 : zS) (p1 : Int32) (post : Int32 → Prop) (k4 : Int32 → Int32 → Prop) (x2 : Int32) (x3 : Int32) : Prop :=
  ∀ v3 : Int32, v3 = x3 + (1 : Int32) → k4 x2 v3
def wb_X1_readersAmong_4 (r0 : zS) (p1 : Int32) (post : Int32 → Prop) (ih : Int32 → Int32 → Prop) (x2 : Int32) (x3 : Int32) : Prop :=
  ((r0.1 1) ≤ x3 → post x2 ) ∧ (¬ (r0.1 1) ≤ x3 → (((p1 >>> (x3 &&& 31)) &&& (1 : Int32)) = 0 → wp_X1_readersAmong_37 r0 p1 post ih x2 x3) ∧ (¬ ((p1 >>> (x3 &&& 31)) &&& (1 : Int32)) = 0 → wp_X1_kindOf r0 x3 (fun v4 => wp_X7_reads v4 (fun v5 => (v5 = 0 → wp_X1_readersAmong_37 r0 p1 post ih x2 x3) ∧ (¬ v5 = 0 → ∀ v7 : Int32, v7 = (x2 ||| ((1 : Int32) <<< (x3 &&& 31))) → wp_X1_readersAmong_37 r0 p1 post ih v7 x3)))))
def wp_X1_readersAmong_4 (r0 : zS) (p1 : Int32) (post : Int32 → Prop) (n : Nat) : Int32 → Int32 → Prop := Nat.rec (motive := fun _ => Int32 → Int32 → Prop) (fun _ _ => False) (fun _ ih => wb_X1_readersAmong_4 r0 p1 post ih) n
theorem wu_X1_readersAmong_4 (r0 : zS) (p1 : Int32) (post : Int32 → Prop) (n : Nat) (x2 : Int32) (x3 : Int32) : wp_X1_readersAmong_4 r0 p1 post (n + 1) x2 x3 = wb_X1_readersAmong_4 r0 p1 post (wp_X1_readersAmong_4 r0 p1 post n) x2 x3 := rfl
def wp_X1_readersAmong (r0 : zS) (p1 : Int32) (post : Int32 → Prop) : Prop :=
  ∃ n : Nat, wp_X1_readersAmong_4 r0 p1 post n (0 : Int32) (0 : Int32)
set_option maxHeartbeats 4000000 in
set_option maxRecDepth 100000 in
theorem t_X1_readersAmong_37 {p : Program} {l : Launch} {e : Env} {s : State} {m : MethodId} {args : Array Value} {below : List Frame} {meth : Method} {c : Code} {D : va_G} {K : Nat → ClassId} {h0 : Nat} {a0 : Nat → Nat} {r0 : zS} {p1 : Int32} {post : Int32 → Prop} (C : xC p s m args meth c cX1_readersAmong RX1 4 (some .int) D vwCl (xty K)) (hP : va_P D vwCl (wX1 K h0 a0 r0) s.heap) (hD : va_D (va_A (wX1 K h0 a0 r0) s.heap.size) (wX1 K h0 a0 r0)) {k4 : Int32 → Int32 → Prop} (hk4 : ∀ (x2 : Int32) (x3 : Int32) (ls : Array Slot), lv_has ls 4 [(0, .ref h0), (1, .int p1), (2, .int x2), (3, .int x3)] → k4  x2 x3  → W p l e ({ frames := 2, cells := 0, slots := 0, locals := 42 } : Room) s m args below meth c s.heap [] 0 0 (MQ below (roI post) args s 0 0 (fun _ => False)) (F0 m 4 ls [])) : ∀ (x2 : Int32) (x3 : Int32) (ls : Array Slot), lv_has ls 4 [(0, .ref h0), (1, .int p1), (2, .int x2), (3, .int x3)] → wp_X1_readersAmong_37 r0 p1 post k4 x2 x3 → W p l e ({ frames := 2, cells := 0, slots := 0, locals := 42 } : Room) s m args below meth c s.heap [] 0 0 (MQ below (roI post) args s 0 0 (fun _ => False)) (F0 m 37 ls []) := by
  obtain ⟨hx, hb, hr, hml, hown, hts, hlocks, hK, hT⟩ := id C
  intro x2 x3 ls hl h
  unfold wp_X1_readersAmong_37 at h
  obtain ⟨v3, ev3⟩ : ∃ y : Int32, y = x3 + (1 : Int32) := ⟨_, rfl⟩
  replace h := h v3 ev3
  refine lv_iinc (v := v3) (lv' := [(3, .int v3), (0, .ref h0), (1, .int p1), (2, .int x2)]) hx hb dX1_readersAmong_37 hl (k := 3) rfl (by rw [ev3]; rfl) (by decide) rfl (fun ls hl => ?_)
  refine lv_goto (tgt := 4) hx hb dX1_readersAmong_40 (by decide) ?_
  exact hk4 _ _ _ (lv_sub hl [1, 2, 3, 0] rfl) h
set_option maxHeartbeats 4000000 in
set_option maxRecDepth 100000 in
theorem t_X1_readersAmong_4 {p : Program} {l : Launch} {e : Env} {s : State} {m : MethodId} {args : Array Value} {below : List Frame} {meth : Method} {c : Code} {D : va_G} {K : Nat → ClassId} {h0 : Nat} {a0 : Nat → Nat} {r0 : zS} {p1 : Int32} {post : Int32 → Prop} (C : xC p s m args meth c cX1_readersAmong RX1 4 (some .int) D vwCl (xty K)) (hP : va_P D vwCl (wX1 K h0 a0 r0) s.heap) (hD : va_D (va_A (wX1 K h0 a0 r0) s.heap.size) (wX1 K h0 a0 r0)) : ∀ (n : Nat) (x2 : Int32) (x3 : Int32) (ls : Array Slot), lv_has ls 4 [(0, .ref h0), (1, .int p1), (2, .int x2), (3, .int x3)] → wp_X1_readersAmong_4 r0 p1 post n x2 x3 → W p l e ({ frames := 2, cells := 0, slots := 0, locals := 42 } : Room) s m args below meth c s.heap [] 0 0 (MQ below (roI post) args s 0 0 (fun _ => False)) (F0 m 4 ls []) := by
  obtain ⟨hx, hb, hr, hml, hown, hts, hlocks, hK, hT⟩ := id C
  intro n
  induction n with
  | zero =>
    intro x2 x3 ls hl h
    exact False.elim h
  | succ n ihn =>
    intro x2 x3 ls hl h
    rw [wu_X1_readersAmong_4] at h
    unfold wb_X1_readersAmong_4 at h
    refine lv_iload_n hx hb dX1_readersAmong_4 rfl (lv_at hl 3 rfl) ?_
    refine lv_aload_n hx hb dX1_readersAmong_5 rfl (lv_at hl 0 rfl) ?_
    refine va_get (D := D) (ci := 1) (v := .int (r0.1 1)) (C := RX1) (T := TX1) (N := 10) hx hb hts inlX1 hown hK hP 0 rfl rfl 1 (by decide) (hts (.fieldLink RX1 15 "UnderTheDesks$Room" "count" "I") mw_52) (fun _ h9 => h9) rfl dX1_readersAmong_6 ?_
    refine lv_icmp_ge (tgt := 43) hx hb dX1_readersAmong_9 (by decide) (fun c1 => ?_) (fun c1 => ?_)
    · replace h := And.left h c1
      refine lv_iload_n hx hb dX1_readersAmong_43 rfl (lv_at hl 2 rfl) ?_
      exact xro_i C h dX1_readersAmong_44
    · replace h := And.right h c1
      refine lv_iload_n hx hb dX1_readersAmong_12 rfl (lv_at hl 1 rfl) ?_
      refine lv_iload_n hx hb dX1_readersAmong_13 rfl (lv_at hl 3 rfl) ?_
      refine lv_ishr hx hb dX1_readersAmong_14 ?_
      refine lv_iconst (v := 1) hx hb dX1_readersAmong_15 (by decide) ?_
      refine lv_iand hx hb dX1_readersAmong_16 ?_
      refine lv_if_eq (tgt := 37) hx hb dX1_readersAmong_17 (by decide) (fun c2 => ?_) (fun c2 => ?_)
      · replace h := And.left h c2
        exact t_X1_readersAmong_37 C hP hD ihn _ _ _ (lv_sub hl [0, 1, 2, 3] rfl) h
      · replace h := And.right h c2
        refine lv_aload_n hx hb dX1_readersAmong_20 rfl (lv_at hl 0 rfl) ?_
        refine lv_iload_n hx hb dX1_readersAmong_21 rfl (lv_at hl 3 rfl) ?_
        refine xend_ro_i (xRunV_id (As := [.int x3]) (rest := []) C (c_X1_kindOf h) k_X1_kindOf mw_321 ⟨rfl, rfl⟩ ⟨Nat.le_of_ble_eq_true rfl, Nat.le_of_ble_eq_true rfl⟩ hP hD rfl rfl hl rfl rfl (Nat.le_of_ble_eq_true rfl) dX1_readersAmong_22 ⟨Nat.le_refl _, Nat.le_refl _⟩) (fun v4 h => ?_)
        refine xend_ro_i (xRunSN (wc := ([] : va_W)) (As := [.int v4]) (rest := []) C (c_X7_reads h) k_X7_reads (by exact hT.2.2.2.2.2.2.2.1) ⟨rfl, rfl⟩ ⟨Nat.le_of_ble_eq_true rfl, Nat.le_of_ble_eq_true rfl⟩ hP hD [] rfl rfl hl rfl rfl (Nat.le_of_ble_eq_true rfl) dX1_readersAmong_25 ⟨Nat.le_refl _, Nat.le_refl _⟩) (fun v5 h => ?_)
        refine lv_if_eq (tgt := 37) hx hb dX1_readersAmong_28 (by decide) (fun c6 => ?_) (fun c6 => ?_)
        · replace h := And.left h c6
          exact t_X1_readersAmong_37 C hP hD ihn _ _ _ (lv_sub hl [0, 1, 2, 3] rfl) h
        · replace h := And.right h c6
          refine lv_iload_n hx hb dX1_readersAmong_31 rfl (lv_at hl 2 rfl) ?_
          refine lv_iconst (v := 1) hx hb dX1_readersAmong_32 (by decide) ?_
          refine lv_iload_n hx hb dX1_readersAmong_33 rfl (lv_at hl 3 rfl) ?_
          refine lv_ishl hx hb dX1_readersAmong_34 ?_
          refine lv_ior hx hb dX1_readersAmong_35 ?_
          refine lv_topi (fun v7 ev7 => ?_)
          replace h := h v7 ev7
          refine lv_istore_n (lv' := [(2, .int v7), (0, .ref h0), (1, .int p1), (3, .int x3)]) hx hb dX1_readersAmong_36 rfl hl (by decide) rfl (fun ls hl => ?_)
          exact t_X1_readersAmong_37 C hP hD ihn _ _ _ (lv_sub hl [1, 2, 0, 3] rfl) h
set_option maxHeartbeats 4000000 in
set_option maxRecDepth 100000 in
theorem c_X1_readersAmong {l : Launch} {D : va_G} {K : Nat → ClassId} {h0 : Nat} {a0 : Nat → Nat} {r0 : zS} {p1 : Int32} {sz : Nat} {post : Int32 → Prop}   (h : wp_X1_readersAmong r0 p1 post) : Met l yX1_readersAmong (Cond.code yX1_readersAmong cX1_readersAmong 4 (some .int) :: wsL_law) ({ frames := 2, cells := 0, slots := 0, locals := 42 } : Room) (va_Pc [.ref h0, .int p1] (xPre D vwCl (xty K) (wX1 K h0 a0 r0) sz)) (roI post) 0 0 (fun _ => False) := by
  refine xMet (by decide) rfl (Nat.le_of_ble_eq_true rfl) (fun p e s m args below meth c C hnm hP hD hsz ls hl => ?_)
  have hl : lv_has ls 4 [(0, .ref h0), (1, .int p1)] := hl
  obtain ⟨hx, hb, hr, hml, hown, hts, hlocks, hK, hT⟩ := id C
  unfold wp_X1_readersAmong at h
  refine lv_iconst (v := 0) hx hb dX1_readersAmong_0 (by decide) ?_
  refine lv_istore_n (lv' := [(2, .int (0 : Int32)), (0, .ref h0), (1, .int p1)]) hx hb dX1_readersAmong_1 rfl hl (by decide) rfl (fun ls hl => ?_)
  refine lv_iconst (v := 0) hx hb dX1_readersAmong_2 (by decide) ?_
  refine lv_istore_n (lv' := [(3, .int (0 : Int32)), (2, .int (0 : Int32)), (0, .ref h0), (1, .int p1)]) hx hb dX1_readersAmong_3 rfl hl (by decide) rfl (fun ls hl => ?_)
  obtain ⟨n0, h⟩ := h
  exact t_X1_readersAmong_4 C hP hD n0 _ _ _ (lv_sub hl [2, 3, 1, 0] rfl) h

def wp_X1_reachOf_50 (r0 : zS) (p1 : Int32) (p2 : Int32) (post : Int32 → Prop) (k9 : Int32 → Int32 → Prop) (k21 : Int32 → Int32 → Int32 → Prop) (x3 : Int32) (x4 : Int32) (x5 : Int32) : Prop :=
  ∀ v6 : Int32, v6 = x5 + (1 : Int32) → k21 x3 x4 v6
def wb_X1_reachOf_21 (r0 : zS) (p1 : Int32) (p2 : Int32) (post : Int32 → Prop) (k9 : Int32 → Int32 → Prop) (ih : Int32 → Int32 → Int32 → Prop) (x3 : Int32) (x4 : Int32) (x5 : Int32) : Prop :=
  ((r0.1 1) ≤ x5 → ∀ v4 : Int32, v4 = x4 + (1 : Int32) → k9 x3 v4) ∧ (¬ (r0.1 1) ≤ x5 → (((x3 &&& p2) &&& ((1 : Int32) <<< (x5 &&& 31))) = 0 → wp_X1_reachOf_50 r0 p1 p2 post k9 ih x3 x4 x5) ∧ (¬ ((x3 &&& p2) &&& ((1 : Int32) <<< (x5 &&& 31))) = 0 → wp_X1_nearOf r0 x5 (fun v7 => ∀ v8 : Int32, v8 = (x3 ||| v7) → wp_X1_reachOf_50 r0 p1 p2 post k9 ih v8 x4 x5)))
def wp_X1_reachOf_21 (r0 : zS) (p1 : Int32) (p2 : Int32) (post : Int32 → Prop) (k9 : Int32 → Int32 → Prop) (n : Nat) : Int32 → Int32 → Int32 → Prop := Nat.rec (motive := fun _ => Int32 → Int32 → Int32 → Prop) (fun _ _ _ => False) (fun _ ih => wb_X1_reachOf_21 r0 p1 p2 post k9 ih) n
theorem wu_X1_reachOf_21 (r0 : zS) (p1 : Int32) (p2 : Int32) (post : Int32 → Prop) (k9 : Int32 → Int32 → Prop) (n : Nat) (x3 : Int32) (x4 : Int32) (x5 : Int32) : wp_X1_reachOf_21 r0 p1 p2 post k9 (n + 1) x3 x4 x5 = wb_X1_reachOf_21 r0 p1 p2 post k9 (wp_X1_reachOf_21 r0 p1 p2 post k9 n) x3 x4 x5 := rfl
def wb_X1_reachOf_9 (r0 : zS) (p1 : Int32) (p2 : Int32) (post : Int32 → Prop) (ih : Int32 → Int32 → Prop) (x3 : Int32) (x4 : Int32) : Prop :=
  ((r0.1 1) ≤ x4 → post (x3 &&& (((1 : Int32) <<< (p1 &&& 31)) ^^^ (-1 : Int32))) ) ∧ (¬ (r0.1 1) ≤ x4 → ∃ n : Nat, wp_X1_reachOf_21 r0 p1 p2 post ih n x3 x4 (0 : Int32))
def wp_X1_reachOf_9 (r0 : zS) (p1 : Int32) (p2 : Int32) (post : Int32 → Prop) (n : Nat) : Int32 → Int32 → Prop := Nat.rec (motive := fun _ => Int32 → Int32 → Prop) (fun _ _ => False) (fun _ ih => wb_X1_reachOf_9 r0 p1 p2 post ih) n
theorem wu_X1_reachOf_9 (r0 : zS) (p1 : Int32) (p2 : Int32) (post : Int32 → Prop) (n : Nat) (x3 : Int32) (x4 : Int32) : wp_X1_reachOf_9 r0 p1 p2 post (n + 1) x3 x4 = wb_X1_reachOf_9 r0 p1 p2 post (wp_X1_reachOf_9 r0 p1 p2 post n) x3 x4 := rfl
def wp_X1_reachOf (r0 : zS) (p1 : Int32) (p2 : Int32) (post : Int32 → Prop) : Prop :=
  wp_X1_nearOf r0 p1 (fun v1 => ∃ n : Nat, wp_X1_reachOf_9 r0 p1 p2 post n v1 (0 : Int32))
set_option maxHeartbeats 4000000 in
set_option maxRecDepth 100000 in
theorem t_X1_reachOf_50 {p : Program} {l : Launch} {e : Env} {s : State} {m : MethodId} {args : Array Value} {below : List Frame} {meth : Method} {c : Code} {D : va_G} {K : Nat → ClassId} {h0 : Nat} {a0 : Nat → Nat} {r0 : zS} {p1 : Int32} {p2 : Int32} {post : Int32 → Prop} (C : xC p s m args meth c cX1_reachOf RX1 6 (some .int) D vwCl (xty K)) (hP : va_P D vwCl (wX1 K h0 a0 r0) s.heap) (hD : va_D (va_A (wX1 K h0 a0 r0) s.heap.size) (wX1 K h0 a0 r0)) {k9 : Int32 → Int32 → Prop} (hk9 : ∀ (x3 : Int32) (x4 : Int32) (ls : Array Slot), lv_has ls 6 [(0, .ref h0), (1, .int p1), (2, .int p2), (3, .int x3), (4, .int x4)] → k9  x3 x4  → W p l e ({ frames := 2, cells := 0, slots := 0, locals := 42 } : Room) s m args below meth c s.heap [] 0 0 (MQ below (roI post) args s 0 0 (fun _ => False)) (F0 m 9 ls [])) {k21 : Int32 → Int32 → Int32 → Prop} (hk21 : ∀ (x3 : Int32) (x4 : Int32) (x5 : Int32) (ls : Array Slot), lv_has ls 6 [(0, .ref h0), (1, .int p1), (2, .int p2), (3, .int x3), (4, .int x4), (5, .int x5)] → k21  x3 x4 x5  → W p l e ({ frames := 2, cells := 0, slots := 0, locals := 42 } : Room) s m args below meth c s.heap [] 0 0 (MQ below (roI post) args s 0 0 (fun _ => False)) (F0 m 21 ls [])) : ∀ (x3 : Int32) (x4 : Int32) (x5 : Int32) (ls : Array Slot), lv_has ls 6 [(0, .ref h0), (1, .int p1), (2, .int p2), (3, .int x3), (4, .int x4), (5, .int x5)] → wp_X1_reachOf_50 r0 p1 p2 post k9 k21 x3 x4 x5 → W p l e ({ frames := 2, cells := 0, slots := 0, locals := 42 } : Room) s m args below meth c s.heap [] 0 0 (MQ below (roI post) args s 0 0 (fun _ => False)) (F0 m 50 ls []) := by
  obtain ⟨hx, hb, hr, hml, hown, hts, hlocks, hK, hT⟩ := id C
  intro x3 x4 x5 ls hl h
  unfold wp_X1_reachOf_50 at h
  obtain ⟨v6, ev6⟩ : ∃ y : Int32, y = x5 + (1 : Int32) := ⟨_, rfl⟩
  replace h := h v6 ev6
  refine lv_iinc (v := v6) (lv' := [(5, .int v6), (0, .ref h0), (1, .int p1), (2, .int p2), (3, .int x3), (4, .int x4)]) hx hb dX1_reachOf_50 hl (k := 5) rfl (by rw [ev6]; rfl) (by decide) rfl (fun ls hl => ?_)
  refine lv_goto (tgt := 21) hx hb dX1_reachOf_53 (by decide) ?_
  exact hk21 _ _ _ _ (lv_sub hl [1, 2, 3, 4, 5, 0] rfl) h
set_option maxHeartbeats 4000000 in
set_option maxRecDepth 100000 in
theorem t_X1_reachOf_21 {p : Program} {l : Launch} {e : Env} {s : State} {m : MethodId} {args : Array Value} {below : List Frame} {meth : Method} {c : Code} {D : va_G} {K : Nat → ClassId} {h0 : Nat} {a0 : Nat → Nat} {r0 : zS} {p1 : Int32} {p2 : Int32} {post : Int32 → Prop} (C : xC p s m args meth c cX1_reachOf RX1 6 (some .int) D vwCl (xty K)) (hP : va_P D vwCl (wX1 K h0 a0 r0) s.heap) (hD : va_D (va_A (wX1 K h0 a0 r0) s.heap.size) (wX1 K h0 a0 r0)) {k9 : Int32 → Int32 → Prop} (hk9 : ∀ (x3 : Int32) (x4 : Int32) (ls : Array Slot), lv_has ls 6 [(0, .ref h0), (1, .int p1), (2, .int p2), (3, .int x3), (4, .int x4)] → k9  x3 x4  → W p l e ({ frames := 2, cells := 0, slots := 0, locals := 42 } : Room) s m args below meth c s.heap [] 0 0 (MQ below (roI post) args s 0 0 (fun _ => False)) (F0 m 9 ls [])) : ∀ (n : Nat) (x3 : Int32) (x4 : Int32) (x5 : Int32) (ls : Array Slot), lv_has ls 6 [(0, .ref h0), (1, .int p1), (2, .int p2), (3, .int x3), (4, .int x4), (5, .int x5)] → wp_X1_reachOf_21 r0 p1 p2 post k9 n x3 x4 x5 → W p l e ({ frames := 2, cells := 0, slots := 0, locals := 42 } : Room) s m args below meth c s.heap [] 0 0 (MQ below (roI post) args s 0 0 (fun _ => False)) (F0 m 21 ls []) := by
  obtain ⟨hx, hb, hr, hml, hown, hts, hlocks, hK, hT⟩ := id C
  intro n
  induction n with
  | zero =>
    intro x3 x4 x5 ls hl h
    exact False.elim h
  | succ n ihn =>
    intro x3 x4 x5 ls hl h
    rw [wu_X1_reachOf_21] at h
    unfold wb_X1_reachOf_21 at h
    refine lv_iload hx hb dX1_reachOf_21 (lv_at hl 5 rfl) ?_
    refine lv_aload_n hx hb dX1_reachOf_23 rfl (lv_at hl 0 rfl) ?_
    refine va_get (D := D) (ci := 1) (v := .int (r0.1 1)) (C := RX1) (T := TX1) (N := 10) hx hb hts inlX1 hown hK hP 0 rfl rfl 1 (by decide) (hts (.fieldLink RX1 15 "UnderTheDesks$Room" "count" "I") mw_52) (fun _ h9 => h9) rfl dX1_reachOf_24 ?_
    refine lv_icmp_ge (tgt := 56) hx hb dX1_reachOf_27 (by decide) (fun c3 => ?_) (fun c3 => ?_)
    · replace h := And.left h c3
      obtain ⟨v4, ev4⟩ : ∃ y : Int32, y = x4 + (1 : Int32) := ⟨_, rfl⟩
      replace h := h v4 ev4
      refine lv_iinc (v := v4) (lv' := [(4, .int v4), (0, .ref h0), (1, .int p1), (2, .int p2), (3, .int x3), (5, .int x5)]) hx hb dX1_reachOf_56 hl (k := 4) rfl (by rw [ev4]; rfl) (by decide) rfl (fun ls hl => ?_)
      refine lv_goto (tgt := 9) hx hb dX1_reachOf_59 (by decide) ?_
      exact hk9 _ _ _ (lv_sub hl [1, 2, 3, 4, 0] rfl) h
    · replace h := And.right h c3
      refine lv_iload_n hx hb dX1_reachOf_30 rfl (lv_at hl 3 rfl) ?_
      refine lv_iload_n hx hb dX1_reachOf_31 rfl (lv_at hl 2 rfl) ?_
      refine lv_iand hx hb dX1_reachOf_32 ?_
      refine lv_iconst (v := 1) hx hb dX1_reachOf_33 (by decide) ?_
      refine lv_iload hx hb dX1_reachOf_34 (lv_at hl 5 rfl) ?_
      refine lv_ishl hx hb dX1_reachOf_36 ?_
      refine lv_iand hx hb dX1_reachOf_37 ?_
      refine lv_if_eq (tgt := 50) hx hb dX1_reachOf_38 (by decide) (fun c5 => ?_) (fun c5 => ?_)
      · replace h := And.left h c5
        exact t_X1_reachOf_50 C hP hD hk9 ihn _ _ _ _ (lv_sub hl [0, 1, 2, 3, 4, 5] rfl) h
      · replace h := And.right h c5
        refine lv_iload_n hx hb dX1_reachOf_41 rfl (lv_at hl 3 rfl) ?_
        refine lv_aload_n hx hb dX1_reachOf_42 rfl (lv_at hl 0 rfl) ?_
        refine lv_iload hx hb dX1_reachOf_43 (lv_at hl 5 rfl) ?_
        refine xend_ro_i (xRunV_id (As := [.int x5]) (rest := [.int x3]) C (c_X1_nearOf h) k_X1_nearOf mw_302 ⟨rfl, rfl⟩ ⟨Nat.le_of_ble_eq_true rfl, Nat.le_of_ble_eq_true rfl⟩ hP hD rfl rfl hl rfl rfl (Nat.le_of_ble_eq_true rfl) dX1_reachOf_45 ⟨Nat.le_refl _, Nat.le_refl _⟩) (fun v7 h => ?_)
        refine lv_ior hx hb dX1_reachOf_48 ?_
        refine lv_topi (fun v8 ev8 => ?_)
        replace h := h v8 ev8
        refine lv_istore_n (lv' := [(3, .int v8), (0, .ref h0), (1, .int p1), (2, .int p2), (4, .int x4), (5, .int x5)]) hx hb dX1_reachOf_49 rfl hl (by decide) rfl (fun ls hl => ?_)
        exact t_X1_reachOf_50 C hP hD hk9 ihn _ _ _ _ (lv_sub hl [1, 2, 3, 0, 4, 5] rfl) h
set_option maxHeartbeats 4000000 in
set_option maxRecDepth 100000 in
theorem t_X1_reachOf_9 {p : Program} {l : Launch} {e : Env} {s : State} {m : MethodId} {args : Array Value} {below : List Frame} {meth : Method} {c : Code} {D : va_G} {K : Nat → ClassId} {h0 : Nat} {a0 : Nat → Nat} {r0 : zS} {p1 : Int32} {p2 : Int32} {post : Int32 → Prop} (C : xC p s m args meth c cX1_reachOf RX1 6 (some .int) D vwCl (xty K)) (hP : va_P D vwCl (wX1 K h0 a0 r0) s.heap) (hD : va_D (va_A (wX1 K h0 a0 r0) s.heap.size) (wX1 K h0 a0 r0)) : ∀ (n : Nat) (x3 : Int32) (x4 : Int32) (ls : Array Slot), lv_has ls 6 [(0, .ref h0), (1, .int p1), (2, .int p2), (3, .int x3), (4, .int x4)] → wp_X1_reachOf_9 r0 p1 p2 post n x3 x4 → W p l e ({ frames := 2, cells := 0, slots := 0, locals := 42 } : Room) s m args below meth c s.heap [] 0 0 (MQ below (roI post) args s 0 0 (fun _ => False)) (F0 m 9 ls []) := by
  obtain ⟨hx, hb, hr, hml, hown, hts, hlocks, hK, hT⟩ := id C
  intro n
  induction n with
  | zero =>
    intro x3 x4 ls hl h
    exact False.elim h
  | succ n ihn =>
    intro x3 x4 ls hl h
    rw [wu_X1_reachOf_9] at h
    unfold wb_X1_reachOf_9 at h
    refine lv_iload hx hb dX1_reachOf_9 (lv_at hl 4 rfl) ?_
    refine lv_aload_n hx hb dX1_reachOf_11 rfl (lv_at hl 0 rfl) ?_
    refine va_get (D := D) (ci := 1) (v := .int (r0.1 1)) (C := RX1) (T := TX1) (N := 10) hx hb hts inlX1 hown hK hP 0 rfl rfl 1 (by decide) (hts (.fieldLink RX1 15 "UnderTheDesks$Room" "count" "I") mw_52) (fun _ h9 => h9) rfl dX1_reachOf_12 ?_
    refine lv_icmp_ge (tgt := 62) hx hb dX1_reachOf_15 (by decide) (fun c2 => ?_) (fun c2 => ?_)
    · replace h := And.left h c2
      refine lv_iload_n hx hb dX1_reachOf_62 rfl (lv_at hl 3 rfl) ?_
      refine lv_iconst (v := 1) hx hb dX1_reachOf_63 (by decide) ?_
      refine lv_iload_n hx hb dX1_reachOf_64 rfl (lv_at hl 1 rfl) ?_
      refine lv_ishl hx hb dX1_reachOf_65 ?_
      refine lv_iconst (v := -1) hx hb dX1_reachOf_66 (by decide) ?_
      refine lv_ixor hx hb dX1_reachOf_67 ?_
      refine lv_iand hx hb dX1_reachOf_68 ?_
      exact xro_i C h dX1_reachOf_69
    · replace h := And.right h c2
      refine lv_iconst (v := 0) hx hb dX1_reachOf_18 (by decide) ?_
      refine lv_istore (lv' := [(5, .int (0 : Int32)), (0, .ref h0), (1, .int p1), (2, .int p2), (3, .int x3), (4, .int x4)]) hx hb dX1_reachOf_19 hl (by decide) rfl (fun ls hl => ?_)
      obtain ⟨n0, h⟩ := h
      exact t_X1_reachOf_21 C hP hD ihn n0 _ _ _ _ (lv_sub hl [1, 2, 3, 4, 5, 0] rfl) h
set_option maxHeartbeats 4000000 in
set_option maxRecDepth 100000 in
theorem c_X1_reachOf {l : Launch} {D : va_G} {K : Nat → ClassId} {h0 : Nat} {a0 : Nat → Nat} {r0 : zS} {p1 : Int32} {p2 : Int32} {sz : Nat} {post : Int32 → Prop}   (h : wp_X1_reachOf r0 p1 p2 post) : Met l yX1_reachOf (Cond.code yX1_reachOf cX1_reachOf 6 (some .int) :: wsL_law) ({ frames := 2, cells := 0, slots := 0, locals := 42 } : Room) (va_Pc [.ref h0, .int p1, .int p2] (xPre D vwCl (xty K) (wX1 K h0 a0 r0) sz)) (roI post) 0 0 (fun _ => False) := by
  refine xMet (by decide) rfl (Nat.le_of_ble_eq_true rfl) (fun p e s m args below meth c C hnm hP hD hsz ls hl => ?_)
  have hl : lv_has ls 6 [(0, .ref h0), (1, .int p1), (2, .int p2)] := hl
  obtain ⟨hx, hb, hr, hml, hown, hts, hlocks, hK, hT⟩ := id C
  unfold wp_X1_reachOf at h
  refine lv_aload_n hx hb dX1_reachOf_0 rfl (lv_at hl 0 rfl) ?_
  refine lv_iload_n hx hb dX1_reachOf_1 rfl (lv_at hl 1 rfl) ?_
  refine xend_ro_i (xRunV_id (As := [.int p1]) (rest := []) C (c_X1_nearOf h) k_X1_nearOf mw_302 ⟨rfl, rfl⟩ ⟨Nat.le_of_ble_eq_true rfl, Nat.le_of_ble_eq_true rfl⟩ hP hD rfl rfl hl rfl rfl (Nat.le_of_ble_eq_true rfl) dX1_reachOf_2 ⟨Nat.le_refl _, Nat.le_refl _⟩) (fun v1 h => ?_)
  refine lv_istore_n (lv' := [(3, .int v1), (0, .ref h0), (1, .int p1), (2, .int p2)]) hx hb dX1_reachOf_5 rfl hl (by decide) rfl (fun ls hl => ?_)
  refine lv_iconst (v := 0) hx hb dX1_reachOf_6 (by decide) ?_
  refine lv_istore (lv' := [(4, .int (0 : Int32)), (3, .int v1), (0, .ref h0), (1, .int p1), (2, .int p2)]) hx hb dX1_reachOf_7 hl (by decide) rfl (fun ls hl => ?_)
  obtain ⟨n0, h⟩ := h
  exact t_X1_reachOf_9 C hP hD n0 _ _ _ (lv_sub hl [2, 3, 4, 1, 0] rfl) h

def wp_X1_looks (r0 : zS) (p1 : Int32) (post : Int32 → Prop) : Prop :=
  ((r0.1 2) < (1 : Int32) → post (1 : Int32) ) ∧ (¬ (r0.1 2) < (1 : Int32) → ¬ (r0.1 2) = 0 ∧ (((p1 - p1 / (r0.1 2) * (r0.1 2)) < (r0.1 3) → post (0 : Int32) ) ∧ (¬ (p1 - p1 / (r0.1 2) * (r0.1 2)) < (r0.1 3) → post (1 : Int32) )))
set_option maxHeartbeats 4000000 in
set_option maxRecDepth 100000 in
theorem c_X1_looks {l : Launch} {D : va_G} {K : Nat → ClassId} {h0 : Nat} {a0 : Nat → Nat} {r0 : zS} {p1 : Int32} {sz : Nat} {post : Int32 → Prop}   (h : wp_X1_looks r0 p1 post) : Met l yX1_looks (Cond.code yX1_looks cX1_looks 2 (some .boolean) :: wsL_law) ({ frames := 0, cells := 0, slots := 0, locals := 0 } : Room) (va_Pc [.ref h0, .int p1] (xPre D vwCl (xty K) (wX1 K h0 a0 r0) sz)) (roI post) 0 0 (fun _ => False) := by
  refine xMet (by decide) rfl (Nat.le_of_ble_eq_true rfl) (fun p e s m args below meth c C hnm hP hD hsz ls hl => ?_)
  have hl : lv_has ls 2 [(0, .ref h0), (1, .int p1)] := hl
  obtain ⟨hx, hb, hr, hml, hown, hts, hlocks, hK, hT⟩ := id C
  unfold wp_X1_looks at h
  refine lv_aload_n hx hb dX1_looks_0 rfl (lv_at hl 0 rfl) ?_
  refine va_get (D := D) (ci := 1) (v := .int (r0.1 2)) (C := RX1) (T := TX1) (N := 10) hx hb hts inlX1 hown hK hP 0 rfl rfl 2 (by decide) (hts (.fieldLink RX1 18 "UnderTheDesks$Room" "term" "I") mw_53) (fun _ h9 => h9) rfl dX1_looks_1 ?_
  refine lv_iconst (v := 1) hx hb dX1_looks_4 (by decide) ?_
  refine lv_icmp_lt (tgt := 21) hx hb dX1_looks_5 (by decide) (fun c1 => ?_) (fun c1 => ?_)
  · replace h := And.left h c1
    refine lv_iconst (v := 1) hx hb dX1_looks_21 (by decide) ?_
    refine lv_goto (tgt := 26) hx hb dX1_looks_22 (by decide) ?_
    exact xro_z C rfl h dX1_looks_26
  · replace h := And.right h c1
    refine lv_iload_n hx hb dX1_looks_8 rfl (lv_at hl 1 rfl) ?_
    refine lv_aload_n hx hb dX1_looks_9 rfl (lv_at hl 0 rfl) ?_
    refine va_get (D := D) (ci := 1) (v := .int (r0.1 2)) (C := RX1) (T := TX1) (N := 10) hx hb hts inlX1 hown hK hP 0 rfl rfl 2 (by decide) (hts (.fieldLink RX1 18 "UnderTheDesks$Room" "term" "I") mw_53) (fun _ h9 => h9) rfl dX1_looks_10 ?_
    have hne := And.left h
    replace h := And.right h
    refine lv_irem hx hb dX1_looks_13 hne ?_
    refine lv_aload_n hx hb dX1_looks_14 rfl (lv_at hl 0 rfl) ?_
    refine va_get (D := D) (ci := 1) (v := .int (r0.1 3)) (C := RX1) (T := TX1) (N := 10) hx hb hts inlX1 hown hK hP 0 rfl rfl 3 (by decide) (hts (.fieldLink RX1 21 "UnderTheDesks$Room" "turned" "I") mw_54) (fun _ h9 => h9) rfl dX1_looks_15 ?_
    refine lv_icmp_lt (tgt := 25) hx hb dX1_looks_18 (by decide) (fun c2 => ?_) (fun c2 => ?_)
    · replace h := And.left h c2
      refine lv_iconst (v := 0) hx hb dX1_looks_25 (by decide) ?_
      exact xro_z C rfl h dX1_looks_26
    · replace h := And.right h c2
      refine lv_iconst (v := 1) hx hb dX1_looks_21 (by decide) ?_
      refine lv_goto (tgt := 26) hx hb dX1_looks_22 (by decide) ?_
      exact xro_z C rfl h dX1_looks_26

def wp_X1_handOf (r0 : zS) (p1 : Int32) (post : Int32 → Prop) : Prop :=
  wp_X1_kindOf r0 p1 (fun v1 => (v1 = (5 : Int32) → post (2 : Int32) ) ∧ (¬ v1 = (5 : Int32) → post (1 : Int32) ))
set_option maxHeartbeats 4000000 in
set_option maxRecDepth 100000 in
theorem c_X1_handOf {l : Launch} {D : va_G} {K : Nat → ClassId} {h0 : Nat} {a0 : Nat → Nat} {r0 : zS} {p1 : Int32} {sz : Nat} {post : Int32 → Prop}   (h : wp_X1_handOf r0 p1 post) : Met l yX1_handOf (Cond.code yX1_handOf cX1_handOf 2 (some .int) :: wsL_law) ({ frames := 2, cells := 0, slots := 0, locals := 42 } : Room) (va_Pc [.ref h0, .int p1] (xPre D vwCl (xty K) (wX1 K h0 a0 r0) sz)) (roI post) 0 0 (fun _ => False) := by
  refine xMet (by decide) rfl (Nat.le_of_ble_eq_true rfl) (fun p e s m args below meth c C hnm hP hD hsz ls hl => ?_)
  have hl : lv_has ls 2 [(0, .ref h0), (1, .int p1)] := hl
  obtain ⟨hx, hb, hr, hml, hown, hts, hlocks, hK, hT⟩ := id C
  unfold wp_X1_handOf at h
  refine lv_aload_n hx hb dX1_handOf_0 rfl (lv_at hl 0 rfl) ?_
  refine lv_iload_n hx hb dX1_handOf_1 rfl (lv_at hl 1 rfl) ?_
  refine xend_ro_i (xRunV_id (As := [.int p1]) (rest := []) C (c_X1_kindOf h) k_X1_kindOf mw_321 ⟨rfl, rfl⟩ ⟨Nat.le_of_ble_eq_true rfl, Nat.le_of_ble_eq_true rfl⟩ hP hD rfl rfl hl rfl rfl (Nat.le_of_ble_eq_true rfl) dX1_handOf_2 ⟨Nat.le_refl _, Nat.le_refl _⟩) (fun v1 h => ?_)
  refine lv_iconst (v := 5) hx hb dX1_handOf_5 (by decide) ?_
  refine lv_icmp_ne (tgt := 13) hx hb dX1_handOf_6 (by decide) (fun c2 => ?_) (fun c2 => ?_)
  · replace h := And.right h c2
    refine lv_iconst (v := 1) hx hb dX1_handOf_13 (by decide) ?_
    exact xro_i C h dX1_handOf_14
  · replace h := And.left h c2
    refine lv_iconst (v := 2) hx hb dX1_handOf_9 (by decide) ?_
    refine lv_goto (tgt := 14) hx hb dX1_handOf_10 (by decide) ?_
    exact xro_i C h dX1_handOf_14

def wp_X1_plainLossOf (r0 : zS) (p1 : Int32) (post : Int32 → Prop) : Prop :=
  wp_X1_has r0 p1 (fun v1 => (v1 = 0 → post (0 : Int32) ) ∧ (¬ v1 = 0 → vp_in p1 12 ∧ (((r0.2.1 5 p1.toNatClampNeg) = 1 → vp_in p1 12 ∧ (post ((500 : Int32) + ((10 : Int32) * (r0.2.1 7 p1.toNatClampNeg))) )) ∧ ((r0.2.1 5 p1.toNatClampNeg) = 4 → vp_in p1 12 ∧ (post ((100 : Int32) * (r0.2.1 7 p1.toNatClampNeg)) )) ∧ (¬ (r0.2.1 5 p1.toNatClampNeg) = 1 → ¬ (r0.2.1 5 p1.toNatClampNeg) = 4 → vp_in p1 12 ∧ (post ((10 : Int32) * (r0.2.1 7 p1.toNatClampNeg)) )))))
set_option maxHeartbeats 4000000 in
set_option maxRecDepth 100000 in
theorem c_X1_plainLossOf {l : Launch} {D : va_G} {K : Nat → ClassId} {h0 : Nat} {a0 : Nat → Nat} {r0 : zS} {p1 : Int32} {sz : Nat} {post : Int32 → Prop}   (h : wp_X1_plainLossOf r0 p1 post) : Met l yX1_plainLossOf (Cond.code yX1_plainLossOf cX1_plainLossOf 2 (some .int) :: wsL_law) ({ frames := 1, cells := 0, slots := 0, locals := 21 } : Room) (va_Pc [.ref h0, .int p1] (xPre D vwCl (xty K) (wX1 K h0 a0 r0) sz)) (roI post) 0 0 (fun _ => False) := by
  refine xMet (by decide) rfl (Nat.le_of_ble_eq_true rfl) (fun p e s m args below meth c C hnm hP hD hsz ls hl => ?_)
  have hl : lv_has ls 2 [(0, .ref h0), (1, .int p1)] := hl
  obtain ⟨hx, hb, hr, hml, hown, hts, hlocks, hK, hT⟩ := id C
  unfold wp_X1_plainLossOf at h
  refine lv_aload_n hx hb dX1_plainLossOf_0 rfl (lv_at hl 0 rfl) ?_
  refine lv_iload_n hx hb dX1_plainLossOf_1 rfl (lv_at hl 1 rfl) ?_
  refine xend_ro_i (xRunV_id (As := [.int p1]) (rest := []) C (c_X1_has h) k_X1_has mw_283 ⟨rfl, rfl⟩ ⟨Nat.le_of_ble_eq_true rfl, Nat.le_of_ble_eq_true rfl⟩ hP hD rfl rfl hl rfl rfl (Nat.le_of_ble_eq_true rfl) dX1_plainLossOf_2 ⟨Nat.le_refl _, Nat.le_refl _⟩) (fun v1 h => ?_)
  refine lv_if_ne (tgt := 10) hx hb dX1_plainLossOf_5 (by decide) (fun c2 => ?_) (fun c2 => ?_)
  · replace h := And.right h c2
    refine lv_aload_n hx hb dX1_plainLossOf_10 rfl (lv_at hl 0 rfl) ?_
    refine va_get (D := D) (ci := 1) (v := .ref (a0 5)) (C := RX1) (T := TX1) (N := 10) hx hb hts inlX1 hown hK hP 0 rfl rfl 5 (by decide) (hts (.fieldLink RX1 27 "UnderTheDesks$Room" "kinds" "[I") mw_56) (fun _ h9 => h9) rfl dX1_plainLossOf_11 ?_
    refine lv_iload_n hx hb dX1_plainLossOf_14 rfl (lv_at hl 1 rfl) ?_
    have hin := And.left h
    replace h := And.right h
    refine va_iald hx hb hK hP 1 0 rfl rfl hin dX1_plainLossOf_15 ?_
    rcases (Decidable.em ((r0.2.1 5 p1.toNatClampNeg) = 1)) with c3 | c3_1
    · have c3T := xsw c3
      replace h := And.left (h) c3
      refine lv_lookup (tgt := 44) hx hb dX1_plainLossOf_16 (by decide) (by rw [c3T] <;> rfl) (by decide) ?_
      refine lv_sipush (v := 500) hx hb dX1_plainLossOf_44 (by decide) ?_
      refine lv_bipush (v := 10) hx hb dX1_plainLossOf_47 (by decide) ?_
      refine lv_aload_n hx hb dX1_plainLossOf_49 rfl (lv_at hl 0 rfl) ?_
      refine va_get (D := D) (ci := 1) (v := .ref (a0 7)) (C := RX1) (T := TX1) (N := 10) hx hb hts inlX1 hown hK hP 0 rfl rfl 7 (by decide) (hts (.fieldLink RX1 34 "UnderTheDesks$Room" "marks" "[I") mw_58) (fun _ h9 => h9) rfl dX1_plainLossOf_50 ?_
      refine lv_iload_n hx hb dX1_plainLossOf_53 rfl (lv_at hl 1 rfl) ?_
      have hin := And.left h
      replace h := And.right h
      refine va_iald hx hb hK hP 3 0 rfl rfl hin dX1_plainLossOf_54 ?_
      refine lv_imul hx hb dX1_plainLossOf_55 ?_
      refine lv_iadd hx hb dX1_plainLossOf_56 ?_
      exact xro_i C h dX1_plainLossOf_57
    rcases (Decidable.em ((r0.2.1 5 p1.toNatClampNeg) = 4)) with c3 | c3_4
    · have c3T := xsw c3
      replace h := And.left (And.right (h)) c3
      refine lv_lookup (tgt := 58) hx hb dX1_plainLossOf_16 (by decide) (by rw [c3T] <;> rfl) (by decide) ?_
      refine lv_bipush (v := 100) hx hb dX1_plainLossOf_58 (by decide) ?_
      refine lv_aload_n hx hb dX1_plainLossOf_60 rfl (lv_at hl 0 rfl) ?_
      refine va_get (D := D) (ci := 1) (v := .ref (a0 7)) (C := RX1) (T := TX1) (N := 10) hx hb hts inlX1 hown hK hP 0 rfl rfl 7 (by decide) (hts (.fieldLink RX1 34 "UnderTheDesks$Room" "marks" "[I") mw_58) (fun _ h9 => h9) rfl dX1_plainLossOf_61 ?_
      refine lv_iload_n hx hb dX1_plainLossOf_64 rfl (lv_at hl 1 rfl) ?_
      have hin := And.left h
      replace h := And.right h
      refine va_iald hx hb hK hP 3 0 rfl rfl hin dX1_plainLossOf_65 ?_
      refine lv_imul hx hb dX1_plainLossOf_66 ?_
      exact xro_i C h dX1_plainLossOf_67
    replace h := And.right (And.right (h)) c3_1 c3_4
    refine lv_lookup (off := 52) (tgt := 68) hx hb dX1_plainLossOf_16 (by decide) ((lv_osw c3_1 rfl).trans (lv_osw c3_4 rfl)) (by decide) ?_
    refine lv_bipush (v := 10) hx hb dX1_plainLossOf_68 (by decide) ?_
    refine lv_aload_n hx hb dX1_plainLossOf_70 rfl (lv_at hl 0 rfl) ?_
    refine va_get (D := D) (ci := 1) (v := .ref (a0 7)) (C := RX1) (T := TX1) (N := 10) hx hb hts inlX1 hown hK hP 0 rfl rfl 7 (by decide) (hts (.fieldLink RX1 34 "UnderTheDesks$Room" "marks" "[I") mw_58) (fun _ h9 => h9) rfl dX1_plainLossOf_71 ?_
    refine lv_iload_n hx hb dX1_plainLossOf_74 rfl (lv_at hl 1 rfl) ?_
    have hin := And.left h
    replace h := And.right h
    refine va_iald hx hb hK hP 3 0 rfl rfl hin dX1_plainLossOf_75 ?_
    refine lv_imul hx hb dX1_plainLossOf_76 ?_
    exact xro_i C h dX1_plainLossOf_77
  · replace h := And.left h c2
    refine lv_iconst (v := 0) hx hb dX1_plainLossOf_8 (by decide) ?_
    exact xro_i C h dX1_plainLossOf_9

def wp_X1_lossOf_13 (r0 : zS) (p1 : Int32) (p2 : Int32) (p3 : Int32) (post : Int32 → Prop) (y0 : Int32) : Prop :=
  wp_X1_looks r0 p3 (fun v3 => (v3 = 0 → post y0 ) ∧ (¬ v3 = 0 → post (if (1000 : Int32) < (y0 + (r0.1 4)) then (1000 : Int32) else (y0 + (r0.1 4))) ))
def wp_X1_lossOf (r0 : zS) (p1 : Int32) (p2 : Int32) (p3 : Int32) (post : Int32 → Prop) : Prop :=
  (p2 = 0 → wp_X1_plainLossOf r0 p1 (fun v2 => wp_X1_lossOf_13 r0 p1 p2 p3 post v2)) ∧ (¬ p2 = 0 → wp_X1_lossOf_13 r0 p1 p2 p3 post (0 : Int32))
set_option maxHeartbeats 4000000 in
set_option maxRecDepth 100000 in
theorem t_X1_lossOf_13 {p : Program} {l : Launch} {e : Env} {s : State} {m : MethodId} {args : Array Value} {below : List Frame} {meth : Method} {c : Code} {D : va_G} {K : Nat → ClassId} {h0 : Nat} {a0 : Nat → Nat} {r0 : zS} {p1 : Int32} {p2 : Int32} {p3 : Int32} {post : Int32 → Prop} (C : xC p s m args meth c cX1_lossOf RX1 5 (some .int) D vwCl (xty K)) (hP : va_P D vwCl (wX1 K h0 a0 r0) s.heap) (hD : va_D (va_A (wX1 K h0 a0 r0) s.heap.size) (wX1 K h0 a0 r0)) : ∀ (y0 : Int32) (ls : Array Slot), lv_has ls 5 [(0, .ref h0), (3, .int p3)] → wp_X1_lossOf_13 r0 p1 p2 p3 post y0 → W p l e ({ frames := 2, cells := 0, slots := 0, locals := 80 } : Room) s m args below meth c s.heap [] 0 0 (MQ below (roI post) args s 0 0 (fun _ => False)) (F0 m 13 ls [.int y0]) := by
  obtain ⟨hx, hb, hr, hml, hown, hts, hlocks, hK, hT⟩ := id C
  intro y0 ls hl h
  unfold wp_X1_lossOf_13 at h
  refine lv_istore (lv' := [(4, .int y0), (0, .ref h0), (3, .int p3)]) hx hb dX1_lossOf_13 hl (by decide) rfl (fun ls hl => ?_)
  refine lv_aload_n hx hb dX1_lossOf_15 rfl (lv_at hl 1 rfl) ?_
  refine lv_iload_n hx hb dX1_lossOf_16 rfl (lv_at hl 2 rfl) ?_
  refine xend_ro_i (xRunV_id (As := [.int p3]) (rest := []) C (c_X1_looks h) k_X1_looks mw_734 ⟨rfl, rfl⟩ ⟨Nat.le_of_ble_eq_true rfl, Nat.le_of_ble_eq_true rfl⟩ hP hD rfl rfl hl rfl rfl (Nat.le_of_ble_eq_true rfl) dX1_lossOf_17 ⟨Nat.le_refl _, Nat.le_refl _⟩) (fun v3 h => ?_)
  refine lv_if_eq (tgt := 39) hx hb dX1_lossOf_20 (by decide) (fun c4 => ?_) (fun c4 => ?_)
  · replace h := And.left h c4
    refine lv_iload hx hb dX1_lossOf_39 (lv_at hl 0 rfl) ?_
    exact xro_i C h dX1_lossOf_41
  · replace h := And.right h c4
    refine lv_iload hx hb dX1_lossOf_23 (lv_at hl 0 rfl) ?_
    refine lv_aload_n hx hb dX1_lossOf_25 rfl (lv_at hl 1 rfl) ?_
    refine va_get (D := D) (ci := 1) (v := .int (r0.1 4)) (C := RX1) (T := TX1) (N := 10) hx hb hts inlX1 hown hK hP 0 rfl rfl 4 (by decide) (hts (.fieldLink RX1 24 "UnderTheDesks$Room" "eye" "I") mw_55) (fun _ h9 => h9) rfl dX1_lossOf_26 ?_
    refine lv_iadd hx hb dX1_lossOf_29 ?_
    refine lv_sipush (v := 1000) hx hb dX1_lossOf_30 (by decide) ?_
    refine va_mmin hx hb (by rw [hml]; exact hl.1.symm) hown (hts _ mw_732) (hts _ mw_476) (hts _ mw_406) (hts _ mw_477) (Nat.le_of_ble_eq_true rfl) (Nat.le_of_ble_eq_true rfl) (Nat.le_of_ble_eq_true rfl) (Nat.le_of_ble_eq_true rfl) dX1_lossOf_33 ?_
    refine lv_goto (tgt := 41) hx hb dX1_lossOf_36 (by decide) ?_
    exact xro_i C h dX1_lossOf_41
set_option maxHeartbeats 4000000 in
set_option maxRecDepth 100000 in
theorem c_X1_lossOf {l : Launch} {D : va_G} {K : Nat → ClassId} {h0 : Nat} {a0 : Nat → Nat} {r0 : zS} {p1 : Int32} {p2 : Int32} {p3 : Int32} {sz : Nat} {post : Int32 → Prop}   (h : wp_X1_lossOf r0 p1 p2 p3 post) : Met l yX1_lossOf (Cond.code yX1_lossOf cX1_lossOf 5 (some .int) :: wsL_law) ({ frames := 2, cells := 0, slots := 0, locals := 80 } : Room) (va_Pc [.ref h0, .int p1, .int p2, .int p3] (xPre D vwCl (xty K) (wX1 K h0 a0 r0) sz)) (roI post) 0 0 (fun _ => False) := by
  refine xMet (by decide) rfl (Nat.le_of_ble_eq_true rfl) (fun p e s m args below meth c C hnm hP hD hsz ls hl => ?_)
  have hl : lv_has ls 5 [(0, .ref h0), (1, .int p1), (2, .int p2), (3, .int p3)] := hl
  obtain ⟨hx, hb, hr, hml, hown, hts, hlocks, hK, hT⟩ := id C
  unfold wp_X1_lossOf at h
  refine lv_iload_n hx hb dX1_lossOf_0 rfl (lv_at hl 2 rfl) ?_
  refine lv_if_eq (tgt := 8) hx hb dX1_lossOf_1 (by decide) (fun c1 => ?_) (fun c1 => ?_)
  · replace h := And.left h c1
    refine lv_aload_n hx hb dX1_lossOf_8 rfl (lv_at hl 0 rfl) ?_
    refine lv_iload_n hx hb dX1_lossOf_9 rfl (lv_at hl 1 rfl) ?_
    refine xend_ro_i (xRunV_id (As := [.int p1]) (rest := []) C (c_X1_plainLossOf h) k_X1_plainLossOf mw_733 ⟨rfl, rfl⟩ ⟨Nat.le_of_ble_eq_true rfl, Nat.le_of_ble_eq_true rfl⟩ hP hD rfl rfl hl rfl rfl (Nat.le_of_ble_eq_true rfl) dX1_lossOf_10 ⟨Nat.le_refl _, Nat.le_refl _⟩) (fun v2 h => ?_)
    exact t_X1_lossOf_13 C hP hD _ _ (lv_sub hl [0, 3] rfl) h
  · replace h := And.right h c1
    refine lv_iconst (v := 0) hx hb dX1_lossOf_4 (by decide) ?_
    refine lv_goto (tgt := 13) hx hb dX1_lossOf_5 (by decide) ?_
    exact t_X1_lossOf_13 C hP hD _ _ (lv_sub hl [0, 3] rfl) h
