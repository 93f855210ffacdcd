theorem xuniq {s : State} {c1 c2 : ClassId} {ty : FieldType} (h1 : va_RA s c1 ty) (h2 : va_RA s c2 ty) : c2 = c1 := by
  cases ty with
  | object C =>
    obtain ⟨_, _, _, _, _, e1⟩ := h1
    obtain ⟨_, _, _, _, _, e2⟩ := h2
    exact Option.some.inj (e2.symm.trans e1)
  | _ => exact Option.some.inj (Eq.trans (Eq.symm h2) h1)
def z1 : zS := ((fun k => match k with | 0 => 3 | 2 => 8 | 3 => 4 | 4 => 300 | _ => 0), fun _ _ => 0, fun _ _ => 0)
set_option maxHeartbeats 4000000 in
set_option maxRecDepth 100000 in
theorem c_X1_init {l : Launch} {D : va_G} {K : Nat → ClassId} {h sz : Nat} : Met l yX1_init (Cond.code yX1_init cX1_init 1 none :: wsL_law) ({ frames := 1, cells := 5, slots := 60, locals := 40 } : Room) (va_Pc [.ref h] (xPre D vwCl (xty K) [(h, .inr (1, [.int 0, .int 0, .int 0, .int 0, .int 0, .null, .null, .null, .null, .null]))] sz)) (va_Qv (fun (_ : (Nat → Nat)) => True) (fun (u : (Nat → Nat)) t => va_P D vwCl (wX1 K h u z1) t.heap ∧ va_D (va_A [(h, .inr (1, [.int 0, .int 0, .int 0, .int 0, .int 0, .null, .null, .null, .null, .null]))] sz) (wX1 K h u z1)) (va_A [(h, .inr (1, [.int 0, .int 0, .int 0, .int 0, .int 0, .null, .null, .null, .null, .null]))] sz)) 5 60 (va_A [(h, .inr (1, [.int 0, .int 0, .int 0, .int 0, .int 0, .null, .null, .null, .null, .null]))] sz) := by
  refine xMet (by decide) rfl (Nat.le_of_ble_eq_true rfl) (fun p e s m args below meth c C hnm hP hD hsz ls hl => ?_)
  have hl : lv_has ls 1 [(0, .ref h)] := hl
  obtain ⟨hx, hb, hr, hml, hown, hts, hlocks, hK, hT⟩ := id C
  subst hsz
  generalize hAe : va_A [(h, .inr (1, [.int 0, .int 0, .int 0, .int 0, .int 0, .null, .null, .null, .null, .null]))] s.heap.size = A at hD ⊢
  have hA : ∀ q : Nat, s.heap.size ≤ q → A q := fun q h => by rw [← hAe]; exact Or.inr h
  have hS : va_S A s.heap s.heap [] := va_S.rf
  refine lv_aload_n hx hb dX1_init_0 rfl (lv_at hl 0 rfl) ?_
  refine W.objInit hx hb hown (hts _ mw_50) (hts _ mw_11) (hts _ mw_12) rfl (by rw [hml]; exact hl.1) rfl dX1_init_1 (Nat.le_of_ble_eq_true rfl) (Nat.le_of_ble_eq_true rfl) ?_
  refine W.eq (g2 := F0 m 4 ls []) rfl ?_
  refine lv_aload_n hx hb dX1_init_4 rfl (lv_at hl 0 rfl) ?_
  refine lv_iconst (v := 3) hx hb dX1_init_5 (by decide) ?_
  refine va_put (D := D) (ci := 1) (v := .int 3) (ty := .int) (C := RX1) (T := TX1) (N := 10) hx hb hts inlX1 tyX1 tyX1_ok nmX1 hown hK hP hD hS 0 rfl rfl 0 (by decide) (hts _ mw_51) (fun _ h9 => h9) rfl (by decide +kernel) rfl rfl (Nat.le_of_ble_eq_true rfl) dX1_init_6 (fun H locs hP hD hS => ?_)
  replace hP : va_P D vwCl ([(h, .inr (1, [.int 3, .int 0, .int 0, .int 0, .int 0, .null, .null, .null, .null, .null]))]) H := hP
  replace hD : va_D A ([(h, .inr (1, [.int 3, .int 0, .int 0, .int 0, .int 0, .null, .null, .null, .null, .null]))]) := hD
  refine lv_aload_n hx hb dX1_init_9 rfl (lv_at hl 0 rfl) ?_
  refine lv_iconst (v := 0) hx hb dX1_init_10 (by decide) ?_
  refine va_put (D := D) (ci := 1) (v := .int 0) (ty := .int) (C := RX1) (T := TX1) (N := 10) hx hb hts inlX1 tyX1 tyX1_ok nmX1 hown hK hP hD hS 0 rfl rfl 1 (by decide) (hts _ mw_52) (fun _ h9 => h9) rfl (by decide +kernel) rfl rfl (Nat.le_of_ble_eq_true rfl) dX1_init_11 (fun H locs hP hD hS => ?_)
  replace hP : va_P D vwCl ([(h, .inr (1, [.int 3, .int 0, .int 0, .int 0, .int 0, .null, .null, .null, .null, .null]))]) H := hP
  replace hD : va_D A ([(h, .inr (1, [.int 3, .int 0, .int 0, .int 0, .int 0, .null, .null, .null, .null, .null]))]) := hD
  refine lv_aload_n hx hb dX1_init_14 rfl (lv_at hl 0 rfl) ?_
  refine lv_bipush (v := 8) hx hb dX1_init_15 (by decide) ?_
  refine va_put (D := D) (ci := 1) (v := .int 8) (ty := .int) (C := RX1) (T := TX1) (N := 10) hx hb hts inlX1 tyX1 tyX1_ok nmX1 hown hK hP hD hS 0 rfl rfl 2 (by decide) (hts _ mw_53) (fun _ h9 => h9) rfl (by decide +kernel) rfl rfl (Nat.le_of_ble_eq_true rfl) dX1_init_17 (fun H locs hP hD hS => ?_)
  replace hP : va_P D vwCl ([(h, .inr (1, [.int 3, .int 0, .int 8, .int 0, .int 0, .null, .null, .null, .null, .null]))]) H := hP
  replace hD : va_D A ([(h, .inr (1, [.int 3, .int 0, .int 8, .int 0, .int 0, .null, .null, .null, .null, .null]))]) := hD
  refine lv_aload_n hx hb dX1_init_20 rfl (lv_at hl 0 rfl) ?_
  refine lv_iconst (v := 4) hx hb dX1_init_21 (by decide) ?_
  refine va_put (D := D) (ci := 1) (v := .int 4) (ty := .int) (C := RX1) (T := TX1) (N := 10) hx hb hts inlX1 tyX1 tyX1_ok nmX1 hown hK hP hD hS 0 rfl rfl 3 (by decide) (hts _ mw_54) (fun _ h9 => h9) rfl (by decide +kernel) rfl rfl (Nat.le_of_ble_eq_true rfl) dX1_init_22 (fun H locs hP hD hS => ?_)
  replace hP : va_P D vwCl ([(h, .inr (1, [.int 3, .int 0, .int 8, .int 4, .int 0, .null, .null, .null, .null, .null]))]) H := hP
  replace hD : va_D A ([(h, .inr (1, [.int 3, .int 0, .int 8, .int 4, .int 0, .null, .null, .null, .null, .null]))]) := hD
  refine lv_aload_n hx hb dX1_init_25 rfl (lv_at hl 0 rfl) ?_
  refine lv_sipush (v := 300) hx hb dX1_init_26 (by decide) ?_
  refine va_put (D := D) (ci := 1) (v := .int 300) (ty := .int) (C := RX1) (T := TX1) (N := 10) hx hb hts inlX1 tyX1 tyX1_ok nmX1 hown hK hP hD hS 0 rfl rfl 4 (by decide) (hts _ mw_55) (fun _ h9 => h9) rfl (by decide +kernel) rfl rfl (Nat.le_of_ble_eq_true rfl) dX1_init_29 (fun H locs hP hD hS => ?_)
  replace hP : va_P D vwCl ([(h, .inr (1, [.int 3, .int 0, .int 8, .int 4, .int 300, .null, .null, .null, .null, .null]))]) H := hP
  replace hD : va_D A ([(h, .inr (1, [.int 3, .int 0, .int 8, .int 4, .int 300, .null, .null, .null, .null, .null]))]) := hD
  refine lv_aload_n hx hb dX1_init_32 rfl (lv_at hl 0 rfl) ?_
  refine lv_bipush (v := 12) hx hb dX1_init_33 (by decide) ?_
  refine va_newa (atype := .int) (ty := .int) (a0 := (12, .inl (fun _ => 0))) hx hb (hts _ mw_44) rfl hK hP hD hS hA (fun _ => rfl) (by decide) (by decide) (by decide) (Nat.le_of_ble_eq_true rfl) (Nat.le_of_ble_eq_true rfl) dX1_init_35 (fun q1 cA H hK2 hP hD hS => ?_)
  obtain rfl := xuniq (hK.2 0 _ rfl).2 (hK2.2 4 _ rfl).2
  clear hK2
  replace hP : va_P D vwCl ([(h, .inr (1, [.int 3, .int 0, .int 8, .int 4, .int 300, .null, .null, .null, .null, .null])), (q1, .inl (K 0, (12, .inl (fun _ => 0))))]) H := hP
  replace hD : va_D A ([(h, .inr (1, [.int 3, .int 0, .int 8, .int 4, .int 300, .null, .null, .null, .null, .null])), (q1, .inl (K 0, (12, .inl (fun _ => 0))))]) := hD
  refine va_putF (D := D) (ci := 1) (v := .ref q1) (ty := .array .int) (C := RX1) (T := TX1) (N := 10) hx hb hts inlX1 tyX1 tyX1_ok nmX1 hown hK hP hD hS 0 rfl rfl 5 (by decide) (hts _ mw_56) (fun _ h9 => h9) rfl hnm rfl (by decide +kernel) rfl rfl (Nat.le_of_ble_eq_true rfl) dX1_init_37 (fun H locs hP hD hS => ?_)
  replace hP : va_P D vwCl ([(h, .inr (1, [.int 3, .int 0, .int 8, .int 4, .int 300, .ref q1, .null, .null, .null, .null])), (q1, .inl (K 0, (12, .inl (fun _ => 0))))]) H := hP
  replace hD : va_D A ([(h, .inr (1, [.int 3, .int 0, .int 8, .int 4, .int 300, .ref q1, .null, .null, .null, .null])), (q1, .inl (K 0, (12, .inl (fun _ => 0))))]) := hD
  refine lv_aload_n hx hb dX1_init_40 rfl (lv_at hl 0 rfl) ?_
  refine lv_bipush (v := 12) hx hb dX1_init_41 (by decide) ?_
  refine va_newa (atype := .int) (ty := .int) (a0 := (12, .inl (fun _ => 0))) hx hb (hts _ mw_44) rfl hK hP hD hS hA (fun _ => rfl) (by decide) (by decide) (by decide) (Nat.le_of_ble_eq_true rfl) (Nat.le_of_ble_eq_true rfl) dX1_init_43 (fun q2 cA H hK2 hP hD hS => ?_)
  obtain rfl := xuniq (hK.2 0 _ rfl).2 (hK2.2 4 _ rfl).2
  clear hK2
  replace hP : va_P D vwCl ([(h, .inr (1, [.int 3, .int 0, .int 8, .int 4, .int 300, .ref q1, .null, .null, .null, .null])), (q1, .inl (K 0, (12, .inl (fun _ => 0)))), (q2, .inl (K 0, (12, .inl (fun _ => 0))))]) H := hP
  replace hD : va_D A ([(h, .inr (1, [.int 3, .int 0, .int 8, .int 4, .int 300, .ref q1, .null, .null, .null, .null])), (q1, .inl (K 0, (12, .inl (fun _ => 0)))), (q2, .inl (K 0, (12, .inl (fun _ => 0))))]) := hD
  refine va_putF (D := D) (ci := 1) (v := .ref q2) (ty := .array .int) (C := RX1) (T := TX1) (N := 10) hx hb hts inlX1 tyX1 tyX1_ok nmX1 hown hK hP hD hS 0 rfl rfl 6 (by decide) (hts _ mw_57) (fun _ h9 => h9) rfl hnm rfl (by decide +kernel) rfl rfl (Nat.le_of_ble_eq_true rfl) dX1_init_45 (fun H locs hP hD hS => ?_)
  replace hP : va_P D vwCl ([(h, .inr (1, [.int 3, .int 0, .int 8, .int 4, .int 300, .ref q1, .ref q2, .null, .null, .null])), (q1, .inl (K 0, (12, .inl (fun _ => 0)))), (q2, .inl (K 0, (12, .inl (fun _ => 0))))]) H := hP
  replace hD : va_D A ([(h, .inr (1, [.int 3, .int 0, .int 8, .int 4, .int 300, .ref q1, .ref q2, .null, .null, .null])), (q1, .inl (K 0, (12, .inl (fun _ => 0)))), (q2, .inl (K 0, (12, .inl (fun _ => 0))))]) := hD
  refine lv_aload_n hx hb dX1_init_48 rfl (lv_at hl 0 rfl) ?_
  refine lv_bipush (v := 12) hx hb dX1_init_49 (by decide) ?_
  refine va_newa (atype := .int) (ty := .int) (a0 := (12, .inl (fun _ => 0))) hx hb (hts _ mw_44) rfl hK hP hD hS hA (fun _ => rfl) (by decide) (by decide) (by decide) (Nat.le_of_ble_eq_true rfl) (Nat.le_of_ble_eq_true rfl) dX1_init_51 (fun q3 cA H hK2 hP hD hS => ?_)
  obtain rfl := xuniq (hK.2 0 _ rfl).2 (hK2.2 4 _ rfl).2
  clear hK2
  replace hP : va_P D vwCl ([(h, .inr (1, [.int 3, .int 0, .int 8, .int 4, .int 300, .ref q1, .ref q2, .null, .null, .null])), (q1, .inl (K 0, (12, .inl (fun _ => 0)))), (q2, .inl (K 0, (12, .inl (fun _ => 0)))), (q3, .inl (K 0, (12, .inl (fun _ => 0))))]) H := hP
  replace hD : va_D A ([(h, .inr (1, [.int 3, .int 0, .int 8, .int 4, .int 300, .ref q1, .ref q2, .null, .null, .null])), (q1, .inl (K 0, (12, .inl (fun _ => 0)))), (q2, .inl (K 0, (12, .inl (fun _ => 0)))), (q3, .inl (K 0, (12, .inl (fun _ => 0))))]) := hD
  refine va_putF (D := D) (ci := 1) (v := .ref q3) (ty := .array .int) (C := RX1) (T := TX1) (N := 10) hx hb hts inlX1 tyX1 tyX1_ok nmX1 hown hK hP hD hS 0 rfl rfl 7 (by decide) (hts _ mw_58) (fun _ h9 => h9) rfl hnm rfl (by decide +kernel) rfl rfl (Nat.le_of_ble_eq_true rfl) dX1_init_53 (fun H locs hP hD hS => ?_)
  replace hP : va_P D vwCl ([(h, .inr (1, [.int 3, .int 0, .int 8, .int 4, .int 300, .ref q1, .ref q2, .ref q3, .null, .null])), (q1, .inl (K 0, (12, .inl (fun _ => 0)))), (q2, .inl (K 0, (12, .inl (fun _ => 0)))), (q3, .inl (K 0, (12, .inl (fun _ => 0))))]) H := hP
  replace hD : va_D A ([(h, .inr (1, [.int 3, .int 0, .int 8, .int 4, .int 300, .ref q1, .ref q2, .ref q3, .null, .null])), (q1, .inl (K 0, (12, .inl (fun _ => 0)))), (q2, .inl (K 0, (12, .inl (fun _ => 0)))), (q3, .inl (K 0, (12, .inl (fun _ => 0))))]) := hD
  refine lv_aload_n hx hb dX1_init_56 rfl (lv_at hl 0 rfl) ?_
  refine lv_bipush (v := 12) hx hb dX1_init_57 (by decide) ?_
  refine va_newa (atype := .int) (ty := .int) (a0 := (12, .inl (fun _ => 0))) hx hb (hts _ mw_44) rfl hK hP hD hS hA (fun _ => rfl) (by decide) (by decide) (by decide) (Nat.le_of_ble_eq_true rfl) (Nat.le_of_ble_eq_true rfl) dX1_init_59 (fun q4 cA H hK2 hP hD hS => ?_)
  obtain rfl := xuniq (hK.2 0 _ rfl).2 (hK2.2 4 _ rfl).2
  clear hK2
  replace hP : va_P D vwCl ([(h, .inr (1, [.int 3, .int 0, .int 8, .int 4, .int 300, .ref q1, .ref q2, .ref q3, .null, .null])), (q1, .inl (K 0, (12, .inl (fun _ => 0)))), (q2, .inl (K 0, (12, .inl (fun _ => 0)))), (q3, .inl (K 0, (12, .inl (fun _ => 0)))), (q4, .inl (K 0, (12, .inl (fun _ => 0))))]) H := hP
  replace hD : va_D A ([(h, .inr (1, [.int 3, .int 0, .int 8, .int 4, .int 300, .ref q1, .ref q2, .ref q3, .null, .null])), (q1, .inl (K 0, (12, .inl (fun _ => 0)))), (q2, .inl (K 0, (12, .inl (fun _ => 0)))), (q3, .inl (K 0, (12, .inl (fun _ => 0)))), (q4, .inl (K 0, (12, .inl (fun _ => 0))))]) := hD
  refine va_putF (D := D) (ci := 1) (v := .ref q4) (ty := .array .int) (C := RX1) (T := TX1) (N := 10) hx hb hts inlX1 tyX1 tyX1_ok nmX1 hown hK hP hD hS 0 rfl rfl 8 (by decide) (hts _ mw_59) (fun _ h9 => h9) rfl hnm rfl (by decide +kernel) rfl rfl (Nat.le_of_ble_eq_true rfl) dX1_init_61 (fun H locs hP hD hS => ?_)
  replace hP : va_P D vwCl ([(h, .inr (1, [.int 3, .int 0, .int 8, .int 4, .int 300, .ref q1, .ref q2, .ref q3, .ref q4, .null])), (q1, .inl (K 0, (12, .inl (fun _ => 0)))), (q2, .inl (K 0, (12, .inl (fun _ => 0)))), (q3, .inl (K 0, (12, .inl (fun _ => 0)))), (q4, .inl (K 0, (12, .inl (fun _ => 0))))]) H := hP
  replace hD : va_D A ([(h, .inr (1, [.int 3, .int 0, .int 8, .int 4, .int 300, .ref q1, .ref q2, .ref q3, .ref q4, .null])), (q1, .inl (K 0, (12, .inl (fun _ => 0)))), (q2, .inl (K 0, (12, .inl (fun _ => 0)))), (q3, .inl (K 0, (12, .inl (fun _ => 0)))), (q4, .inl (K 0, (12, .inl (fun _ => 0))))]) := hD
  refine lv_aload_n hx hb dX1_init_64 rfl (lv_at hl 0 rfl) ?_
  refine lv_bipush (v := 12) hx hb dX1_init_65 (by decide) ?_
  refine va_newa (atype := .int) (ty := .int) (a0 := (12, .inl (fun _ => 0))) hx hb (hts _ mw_44) rfl hK hP hD hS hA (fun _ => rfl) (by decide) (by decide) (by decide) (Nat.le_of_ble_eq_true rfl) (Nat.le_of_ble_eq_true rfl) dX1_init_67 (fun q5 cA H hK2 hP hD hS => ?_)
  obtain rfl := xuniq (hK.2 0 _ rfl).2 (hK2.2 4 _ rfl).2
  clear hK2
  replace hP : va_P D vwCl ([(h, .inr (1, [.int 3, .int 0, .int 8, .int 4, .int 300, .ref q1, .ref q2, .ref q3, .ref q4, .null])), (q1, .inl (K 0, (12, .inl (fun _ => 0)))), (q2, .inl (K 0, (12, .inl (fun _ => 0)))), (q3, .inl (K 0, (12, .inl (fun _ => 0)))), (q4, .inl (K 0, (12, .inl (fun _ => 0)))), (q5, .inl (K 0, (12, .inl (fun _ => 0))))]) H := hP
  replace hD : va_D A ([(h, .inr (1, [.int 3, .int 0, .int 8, .int 4, .int 300, .ref q1, .ref q2, .ref q3, .ref q4, .null])), (q1, .inl (K 0, (12, .inl (fun _ => 0)))), (q2, .inl (K 0, (12, .inl (fun _ => 0)))), (q3, .inl (K 0, (12, .inl (fun _ => 0)))), (q4, .inl (K 0, (12, .inl (fun _ => 0)))), (q5, .inl (K 0, (12, .inl (fun _ => 0))))]) := hD
  refine va_putF (D := D) (ci := 1) (v := .ref q5) (ty := .array .int) (C := RX1) (T := TX1) (N := 10) hx hb hts inlX1 tyX1 tyX1_ok nmX1 hown hK hP hD hS 0 rfl rfl 9 (by decide) (hts _ mw_60) (fun _ h9 => h9) rfl hnm rfl (by decide +kernel) rfl rfl (Nat.le_of_ble_eq_true rfl) dX1_init_69 (fun H locs hP hD hS => ?_)
  replace hP : va_P D vwCl ([(h, .inr (1, [.int 3, .int 0, .int 8, .int 4, .int 300, .ref q1, .ref q2, .ref q3, .ref q4, .ref q5])), (q1, .inl (K 0, (12, .inl (fun _ => 0)))), (q2, .inl (K 0, (12, .inl (fun _ => 0)))), (q3, .inl (K 0, (12, .inl (fun _ => 0)))), (q4, .inl (K 0, (12, .inl (fun _ => 0)))), (q5, .inl (K 0, (12, .inl (fun _ => 0))))]) H := hP
  replace hD : va_D A ([(h, .inr (1, [.int 3, .int 0, .int 8, .int 4, .int 300, .ref q1, .ref q2, .ref q3, .ref q4, .ref q5])), (q1, .inl (K 0, (12, .inl (fun _ => 0)))), (q2, .inl (K 0, (12, .inl (fun _ => 0)))), (q3, .inl (K 0, (12, .inl (fun _ => 0)))), (q4, .inl (K 0, (12, .inl (fun _ => 0)))), (q5, .inl (K 0, (12, .inl (fun _ => 0))))]) := hD
  have hP9 : va_P D vwCl (wX1 K h (fun k => match k with | 5 => q1 | 6 => q2 | 7 => q3 | 8 => q4 | 9 => q5 | _ => 0) z1) H := hP
  have hD9 : va_D A (wX1 K h (fun k => match k with | 5 => q1 | 6 => q2 | 7 => q3 | 8 => q4 | 9 => q5 | _ => 0) z1) := hD
  refine W.widen (k := 5) (n := 60) (Nat.le_of_ble_eq_true rfl) (Nat.le_of_ble_eq_true rfl) ?_
  exact W.vret hx hb hr (fun t ht _ => ⟨⟨(fun k => match k with | 5 => q1 | 6 => q2 | 7 => q3 | 8 => q4 | 9 => q5 | _ => 0), rfl, trivial, by rw [ht]; exact hP9, hD9⟩, hS.F ht⟩) hS.2.2 dX1_init_72 hlocks

def z2 : zS := ((fun k => match k with | 0 => (-1) | _ => 0), fun _ _ => 0, fun _ _ => 0)
set_option maxHeartbeats 4000000 in
set_option maxRecDepth 100000 in
theorem c_X2_init {l : Launch} {D : va_G} {K : Nat → ClassId} {h sz : Nat} : Met l yX2_init (Cond.code yX2_init cX2_init 1 none :: wsL_law) ({ frames := 1, cells := 1, slots := 40, locals := 40 } : Room) (va_Pc [.ref h] (xPre D vwCl (xty K) [(h, .inr (2, [.int 0, .int 0, .null]))] sz)) (va_Qv (fun (_ : (Nat → Nat)) => True) (fun (u : (Nat → Nat)) t => va_P D vwCl (wX2 K h u z2) t.heap ∧ va_D (va_A [(h, .inr (2, [.int 0, .int 0, .null]))] sz) (wX2 K h u z2)) (va_A [(h, .inr (2, [.int 0, .int 0, .null]))] sz)) 1 40 (va_A [(h, .inr (2, [.int 0, .int 0, .null]))] sz) := by
  refine xMet (by decide) rfl (Nat.le_of_ble_eq_true rfl) (fun p e s m args below meth c C hnm hP hD hsz ls hl => ?_)
  have hl : lv_has ls 1 [(0, .ref h)] := hl
  obtain ⟨hx, hb, hr, hml, hown, hts, hlocks, hK, hT⟩ := id C
  subst hsz
  generalize hAe : va_A [(h, .inr (2, [.int 0, .int 0, .null]))] s.heap.size = A at hD ⊢
  have hA : ∀ q : Nat, s.heap.size ≤ q → A q := fun q h => by rw [← hAe]; exact Or.inr h
  have hS : va_S A s.heap s.heap [] := va_S.rf
  refine lv_aload_n hx hb dX2_init_0 rfl (lv_at hl 0 rfl) ?_
  refine W.objInit hx hb hown (hts _ mw_103) (hts _ mw_11) (hts _ mw_12) rfl (by rw [hml]; exact hl.1) rfl dX2_init_1 (Nat.le_of_ble_eq_true rfl) (Nat.le_of_ble_eq_true rfl) ?_
  refine W.eq (g2 := F0 m 4 ls []) rfl ?_
  refine lv_aload_n hx hb dX2_init_4 rfl (lv_at hl 0 rfl) ?_
  refine lv_iconst (v := -1) hx hb dX2_init_5 (by decide) ?_
  refine va_put (D := D) (ci := 2) (v := .int (-1)) (ty := .int) (C := RX2) (T := TX2) (N := 3) hx hb hts inlX2 tyX2 tyX2_ok nmX2 hown hK hP hD hS 0 rfl rfl 0 (by decide) (hts _ mw_104) (fun _ h9 => h9) rfl (by decide +kernel) rfl rfl (Nat.le_of_ble_eq_true rfl) dX2_init_6 (fun H locs hP hD hS => ?_)
  replace hP : va_P D vwCl ([(h, .inr (2, [.int (-1), .int 0, .null]))]) H := hP
  replace hD : va_D A ([(h, .inr (2, [.int (-1), .int 0, .null]))]) := hD
  refine lv_aload_n hx hb dX2_init_9 rfl (lv_at hl 0 rfl) ?_
  refine lv_iconst (v := 0) hx hb dX2_init_10 (by decide) ?_
  refine va_put (D := D) (ci := 2) (v := .int 0) (ty := .int) (C := RX2) (T := TX2) (N := 3) hx hb hts inlX2 tyX2 tyX2_ok nmX2 hown hK hP hD hS 0 rfl rfl 1 (by decide) (hts _ mw_105) (fun _ h9 => h9) rfl (by decide +kernel) rfl rfl (Nat.le_of_ble_eq_true rfl) dX2_init_11 (fun H locs hP hD hS => ?_)
  replace hP : va_P D vwCl ([(h, .inr (2, [.int (-1), .int 0, .null]))]) H := hP
  replace hD : va_D A ([(h, .inr (2, [.int (-1), .int 0, .null]))]) := hD
  refine lv_aload_n hx hb dX2_init_14 rfl (lv_at hl 0 rfl) ?_
  refine lv_bipush (v := 40) hx hb dX2_init_15 (by decide) ?_
  refine va_newa (atype := .long) (ty := .long) (a0 := (40, .inr (.inl (fun _ => 0)))) hx hb (hts _ mw_106) rfl hK hP hD hS hA (fun _ => rfl) (by decide) (by decide) (by decide) (Nat.le_of_ble_eq_true rfl) (Nat.le_of_ble_eq_true rfl) dX2_init_17 (fun q1 cA H hK2 hP hD hS => ?_)
  obtain rfl := xuniq (hK.2 1 _ rfl).2 (hK2.2 4 _ rfl).2
  clear hK2
  replace hP : va_P D vwCl ([(h, .inr (2, [.int (-1), .int 0, .null])), (q1, .inl (K 1, (40, .inr (.inl (fun _ => 0)))))]) H := hP
  replace hD : va_D A ([(h, .inr (2, [.int (-1), .int 0, .null])), (q1, .inl (K 1, (40, .inr (.inl (fun _ => 0)))))]) := hD
  refine va_putF (D := D) (ci := 2) (v := .ref q1) (ty := .array .long) (C := RX2) (T := TX2) (N := 3) hx hb hts inlX2 tyX2 tyX2_ok nmX2 hown hK hP hD hS 0 rfl rfl 2 (by decide) (hts _ mw_107) (fun _ h9 => h9) rfl hnm rfl (by decide +kernel) rfl rfl (Nat.le_of_ble_eq_true rfl) dX2_init_19 (fun H locs hP hD hS => ?_)
  replace hP : va_P D vwCl ([(h, .inr (2, [.int (-1), .int 0, .ref q1])), (q1, .inl (K 1, (40, .inr (.inl (fun _ => 0)))))]) H := hP
  replace hD : va_D A ([(h, .inr (2, [.int (-1), .int 0, .ref q1])), (q1, .inl (K 1, (40, .inr (.inl (fun _ => 0)))))]) := hD
  have hP9 : va_P D vwCl (wX2 K h (fun k => match k with | 2 => q1 | _ => 0) z2) H := hP
  have hD9 : va_D A (wX2 K h (fun k => match k with | 2 => q1 | _ => 0) z2) := hD
  refine W.widen (k := 1) (n := 40) (Nat.le_of_ble_eq_true rfl) (Nat.le_of_ble_eq_true rfl) ?_
  exact W.vret hx hb hr (fun t ht _ => ⟨⟨(fun k => match k with | 2 => q1 | _ => 0), rfl, trivial, by rw [ht]; exact hP9, hD9⟩, hS.F ht⟩) hS.2.2 dX2_init_22 hlocks

def z3 : zS := ((fun _ => 0), fun _ _ => 0, fun _ _ => 0)
set_option maxHeartbeats 4000000 in
set_option maxRecDepth 100000 in
theorem c_X3_init {l : Launch} {D : va_G} {K : Nat → ClassId} {h sz : Nat} : Met l yX3_init (Cond.code yX3_init cX3_init 1 none :: wsL_law) ({ frames := 1, cells := 1, slots := 250, locals := 40 } : Room) (va_Pc [.ref h] (xPre D vwCl (xty K) [(h, .inr (3, [.int 0, .null]))] sz)) (va_Qv (fun (_ : (Nat → Nat)) => True) (fun (u : (Nat → Nat)) t => va_P D vwCl (wX3 K h u z3) t.heap ∧ va_D (va_A [(h, .inr (3, [.int 0, .null]))] sz) (wX3 K h u z3)) (va_A [(h, .inr (3, [.int 0, .null]))] sz)) 1 250 (va_A [(h, .inr (3, [.int 0, .null]))] sz) := by
  refine xMet (by decide) rfl (Nat.le_of_ble_eq_true rfl) (fun p e s m args below meth c C hnm hP hD hsz ls hl => ?_)
  have hl : lv_has ls 1 [(0, .ref h)] := hl
  obtain ⟨hx, hb, hr, hml, hown, hts, hlocks, hK, hT⟩ := id C
  subst hsz
  generalize hAe : va_A [(h, .inr (3, [.int 0, .null]))] s.heap.size = A at hD ⊢
  have hA : ∀ q : Nat, s.heap.size ≤ q → A q := fun q h => by rw [← hAe]; exact Or.inr h
  have hS : va_S A s.heap s.heap [] := va_S.rf
  refine lv_aload_n hx hb dX3_init_0 rfl (lv_at hl 0 rfl) ?_
  refine W.objInit hx hb hown (hts _ mw_74) (hts _ mw_11) (hts _ mw_12) rfl (by rw [hml]; exact hl.1) rfl dX3_init_1 (Nat.le_of_ble_eq_true rfl) (Nat.le_of_ble_eq_true rfl) ?_
  refine W.eq (g2 := F0 m 4 ls []) rfl ?_
  refine lv_aload_n hx hb dX3_init_4 rfl (lv_at hl 0 rfl) ?_
  refine lv_iconst (v := 0) hx hb dX3_init_5 (by decide) ?_
  refine va_put (D := D) (ci := 3) (v := .int 0) (ty := .int) (C := RX3) (T := TX3) (N := 2) hx hb hts inlX3 tyX3 tyX3_ok nmX3 hown hK hP hD hS 0 rfl rfl 0 (by decide) (hts _ mw_75) (fun _ h9 => h9) rfl (by decide +kernel) rfl rfl (Nat.le_of_ble_eq_true rfl) dX3_init_6 (fun H locs hP hD hS => ?_)
  replace hP : va_P D vwCl ([(h, .inr (3, [.int 0, .null]))]) H := hP
  replace hD : va_D A ([(h, .inr (3, [.int 0, .null]))]) := hD
  refine lv_aload_n hx hb dX3_init_9 rfl (lv_at hl 0 rfl) ?_
  refine lv_sipush (v := 250) hx hb dX3_init_10 (by decide) ?_
  refine va_newa (atype := .int) (ty := .int) (a0 := (250, .inl (fun _ => 0))) hx hb (hts _ mw_44) rfl hK hP hD hS hA (fun _ => rfl) (by decide) (by decide) (by decide) (Nat.le_of_ble_eq_true rfl) (Nat.le_of_ble_eq_true rfl) dX3_init_13 (fun q1 cA H hK2 hP hD hS => ?_)
  obtain rfl := xuniq (hK.2 0 _ rfl).2 (hK2.2 4 _ rfl).2
  clear hK2
  replace hP : va_P D vwCl ([(h, .inr (3, [.int 0, .null])), (q1, .inl (K 0, (250, .inl (fun _ => 0))))]) H := hP
  replace hD : va_D A ([(h, .inr (3, [.int 0, .null])), (q1, .inl (K 0, (250, .inl (fun _ => 0))))]) := hD
  refine va_putF (D := D) (ci := 3) (v := .ref q1) (ty := .array .int) (C := RX3) (T := TX3) (N := 2) hx hb hts inlX3 tyX3 tyX3_ok nmX3 hown hK hP hD hS 0 rfl rfl 1 (by decide) (hts _ mw_76) (fun _ h9 => h9) rfl hnm rfl (by decide +kernel) rfl rfl (Nat.le_of_ble_eq_true rfl) dX3_init_15 (fun H locs hP hD hS => ?_)
  replace hP : va_P D vwCl ([(h, .inr (3, [.int 0, .ref q1])), (q1, .inl (K 0, (250, .inl (fun _ => 0))))]) H := hP
  replace hD : va_D A ([(h, .inr (3, [.int 0, .ref q1])), (q1, .inl (K 0, (250, .inl (fun _ => 0))))]) := hD
  have hP9 : va_P D vwCl (wX3 K h (fun k => match k with | 1 => q1 | _ => 0) z3) H := hP
  have hD9 : va_D A (wX3 K h (fun k => match k with | 1 => q1 | _ => 0) z3) := hD
  refine W.widen (k := 1) (n := 250) (Nat.le_of_ble_eq_true rfl) (Nat.le_of_ble_eq_true rfl) ?_
  exact W.vret hx hb hr (fun t ht _ => ⟨⟨(fun k => match k with | 1 => q1 | _ => 0), rfl, trivial, by rw [ht]; exact hP9, hD9⟩, hS.F ht⟩) hS.2.2 dX3_init_18 hlocks

def z4 : zS := ((fun k => match k with | 1 => 1 | _ => 0), fun _ _ => 0, fun _ _ => 0)
set_option maxHeartbeats 4000000 in
set_option maxRecDepth 100000 in
theorem c_X4_init {l : Launch} {D : va_G} {K : Nat → ClassId} {h sz : Nat} : Met l yX4_init (Cond.code yX4_init cX4_init 1 none :: wsL_law) ({ frames := 1, cells := 3, slots := 48, locals := 40 } : Room) (va_Pc [.ref h] (xPre D vwCl (xty K) [(h, .inr (4, [.int 0, .int 0, .int 0, .int 0, .int 0, .null, .null, .null]))] sz)) (va_Qv (fun (_ : (Nat → Nat)) => True) (fun (u : (Nat → Nat)) t => va_P D vwCl (wX4 K h u z4) t.heap ∧ va_D (va_A [(h, .inr (4, [.int 0, .int 0, .int 0, .int 0, .int 0, .null, .null, .null]))] sz) (wX4 K h u z4)) (va_A [(h, .inr (4, [.int 0, .int 0, .int 0, .int 0, .int 0, .null, .null, .null]))] sz)) 3 48 (va_A [(h, .inr (4, [.int 0, .int 0, .int 0, .int 0, .int 0, .null, .null, .null]))] sz) := by
  refine xMet (by decide) rfl (Nat.le_of_ble_eq_true rfl) (fun p e s m args below meth c C hnm hP hD hsz ls hl => ?_)
  have hl : lv_has ls 1 [(0, .ref h)] := hl
  obtain ⟨hx, hb, hr, hml, hown, hts, hlocks, hK, hT⟩ := id C
  subst hsz
  generalize hAe : va_A [(h, .inr (4, [.int 0, .int 0, .int 0, .int 0, .int 0, .null, .null, .null]))] s.heap.size = A at hD ⊢
  have hA : ∀ q : Nat, s.heap.size ≤ q → A q := fun q h => by rw [← hAe]; exact Or.inr h
  have hS : va_S A s.heap s.heap [] := va_S.rf
  refine lv_aload_n hx hb dX4_init_0 rfl (lv_at hl 0 rfl) ?_
  refine W.objInit hx hb hown (hts _ mw_63) (hts _ mw_11) (hts _ mw_12) rfl (by rw [hml]; exact hl.1) rfl dX4_init_1 (Nat.le_of_ble_eq_true rfl) (Nat.le_of_ble_eq_true rfl) ?_
  refine W.eq (g2 := F0 m 4 ls []) rfl ?_
  refine lv_aload_n hx hb dX4_init_4 rfl (lv_at hl 0 rfl) ?_
  refine lv_iconst (v := 0) hx hb dX4_init_5 (by decide) ?_
  refine va_put (D := D) (ci := 4) (v := .int 0) (ty := .int) (C := RX4) (T := TX4) (N := 8) hx hb hts inlX4 tyX4 tyX4_ok nmX4 hown hK hP hD hS 0 rfl rfl 0 (by decide) (hts _ mw_64) (fun _ h9 => h9) rfl (by decide +kernel) rfl rfl (Nat.le_of_ble_eq_true rfl) dX4_init_6 (fun H locs hP hD hS => ?_)
  replace hP : va_P D vwCl ([(h, .inr (4, [.int 0, .int 0, .int 0, .int 0, .int 0, .null, .null, .null]))]) H := hP
  replace hD : va_D A ([(h, .inr (4, [.int 0, .int 0, .int 0, .int 0, .int 0, .null, .null, .null]))]) := hD
  refine lv_aload_n hx hb dX4_init_9 rfl (lv_at hl 0 rfl) ?_
  refine lv_iconst (v := 1) hx hb dX4_init_10 (by decide) ?_
  refine va_put (D := D) (ci := 4) (v := .int 1) (ty := .int) (C := RX4) (T := TX4) (N := 8) hx hb hts inlX4 tyX4 tyX4_ok nmX4 hown hK hP hD hS 0 rfl rfl 1 (by decide) (hts _ mw_65) (fun _ h9 => h9) rfl (by decide +kernel) rfl rfl (Nat.le_of_ble_eq_true rfl) dX4_init_11 (fun H locs hP hD hS => ?_)
  replace hP : va_P D vwCl ([(h, .inr (4, [.int 0, .int 1, .int 0, .int 0, .int 0, .null, .null, .null]))]) H := hP
  replace hD : va_D A ([(h, .inr (4, [.int 0, .int 1, .int 0, .int 0, .int 0, .null, .null, .null]))]) := hD
  refine lv_aload_n hx hb dX4_init_14 rfl (lv_at hl 0 rfl) ?_
  refine lv_iconst (v := 0) hx hb dX4_init_15 (by decide) ?_
  refine va_put (D := D) (ci := 4) (v := .int 0) (ty := .int) (C := RX4) (T := TX4) (N := 8) hx hb hts inlX4 tyX4 tyX4_ok nmX4 hown hK hP hD hS 0 rfl rfl 2 (by decide) (hts _ mw_66) (fun _ h9 => h9) rfl (by decide +kernel) rfl rfl (Nat.le_of_ble_eq_true rfl) dX4_init_16 (fun H locs hP hD hS => ?_)
  replace hP : va_P D vwCl ([(h, .inr (4, [.int 0, .int 1, .int 0, .int 0, .int 0, .null, .null, .null]))]) H := hP
  replace hD : va_D A ([(h, .inr (4, [.int 0, .int 1, .int 0, .int 0, .int 0, .null, .null, .null]))]) := hD
  refine lv_aload_n hx hb dX4_init_19 rfl (lv_at hl 0 rfl) ?_
  refine lv_iconst (v := 0) hx hb dX4_init_20 (by decide) ?_
  refine va_put (D := D) (ci := 4) (v := .int 0) (ty := .int) (C := RX4) (T := TX4) (N := 8) hx hb hts inlX4 tyX4 tyX4_ok nmX4 hown hK hP hD hS 0 rfl rfl 3 (by decide) (hts _ mw_67) (fun _ h9 => h9) rfl (by decide +kernel) rfl rfl (Nat.le_of_ble_eq_true rfl) dX4_init_21 (fun H locs hP hD hS => ?_)
  replace hP : va_P D vwCl ([(h, .inr (4, [.int 0, .int 1, .int 0, .int 0, .int 0, .null, .null, .null]))]) H := hP
  replace hD : va_D A ([(h, .inr (4, [.int 0, .int 1, .int 0, .int 0, .int 0, .null, .null, .null]))]) := hD
  refine lv_aload_n hx hb dX4_init_24 rfl (lv_at hl 0 rfl) ?_
  refine lv_iconst (v := 0) hx hb dX4_init_25 (by decide) ?_
  refine va_put (D := D) (ci := 4) (v := .int 0) (ty := .int) (C := RX4) (T := TX4) (N := 8) hx hb hts inlX4 tyX4 tyX4_ok nmX4 hown hK hP hD hS 0 rfl rfl 4 (by decide) (hts _ mw_68) (fun _ h9 => h9) rfl (by decide +kernel) rfl rfl (Nat.le_of_ble_eq_true rfl) dX4_init_26 (fun H locs hP hD hS => ?_)
  replace hP : va_P D vwCl ([(h, .inr (4, [.int 0, .int 1, .int 0, .int 0, .int 0, .null, .null, .null]))]) H := hP
  replace hD : va_D A ([(h, .inr (4, [.int 0, .int 1, .int 0, .int 0, .int 0, .null, .null, .null]))]) := hD
  refine lv_aload_n hx hb dX4_init_29 rfl (lv_at hl 0 rfl) ?_
  refine lv_bipush (v := 16) hx hb dX4_init_30 (by decide) ?_
  refine va_newa (atype := .int) (ty := .int) (a0 := (16, .inl (fun _ => 0))) hx hb (hts _ mw_44) rfl hK hP hD hS hA (fun _ => rfl) (by decide) (by decide) (by decide) (Nat.le_of_ble_eq_true rfl) (Nat.le_of_ble_eq_true rfl) dX4_init_32 (fun q1 cA H hK2 hP hD hS => ?_)
  obtain rfl := xuniq (hK.2 0 _ rfl).2 (hK2.2 4 _ rfl).2
  clear hK2
  replace hP : va_P D vwCl ([(h, .inr (4, [.int 0, .int 1, .int 0, .int 0, .int 0, .null, .null, .null])), (q1, .inl (K 0, (16, .inl (fun _ => 0))))]) H := hP
  replace hD : va_D A ([(h, .inr (4, [.int 0, .int 1, .int 0, .int 0, .int 0, .null, .null, .null])), (q1, .inl (K 0, (16, .inl (fun _ => 0))))]) := hD
  refine va_putF (D := D) (ci := 4) (v := .ref q1) (ty := .array .int) (C := RX4) (T := TX4) (N := 8) hx hb hts inlX4 tyX4 tyX4_ok nmX4 hown hK hP hD hS 0 rfl rfl 5 (by decide) (hts _ mw_69) (fun _ h9 => h9) rfl hnm rfl (by decide +kernel) rfl rfl (Nat.le_of_ble_eq_true rfl) dX4_init_34 (fun H locs hP hD hS => ?_)
  replace hP : va_P D vwCl ([(h, .inr (4, [.int 0, .int 1, .int 0, .int 0, .int 0, .ref q1, .null, .null])), (q1, .inl (K 0, (16, .inl (fun _ => 0))))]) H := hP
  replace hD : va_D A ([(h, .inr (4, [.int 0, .int 1, .int 0, .int 0, .int 0, .ref q1, .null, .null])), (q1, .inl (K 0, (16, .inl (fun _ => 0))))]) := hD
  refine lv_aload_n hx hb dX4_init_37 rfl (lv_at hl 0 rfl) ?_
  refine lv_bipush (v := 16) hx hb dX4_init_38 (by decide) ?_
  refine va_newa (atype := .int) (ty := .int) (a0 := (16, .inl (fun _ => 0))) hx hb (hts _ mw_44) rfl hK hP hD hS hA (fun _ => rfl) (by decide) (by decide) (by decide) (Nat.le_of_ble_eq_true rfl) (Nat.le_of_ble_eq_true rfl) dX4_init_40 (fun q2 cA H hK2 hP hD hS => ?_)
  obtain rfl := xuniq (hK.2 0 _ rfl).2 (hK2.2 4 _ rfl).2
  clear hK2
  replace hP : va_P D vwCl ([(h, .inr (4, [.int 0, .int 1, .int 0, .int 0, .int 0, .ref q1, .null, .null])), (q1, .inl (K 0, (16, .inl (fun _ => 0)))), (q2, .inl (K 0, (16, .inl (fun _ => 0))))]) H := hP
  replace hD : va_D A ([(h, .inr (4, [.int 0, .int 1, .int 0, .int 0, .int 0, .ref q1, .null, .null])), (q1, .inl (K 0, (16, .inl (fun _ => 0)))), (q2, .inl (K 0, (16, .inl (fun _ => 0))))]) := hD
  refine va_putF (D := D) (ci := 4) (v := .ref q2) (ty := .array .int) (C := RX4) (T := TX4) (N := 8) hx hb hts inlX4 tyX4 tyX4_ok nmX4 hown hK hP hD hS 0 rfl rfl 6 (by decide) (hts _ mw_70) (fun _ h9 => h9) rfl hnm rfl (by decide +kernel) rfl rfl (Nat.le_of_ble_eq_true rfl) dX4_init_42 (fun H locs hP hD hS => ?_)
  replace hP : va_P D vwCl ([(h, .inr (4, [.int 0, .int 1, .int 0, .int 0, .int 0, .ref q1, .ref q2, .null])), (q1, .inl (K 0, (16, .inl (fun _ => 0)))), (q2, .inl (K 0, (16, .inl (fun _ => 0))))]) H := hP
  replace hD : va_D A ([(h, .inr (4, [.int 0, .int 1, .int 0, .int 0, .int 0, .ref q1, .ref q2, .null])), (q1, .inl (K 0, (16, .inl (fun _ => 0)))), (q2, .inl (K 0, (16, .inl (fun _ => 0))))]) := hD
  refine lv_aload_n hx hb dX4_init_45 rfl (lv_at hl 0 rfl) ?_
  refine lv_bipush (v := 16) hx hb dX4_init_46 (by decide) ?_
  refine va_newa (atype := .int) (ty := .int) (a0 := (16, .inl (fun _ => 0))) hx hb (hts _ mw_44) rfl hK hP hD hS hA (fun _ => rfl) (by decide) (by decide) (by decide) (Nat.le_of_ble_eq_true rfl) (Nat.le_of_ble_eq_true rfl) dX4_init_48 (fun q3 cA H hK2 hP hD hS => ?_)
  obtain rfl := xuniq (hK.2 0 _ rfl).2 (hK2.2 4 _ rfl).2
  clear hK2
  replace hP : va_P D vwCl ([(h, .inr (4, [.int 0, .int 1, .int 0, .int 0, .int 0, .ref q1, .ref q2, .null])), (q1, .inl (K 0, (16, .inl (fun _ => 0)))), (q2, .inl (K 0, (16, .inl (fun _ => 0)))), (q3, .inl (K 0, (16, .inl (fun _ => 0))))]) H := hP
  replace hD : va_D A ([(h, .inr (4, [.int 0, .int 1, .int 0, .int 0, .int 0, .ref q1, .ref q2, .null])), (q1, .inl (K 0, (16, .inl (fun _ => 0)))), (q2, .inl (K 0, (16, .inl (fun _ => 0)))), (q3, .inl (K 0, (16, .inl (fun _ => 0))))]) := hD
  refine va_putF (D := D) (ci := 4) (v := .ref q3) (ty := .array .int) (C := RX4) (T := TX4) (N := 8) hx hb hts inlX4 tyX4 tyX4_ok nmX4 hown hK hP hD hS 0 rfl rfl 7 (by decide) (hts _ mw_71) (fun _ h9 => h9) rfl hnm rfl (by decide +kernel) rfl rfl (Nat.le_of_ble_eq_true rfl) dX4_init_50 (fun H locs hP hD hS => ?_)
  replace hP : va_P D vwCl ([(h, .inr (4, [.int 0, .int 1, .int 0, .int 0, .int 0, .ref q1, .ref q2, .ref q3])), (q1, .inl (K 0, (16, .inl (fun _ => 0)))), (q2, .inl (K 0, (16, .inl (fun _ => 0)))), (q3, .inl (K 0, (16, .inl (fun _ => 0))))]) H := hP
  replace hD : va_D A ([(h, .inr (4, [.int 0, .int 1, .int 0, .int 0, .int 0, .ref q1, .ref q2, .ref q3])), (q1, .inl (K 0, (16, .inl (fun _ => 0)))), (q2, .inl (K 0, (16, .inl (fun _ => 0)))), (q3, .inl (K 0, (16, .inl (fun _ => 0))))]) := hD
  have hP9 : va_P D vwCl (wX4 K h (fun k => match k with | 5 => q1 | 6 => q2 | 7 => q3 | _ => 0) z4) H := hP
  have hD9 : va_D A (wX4 K h (fun k => match k with | 5 => q1 | 6 => q2 | 7 => q3 | _ => 0) z4) := hD
  refine W.widen (k := 3) (n := 48) (Nat.le_of_ble_eq_true rfl) (Nat.le_of_ble_eq_true rfl) ?_
  exact W.vret hx hb hr (fun t ht _ => ⟨⟨(fun k => match k with | 5 => q1 | 6 => q2 | 7 => q3 | _ => 0), rfl, trivial, by rw [ht]; exact hP9, hD9⟩, hS.F ht⟩) hS.2.2 dX4_init_53 hlocks

def z5 : zS := ((fun k => match k with | 0 => (-1) | _ => 0), fun _ _ => 0, fun _ _ => 0)
set_option maxHeartbeats 4000000 in
set_option maxRecDepth 100000 in
theorem c_X5_init {l : Launch} {D : va_G} {K : Nat → ClassId} {h sz : Nat} : Met l yX5_init (Cond.code yX5_init cX5_init 1 none :: wsL_law) ({ frames := 1, cells := 0, slots := 0, locals := 40 } : Room) (va_Pc [.ref h] (xPre D vwCl (xty K) [(h, .inr (5, [.int 0, .int 0, .int 0, .int 0]))] sz)) (va_Qv (fun (_ : (Nat → Nat)) => True) (fun (u : (Nat → Nat)) t => va_P D vwCl (wX5 K h u z5) t.heap ∧ va_D (va_A [(h, .inr (5, [.int 0, .int 0, .int 0, .int 0]))] sz) (wX5 K h u z5)) (va_A [(h, .inr (5, [.int 0, .int 0, .int 0, .int 0]))] sz)) 0 0 (va_A [(h, .inr (5, [.int 0, .int 0, .int 0, .int 0]))] sz) := by
  refine xMet (by decide) rfl (Nat.le_of_ble_eq_true rfl) (fun p e s m args below meth c C hnm hP hD hsz ls hl => ?_)
  have hl : lv_has ls 1 [(0, .ref h)] := hl
  obtain ⟨hx, hb, hr, hml, hown, hts, hlocks, hK, hT⟩ := id C
  subst hsz
  generalize hAe : va_A [(h, .inr (5, [.int 0, .int 0, .int 0, .int 0]))] s.heap.size = A at hD ⊢
  have hA : ∀ q : Nat, s.heap.size ≤ q → A q := fun q h => by rw [← hAe]; exact Or.inr h
  have hS : va_S A s.heap s.heap [] := va_S.rf
  refine lv_aload_n hx hb dX5_init_0 rfl (lv_at hl 0 rfl) ?_
  refine W.objInit hx hb hown (hts _ mw_96) (hts _ mw_11) (hts _ mw_12) rfl (by rw [hml]; exact hl.1) rfl dX5_init_1 (Nat.le_of_ble_eq_true rfl) (Nat.le_of_ble_eq_true rfl) ?_
  refine W.eq (g2 := F0 m 4 ls []) rfl ?_
  refine lv_aload_n hx hb dX5_init_4 rfl (lv_at hl 0 rfl) ?_
  refine lv_iconst (v := -1) hx hb dX5_init_5 (by decide) ?_
  refine va_put (D := D) (ci := 5) (v := .int (-1)) (ty := .int) (C := RX5) (T := TX5) (N := 4) hx hb hts inlX5 tyX5 tyX5_ok nmX5 hown hK hP hD hS 0 rfl rfl 0 (by decide) (hts _ mw_97) (fun _ h9 => h9) rfl (by decide +kernel) rfl rfl (Nat.le_of_ble_eq_true rfl) dX5_init_6 (fun H locs hP hD hS => ?_)
  replace hP : va_P D vwCl ([(h, .inr (5, [.int (-1), .int 0, .int 0, .int 0]))]) H := hP
  replace hD : va_D A ([(h, .inr (5, [.int (-1), .int 0, .int 0, .int 0]))]) := hD
  refine lv_aload_n hx hb dX5_init_9 rfl (lv_at hl 0 rfl) ?_
  refine lv_iconst (v := 0) hx hb dX5_init_10 (by decide) ?_
  refine va_put (D := D) (ci := 5) (v := .int 0) (ty := .int) (C := RX5) (T := TX5) (N := 4) hx hb hts inlX5 tyX5 tyX5_ok nmX5 hown hK hP hD hS 0 rfl rfl 1 (by decide) (hts _ mw_98) (fun _ h9 => h9) rfl (by decide +kernel) rfl rfl (Nat.le_of_ble_eq_true rfl) dX5_init_11 (fun H locs hP hD hS => ?_)
  replace hP : va_P D vwCl ([(h, .inr (5, [.int (-1), .int 0, .int 0, .int 0]))]) H := hP
  replace hD : va_D A ([(h, .inr (5, [.int (-1), .int 0, .int 0, .int 0]))]) := hD
  refine lv_aload_n hx hb dX5_init_14 rfl (lv_at hl 0 rfl) ?_
  refine lv_iconst (v := 0) hx hb dX5_init_15 (by decide) ?_
  refine va_put (D := D) (ci := 5) (v := .int 0) (ty := .int) (C := RX5) (T := TX5) (N := 4) hx hb hts inlX5 tyX5 tyX5_ok nmX5 hown hK hP hD hS 0 rfl rfl 2 (by decide) (hts _ mw_99) (fun _ h9 => h9) rfl (by decide +kernel) rfl rfl (Nat.le_of_ble_eq_true rfl) dX5_init_16 (fun H locs hP hD hS => ?_)
  replace hP : va_P D vwCl ([(h, .inr (5, [.int (-1), .int 0, .int 0, .int 0]))]) H := hP
  replace hD : va_D A ([(h, .inr (5, [.int (-1), .int 0, .int 0, .int 0]))]) := hD
  refine lv_aload_n hx hb dX5_init_19 rfl (lv_at hl 0 rfl) ?_
  refine lv_iconst (v := 0) hx hb dX5_init_20 (by decide) ?_
  refine va_put (D := D) (ci := 5) (v := .int 0) (ty := .boolean) (C := RX5) (T := TX5) (N := 4) hx hb hts inlX5 tyX5 tyX5_ok nmX5 hown hK hP hD hS 0 rfl rfl 3 (by decide) (hts _ mw_100) (fun _ h9 => h9) rfl (by decide +kernel) rfl rfl (Nat.le_of_ble_eq_true rfl) dX5_init_21 (fun H locs hP hD hS => ?_)
  replace hP : va_P D vwCl ([(h, .inr (5, [.int (-1), .int 0, .int 0, .int 0]))]) H := hP
  replace hD : va_D A ([(h, .inr (5, [.int (-1), .int 0, .int 0, .int 0]))]) := hD
  have hP9 : va_P D vwCl (wX5 K h (fun _ => 0) z5) H := hP
  have hD9 : va_D A (wX5 K h (fun _ => 0) z5) := hD
  refine W.widen (k := 0) (n := 0) (Nat.le_of_ble_eq_true rfl) (Nat.le_of_ble_eq_true rfl) ?_
  exact W.vret hx hb hr (fun t ht _ => ⟨⟨(fun _ => 0), rfl, trivial, by rw [ht]; exact hP9, hD9⟩, hS.F ht⟩) hS.2.2 dX5_init_24 hlocks

def z6 : zS := ((fun _ => 0), fun _ _ => 0, fun _ _ => 0)
set_option maxHeartbeats 4000000 in
set_option maxRecDepth 100000 in
theorem c_X6_init {l : Launch} {D : va_G} {K : Nat → ClassId} {h sz : Nat} : Met l yX6_init (Cond.code yX6_init cX6_init 1 none :: wsL_law) ({ frames := 1, cells := 4, slots := 537, locals := 40 } : Room) (va_Pc [.ref h] (xPre D vwCl (xty K) [(h, .inr (6, [.int 0, .null, .null, .null, .null]))] sz)) (va_Qv (fun (_ : (Nat → Nat)) => True) (fun (u : (Nat → Nat)) t => va_P D vwCl (wX6 K h u z6) t.heap ∧ va_D (va_A [(h, .inr (6, [.int 0, .null, .null, .null, .null]))] sz) (wX6 K h u z6)) (va_A [(h, .inr (6, [.int 0, .null, .null, .null, .null]))] sz)) 4 537 (va_A [(h, .inr (6, [.int 0, .null, .null, .null, .null]))] sz) := by
  refine xMet (by decide) rfl (Nat.le_of_ble_eq_true rfl) (fun p e s m args below meth c C hnm hP hD hsz ls hl => ?_)
  have hl : lv_has ls 1 [(0, .ref h)] := hl
  obtain ⟨hx, hb, hr, hml, hown, hts, hlocks, hK, hT⟩ := id C
  subst hsz
  generalize hAe : va_A [(h, .inr (6, [.int 0, .null, .null, .null, .null]))] s.heap.size = A at hD ⊢
  have hA : ∀ q : Nat, s.heap.size ≤ q → A q := fun q h => by rw [← hAe]; exact Or.inr h
  have hS : va_S A s.heap s.heap [] := va_S.rf
  refine lv_aload_n hx hb dX6_init_0 rfl (lv_at hl 0 rfl) ?_
  refine W.objInit hx hb hown (hts _ mw_88) (hts _ mw_11) (hts _ mw_12) rfl (by rw [hml]; exact hl.1) rfl dX6_init_1 (Nat.le_of_ble_eq_true rfl) (Nat.le_of_ble_eq_true rfl) ?_
  refine W.eq (g2 := F0 m 4 ls []) rfl ?_
  refine lv_aload_n hx hb dX6_init_4 rfl (lv_at hl 0 rfl) ?_
  refine lv_iconst (v := 0) hx hb dX6_init_5 (by decide) ?_
  refine va_put (D := D) (ci := 6) (v := .int 0) (ty := .int) (C := RX6) (T := TX6) (N := 5) hx hb hts inlX6 tyX6 tyX6_ok nmX6 hown hK hP hD hS 0 rfl rfl 0 (by decide) (hts _ mw_89) (fun _ h9 => h9) rfl (by decide +kernel) rfl rfl (Nat.le_of_ble_eq_true rfl) dX6_init_6 (fun H locs hP hD hS => ?_)
  replace hP : va_P D vwCl ([(h, .inr (6, [.int 0, .null, .null, .null, .null]))]) H := hP
  replace hD : va_D A ([(h, .inr (6, [.int 0, .null, .null, .null, .null]))]) := hD
  refine lv_aload_n hx hb dX6_init_9 rfl (lv_at hl 0 rfl) ?_
  refine lv_sipush (v := 432) hx hb dX6_init_10 (by decide) ?_
  refine va_newa (atype := .int) (ty := .int) (a0 := (432, .inl (fun _ => 0))) hx hb (hts _ mw_44) rfl hK hP hD hS hA (fun _ => rfl) (by decide) (by decide) (by decide) (Nat.le_of_ble_eq_true rfl) (Nat.le_of_ble_eq_true rfl) dX6_init_13 (fun q1 cA H hK2 hP hD hS => ?_)
  obtain rfl := xuniq (hK.2 0 _ rfl).2 (hK2.2 4 _ rfl).2
  clear hK2
  replace hP : va_P D vwCl ([(h, .inr (6, [.int 0, .null, .null, .null, .null])), (q1, .inl (K 0, (432, .inl (fun _ => 0))))]) H := hP
  replace hD : va_D A ([(h, .inr (6, [.int 0, .null, .null, .null, .null])), (q1, .inl (K 0, (432, .inl (fun _ => 0))))]) := hD
  refine va_putF (D := D) (ci := 6) (v := .ref q1) (ty := .array .int) (C := RX6) (T := TX6) (N := 5) hx hb hts inlX6 tyX6 tyX6_ok nmX6 hown hK hP hD hS 0 rfl rfl 1 (by decide) (hts _ mw_90) (fun _ h9 => h9) rfl hnm rfl (by decide +kernel) rfl rfl (Nat.le_of_ble_eq_true rfl) dX6_init_15 (fun H locs hP hD hS => ?_)
  replace hP : va_P D vwCl ([(h, .inr (6, [.int 0, .ref q1, .null, .null, .null])), (q1, .inl (K 0, (432, .inl (fun _ => 0))))]) H := hP
  replace hD : va_D A ([(h, .inr (6, [.int 0, .ref q1, .null, .null, .null])), (q1, .inl (K 0, (432, .inl (fun _ => 0))))]) := hD
  refine lv_aload_n hx hb dX6_init_18 rfl (lv_at hl 0 rfl) ?_
  refine lv_bipush (v := 48) hx hb dX6_init_19 (by decide) ?_
  refine va_newa (atype := .int) (ty := .int) (a0 := (48, .inl (fun _ => 0))) hx hb (hts _ mw_44) rfl hK hP hD hS hA (fun _ => rfl) (by decide) (by decide) (by decide) (Nat.le_of_ble_eq_true rfl) (Nat.le_of_ble_eq_true rfl) dX6_init_21 (fun q2 cA H hK2 hP hD hS => ?_)
  obtain rfl := xuniq (hK.2 0 _ rfl).2 (hK2.2 4 _ rfl).2
  clear hK2
  replace hP : va_P D vwCl ([(h, .inr (6, [.int 0, .ref q1, .null, .null, .null])), (q1, .inl (K 0, (432, .inl (fun _ => 0)))), (q2, .inl (K 0, (48, .inl (fun _ => 0))))]) H := hP
  replace hD : va_D A ([(h, .inr (6, [.int 0, .ref q1, .null, .null, .null])), (q1, .inl (K 0, (432, .inl (fun _ => 0)))), (q2, .inl (K 0, (48, .inl (fun _ => 0))))]) := hD
  refine va_putF (D := D) (ci := 6) (v := .ref q2) (ty := .array .int) (C := RX6) (T := TX6) (N := 5) hx hb hts inlX6 tyX6 tyX6_ok nmX6 hown hK hP hD hS 0 rfl rfl 2 (by decide) (hts _ mw_91) (fun _ h9 => h9) rfl hnm rfl (by decide +kernel) rfl rfl (Nat.le_of_ble_eq_true rfl) dX6_init_23 (fun H locs hP hD hS => ?_)
  replace hP : va_P D vwCl ([(h, .inr (6, [.int 0, .ref q1, .ref q2, .null, .null])), (q1, .inl (K 0, (432, .inl (fun _ => 0)))), (q2, .inl (K 0, (48, .inl (fun _ => 0))))]) H := hP
  replace hD : va_D A ([(h, .inr (6, [.int 0, .ref q1, .ref q2, .null, .null])), (q1, .inl (K 0, (432, .inl (fun _ => 0)))), (q2, .inl (K 0, (48, .inl (fun _ => 0))))]) := hD
  refine lv_aload_n hx hb dX6_init_26 rfl (lv_at hl 0 rfl) ?_
  refine lv_bipush (v := 48) hx hb dX6_init_27 (by decide) ?_
  refine va_newa (atype := .int) (ty := .int) (a0 := (48, .inl (fun _ => 0))) hx hb (hts _ mw_44) rfl hK hP hD hS hA (fun _ => rfl) (by decide) (by decide) (by decide) (Nat.le_of_ble_eq_true rfl) (Nat.le_of_ble_eq_true rfl) dX6_init_29 (fun q3 cA H hK2 hP hD hS => ?_)
  obtain rfl := xuniq (hK.2 0 _ rfl).2 (hK2.2 4 _ rfl).2
  clear hK2
  replace hP : va_P D vwCl ([(h, .inr (6, [.int 0, .ref q1, .ref q2, .null, .null])), (q1, .inl (K 0, (432, .inl (fun _ => 0)))), (q2, .inl (K 0, (48, .inl (fun _ => 0)))), (q3, .inl (K 0, (48, .inl (fun _ => 0))))]) H := hP
  replace hD : va_D A ([(h, .inr (6, [.int 0, .ref q1, .ref q2, .null, .null])), (q1, .inl (K 0, (432, .inl (fun _ => 0)))), (q2, .inl (K 0, (48, .inl (fun _ => 0)))), (q3, .inl (K 0, (48, .inl (fun _ => 0))))]) := hD
  refine va_putF (D := D) (ci := 6) (v := .ref q3) (ty := .array .int) (C := RX6) (T := TX6) (N := 5) hx hb hts inlX6 tyX6 tyX6_ok nmX6 hown hK hP hD hS 0 rfl rfl 3 (by decide) (hts _ mw_92) (fun _ h9 => h9) rfl hnm rfl (by decide +kernel) rfl rfl (Nat.le_of_ble_eq_true rfl) dX6_init_31 (fun H locs hP hD hS => ?_)
  replace hP : va_P D vwCl ([(h, .inr (6, [.int 0, .ref q1, .ref q2, .ref q3, .null])), (q1, .inl (K 0, (432, .inl (fun _ => 0)))), (q2, .inl (K 0, (48, .inl (fun _ => 0)))), (q3, .inl (K 0, (48, .inl (fun _ => 0))))]) H := hP
  replace hD : va_D A ([(h, .inr (6, [.int 0, .ref q1, .ref q2, .ref q3, .null])), (q1, .inl (K 0, (432, .inl (fun _ => 0)))), (q2, .inl (K 0, (48, .inl (fun _ => 0)))), (q3, .inl (K 0, (48, .inl (fun _ => 0))))]) := hD
  refine lv_aload_n hx hb dX6_init_34 rfl (lv_at hl 0 rfl) ?_
  refine lv_bipush (v := 9) hx hb dX6_init_35 (by decide) ?_
  refine va_newa (atype := .int) (ty := .int) (a0 := (9, .inl (fun _ => 0))) hx hb (hts _ mw_44) rfl hK hP hD hS hA (fun _ => rfl) (by decide) (by decide) (by decide) (Nat.le_of_ble_eq_true rfl) (Nat.le_of_ble_eq_true rfl) dX6_init_37 (fun q4 cA H hK2 hP hD hS => ?_)
  obtain rfl := xuniq (hK.2 0 _ rfl).2 (hK2.2 4 _ rfl).2
  clear hK2
  replace hP : va_P D vwCl ([(h, .inr (6, [.int 0, .ref q1, .ref q2, .ref q3, .null])), (q1, .inl (K 0, (432, .inl (fun _ => 0)))), (q2, .inl (K 0, (48, .inl (fun _ => 0)))), (q3, .inl (K 0, (48, .inl (fun _ => 0)))), (q4, .inl (K 0, (9, .inl (fun _ => 0))))]) H := hP
  replace hD : va_D A ([(h, .inr (6, [.int 0, .ref q1, .ref q2, .ref q3, .null])), (q1, .inl (K 0, (432, .inl (fun _ => 0)))), (q2, .inl (K 0, (48, .inl (fun _ => 0)))), (q3, .inl (K 0, (48, .inl (fun _ => 0)))), (q4, .inl (K 0, (9, .inl (fun _ => 0))))]) := hD
  refine va_putF (D := D) (ci := 6) (v := .ref q4) (ty := .array .int) (C := RX6) (T := TX6) (N := 5) hx hb hts inlX6 tyX6 tyX6_ok nmX6 hown hK hP hD hS 0 rfl rfl 4 (by decide) (hts _ mw_93) (fun _ h9 => h9) rfl hnm rfl (by decide +kernel) rfl rfl (Nat.le_of_ble_eq_true rfl) dX6_init_39 (fun H locs hP hD hS => ?_)
  replace hP : va_P D vwCl ([(h, .inr (6, [.int 0, .ref q1, .ref q2, .ref q3, .ref q4])), (q1, .inl (K 0, (432, .inl (fun _ => 0)))), (q2, .inl (K 0, (48, .inl (fun _ => 0)))), (q3, .inl (K 0, (48, .inl (fun _ => 0)))), (q4, .inl (K 0, (9, .inl (fun _ => 0))))]) H := hP
  replace hD : va_D A ([(h, .inr (6, [.int 0, .ref q1, .ref q2, .ref q3, .ref q4])), (q1, .inl (K 0, (432, .inl (fun _ => 0)))), (q2, .inl (K 0, (48, .inl (fun _ => 0)))), (q3, .inl (K 0, (48, .inl (fun _ => 0)))), (q4, .inl (K 0, (9, .inl (fun _ => 0))))]) := hD
  have hP9 : va_P D vwCl (wX6 K h (fun k => match k with | 1 => q1 | 2 => q2 | 3 => q3 | 4 => q4 | _ => 0) z6) H := hP
  have hD9 : va_D A (wX6 K h (fun k => match k with | 1 => q1 | 2 => q2 | 3 => q3 | 4 => q4 | _ => 0) z6) := hD
  refine W.widen (k := 4) (n := 537) (Nat.le_of_ble_eq_true rfl) (Nat.le_of_ble_eq_true rfl) ?_
  exact W.vret hx hb hr (fun t ht _ => ⟨⟨(fun k => match k with | 1 => q1 | 2 => q2 | 3 => q3 | 4 => q4 | _ => 0), rfl, trivial, by rw [ht]; exact hP9, hD9⟩, hS.F ht⟩) hS.2.2 dX6_init_42 hlocks

def z0 : zS := ((fun _ => 0), fun _ _ => 0, fun _ _ => 0)
set_option maxHeartbeats 4000000 in
set_option maxRecDepth 100000 in
theorem c_X0_init {l : Launch} {D : va_G} {K : Nat → ClassId} {h t1 t2 sz : Nat} : Met l yX0_init (Cond.code yX0_init cX0_init 3 none :: wsL_law) ({ frames := 1, cells := 0, slots := 0, locals := 40 } : Room) (va_Pc [.ref h, .ref t1, .ref t2] (xPre D vwCl (xty K) [(h, .inr (0, [.null, .null, .int 0, .int 0, .int 0]))] sz)) (va_Qv (fun (_ : (Nat → Nat)) => True) (fun (u : (Nat → Nat)) t => va_P D vwCl (wX0 K h (fun k => match k with | 0 => t1 | _ => t2) z0) t.heap ∧ va_D (va_A [(h, .inr (0, [.null, .null, .int 0, .int 0, .int 0]))] sz) (wX0 K h (fun k => match k with | 0 => t1 | _ => t2) z0)) (va_A [(h, .inr (0, [.null, .null, .int 0, .int 0, .int 0]))] sz)) 0 0 (va_A [(h, .inr (0, [.null, .null, .int 0, .int 0, .int 0]))] sz) := by
  refine xMet (by decide) rfl (Nat.le_of_ble_eq_true rfl) (fun p e s m args below meth c C hnm hP hD hsz ls hl => ?_)
  have hl : lv_has ls 3 [(0, .ref h), (1, .ref t1), (2, .ref t2)] := hl
  obtain ⟨hx, hb, hr, hml, hown, hts, hlocks, hK, hT⟩ := id C
  subst hsz
  generalize hAe : va_A [(h, .inr (0, [.null, .null, .int 0, .int 0, .int 0]))] s.heap.size = A at hD ⊢
  have hA : ∀ q : Nat, s.heap.size ≤ q → A q := fun q h => by rw [← hAe]; exact Or.inr h
  have hS : va_S A s.heap s.heap [] := va_S.rf
  refine lv_aload_n hx hb dX0_init_0 rfl (lv_at hl 0 rfl) ?_
  refine W.objInit hx hb hown (hts _ mw_80) (hts _ mw_11) (hts _ mw_12) rfl (by rw [hml]; exact hl.1) rfl dX0_init_1 (Nat.le_of_ble_eq_true rfl) (Nat.le_of_ble_eq_true rfl) ?_
  refine W.eq (g2 := F0 m 4 ls []) rfl ?_
  refine lv_aload_n hx hb dX0_init_4 rfl (lv_at hl 0 rfl) ?_
  refine lv_iconst (v := 0) hx hb dX0_init_5 (by decide) ?_
  refine va_put (D := D) (ci := 0) (v := .int 0) (ty := .int) (C := RX0) (T := TX0) (N := 5) hx hb hts inlX0 tyX0 tyX0_ok nmX0 hown hK hP hD hS 0 rfl rfl 2 (by decide) (hts _ mw_81) (fun _ h9 => h9) rfl (by decide +kernel) rfl rfl (Nat.le_of_ble_eq_true rfl) dX0_init_6 (fun H locs hP hD hS => ?_)
  replace hP : va_P D vwCl ([(h, .inr (0, [.null, .null, .int 0, .int 0, .int 0]))]) H := hP
  replace hD : va_D A ([(h, .inr (0, [.null, .null, .int 0, .int 0, .int 0]))]) := hD
  refine lv_aload_n hx hb dX0_init_9 rfl (lv_at hl 0 rfl) ?_
  refine lv_iconst (v := 0) hx hb dX0_init_10 (by decide) ?_
  refine va_put (D := D) (ci := 0) (v := .int 0) (ty := .int) (C := RX0) (T := TX0) (N := 5) hx hb hts inlX0 tyX0 tyX0_ok nmX0 hown hK hP hD hS 0 rfl rfl 3 (by decide) (hts _ mw_82) (fun _ h9 => h9) rfl (by decide +kernel) rfl rfl (Nat.le_of_ble_eq_true rfl) dX0_init_11 (fun H locs hP hD hS => ?_)
  replace hP : va_P D vwCl ([(h, .inr (0, [.null, .null, .int 0, .int 0, .int 0]))]) H := hP
  replace hD : va_D A ([(h, .inr (0, [.null, .null, .int 0, .int 0, .int 0]))]) := hD
  refine lv_aload_n hx hb dX0_init_14 rfl (lv_at hl 0 rfl) ?_
  refine lv_iconst (v := 0) hx hb dX0_init_15 (by decide) ?_
  refine va_put (D := D) (ci := 0) (v := .int 0) (ty := .int) (C := RX0) (T := TX0) (N := 5) hx hb hts inlX0 tyX0 tyX0_ok nmX0 hown hK hP hD hS 0 rfl rfl 4 (by decide) (hts _ mw_83) (fun _ h9 => h9) rfl (by decide +kernel) rfl rfl (Nat.le_of_ble_eq_true rfl) dX0_init_16 (fun H locs hP hD hS => ?_)
  replace hP : va_P D vwCl ([(h, .inr (0, [.null, .null, .int 0, .int 0, .int 0]))]) H := hP
  replace hD : va_D A ([(h, .inr (0, [.null, .null, .int 0, .int 0, .int 0]))]) := hD
  refine lv_aload_n hx hb dX0_init_19 rfl (lv_at hl 0 rfl) ?_
  refine lv_aload_n hx hb dX0_init_20 rfl (lv_at hl 1 rfl) ?_
  refine va_putF (D := D) (ci := 0) (v := .ref t1) (ty := .object "UnderTheDesks$Tape") (C := RX0) (T := TX0) (N := 5) hx hb hts inlX0 tyX0 tyX0_ok nmX0 hown hK hP hD hS 0 rfl rfl 0 (by decide) (hts _ mw_84) (fun _ h9 => h9) rfl hnm rfl (by decide +kernel) rfl rfl (Nat.le_of_ble_eq_true rfl) dX0_init_21 (fun H locs hP hD hS => ?_)
  replace hP : va_P D vwCl ([(h, .inr (0, [.ref t1, .null, .int 0, .int 0, .int 0]))]) H := hP
  replace hD : va_D A ([(h, .inr (0, [.ref t1, .null, .int 0, .int 0, .int 0]))]) := hD
  refine lv_aload_n hx hb dX0_init_24 rfl (lv_at hl 0 rfl) ?_
  refine lv_aload_n hx hb dX0_init_25 rfl (lv_at hl 2 rfl) ?_
  refine va_putF (D := D) (ci := 0) (v := .ref t2) (ty := .object "UnderTheDesks$Room") (C := RX0) (T := TX0) (N := 5) hx hb hts inlX0 tyX0 tyX0_ok nmX0 hown hK hP hD hS 0 rfl rfl 1 (by decide) (hts _ mw_85) (fun _ h9 => h9) rfl hnm rfl (by decide +kernel) rfl rfl (Nat.le_of_ble_eq_true rfl) dX0_init_26 (fun H locs hP hD hS => ?_)
  replace hP : va_P D vwCl ([(h, .inr (0, [.ref t1, .ref t2, .int 0, .int 0, .int 0]))]) H := hP
  replace hD : va_D A ([(h, .inr (0, [.ref t1, .ref t2, .int 0, .int 0, .int 0]))]) := hD
  have hP9 : va_P D vwCl (wX0 K h (fun k => match k with | 0 => t1 | _ => t2) z0) H := hP
  have hD9 : va_D A (wX0 K h (fun k => match k with | 0 => t1 | _ => t2) z0) := hD
  refine W.widen (k := 0) (n := 0) (Nat.le_of_ble_eq_true rfl) (Nat.le_of_ble_eq_true rfl) ?_
  exact W.vret hx hb hr (fun t ht _ => ⟨⟨(fun k => match k with | 0 => t1 | 1 => t2 | _ => 0), rfl, trivial, by rw [ht]; exact hP9, hD9⟩, hS.F ht⟩) hS.2.2 dX0_init_29 hlocks
