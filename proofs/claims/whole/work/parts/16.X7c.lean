def wp_X7_status (r0 : zS) (sh : Nat → zS) (r2 : zS) (r3 : zS) (r4 : zS) (p1 : Int32) (post : Int32 → Prop) : Prop :=
  (p1 = 0 → post (r4.1 0) ) ∧ (p1 = 1 → post (r4.1 1) ) ∧ (p1 = 2 → wp_X1_barredPairs r4 (fun v2 => post v2 )) ∧ (p1 = 3 → post (r4.1 2) ) ∧ (p1 = 4 → post (r4.1 3) ) ∧ (p1 = 5 → post (r4.1 4) ) ∧ (p1 = 6 → post (r2.1 0) ) ∧ (p1 = 7 → post (r2.1 2) ) ∧ (p1 = 8 → post (r2.1 3) ) ∧ (p1 = 9 → post (r3.1 0) ) ∧ (p1 = 10 → post (r2.1 1) ) ∧ (p1 = 11 → wp_X7_shelvesInUse r0 sh (fun v3 => post v3 )) ∧ (¬ p1 = 0 → ¬ p1 = 1 → ¬ p1 = 2 → ¬ p1 = 3 → ¬ p1 = 4 → ¬ p1 = 5 → ¬ p1 = 6 → ¬ p1 = 7 → ¬ p1 = 8 → ¬ p1 = 9 → ¬ p1 = 10 → ¬ p1 = 11 → wp_X7_refusalsOf r0 (p1 - (12 : Int32)) (fun v4 => post v4 ))
set_option maxHeartbeats 4000000 in
set_option maxRecDepth 100000 in
theorem c_X7_status {l : Launch} {D : va_G} {K : Nat → ClassId} {h0 : Nat} {a0 : Nat → Nat} {hs : Nat → Nat} {r0 : zS} {as : Nat → Nat → Nat} {sh : Nat → zS} {a2 : Nat → Nat} {r2 : zS} {a3 : Nat → Nat} {r3 : zS} {a4 : Nat → Nat} {r4 : zS} {p1 : Int32} {sz : Nat} {post : Int32 → Prop}   (h : wp_X7_status r0 sh r2 r3 r4 p1 post) : Met l yX7_status (Cond.code yX7_status cX7_status 2 (some .int) :: wsL_law) ({ frames := 3, cells := 0, slots := 0, locals := 64 } : Room) (va_Pc [.ref h0, .int p1] (xPre D vwCl (xty K) (wX7 K h0 a0 hs r0 ++ (wPl K hs as sh ++ (wX4 K (a0 3) a2 r2 ++ (wX3 K (a0 7) a3 r3 ++ (wX1 K (a0 0) a4 r4))))) sz)) (roI post) 0 0 (fun _ => False) := by
  refine xMet (by decide) rfl (Nat.le_of_ble_eq_true rfl) (fun p e s m args below meth c C hnm hP hD hsz ls hl => ?_)
  have hl : lv_has ls 2 [(0, .ref h0), (1, .int p1)] := hl
  obtain ⟨hx, hb, hr, hml, hown, hts, hlocks, hK, hT⟩ := id C
  unfold wp_X7_status at h
  refine lv_iload_n hx hb dX7_status_0 rfl (lv_at hl 1 rfl) ?_
  rcases (Decidable.em (p1 = 0)) with c1 | c1_0
  · have c1T := xsw c1
    replace h := And.left (h) c1
    refine lv_tableIn (tgt := 64) hx hb dX7_status_1 (by rw [c1T]; decide) (by rw [c1T]; decide) (by rw [c1T] <;> rfl) (by decide) ?_
    refine lv_aload_n hx hb dX7_status_64 rfl (lv_at hl 0 rfl) ?_
    refine va_get (D := D) (ci := 7) (v := .ref (a0 0)) (C := RX7) (T := TX7) (N := 13) hx hb hts inlX7 hown hK hP 0 rfl rfl 0 (by decide) (hts (.fieldLink RX7 10 "UnderTheDesks" "room" "LUnderTheDesks$Room;") mw_16) (fun _ h9 => h9) rfl dX7_status_65 ?_
    refine va_get (D := D) (ci := 1) (v := .int (r4.1 0)) (C := RX1) (T := TX1) (N := 10) hx hb hts inlX1 hown hK hP 25 rfl rfl 0 (by decide) (hts (.fieldLink RX7 164 "UnderTheDesks$Room" "rowCount" "I") mw_361) (fun _ h9 => h9) rfl dX7_status_68 ?_
    exact xro_i C h dX7_status_71
  rcases (Decidable.em (p1 = 1)) with c1 | c1_1
  · have c1T := xsw c1
    replace h := And.left (And.right (h)) c1
    refine lv_tableIn (tgt := 72) hx hb dX7_status_1 (by rw [c1T]; decide) (by rw [c1T]; decide) (by rw [c1T] <;> rfl) (by decide) ?_
    refine lv_aload_n hx hb dX7_status_72 rfl (lv_at hl 0 rfl) ?_
    refine va_get (D := D) (ci := 7) (v := .ref (a0 0)) (C := RX7) (T := TX7) (N := 13) hx hb hts inlX7 hown hK hP 0 rfl rfl 0 (by decide) (hts (.fieldLink RX7 10 "UnderTheDesks" "room" "LUnderTheDesks$Room;") mw_16) (fun _ h9 => h9) rfl dX7_status_73 ?_
    refine va_get (D := D) (ci := 1) (v := .int (r4.1 1)) (C := RX1) (T := TX1) (N := 10) hx hb hts inlX1 hown hK hP 25 rfl rfl 1 (by decide) (hts (.fieldLink RX7 161 "UnderTheDesks$Room" "count" "I") mw_360) (fun _ h9 => h9) rfl dX7_status_76 ?_
    exact xro_i C h dX7_status_79
  rcases (Decidable.em (p1 = 2)) with c1 | c1_2
  · have c1T := xsw c1
    replace h := And.left (And.right (And.right (h))) c1
    refine lv_tableIn (tgt := 80) hx hb dX7_status_1 (by rw [c1T]; decide) (by rw [c1T]; decide) (by rw [c1T] <;> rfl) (by decide) ?_
    refine lv_aload_n hx hb dX7_status_80 rfl (lv_at hl 0 rfl) ?_
    refine va_get (D := D) (ci := 7) (v := .ref (a0 0)) (C := RX7) (T := TX7) (N := 13) hx hb hts inlX7 hown hK hP 0 rfl rfl 0 (by decide) (hts (.fieldLink RX7 10 "UnderTheDesks" "room" "LUnderTheDesks$Room;") mw_16) (fun _ h9 => h9) rfl dX7_status_81 ?_
    refine xend_ro_i (xRunV (wc := (wX1 K (a0 0) a4 r4)) (As := []) (rest := []) C (c_X1_barredPairs h) k_X1_barredPairs mw_1255 ⟨rfl, rfl⟩ ⟨Nat.le_of_ble_eq_true rfl, Nat.le_of_ble_eq_true rfl⟩ hP hD [25, 26, 27, 28, 29, 30] rfl rfl rfl rfl hl rfl rfl (Nat.le_of_ble_eq_true rfl) dX7_status_84 ⟨Nat.le_refl _, Nat.le_refl _⟩) (fun v2 h => ?_)
    exact xro_i C h dX7_status_87
  rcases (Decidable.em (p1 = 3)) with c1 | c1_3
  · have c1T := xsw c1
    replace h := And.left (And.right (And.right (And.right (h)))) c1
    refine lv_tableIn (tgt := 88) hx hb dX7_status_1 (by rw [c1T]; decide) (by rw [c1T]; decide) (by rw [c1T] <;> rfl) (by decide) ?_
    refine lv_aload_n hx hb dX7_status_88 rfl (lv_at hl 0 rfl) ?_
    refine va_get (D := D) (ci := 7) (v := .ref (a0 0)) (C := RX7) (T := TX7) (N := 13) hx hb hts inlX7 hown hK hP 0 rfl rfl 0 (by decide) (hts (.fieldLink RX7 10 "UnderTheDesks" "room" "LUnderTheDesks$Room;") mw_16) (fun _ h9 => h9) rfl dX7_status_89 ?_
    refine va_get (D := D) (ci := 1) (v := .int (r4.1 2)) (C := RX1) (T := TX1) (N := 10) hx hb hts inlX1 hown hK hP 25 rfl rfl 2 (by decide) (hts (.fieldLink RX7 199 "UnderTheDesks$Room" "term" "I") mw_473) (fun _ h9 => h9) rfl dX7_status_92 ?_
    exact xro_i C h dX7_status_95
  rcases (Decidable.em (p1 = 4)) with c1 | c1_4
  · have c1T := xsw c1
    replace h := And.left (And.right (And.right (And.right (And.right (h))))) c1
    refine lv_tableIn (tgt := 96) hx hb dX7_status_1 (by rw [c1T]; decide) (by rw [c1T]; decide) (by rw [c1T] <;> rfl) (by decide) ?_
    refine lv_aload_n hx hb dX7_status_96 rfl (lv_at hl 0 rfl) ?_
    refine va_get (D := D) (ci := 7) (v := .ref (a0 0)) (C := RX7) (T := TX7) (N := 13) hx hb hts inlX7 hown hK hP 0 rfl rfl 0 (by decide) (hts (.fieldLink RX7 10 "UnderTheDesks" "room" "LUnderTheDesks$Room;") mw_16) (fun _ h9 => h9) rfl dX7_status_97 ?_
    refine va_get (D := D) (ci := 1) (v := .int (r4.1 3)) (C := RX1) (T := TX1) (N := 10) hx hb hts inlX1 hown hK hP 25 rfl rfl 3 (by decide) (hts (.fieldLink RX7 202 "UnderTheDesks$Room" "turned" "I") mw_474) (fun _ h9 => h9) rfl dX7_status_100 ?_
    exact xro_i C h dX7_status_103
  rcases (Decidable.em (p1 = 5)) with c1 | c1_5
  · have c1T := xsw c1
    replace h := And.left (And.right (And.right (And.right (And.right (And.right (h)))))) c1
    refine lv_tableIn (tgt := 104) hx hb dX7_status_1 (by rw [c1T]; decide) (by rw [c1T]; decide) (by rw [c1T] <;> rfl) (by decide) ?_
    refine lv_aload_n hx hb dX7_status_104 rfl (lv_at hl 0 rfl) ?_
    refine va_get (D := D) (ci := 7) (v := .ref (a0 0)) (C := RX7) (T := TX7) (N := 13) hx hb hts inlX7 hown hK hP 0 rfl rfl 0 (by decide) (hts (.fieldLink RX7 10 "UnderTheDesks" "room" "LUnderTheDesks$Room;") mw_16) (fun _ h9 => h9) rfl dX7_status_105 ?_
    refine va_get (D := D) (ci := 1) (v := .int (r4.1 4)) (C := RX1) (T := TX1) (N := 10) hx hb hts inlX1 hown hK hP 25 rfl rfl 4 (by decide) (hts (.fieldLink RX7 210 "UnderTheDesks$Room" "eye" "I") mw_478) (fun _ h9 => h9) rfl dX7_status_108 ?_
    exact xro_i C h dX7_status_111
  rcases (Decidable.em (p1 = 6)) with c1 | c1_6
  · have c1T := xsw c1
    replace h := And.left (And.right (And.right (And.right (And.right (And.right (And.right (h))))))) c1
    refine lv_tableIn (tgt := 112) hx hb dX7_status_1 (by rw [c1T]; decide) (by rw [c1T]; decide) (by rw [c1T] <;> rfl) (by decide) ?_
    refine lv_aload_n hx hb dX7_status_112 rfl (lv_at hl 0 rfl) ?_
    refine va_get (D := D) (ci := 7) (v := .ref (a0 3)) (C := RX7) (T := TX7) (N := 13) hx hb hts inlX7 hown hK hP 0 rfl rfl 3 (by decide) (hts (.fieldLink RX7 25 "UnderTheDesks" "truth" "LUnderTheDesks$Truth;") mw_22) (fun _ h9 => h9) rfl dX7_status_113 ?_
    refine va_get (D := D) (ci := 4) (v := .int (r2.1 0)) (C := RX4) (T := TX4) (N := 8) hx hb hts inlX4 hown hK hP 19 rfl rfl 0 (by decide) (hts (.fieldLink RX7 332 "UnderTheDesks$Truth" "second" "I") mw_1126) (fun _ h9 => h9) rfl dX7_status_116 ?_
    exact xro_i C h dX7_status_119
  rcases (Decidable.em (p1 = 7)) with c1 | c1_7
  · have c1T := xsw c1
    replace h := And.left (And.right (And.right (And.right (And.right (And.right (And.right (And.right (h)))))))) c1
    refine lv_tableIn (tgt := 120) hx hb dX7_status_1 (by rw [c1T]; decide) (by rw [c1T]; decide) (by rw [c1T] <;> rfl) (by decide) ?_
    refine lv_aload_n hx hb dX7_status_120 rfl (lv_at hl 0 rfl) ?_
    refine va_get (D := D) (ci := 7) (v := .ref (a0 3)) (C := RX7) (T := TX7) (N := 13) hx hb hts inlX7 hown hK hP 0 rfl rfl 3 (by decide) (hts (.fieldLink RX7 25 "UnderTheDesks" "truth" "LUnderTheDesks$Truth;") mw_22) (fun _ h9 => h9) rfl dX7_status_121 ?_
    refine va_get (D := D) (ci := 4) (v := .int (r2.1 2)) (C := RX4) (T := TX4) (N := 8) hx hb hts inlX4 hown hK hP 19 rfl rfl 2 (by decide) (hts (.fieldLink RX7 364 "UnderTheDesks$Truth" "sent" "I") mw_1253) (fun _ h9 => h9) rfl dX7_status_124 ?_
    exact xro_i C h dX7_status_127
  rcases (Decidable.em (p1 = 8)) with c1 | c1_8
  · have c1T := xsw c1
    replace h := And.left (And.right (And.right (And.right (And.right (And.right (And.right (And.right (And.right (h))))))))) c1
    refine lv_tableIn (tgt := 128) hx hb dX7_status_1 (by rw [c1T]; decide) (by rw [c1T]; decide) (by rw [c1T] <;> rfl) (by decide) ?_
    refine lv_aload_n hx hb dX7_status_128 rfl (lv_at hl 0 rfl) ?_
    refine va_get (D := D) (ci := 7) (v := .ref (a0 3)) (C := RX7) (T := TX7) (N := 13) hx hb hts inlX7 hown hK hP 0 rfl rfl 3 (by decide) (hts (.fieldLink RX7 25 "UnderTheDesks" "truth" "LUnderTheDesks$Truth;") mw_22) (fun _ h9 => h9) rfl dX7_status_129 ?_
    refine va_get (D := D) (ci := 4) (v := .int (r2.1 3)) (C := RX4) (T := TX4) (N := 8) hx hb hts inlX4 hown hK hP 19 rfl rfl 3 (by decide) (hts (.fieldLink RX7 367 "UnderTheDesks$Truth" "arrivals" "I") mw_1254) (fun _ h9 => h9) rfl dX7_status_132 ?_
    exact xro_i C h dX7_status_135
  rcases (Decidable.em (p1 = 9)) with c1 | c1_9
  · have c1T := xsw c1
    replace h := And.left (And.right (And.right (And.right (And.right (And.right (And.right (And.right (And.right (And.right (h)))))))))) c1
    refine lv_tableIn (tgt := 136) hx hb dX7_status_1 (by rw [c1T]; decide) (by rw [c1T]; decide) (by rw [c1T] <;> rfl) (by decide) ?_
    refine lv_aload_n hx hb dX7_status_136 rfl (lv_at hl 0 rfl) ?_
    refine va_get (D := D) (ci := 7) (v := .ref (a0 7)) (C := RX7) (T := TX7) (N := 13) hx hb hts inlX7 hown hK hP 0 rfl rfl 7 (by decide) (hts (.fieldLink RX7 45 "UnderTheDesks" "tape" "LUnderTheDesks$Tape;") mw_30) (fun _ h9 => h9) rfl dX7_status_137 ?_
    refine va_get (D := D) (ci := 3) (v := .int (r3.1 0)) (C := RX3) (T := TX3) (N := 2) hx hb hts inlX3 hown hK hP 23 rfl rfl 0 (by decide) (hts (.fieldLink RX7 216 "UnderTheDesks$Tape" "size" "I") mw_493) (fun _ h9 => h9) rfl dX7_status_140 ?_
    exact xro_i C h dX7_status_143
  rcases (Decidable.em (p1 = 10)) with c1 | c1_10
  · have c1T := xsw c1
    replace h := And.left (And.right (And.right (And.right (And.right (And.right (And.right (And.right (And.right (And.right (And.right (h))))))))))) c1
    refine lv_tableIn (tgt := 144) hx hb dX7_status_1 (by rw [c1T]; decide) (by rw [c1T]; decide) (by rw [c1T] <;> rfl) (by decide) ?_
    refine lv_aload_n hx hb dX7_status_144 rfl (lv_at hl 0 rfl) ?_
    refine va_get (D := D) (ci := 7) (v := .ref (a0 3)) (C := RX7) (T := TX7) (N := 13) hx hb hts inlX7 hown hK hP 0 rfl rfl 3 (by decide) (hts (.fieldLink RX7 25 "UnderTheDesks" "truth" "LUnderTheDesks$Truth;") mw_22) (fun _ h9 => h9) rfl dX7_status_145 ?_
    refine va_get (D := D) (ci := 4) (v := .int (r2.1 1)) (C := RX4) (T := TX4) (N := 8) hx hb hts inlX4 hown hK hP 19 rfl rfl 1 (by decide) (hts (.fieldLink RX7 355 "UnderTheDesks$Truth" "seed" "I") mw_1223) (fun _ h9 => h9) rfl dX7_status_148 ?_
    exact xro_i C h dX7_status_151
  rcases (Decidable.em (p1 = 11)) with c1 | c1_11
  · have c1T := xsw c1
    replace h := And.left (And.right (And.right (And.right (And.right (And.right (And.right (And.right (And.right (And.right (And.right (And.right (h)))))))))))) c1
    refine lv_tableIn (tgt := 152) hx hb dX7_status_1 (by rw [c1T]; decide) (by rw [c1T]; decide) (by rw [c1T] <;> rfl) (by decide) ?_
    refine lv_aload_n hx hb dX7_status_152 rfl (lv_at hl 0 rfl) ?_
    refine xend_ro_i (xRunV (wc := (wX7 K h0 a0 hs r0 ++ (wPl K hs as sh ++ (([] : va_W))))) (As := []) (rest := []) C (c_X7_shelvesInUse h) k_X7_shelvesInUse mw_1259 ⟨rfl, rfl⟩ ⟨Nat.le_of_ble_eq_true rfl, Nat.le_of_ble_eq_true rfl⟩ hP hD [0, 1, 2, 3, 4, 5, 6, 7, 8, 9, 10, 11, 12, 13, 14, 15, 16, 17, 18] rfl rfl rfl rfl hl rfl rfl (Nat.le_of_ble_eq_true rfl) dX7_status_153 ⟨Nat.le_refl _, Nat.le_refl _⟩) (fun v3 h => ?_)
    exact xro_i C h dX7_status_156
  replace h := And.right (And.right (And.right (And.right (And.right (And.right (And.right (And.right (And.right (And.right (And.right (And.right (h)))))))))))) c1_0 c1_1 c1_2 c1_3 c1_4 c1_5 c1_6 c1_7 c1_8 c1_9 c1_10 c1_11
  have c1N_0 := lv_neT (a := 0) c1_0 rfl
  have c1N_1 := lv_neT (a := 1) c1_1 rfl
  have c1N_2 := lv_neT (a := 2) c1_2 rfl
  have c1N_3 := lv_neT (a := 3) c1_3 rfl
  have c1N_4 := lv_neT (a := 4) c1_4 rfl
  have c1N_5 := lv_neT (a := 5) c1_5 rfl
  have c1N_6 := lv_neT (a := 6) c1_6 rfl
  have c1N_7 := lv_neT (a := 7) c1_7 rfl
  have c1N_8 := lv_neT (a := 8) c1_8 rfl
  have c1N_9 := lv_neT (a := 9) c1_9 rfl
  have c1N_10 := lv_neT (a := 10) c1_10 rfl
  have c1N_11 := lv_neT (a := 11) c1_11 rfl
  refine lv_tableOut (tgt := 157) hx hb dX7_status_1 (by omega) (by decide) ?_
  refine lv_aload_n hx hb dX7_status_157 rfl (lv_at hl 0 rfl) ?_
  refine lv_iload_n hx hb dX7_status_158 rfl (lv_at hl 1 rfl) ?_
  refine lv_bipush (v := 12) hx hb dX7_status_159 (by decide) ?_
  refine lv_isub hx hb dX7_status_161 ?_
  refine xend_ro_i (xRunV (wc := (wX7 K h0 a0 hs r0)) (As := [.int (p1 - (12 : Int32))]) (rest := []) C (c_X7_refusalsOf h) k_X7_refusalsOf mw_1263 ⟨rfl, rfl⟩ ⟨Nat.le_of_ble_eq_true rfl, Nat.le_of_ble_eq_true rfl⟩ hP hD [0, 1, 2] rfl rfl rfl rfl hl rfl rfl (Nat.le_of_ble_eq_true rfl) dX7_status_162 ⟨Nat.le_refl _, Nat.le_refl _⟩) (fun v4 h => ?_)
  exact xro_i C h dX7_status_165
