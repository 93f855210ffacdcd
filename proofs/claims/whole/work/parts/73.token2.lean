/-! tokens: the reference's, numbers, words -/
section QTOK2
variable {l y m : zS} {z : Nat} {b : Nat → Nat}
theorem qTz_Fr {m' : zS} {a c : Nat} (T : qTz y m z b) (F : qFr a c m m') (h : 8 ≤ a) : qTz y m' z b := qTz_fr T (F 7 (by omega)).1 (F 6 (by omega)).2.1
/-- the reference at a token -/
def qLk (m : zS) (z : Nat) (b : Nat → Nat) (p : Nat) : Prop := m.1 28 = nI (qen0 z b p) ∧ m.1 29 = nI (qtk0 z b p) ∧ m.1 30 = nI (qst0 z b p) ∧ (qtk0 z b p = 2 → m.1 31 = nI (qval z b p))
theorem a8_look (T : qTz y m z b) {p : Nat} (hp : p ≤ z) (h28 : m.1 28 = nI p) {post : zS → Prop} (h : ∀ m', qLk m' z b p → qFr 28 32 m m' → post m') : wp_X8_look m post := by
  have hz := T.1
  have hs := qst0_in (b := b) hp
  have he := qen0_in (b := b) hp
  have ht := qtk0_le (z := z) (b := b) p
  refine q_lp1 (B := wb_X8_look_0 post) (fun q m' => ∃ i, i + q = z ∧ m'.1 28 = nI i ∧ qst0 z b i = qst0 z b p ∧ qFr 28 32 m m') ?_ (z - p) _ ⟨p, by omega, h28, rfl, qFr_rf⟩
  rintro q m' ⟨i, hi, m28, es, F⟩ K hK
  have T' := qTz_Fr T F (by decide)
  have go : i = qst0 z b p → wp_X8_look_38 post m' := by
    intro e
    subst e
    unfold wp_X8_look_38
    rw [m28, q_all]
    have F2 : qFr 28 32 m (zI (zI m' 30 (nI (qst0 z b p))) 31 (0 : Int32)) := qFr_I (k := 31) (qFr_I (k := 30) F (by decide) _) (by decide) _
    have n28 : (zI (zI m' 30 (nI (qst0 z b p))) 31 (0 : Int32)).1 28 = nI (qst0 z b p) := m28
    have n30 : (zI (zI m' 30 (nI (qst0 z b p))) 31 (0 : Int32)).1 30 = nI (qst0 z b p) := rfl
    have n31 : (zI (zI m' 30 (nI (qst0 z b p))) 31 (0 : Int32)).1 31 = nI 0 := rfl
    have T2 := qTz_Fr T F2 (by decide)
    generalize hm2 : zI (zI m' 30 (nI (qst0 z b p))) 31 (0 : Int32) = m2 at *
    rw [n28, T2.2.2.1, nI_eq (by omega) (by omega)]
    refine ⟨fun c => ?_, fun c => ?_⟩
    · have t0 := (qtk0_0 (b := b) hp).mpr c
      refine h _ ⟨?_, ?_, n30, fun z2 => by omega⟩ (qFr_I (k := 29) F2 (by decide) _)
      · show m2.1 28 = _
        rw [n28]
        unfold qen0
        rw [if_neg (by omega), if_pos t0]
      · rw [t0]; rfl
    · have c' : qst0 z b p < z := by omega
      have hb := T2.2.2.2 _ c'
      have vi : vp_in (nI (qst0 z b p)) 250 := q_in (by omega) (by omega)
      have tk : qtk0 z b p = qsort (b (qst0 z b p)) := by unfold qtk0; rw [if_pos c']
      rw [q_clamp (by omega), hb.2.2, e8_letter hb.1]
      refine ⟨vi, q_br (fun cl => ?_) (fun cl => ⟨vi, ?_⟩)⟩
      · have t1 : qtk0 z b p = 1 := by rw [tk]; unfold qsort; rw [cl]; rfl
        have ee : qen0 z b p = qto z (fun i => decide (qsort (b i) = qtk0 z b p)) (qst0 z b p) := by unfold qen0; rw [if_pos (Or.inl t1)]
        refine q_lp1 (B := wb_X8_look_90 post) (fun q m3 => ∃ j, j + q = z ∧ m3.1 28 = nI j ∧ m3.1 29 = nI 1 ∧ m3.1 30 = nI (qst0 z b p) ∧ qFr 28 32 m m3 ∧ qto z (fun i => decide (qsort (b i) = qtk0 z b p)) j = qen0 z b p) ?_ (z - qst0 z b p) _ ⟨qst0 z b p, by omega, n28, rfl, n30, qFr_I (k := 29) F2 (by decide) _, ee.symm⟩
        rintro q2 m3 ⟨j, hj, f28, f29, f30, F3, ej⟩ K2 hK2
        have T3 := qTz_Fr T F3 (by decide)
        unfold wb_X8_look_90
        rw [T3.2.2.1, f28, q_leN (by omega) (by omega)]
        by_cases cj : z ≤ j
        · rw [q_pos cj]
          rw [qto_ge cj] at ej
          exact h _ ⟨by rw [f28, ej], by rw [f29, t1], f30, fun z2 => by omega⟩ F3
        · have cj' : j < z := by omega
          have hbj := T3.2.2.2 j cj'
          rw [q_neg cj, q_clamp (by omega), hbj.2.2, e8_letter hbj.1]
          rw [qto_lt cj', t1, qsort_1] at ej
          refine ⟨q_in (by omega) (by omega), q_br (fun d v hv => ?_) (fun d => ?_)⟩
          · rw [hv, q_succ]
            rw [if_pos d] at ej
            exact hK2 (q2 - 1) _ (by omega) ⟨j + 1, by omega, rfl, f29, f30, qFr_I (k := 28) F3 (by decide) _, by rw [t1]; exact ej⟩
          · rw [d, if_neg (by decide)] at ej
            exact h _ ⟨by rw [f28, ej], by rw [f29, t1], f30, fun z2 => by omega⟩ F3
      · rw [e8_digit hb.1]
        refine q_br (fun cd => ?_) (fun cd => ⟨vi, ?_⟩)
        · have t2 : qtk0 z b p = 2 := by rw [tk]; unfold qsort; rw [cl, cd]; rfl
          have ee : qen0 z b p = qto z (fun i => decide (qsort (b i) = qtk0 z b p)) (qst0 z b p) := by unfold qen0; rw [if_pos (Or.inr t2)]
          refine q_lp1 (B := wb_X8_look_149 post) (fun q m3 => ∃ j, j + q = z ∧ qst0 z b p ≤ j ∧ m3.1 28 = nI j ∧ m3.1 29 = nI 2 ∧ m3.1 30 = nI (qst0 z b p) ∧ m3.1 31 = nI (if j - qst0 z b p ≤ 4 then qnum b (qst0 z b p) (j - qst0 z b p) else 100000) ∧ qFr 28 32 m m3 ∧ qto z (fun i => decide (qsort (b i) = qtk0 z b p)) j = qen0 z b p) ?_ (z - qst0 z b p) _ ⟨qst0 z b p, by omega, Nat.le_refl _, n28, rfl, n30, ?_, qFr_I (k := 29) F2 (by decide) _, ee.symm⟩
          · rintro q2 m3 ⟨j, hj, hsj, f28, f29, f30, f31, F3, ej⟩ K2 hK2
            have T3 := qTz_Fr T F3 (by decide)
            unfold wb_X8_look_149
            rw [T3.2.2.1, f28, q_leN (by omega) (by omega)]
            by_cases cj : z ≤ j
            · rw [q_pos cj]
              rw [qto_ge cj] at ej
              exact h _ ⟨by rw [f28, ej], by rw [f29, t2], f30, fun _ => by rw [f31]; unfold qval; rw [ej]⟩ F3
            · have cj' : j < z := by omega
              have hbj := T3.2.2.2 j cj'
              have sub : nI j - nI (qst0 z b p) = nI (j - qst0 z b p) := pk_sub hsj
              rw [q_neg cj, q_clamp (by omega), hbj.2.2, e8_digit hbj.1, f30, sub]
              rw [qto_lt cj', t2, qsort_2] at ej
              have vj : vp_in (nI j) 250 := q_in (by omega) (by omega)
              refine ⟨vj, q_br (fun d => ?_) (fun d => ?_)⟩
              · rw [if_pos d] at ej
                have d' := of_decide_eq_true d
                have c4 : ((4 : Int32) ≤ nI (j - qst0 z b p)) = (4 ≤ j - qst0 z b p) := propext (nI_leI (a := 4) (by decide) (by omega))
                have nx : ∀ v, v = (if j + 1 - qst0 z b p ≤ 4 then qnum b (qst0 z b p) (j + 1 - qst0 z b p) else 100000) → wp_X8_look_214 post K2 m3 (nI v) := by
                  intro v hv
                  unfold wp_X8_look_214
                  have e28 : (zI m3 31 (nI v)).1 28 = nI j := f28
                  rw [e28, q_succ, q_all]
                  exact hK2 (q2 - 1) _ (by omega) ⟨j + 1, by omega, by omega, rfl, f29, f30, by rw [← hv]; rfl, qFr_I (k := 28) (qFr_I (k := 31) F3 (by decide) _) (by decide) _, by rw [t2]; exact ej⟩
                rw [c4]
                refine ⟨fun c5 => ?_, fun c5 => ⟨vj, ?_⟩⟩
                · exact nx 100000 (by rw [if_neg (by omega)])
                · rw [if_pos (by omega)] at f31
                  have d10 : (10 : Int32) = nI 10 := rfl
                  have d48 : (48 : Int32) = nI 48 := rfl
                  rw [f31, d10, d48, pk_mul, nI_add, pk_sub (by omega)]
                  refine nx _ ?_
                  rw [if_pos (by omega), show j + 1 - qst0 z b p = (j - qst0 z b p) + 1 by omega]
                  show _ = 10 * qnum b (qst0 z b p) (j - qst0 z b p) + (b (qst0 z b p + (j - qst0 z b p)) - 48)
                  rw [show qst0 z b p + (j - qst0 z b p) = j by omega]
                  omega
              · rw [d, if_neg (by decide)] at ej
                exact h _ ⟨by rw [f28, ej], by rw [f29, t2], f30, fun _ => by rw [f31]; unfold qval; rw [ej]⟩ F3
          · show m2.1 31 = _
            rw [n31, Nat.sub_self]; rfl
        · have c59 : (nI (b (qst0 z b p)) = (59 : Int32)) = (b (qst0 z b p) = 59) := propext (nI_eq (b := 59) (by omega) (by decide))
          have fin : ∀ t, qtk0 z b p = t → 3 ≤ t → wp_X8_look_250 post m2 (nI t) := by
            intro t e3 h3
            unfold wp_X8_look_250
            have e28 : (zI m2 29 (nI t)).1 28 = nI (qst0 z b p) := n28
            rw [e28, q_succ, q_all]
            refine h _ ⟨?_, ?_, n30, fun z2 => by omega⟩ (qFr_I (k := 28) (qFr_I (k := 29) F2 (by decide) _) (by decide) _)
            · unfold qen0
              rw [if_neg (by omega), if_neg (by omega)]; rfl
            · rw [e3]; rfl
          have tk' : qtk0 z b p = if b (qst0 z b p) = 59 then 3 else 4 := by rw [tk]; unfold qsort; rw [cl, cd]; rfl
          rw [c59]
          refine ⟨fun c => fin 3 (by rw [tk', if_pos c]) (by decide), fun c => fin 4 (by rw [tk', if_neg c]) (by decide)⟩
  unfold wb_X8_look_0
  rw [T'.2.2.1, m28, q_leN (by omega) (by omega)]
  by_cases c : z ≤ i
  · rw [q_pos c]
    refine go ?_
    rw [← es]; exact (qto_ge c).symm
  · have c' : i < z := by omega
    have hb := T'.2.2.2 i c'
    have c32 : (nI (b i) = (32 : Int32)) = (b i = 32) := propext (nI_eq (b := 32) (by omega) (by decide))
    have st : qst0 z b i = if decide (b i = 32) then qst0 z b (i + 1) else i := qto_lt c'
    rw [q_neg c, q_clamp (by omega), hb.2.2, c32]
    refine ⟨q_in (by omega) (by omega), fun d v hv => ?_, fun d => go ?_⟩
    · rw [hv, q_succ]
      rw [decide_eq_true d, if_pos rfl] at st
      exact hK (q - 1) _ (by omega) ⟨i + 1, by omega, rfl, by rw [← st]; exact es, qFr_I (k := 28) F (by decide) _⟩
    · rw [decide_eq_false d, if_neg (by decide)] at st
      rw [← es]; exact st.symm
/-- the token is a number from lo to hi -/
def qnk (z : Nat) (b : Nat → Nat) (p : Nat) (lo hi : Int) : Bool := decide (qtk0 z b p = 2 ∧ lo ≤ (qval z b p : Int) ∧ (qval z b p : Int) ≤ hi)
theorem qval_le {p : Nat} (h : p ≤ z) (h2 : qtk0 z b p = 2) : qval z b p ≤ 100000 := by
  unfold qval
  split
  · next h4 =>
    have := qnum_lt4 (b := b) (st := qst0 z b p) h4 (fun i hi => (qnum_dg h2 (by omega) (by omega)).2)
    omega
  · omega
theorem a0_number (T : qTz y m z b) {p : Nat} (hp : p ≤ z) (h3 : l.1 3 = nI p) {lo hi : Int32} (hhi : hi.toInt ≤ 1000) {post : Int32 → zS → Prop}
    (h : ∀ l', l'.1 2 = nI (qst0 z b p) → l'.1 3 = nI (qen0 z b p) → l'.1 4 = nI (qtk0 z b p) → post (if qnk z b p lo.toInt hi.toInt then nI (qval z b p) else -1) l') : wp_X0_nextNumber l y lo hi post := by
  have hz := T.1
  have hs := qst0_in (b := b) hp
  have he := qen0_in (b := b) hp
  have ht := qtk0_le (z := z) (b := b) p
  unfold wp_X0_nextNumber
  refine a0_next T hp h3 (fun l' f2 f3 f4 => ?_)
  have h := h l' f2 f3 f4
  have sub : nI (qen0 z b p) - nI (qst0 z b p) = nI (qen0 z b p - qst0 z b p) := pk_sub he.1
  have c4 : (nI (qen0 z b p - qst0 z b p) ≤ (4 : Int32)) = (qen0 z b p - qst0 z b p ≤ 4) := propext (nI_leI (b := 4) (by omega) (by decide))
  rw [f4, f3, f2, sub, c4, nI_k2 (by omega)]
  refine ⟨fun t2 => ⟨fun c => ?_, fun c => ?_⟩, fun t2 => ?_⟩
  · have ev : qval z b p = qnum b (qst0 z b p) (qen0 z b p - qst0 z b p) := by unfold qval; rw [if_pos c]
    rw [q_all]
    refine q_lp3 (B := wb_X0_nextNumber_35 y lo hi post) (fun q l'' x3 x4 => ∃ j, j + q = qen0 z b p - qst0 z b p ∧ l' = l'' ∧ x3 = nI (qnum b (qst0 z b p) j) ∧ x4 = nI (qst0 z b p + j)) ?_ (qen0 z b p - qst0 z b p) _ _ _ ⟨0, by omega, rfl, rfl, rfl⟩
    rintro q _ _ _ ⟨j, hj, rfl, rfl, rfl⟩ K hK
    unfold wb_X0_nextNumber_35
    have lt := qnum_lt4 (b := b) (st := qst0 z b p) (j := j) (by omega) (fun i hi => (qnum_dg t2 (by omega) (by omega)).2)
    rw [f3, q_leN (by omega) (by omega)]
    by_cases e : qen0 z b p ≤ qst0 z b p + j
    · have : j = qen0 z b p - qst0 z b p := by omega
      rw [q_pos e, this, ← ev, q_ltI, q_ltI, nI_toInt (by rw [ev, ← this]; omega)]
      refine ⟨fun g => ?_, fun g => ⟨fun g2 => ?_, fun g2 => ?_⟩⟩
      · have : qnk z b p lo.toInt hi.toInt = false := decide_eq_false (by omega)
        rw [this] at h; exact h
      · have : qnk z b p lo.toInt hi.toInt = false := decide_eq_false (by omega)
        rw [this] at h; exact h
      · have : qnk z b p lo.toInt hi.toInt = true := decide_eq_true (by omega)
        rw [this] at h; exact h
    · have hlt : qst0 z b p + j < z := by omega
      have dg := qnum_dg t2 (i := qst0 z b p + j) (by omega) (by omega)
      have d10 : (10 : Int32) = nI 10 := rfl
      have d48 : (48 : Int32) = nI 48 := rfl
      rw [q_neg e, e3_at T (by omega), if_pos hlt, q_all, q_all, d10, d48, pk_mul, nI_add, pk_sub (by omega), q_succ]
      refine hK (q - 1) _ _ _ (by omega) ⟨j + 1, by omega, rfl, ?_, rfl⟩
      congr 1
      show _ = 10 * qnum b (qst0 z b p) j + (b (qst0 z b p + j) - 48)
      omega
  · have ev : qval z b p = 100000 := by unfold qval; rw [if_neg c]
    have : qnk z b p lo.toInt hi.toInt = false := decide_eq_false (by omega)
    rw [this] at h; exact h
  · have : qnk z b p lo.toInt hi.toInt = false := decide_eq_false (by omega)
    rw [this] at h; exact h
theorem a8_number (T : qTz y m z b) {p : Nat} (hp : p ≤ z) (L : qLk m z b p) {j : Nat} (hj : j < 3) {lo hi : Int32} {post : Int32 → zS → Prop}
    (h1 : qnk z b p lo.toInt hi.toInt = true → ∀ m', qLk m' z b (qen0 z b p) → m'.2.1 33 j = nI (qval z b p) → (∀ i, i ≠ j → m'.2.1 33 i = m.2.1 33 i) → qFr 28 34 m m' → post 1 m')
    (h0 : qnk z b p lo.toInt hi.toInt = false → ∀ m', m'.1 32 = nI (qst0 z b p) → qFr 28 34 m m' → post 0 m') : wp_X8_number m (nI j) lo hi post := by
  have he := qen0_in (b := b) hp
  have ht := qtk0_le (z := z) (b := b) p
  have no : qnk z b p lo.toInt hi.toInt = false → wp_X8_number_23 (nI j) lo hi post m := by
    intro c
    unfold wp_X8_number_23 wp_X8_wrong
    rw [q_all, L.2.2.1]
    exact ⟨rfl, h0 c _ rfl (qFr_I (k := 32) qFr_rf (by decide) _)⟩
  unfold wp_X8_number
  rw [L.2.1, nI_k2 (by omega)]
  refine ⟨fun t2 => ?_, fun t2 => no (decide_eq_false (by omega))⟩
  have hv := qval_le (b := b) hp t2
  rw [L.2.2.2 t2, e8_in, q_64, q_64, q_64, nI_toInt (by omega)]
  refine q_br (fun c => ?_) (fun c => no ?_)
  · have c := of_decide_eq_true c
    rw [q_all]
    refine ⟨q_in hj (by omega), fun j7 hj7 => ?_⟩
    rw [q_clamp (by omega)] at hj7
    subst hj7
    have F : qFr 28 34 m (zA m 33 j7 (nI (qval z b p))) := qFr_A (k := 33) qFr_rf (by decide) _ _
    refine a8_look (qTz_Fr T F (by decide)) he.2.1 (show m.1 28 = _ from L.1) (fun m' L' F' => ?_)
    refine h1 (decide_eq_true ⟨t2, c⟩) m' L' ?_ (fun i hi => ?_) (qFr_tr F (qFr_wk F' (by decide) (by decide)))
    · rw [(F' 33 (by decide)).2.1, z_A, if_pos ⟨rfl, rfl⟩]
    · rw [(F' 33 (by decide)).2.1, z_A, if_neg (by omega)]
  · have c := of_decide_eq_false c
    exact decide_eq_false (fun g => c g.2)
/-- the token is a word -/
def qwo (z : Nat) (b : Nat → Nat) (p j : Nat) : Bool := decide (qtk0 z b p = 1 ∧ qen0 z b p - qst0 z b p = zLen.getD j 0 ∧ ∀ i, i < zLen.getD j 0 → nI (b (qst0 z b p + i)) = zCh j i)
theorem qlen6 : ∀ j, zLen.getD j 0 < 7 := by
  intro j
  by_cases h : j < 5
  · have : j = 0 ∨ j = 1 ∨ j = 2 ∨ j = 3 ∨ j = 4 := by omega
    rcases this with e | e | e | e | e <;> subst e <;> decide
  · have : zLen.getD j 0 = 0 := by
      rw [List.getD_eq_getElem?_getD, List.getElem?_eq_none (by show 5 ≤ j; omega)]; rfl
    omega
theorem a0_word (T : qTz y m z b) {p : Nat} (hp : p ≤ z) (f2 : l.1 2 = nI (qst0 z b p)) (f3 : l.1 3 = nI (qen0 z b p)) (f4 : l.1 4 = nI (qtk0 z b p)) {j : Nat} {post : Int32 → Prop} (h : post (qz (qwo z b p j))) : wp_X0_isWord l y j post := by
  have hz := T.1
  have hs := qst0_in (b := b) hp
  have he := qen0_in (b := b) hp
  have ht := qtk0_le (z := z) (b := b) p
  have h6 := qlen6 j
  have sub : nI (qen0 z b p) - nI (qst0 z b p) = nI (qen0 z b p - qst0 z b p) := pk_sub he.1
  have no : qwo z b p j = false → post 0 := fun c => by rw [c] at h; exact h
  unfold wp_X0_isWord
  rw [f2, f3, f4, sub, nI_k1 (by omega), nI_eq (by omega) (by omega)]
  refine ⟨fun t1 => ⟨fun e => ?_, fun e => no (decide_eq_false (fun g => e g.2.1))⟩, fun t1 => no (decide_eq_false (fun g => t1 g.1))⟩
  refine q_lp1 (B := wb_X0_isWord_28 l y j post) (fun q x2 => ∃ i, i + q = zLen.getD j 0 ∧ x2 = nI i ∧ ∀ i', i' < i → nI (b (qst0 z b p + i')) = zCh j i') ?_ (zLen.getD j 0) _ ⟨0, by omega, rfl, fun i' hi' => absurd hi' (by omega)⟩
  rintro q _ ⟨i, hi, rfl, all⟩ K hK
  unfold wb_X0_isWord_28
  rw [q_leN (by omega) (by omega)]
  by_cases c : zLen.getD j 0 ≤ i
  · have : i = zLen.getD j 0 := by omega
    rw [q_pos c]
    have : qwo z b p j = true := decide_eq_true ⟨t1, e, by rw [← this]; exact all⟩
    rw [this] at h; exact h
  · rw [q_neg c, f2, nI_add, e3_at T (by omega), if_pos (by omega), q_clamp (by omega)]
    refine ⟨q_in (by omega) (by omega), fun d v hv => ?_, fun d => no (decide_eq_false (fun g => d (g.2.2 i (by omega))))⟩
    rw [hv, q_succ]
    refine hK (q - 1) _ (by omega) ⟨i + 1, by omega, rfl, fun i' hi' => ?_⟩
    by_cases w : i' = i
    · rw [w]; exact d
    · exact all i' (by omega)
theorem a8_word (T : qTz y m z b) {p : Nat} (hp : p ≤ z) (L : qLk m z b p) {j : Nat} {post : Int32 → Prop} (h : post (qz (qwo z b p j))) : wp_X8_isWord m j post := by
  have hz := T.1
  have hs := qst0_in (b := b) hp
  have he := qen0_in (b := b) hp
  have ht := qtk0_le (z := z) (b := b) p
  have h6 := qlen6 j
  have sub : nI (qen0 z b p) - nI (qst0 z b p) = nI (qen0 z b p - qst0 z b p) := pk_sub he.1
  have no : qwo z b p j = false → post 0 := fun c => by rw [c] at h; exact h
  unfold wp_X8_isWord
  rw [L.1, L.2.1, L.2.2.1, sub, nI_k1 (by omega), nI_eq (by omega) (by omega)]
  refine ⟨fun t1 => ⟨fun e => ?_, fun e => no (decide_eq_false (fun g => e g.2.1))⟩, fun t1 => no (decide_eq_false (fun g => t1 g.1))⟩
  refine q_lp1 (B := wb_X8_isWord_28 m j post) (fun q x2 => ∃ i, i + q = zLen.getD j 0 ∧ x2 = nI i ∧ ∀ i', i' < i → nI (b (qst0 z b p + i')) = zCh j i') ?_ (zLen.getD j 0) _ ⟨0, by omega, rfl, fun i' hi' => absurd hi' (by omega)⟩
  rintro q _ ⟨i, hi, rfl, all⟩ K hK
  unfold wb_X8_isWord_28
  rw [q_leN (by omega) (by omega)]
  by_cases c : zLen.getD j 0 ≤ i
  · have : i = zLen.getD j 0 := by omega
    rw [q_pos c]
    have : qwo z b p j = true := decide_eq_true ⟨t1, e, by rw [← this]; exact all⟩
    rw [this] at h; exact h
  · have hb := T.2.2.2 (qst0 z b p + i) (by omega)
    rw [q_neg c, L.2.2.1, nI_add, q_clamp (n := qst0 z b p + i) (by omega), hb.2.2, q_clamp (by omega)]
    refine ⟨q_in (by omega) (by omega), q_in (by omega) (by omega), fun d v hv => ?_, fun d => no (decide_eq_false (fun g => d (g.2.2 i (by omega))))⟩
    rw [hv, q_succ]
    refine hK (q - 1) _ (by omega) ⟨i + 1, by omega, rfl, fun i' hi' => ?_⟩
    by_cases w : i' = i
    · rw [w]; exact d
    · exact all i' (by omega)
end QTOK2
