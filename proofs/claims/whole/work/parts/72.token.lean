/-! the tokens of a lesson -/
section QTOK
variable {l y m : zS} {z : Nat} {b : Nat → Nat}
def qrun (c : Nat → Bool) : Nat → Nat → Nat
  | 0, i => i
  | d + 1, i => if c i then qrun c d (i + 1) else i
/-- the first place from i on that is not c, or the end -/
def qto (z : Nat) (c : Nat → Bool) (i : Nat) : Nat := qrun c (z - i) i
theorem qto_ge {c : Nat → Bool} {i : Nat} (h : z ≤ i) : qto z c i = i := by
  unfold qto
  rw [show z - i = 0 by omega]; rfl
theorem qto_lt {c : Nat → Bool} {i : Nat} (h : i < z) : qto z c i = if c i then qto z c (i + 1) else i := by
  unfold qto
  rw [show z - i = (z - (i + 1)) + 1 by omega]; rfl
theorem qto_in {c : Nat → Bool} : ∀ d i, z - i = d → i ≤ z → i ≤ qto z c i ∧ qto z c i ≤ z := by
  intro d
  induction d with
  | zero => intro i hd hi; rw [qto_ge (by omega)]; omega
  | succ d ih =>
    intro i hd hi
    rw [qto_lt (by omega)]
    split
    · have := ih (i + 1) (by omega) (by omega)
      omega
    · omega
theorem qto_all {c : Nat → Bool} : ∀ d i, z - i = d → ∀ j, i ≤ j → j < qto z c i → c j = true := by
  intro d
  induction d with
  | zero => intro i hd j h1 h2; rw [qto_ge (by omega)] at h2; omega
  | succ d ih =>
    intro i hd j h1 h2
    rw [qto_lt (by omega)] at h2
    split at h2
    · next hc =>
      by_cases e : j = i
      · rw [e]; exact hc
      · exact ih (i + 1) (by omega) j (by omega) h2
    · omega
def qltr (v : Nat) : Bool := decide (97 ≤ v ∧ v ≤ 122)
def qdg (v : Nat) : Bool := decide (48 ≤ v ∧ v ≤ 57)
def qsort (v : Nat) : Nat := if qltr v then 1 else if qdg v then 2 else if v = 59 then 3 else 4
theorem qsort_1 (v : Nat) : decide (qsort v = 1) = qltr v := by
  unfold qsort
  cases h : qltr v
  · rw [if_neg (by decide)]
    cases qdg v
    · by_cases e : v = 59 <;> simp [e]
    · simp
  · simp
theorem qsort_2 (v : Nat) : decide (qsort v = 2) = qdg v := by
  unfold qsort
  cases h : qltr v
  · cases qdg v
    · by_cases e : v = 59 <;> simp [e]
    · simp
  · have h := of_decide_eq_true h
    have : qdg v = false := decide_eq_false (by omega)
    rw [this]; simp
theorem qsort_le (v : Nat) : 1 ≤ qsort v ∧ qsort v ≤ 4 := by
  unfold qsort
  cases qltr v
  · cases qdg v
    · by_cases e : v = 59 <;> simp [e]
    · simp
  · simp
/-- a token from a place on: where it starts, its sort, where it ends -/
def qst0 (z : Nat) (b : Nat → Nat) (p : Nat) : Nat := qto z (fun i => decide (b i = 32)) p
def qtk0 (z : Nat) (b : Nat → Nat) (p : Nat) : Nat := if qst0 z b p < z then qsort (b (qst0 z b p)) else 0
def qen0 (z : Nat) (b : Nat → Nat) (p : Nat) : Nat := if qtk0 z b p = 1 ∨ qtk0 z b p = 2 then qto z (fun i => decide (qsort (b i) = qtk0 z b p)) (qst0 z b p) else if qtk0 z b p = 0 then qst0 z b p else qst0 z b p + 1
/-- the number of some digits -/
def qnum (b : Nat → Nat) (st : Nat) : Nat → Nat
  | 0 => 0
  | j + 1 => 10 * qnum b st j + (b (st + j) - 48)
def qval (z : Nat) (b : Nat → Nat) (p : Nat) : Nat := if qen0 z b p - qst0 z b p ≤ 4 then qnum b (qst0 z b p) (qen0 z b p - qst0 z b p) else 100000
theorem qst0_in {p : Nat} (h : p ≤ z) : p ≤ qst0 z b p ∧ qst0 z b p ≤ z := qto_in _ _ rfl h
theorem qtk0_le (p : Nat) : qtk0 z b p ≤ 4 := by
  unfold qtk0
  split
  · exact (qsort_le _).2
  · omega
theorem qtk0_0 {p : Nat} (h : p ≤ z) : qtk0 z b p = 0 ↔ qst0 z b p = z := by
  have := (qst0_in (b := b) h).2
  unfold qtk0
  split
  · have := (qsort_le (b (qst0 z b p))).1
    omega
  · omega
theorem qen0_in {p : Nat} (h : p ≤ z) : qst0 z b p ≤ qen0 z b p ∧ qen0 z b p ≤ z ∧ (qtk0 z b p ≠ 0 → qst0 z b p < qen0 z b p) := by
  have hs := qst0_in (b := b) h
  by_cases e0 : qtk0 z b p = 0
  · have : qen0 z b p = qst0 z b p := by
      unfold qen0
      rw [e0]; rfl
    rw [this]
    exact ⟨Nat.le_refl _, hs.2, fun c => absurd e0 c⟩
  · have hlt : qst0 z b p < z := by
      have : qst0 z b p ≠ z := fun c => e0 ((qtk0_0 (b := b) h).mpr c)
      omega
    unfold qen0
    split
    · rw [qto_lt hlt]
      have hc : decide (qsort (b (qst0 z b p)) = qtk0 z b p) = true := by
        refine decide_eq_true ?_
        unfold qtk0
        rw [if_pos hlt]
      rw [if_pos hc]
      have := qto_in (z := z) (c := fun i => decide (qsort (b i) = qtk0 z b p)) _ (qst0 z b p + 1) rfl hlt
      omega
    · omega
theorem qnum_dg {p : Nat} (h : qtk0 z b p = 2) {i : Nat} (h1 : qst0 z b p ≤ i) (h2 : i < qen0 z b p) : 48 ≤ b i ∧ b i ≤ 57 := by
  unfold qen0 at h2
  rw [if_pos (Or.inr h)] at h2
  have := qto_all _ _ rfl i h1 h2
  rw [h, qsort_2] at this
  exact of_decide_eq_true this
theorem qnum_lt {st : Nat} : ∀ j, (∀ i, i < j → b (st + i) ≤ 57) → qnum b st j < 10 ^ j := by
  intro j
  induction j with
  | zero => intro _; show 0 < 1; decide
  | succ j ih =>
    intro h
    have h1 := ih (fun i hi => h i (by omega))
    have h2 := h j (by omega)
    show 10 * qnum b st j + (b (st + j) - 48) < 10 ^ (j + 1)
    rw [Nat.pow_succ]; omega
theorem qnum_lt4 {st : Nat} {j : Nat} (hj : j ≤ 4) (h : ∀ i, i < j → b (st + i) ≤ 57) : qnum b st j < 10000 :=
  Nat.lt_of_lt_of_le (qnum_lt j h) (Nat.pow_le_pow_right (n := 10) (by decide) hj)
/-- the tape on both sides -/
def qTz (y m : zS) (z : Nat) (b : Nat → Nat) : Prop := z ≤ 250 ∧ y.1 0 = nI z ∧ m.1 7 = nI z ∧ ∀ i, i < z → b i < 256 ∧ y.2.1 1 i = nI (b i) ∧ m.2.1 6 i = nI (b i)
theorem qTp_z (T : qTp y m) : ∃ z b, qTz y m z b := by
  obtain ⟨n, h1, h2, h3, h4⟩ := T
  refine ⟨n, fun i => (y.2.1 1 i).toNatClampNeg, h1, h2, h3, fun i hi => ?_⟩
  obtain ⟨v, v1, v2, v3⟩ := h4 i hi
  have : (y.2.1 1 i).toNatClampNeg = v := by rw [v2, q_clamp (by omega)]
  dsimp only
  rw [this]
  exact ⟨v1, v2, v3⟩
theorem qTz_fr {m' : zS} (T : qTz y m z b) (h1 : m'.1 7 = m.1 7) (h2 : m'.2.1 6 = m.2.1 6) : qTz y m' z b := ⟨T.1, T.2.1, by rw [h1]; exact T.2.2.1, fun i hi => by rw [h2]; exact T.2.2.2 i hi⟩
theorem q_ne1 : ∀ v, v < 256 → ¬ nI v = (-1 : Int32) := by decide +kernel
theorem qI_ltr {v : Nat} (h : v < 256) : qI 97 122 (nI v) = qltr v := by
  unfold qI qltr
  rw [nI_toInt (by omega)]
  exact decide_eq_decide.mpr (by omega)
theorem qI_dg {v : Nat} (h : v < 256) : qI 48 57 (nI v) = qdg v := by
  unfold qI qdg
  rw [nI_toInt (by omega)]
  exact decide_eq_decide.mpr (by omega)
theorem e8_letter {v : Nat} (h : v < 256) {post : Int32 → Prop} : wp_X8_isLetter (nI v) post = post (qz (qltr v)) := by
  rw [← qI_ltr h]; exact e_rng rfl rfl
theorem e8_digit {v : Nat} (h : v < 256) {post : Int32 → Prop} : wp_X8_isDigit (nI v) post = post (qz (qdg v)) := by
  rw [← qI_dg h]; exact e_rng rfl rfl
theorem e0_sort {v : Nat} (h : v < 256) {post : Int32 → Prop} : wp_X0_sortOf (nI v) post = post (nI (qsort v)) := by
  have c97 : (nI v < (97 : Int32)) = (v < 97) := propext (nI_ltI (b := 97) (by omega) (by decide))
  have c122 : ((122 : Int32) < nI v) = (122 < v) := propext (nI_ltI (a := 122) (by decide) (by omega))
  have c48 : (nI v < (48 : Int32)) = (v < 48) := propext (nI_ltI (b := 48) (by omega) (by decide))
  have c57 : ((57 : Int32) < nI v) = (57 < v) := propext (nI_ltI (a := 57) (by decide) (by omega))
  have c59 : (nI v = (59 : Int32)) = (v = 59) := propext (nI_eq (b := 59) (by omega) (by decide))
  have s35 : (if v = 59 then 3 else 4) = qsort v → wp_X0_sortOf_35 (nI v) post = post (nI (qsort v)) := by
    intro e
    unfold wp_X0_sortOf_35
    rw [c59, ← e]
    by_cases d : v = 59
    · rw [q_pos d, if_pos d]; rfl
    · rw [q_neg d, if_neg d]; rfl
  have s21 : ¬ (97 ≤ v ∧ v ≤ 122) → wp_X0_sortOf_21 (nI v) post = post (nI (qsort v)) := by
    intro g
    have e1 : qltr v = false := decide_eq_false g
    unfold wp_X0_sortOf_21
    rw [c48, c57]
    by_cases d1 : v < 48
    · have e2 : qdg v = false := decide_eq_false (by omega)
      rw [q_pos d1]
      exact s35 (by unfold qsort; rw [e1, e2]; rfl)
    · rw [q_neg d1]
      by_cases d2 : 57 < v
      · have e2 : qdg v = false := decide_eq_false (by omega)
        rw [q_pos d2]
        exact s35 (by unfold qsort; rw [e1, e2]; rfl)
      · have e2 : qdg v = true := decide_eq_true (by omega)
        rw [q_neg d2]
        have : qsort v = 2 := by unfold qsort; rw [e1, e2]; rfl
        rw [this]; rfl
  unfold wp_X0_sortOf
  rw [q_neg (q_ne1 v h), c97, c122]
  by_cases d1 : v < 97
  · rw [q_pos d1]; exact s21 (by omega)
  · rw [q_neg d1]
    by_cases d2 : 122 < v
    · rw [q_pos d2]; exact s21 (by omega)
    · rw [q_neg d2]
      have e1 : qltr v = true := decide_eq_true (by omega)
      have : qsort v = 1 := by unfold qsort; rw [e1]; rfl
      rw [this]; rfl
theorem e3_at (T : qTz y m z b) {i : Nat} (hi : i < 2 ^ 31) {post : Int32 → Prop} : wp_X3_byteAt y (nI i) post = post (if i < z then nI (b i) else -1) := by
  have hz := T.1
  have c1 : ¬ nI i < 0 := by rw [q_ltI, q_zero, nI_toInt hi]; omega
  unfold wp_X3_byteAt
  rw [q_neg c1, T.2.1, q_leN (by omega) hi]
  by_cases c : i < z
  · rw [q_neg (show ¬ z ≤ i by omega), q_neg (fun g => by have := (nI_leI (a := 250) (by decide) hi).mp g; omega), q_clamp hi, if_pos c, (T.2.2.2 i c).2.1]
    exact q_and_t (q_in (by omega) (by omega))
  · rw [q_pos (show z ≤ i by omega), if_neg c]
/-- the class at a token -/
theorem a0_next (T : qTz y m z b) {p : Nat} (hp : p ≤ z) (h3 : l.1 3 = nI p) {post : zS → Prop}
    (h : ∀ l', l'.1 2 = nI (qst0 z b p) → l'.1 3 = nI (qen0 z b p) → l'.1 4 = nI (qtk0 z b p) → post l') : wp_X0_next l y post := by
  have hz := T.1
  have hs := qst0_in (b := b) hp
  have he := qen0_in (b := b) hp
  have ht := qtk0_le (z := z) (b := b) p
  unfold wp_X0_next
  rw [h3, q_all]
  refine q_lp1 (B := wb_X0_next_8 y post) (fun q l' => ∃ i, i + q = z ∧ l'.1 2 = nI i ∧ qst0 z b i = qst0 z b p) ?_ (z - p) _ ⟨p, by omega, rfl, rfl⟩
  rintro q l' ⟨i, hi, l2, es⟩ K hK
  -- behind the spaces
  have go : i = qst0 z b p → wp_X0_next_51 y post l' := by
    intro e
    subst e
    unfold wp_X0_next_51
    rw [l2, q_all]
    have e2 : (zI l' 3 (nI (qst0 z b p))).1 2 = nI (qst0 z b p) := l2
    rw [e2, e3_at T (by omega)]
    -- the sort of the token
    have sorted : ∀ P : Int32 → Prop, P (nI (qtk0 z b p)) → wp_X0_sortOf (if qst0 z b p < z then nI (b (qst0 z b p)) else -1) P := by
      intro P hP
      unfold qtk0 at hP
      by_cases c : qst0 z b p < z
      · rw [if_pos c] at hP ⊢
        rw [e0_sort (T.2.2.2 _ c).1]; exact hP
      · rw [if_neg c] at hP ⊢
        unfold wp_X0_sortOf
        rw [q_pos rfl]; exact hP
    refine sorted _ ?_
    rw [q_all]
    have e4 : (zI (zI l' 3 (nI (qst0 z b p))) 4 (nI (qtk0 z b p))).1 4 = nI (qtk0 z b p) := rfl
    have e3 : (zI (zI l' 3 (nI (qst0 z b p))) 4 (nI (qtk0 z b p))).1 3 = nI (qst0 z b p) := rfl
    rw [e4, nI_k1 (by omega), nI_k2 (by omega), q_nz (by omega)]
    have loop : (qtk0 z b p = 1 ∨ qtk0 z b p = 2) → ∃ n, wp_X0_next_93 y post n (zI (zI l' 3 (nI (qst0 z b p))) 4 (nI (qtk0 z b p))) := by
      intro c
      have ee : qen0 z b p = qto z (fun i => decide (qsort (b i) = qtk0 z b p)) (qst0 z b p) := by unfold qen0; rw [if_pos c]
      refine q_lp1 (B := wb_X0_next_93 y post) (fun q l'' => ∃ j, j + q = z ∧ l''.1 3 = nI j ∧ l''.1 2 = nI (qst0 z b p) ∧ l''.1 4 = nI (qtk0 z b p) ∧ qto z (fun i => decide (qsort (b i) = qtk0 z b p)) j = qen0 z b p) ?_ (z - qst0 z b p) _ ⟨qst0 z b p, by omega, rfl, e2, rfl, ee.symm⟩
      rintro q2 l'' ⟨j, hj, f3, f2, f4, ej⟩ K2 hK2
      unfold wb_X0_next_93
      rw [T.2.1, f3, f4, q_leN (by omega) (by omega)]
      by_cases cj : z ≤ j
      · rw [q_pos cj]
        rw [qto_ge cj] at ej
        exact h _ f2 (by rw [f3, ej]) f4
      · have cj' : j < z := by omega
        have hb := (T.2.2.2 j cj').1
        have hs4 := (qsort_le (b j)).2
        rw [q_neg cj, e3_at T (by omega), if_pos cj', e0_sort hb, nI_eq (by omega) (by omega)]
        rw [qto_lt cj'] at ej
        refine ⟨fun d v hv => ?_, fun d => ?_⟩
        · rw [hv, q_succ]
          rw [if_pos (decide_eq_true d)] at ej
          exact hK2 (q2 - 1) _ (by omega) ⟨j + 1, by omega, rfl, f2, f4, ej⟩
        · rw [if_neg (fun c => d (of_decide_eq_true c))] at ej
          exact h _ f2 (by rw [f3, ej]) f4
    refine ⟨fun c => loop (Or.inl c), fun c1 => ⟨fun c => loop (Or.inr c), fun c2 => ⟨fun c => ?_, fun c => ?_⟩⟩⟩
    · refine h _ e2 ?_ e4
      rw [e3]
      unfold qen0
      rw [if_neg (by omega), if_pos c]
    · refine h _ e2 ?_ e4
      show nI (qst0 z b p) + (1 : Int32) = _
      unfold qen0
      rw [if_neg (by omega), if_neg c, q_succ]
  unfold wb_X0_next_8
  rw [T.2.1, l2, q_leN (by omega) (by omega)]
  by_cases c : z ≤ i
  · rw [q_pos c]
    refine go ?_
    rw [← es]; exact (qto_ge c).symm
  · have c' : i < z := by omega
    have hb := (T.2.2.2 i c').1
    have c32 : (nI (b i) = (32 : Int32)) = (b i = 32) := propext (nI_eq (b := 32) (by omega) (by decide))
    have st : qst0 z b i = if decide (b i = 32) then qst0 z b (i + 1) else i := qto_lt c'
    rw [q_neg c, e3_at T (by omega), if_pos c', c32]
    refine ⟨fun d v hv => ?_, fun d => go ?_⟩
    · rw [hv, q_succ]
      rw [decide_eq_true d, if_pos rfl] at st
      exact hK (q - 1) _ (by omega) ⟨i + 1, by omega, rfl, by rw [← st]; exact es⟩
    · rw [decide_eq_false d, if_neg (by decide)] at st
      rw [← es]; exact st.symm
end QTOK
