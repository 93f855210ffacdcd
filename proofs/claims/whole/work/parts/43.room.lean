/-! calls that change the room: pupil, move, swap, bar, master -/
theorem qRm_ex {r : zS} {ρ : (Nat → Nat) × (Nat → Nat → Nat)} (R : qRm r ρ) : qR0 r ρ := R.1
theorem q_Tr {A C : Prop} : ((True → A) ∧ (¬ True → C)) = A := q_pos trivial
theorem q_Fa {A C : Prop} : ((False → A) ∧ (¬ False → C)) = C := q_neg id
/-- one pupil more -/
def qSt (ρ : (Nat → Nat) × (Nat → Nat → Nat)) (k d a : Nat) : (Nat → Nat) × (Nat → Nat → Nat) :=
  (fun j => if j = 1 then ρ.1 1 + 1 else ρ.1 j, fun j i => if i = ρ.1 1 then (if j = 5 then k else if j = 6 then d else if j = 7 then a else 0) else ρ.2 j i)
theorem qSt_W {ρ : (Nat → Nat) × (Nat → Nat → Nat)} (W : qW ρ) {k d a : Nat} (hk : k < 6) (hd : d < 4 * ρ.1 0) (ha : a < 10) (hn : ρ.1 1 < 12) (hfree : ∀ q, q < ρ.1 1 → ρ.2 6 q ≠ d) : qW (qSt ρ k d a) := by
  obtain ⟨w1, w2, w3, w4⟩ := W
  have e0 : (qSt ρ k d a).1 0 = ρ.1 0 := rfl
  have e1 : (qSt ρ k d a).1 1 = ρ.1 1 + 1 := rfl
  have e2 : ∀ j i, (qSt ρ k d a).2 j i = if i = ρ.1 1 then (if j = 5 then k else if j = 6 then d else if j = 7 then a else 0) else ρ.2 j i := fun _ _ => rfl
  refine ⟨⟨w1.1, w1.2.1, by rw [e1]; omega, w1.2.2.2⟩, fun p hp => ?_, fun p q hp hq e => ?_, fun p q hp hb => ?_⟩
  · rw [e1] at hp
    simp only [e2, e0]
    by_cases c : p = ρ.1 1
    · simp only [if_pos c]
      refine ⟨hk, hd, ha, ?_⟩
      show (0 : Nat) < 2 ^ 12
      decide
    · simp only [if_neg c]; exact w2 p (by omega)
  · rw [e1] at hp hq
    simp only [e2] at e
    by_cases c : p = ρ.1 1 <;> by_cases c' : q = ρ.1 1
    · omega
    · rw [if_pos c, if_neg c'] at e; exact absurd e.symm (hfree q (by omega))
    · rw [if_neg c, if_pos c'] at e; exact absurd e (hfree p (by omega))
    · rw [if_neg c, if_neg c'] at e; exact w3 p q (by omega) (by omega) e
  · rw [e1] at hp ⊢
    simp only [e2] at hb ⊢
    by_cases c : p = ρ.1 1
    · rw [if_pos c] at hb; simp at hb
    · rw [if_neg c] at hb
      obtain ⟨b1, b2, b3⟩ := w4 p q (by omega) hb
      refine ⟨by omega, b2, ?_⟩
      rw [if_neg (by omega)]; exact b3
theorem a1_seat {r : zS} {ρ : (Nat → Nat) × (Nat → Nat → Nat)} (R : qRm r ρ) {k d a : Nat} (hn : ρ.1 1 < 12) (W' : qW (qSt ρ k d a)) {post : Int32 → zS → Prop}
    (h : ∀ r', qRm r' (qSt ρ k d a) → post (nI (ρ.1 1)) r') : wp_X1_seat r (nI k) (nI d) (nI a) post := by
  unfold wp_X1_seat
  rw [R.1.1 1 (by decide)]
  have c1 : ¬ nI (ρ.1 1) < 0 := by rw [q_ltI, nI_toInt (by omega), q_zero]; omega
  have c2 : nI (ρ.1 1) < (12 : Int32) := (nI_ltI (b := 12) (by omega) (by decide)).mpr hn
  rw [q_neg c1, q_pos c2]
  have hv : vp_in (nI (ρ.1 1)) 12 := q_in hn (by omega)
  simp only [forall_eq, hv, true_and, q_clamp (n := ρ.1 1) (by omega), q_succ]
  refine q1_link (ρ := qSt ρ k d a) ⟨fun j hj => ?_, fun j hj p hp => ?_, ?_⟩ (qW_L W') (fun r' R' => h r' R')
  · show (if j = 1 then nI (ρ.1 1 + 1) else r.1 j) = nI (if j = 1 then ρ.1 1 + 1 else ρ.1 j)
    split
    · rfl
    · exact R.1.1 j hj
  · have hp : p < ρ.1 1 + 1 := hp
    have e2 : (qSt ρ k d a).2 j p = if p = ρ.1 1 then (if j = 5 then k else if j = 6 then d else if j = 7 then a else 0) else ρ.2 j p := rfl
    rw [e2, z_A, z_A, z_A, z_A]
    by_cases c : p = ρ.1 1
    · have : j = 5 ∨ j = 6 ∨ j = 7 ∨ j = 8 := by omega
      rcases this with e | e | e | e <;> subst e <;> simp [c, nI]
    · rw [if_neg (by omega), if_neg (by omega), if_neg (by omega), if_neg (by omega), if_neg c]
      exact R.1.2.1 j hj p (by omega)
  · exact hn
theorem a8_add {m : zS} {ρ : (Nat → Nat) × (Nat → Nat → Nat)} (M : qMR m ρ) {k d a : Nat} (hn : ρ.1 1 < 12) {post : zS → Prop}
    (h : ∀ m', qMR m' (qSt ρ k d a) → qFr 9 18 m m' → post m') : wp_X8_addPupil m (nI k) (nI d) (nI a) post := by
  unfold wp_X8_addPupil
  have e : ∀ j i y, (zA m j i y).1 10 = m.1 10 := fun _ _ _ => rfl
  simp only [z_Ai, M.1.2.1, forall_eq, q_clamp (n := ρ.1 1) (by omega), q_succ]
  have hv : vp_in (nI (ρ.1 1)) 12 := q_in hn (by omega)
  refine ⟨hv, hv, hv, hv, h _ ⟨⟨M.1.1, rfl, M.1.2.2.1, M.1.2.2.2.1, M.1.2.2.2.2⟩, fun p hp => ?_, hn⟩ (qFr_I (qFr_A (qFr_A (qFr_A (qFr_A qFr_rf (by decide) _ _) (by decide) _ _) (by decide) _ _) (by decide) _ _) (by decide) _)⟩
  have hp : p < ρ.1 1 + 1 := hp
  have e2 : ∀ j, (qSt ρ k d a).2 j p = if p = ρ.1 1 then (if j = 5 then k else if j = 6 then d else if j = 7 then a else 0) else ρ.2 j p := fun _ => rfl
  simp only [e2, z_Ia, z_A]
  by_cases c : p = ρ.1 1
  · simp [c, nI]
  · have := M.2.1 p (by omega)
    simpa [c] using this
theorem s_pupil {x r m : zS} {ρ : (Nat → Nat) × (Nat → Nat → Nat)} (R : qRm r ρ) (M : qMR m ρ) (W : qW ρ) (k d a : Int32) {post : Int32 → zS → zS → Int32 → zS → Prop}
    (h : ∀ v r' m' ρ', qRm r' ρ' → qMR m' ρ' → qW ρ' → ρ.1 1 ≤ ρ'.1 1 → qFr 9 18 m m' → post v x r' v m')
    (hr : ∀ v k, k < 5 → post v (zA x 12 k (x.2.1 12 k + 1)) r v (zA m 8 (k + 2) (m.2.1 8 (k + 2) + 1))) :
    wp_X7_pupil x r k d a (fun v x' r' => wp_X8_pupil m k d a (fun v' m' => post v x' r' v' m')) := by
  have hc := R.1.2.2
  simp only [wp_X7_pupil, wp_X7_pupil_25, wp_X8_pupil, wp_X8_pupil_32, e7_isKind, e7_isMark, e1_hasDesk R.1 W.1.2.1, e8_isDesk M W.1.2.1, e8_inI (lo := 0) (hi := 5) (a := 0) (b := 5) rfl rfl, e8_inI (lo := 0) (hi := 9) (a := 0) (b := 9) rfl rfl, e7_r2, e8_r2, e7_r5, e8_r5, e7_r6, e8_r6, M.1.2.1]
  cases h1 : qI 0 5 k
  · simp only [q_f]; exact hr _ 0 (by decide)
  cases h2 : qD ρ d
  · simp only [q_f, q_t]; exact hr _ 0 (by decide)
  cases h3 : qI 0 9 a
  · simp only [q_f, q_t]; exact hr _ 0 (by decide)
  simp only [q_t]
  obtain ⟨k, hk, rfl⟩ := qI_n (by decide) h1
  obtain ⟨a, ha, rfl⟩ := qI_n (by decide) h3
  obtain ⟨d, hd, rfl⟩ := qD_t h2
  have h4 := W.1.2.1
  have dk : ∀ q, q < ρ.1 1 → ρ.2 6 q < 16 := fun q hq => by have := (W.2.1 q hq).2.1; omega
  refine q1_holderOf R.1 (fun q hq e => ?_) (fun hno => ?_)
  · have n1 : ∀ q, q < 12 → ¬ nI q = (-1 : Int32) := by decide +kernel
    rw [q_neg (n1 q (by omega))]
    refine q8_sitting M (fun q' hq' e' => ?_) (fun hno => absurd e (hno q hq))
    rw [q_neg (n1 q' (by omega))]
    exact hr _ 3 (by decide)
  · rw [q_pos rfl]
    have hs : ∀ {P : Int32 → Prop}, P (-1) → wp_X8_sitting m (nI d) P := fun hP => q8_sitting M (fun q' hq' e' => absurd e' (hno q' hq')) (fun _ => hP)
    unfold wp_X1_isFull
    rw [R.1.1 1 (by decide)]
    by_cases c : nI (ρ.1 1) < (12 : Int32)
    · have c' := (nI_ltI (b := 12) (by omega) (by decide)).mp c
      simp only [q_pos c, q_0, q_Tr]
      have W' := qSt_W (k := k) (d := d) (a := a) W (by omega) hd (by omega) c' (fun q hq e => hno q hq (by rw [e]))
      refine a1_seat R c' W' ?_
      intro r' R'
      refine hs ?_
      rw [q_pos rfl, q_neg (fun e => by rw [e] at c; exact absurd c (by decide))]
      refine a8_add M c' (fun m' M' F => ?_)
      have e : m'.1 10 - (1 : Int32) = nI (ρ.1 1) := by
        rw [M'.1.2.1]
        have : ∀ n, n < 12 → nI (n + 1) - (1 : Int32) = nI n := by decide +kernel
        exact this _ c'
      rw [e]
      exact h _ _ _ _ R' M' W' (Nat.le_succ _) F
    · have c' : ρ.1 1 = 12 := by
        have : ¬ ρ.1 1 < 12 := fun z => c ((nI_ltI (b := 12) (by omega) (by decide)).mpr z)
        omega
      simp only [q_neg c, q_1, q_Fa]
      refine hs ?_
      rw [q_pos rfl, q_pos (by rw [c']; rfl)]
      exact hr _ 4 (by decide)
/-- a room with a pupil's number changed -/
def qSa (ρ : (Nat → Nat) × (Nat → Nat → Nat)) (k p v : Nat) : (Nat → Nat) × (Nat → Nat → Nat) := (ρ.1, fun j i => if j = k ∧ i = p then v else ρ.2 j i)
theorem qR0_A {r : zS} {ρ : (Nat → Nat) × (Nat → Nat → Nat)} (R : qR0 r ρ) (k p v : Nat) : qR0 (zA r k p (nI v)) (qSa ρ k p v) := by
  refine ⟨R.1, fun j hj i hi => ?_, R.2.2⟩
  rw [z_A]
  show _ = nI (if j = k ∧ i = p then v else ρ.2 j i)
  split
  · rfl
  · exact R.2.1 j hj i hi
theorem qMR_A {m : zS} {ρ : (Nat → Nat) × (Nat → Nat → Nat)} (M : qMR m ρ) {k : Nat} (hk : 5 ≤ k ∧ k ≤ 8) (p v : Nat) : qMR (zA m (k + 6) p (nI v)) (qSa ρ k p v) := by
  refine ⟨M.1, fun i hi => ?_, M.2.2⟩
  have hm := M.2.1 i hi
  have e2 : ∀ j, (qSa ρ k p v).2 j i = if j = k ∧ i = p then v else ρ.2 j i := fun _ => rfl
  simp only [e2, z_A]
  refine ⟨?_, ?_, ?_, ?_⟩
  · by_cases c : 5 = k ∧ i = p
    · rw [if_pos c, if_pos (by omega)]
    · rw [if_neg c, if_neg (by omega)]; exact hm.1
  · by_cases c : 6 = k ∧ i = p
    · rw [if_pos c, if_pos (by omega)]
    · rw [if_neg c, if_neg (by omega)]; exact hm.2.1
  · by_cases c : 7 = k ∧ i = p
    · rw [if_pos c, if_pos (by omega)]
    · rw [if_neg c, if_neg (by omega)]; exact hm.2.2.1
  · by_cases c : 8 = k ∧ i = p
    · rw [if_pos c, if_pos (by omega)]
    · rw [if_neg c, if_neg (by omega)]; exact hm.2.2.2
/-- desks may be given anew, if none is given twice -/
theorem qW_desks {ρ ρ' : (Nat → Nat) × (Nat → Nat → Nat)} (W : qW ρ) (e1 : ρ'.1 = ρ.1) (e2 : ∀ j i, j ≠ 6 → ρ'.2 j i = ρ.2 j i) (hd : ∀ p, p < ρ.1 1 → ρ'.2 6 p < 4 * ρ.1 0) (hi : ∀ p q, p < ρ.1 1 → q < ρ.1 1 → ρ'.2 6 p = ρ'.2 6 q → p = q) : qW ρ' := by
  obtain ⟨w1, w2, w3, w4⟩ := W
  refine ⟨by rw [e1]; exact w1, fun p hp => ?_, fun p q hp hq e => ?_, fun p q hp hb => ?_⟩
  · rw [e1] at hp ⊢
    rw [e2 5 p (by decide), e2 7 p (by decide), e2 8 p (by decide)]
    exact ⟨(w2 p hp).1, hd p hp, (w2 p hp).2.2⟩
  · rw [e1] at hp hq; exact hi p q hp hq e
  · rw [e1] at hp ⊢
    rw [e2 8 p (by decide)] at hb
    rw [e2 8 q (by decide)]
    exact w4 p q hp hb
theorem qSa_W {ρ : (Nat → Nat) × (Nat → Nat → Nat)} (W : qW ρ) {p d : Nat} (hd : d < 4 * ρ.1 0) (hfree : ∀ q, q < ρ.1 1 → ρ.2 6 q ≠ d) : qW (qSa ρ 6 p d) := by
  have e2 : ∀ j i, (qSa ρ 6 p d).2 j i = if j = 6 ∧ i = p then d else ρ.2 j i := fun _ _ => rfl
  refine qW_desks W rfl (fun j i hj => by rw [e2, if_neg (by omega)]) (fun q hq => ?_) (fun a b ha hb e => ?_)
  · rw [e2]; split
    · exact hd
    · exact (W.2.1 q hq).2.1
  · rw [e2, e2] at e
    by_cases c : a = p <;> by_cases c' : b = p
    · omega
    · rw [if_pos ⟨rfl, c⟩, if_neg (by omega)] at e; exact absurd e.symm (hfree b hb)
    · rw [if_neg (by omega), if_pos ⟨rfl, c'⟩] at e; exact absurd e (hfree a ha)
    · rw [if_neg (by omega), if_neg (by omega)] at e; exact W.2.2.1 a b ha hb e
theorem s_move {x r m : zS} {ρ : (Nat → Nat) × (Nat → Nat → Nat)} (R : qRm r ρ) (M : qMR m ρ) (W : qW ρ) (p d : Int32) {post : Int32 → zS → zS → Int32 → zS → Prop}
    (h : ∀ v r' m' ρ', qRm r' ρ' → qMR m' ρ' → qW ρ' → ρ'.1 1 = ρ.1 1 → qFr 9 18 m m' → post v x r' v m')
    (hr : ∀ v k, k < 5 → post v (zA x 12 k (x.2.1 12 k + 1)) r v (zA m 8 (k + 2) (m.2.1 8 (k + 2) + 1))) :
    wp_X7_move x r p d (fun v x' r' => wp_X8_move m p d (fun v' m' => post v x' r' v' m')) := by
  have hc := R.1.2.2
  simp only [wp_X7_move, wp_X7_move_22, wp_X8_move, wp_X8_move_17, e1_has R.1, e8_isPupil M, e1_hasDesk R.1 W.1.2.1, e8_isDesk M W.1.2.1, e7_r2, e8_r2, e7_r5, e8_r5, forall_eq]
  cases h1 : qP ρ p
  · simp only [q_f]; exact hr _ 0 (by decide)
  cases h2 : qD ρ d
  · simp only [q_f, q_t]; exact hr _ 0 (by decide)
  simp only [q_t]
  obtain ⟨p, hp, rfl⟩ := qP_t h1
  obtain ⟨d, hd, rfl⟩ := qD_t h2
  have n1 : ∀ q, q < 12 → ¬ nI q = (-1 : Int32) := by decide +kernel
  refine q1_holderOf R.1 (fun q hq e => ?_) (fun hno => ?_)
  · rw [q_neg (n1 q (by omega))]
    refine q8_sitting M (fun q' hq' e' => ?_) (fun hno => absurd e (hno q hq))
    rw [q_neg (n1 q' (by omega))]
    exact hr _ 3 (by decide)
  · rw [q_pos rfl]
    have hs : ∀ {P : Int32 → Prop}, P (-1) → wp_X8_sitting m (nI d) P := fun hP => q8_sitting M (fun q' hq' e' => absurd e' (hno q' hq')) (fun _ => hP)
    have W' := qSa_W (p := p) W hd (fun q hq e => hno q hq (by rw [e]))
    have hv : vp_in (nI p) 12 := q_in (by omega) (by omega)
    refine q1_deskAt R hp ?_
    unfold wp_X1_reseat
    rw [e1_has R.1, h1, q_t]
    simp only [hv, true_and, forall_eq, q_clamp (n := p) (by omega)]
    refine q1_link (qR0_A R.1 6 p d) (qW_L W') (fun r' R' => hs ?_)
    rw [q_pos rfl, (M.2.1 p hp).2.1]
    exact h _ _ _ _ R' (qMR_A M (by decide) p d) W' rfl (qFr_A qFr_rf (by decide) _ _)
/-- two pupils change their desks -/
def qSx (ρ : (Nat → Nat) × (Nat → Nat → Nat)) (p q : Nat) : (Nat → Nat) × (Nat → Nat → Nat) := qSa (qSa ρ 6 p (ρ.2 6 q)) 6 q (ρ.2 6 p)
theorem qSx_W {ρ : (Nat → Nat) × (Nat → Nat → Nat)} (W : qW ρ) {p q : Nat} (hp : p < ρ.1 1) (hq : q < ρ.1 1) : qW (qSx ρ p q) := by
  have e2 : ∀ j i, (qSx ρ p q).2 j i = if j = 6 ∧ i = q then ρ.2 6 p else if j = 6 ∧ i = p then ρ.2 6 q else ρ.2 j i := fun _ _ => rfl
  have e3 : ∀ a, (qSx ρ p q).2 6 a = ρ.2 6 (if a = q then p else if a = p then q else a) := fun a => by
    rw [e2]
    by_cases c : a = q
    · rw [if_pos ⟨rfl, c⟩, if_pos c]
    · rw [if_neg (by omega), if_neg c]
      by_cases d : a = p
      · rw [if_pos ⟨rfl, d⟩, if_pos d]
      · rw [if_neg (by omega), if_neg d]
  have lt : ∀ a, a < ρ.1 1 → (if a = q then p else if a = p then q else a) < ρ.1 1 := fun a ha => by
    split
    · exact hp
    · split
      · exact hq
      · exact ha
  refine qW_desks W rfl (fun j i hj => by rw [e2, if_neg (by omega), if_neg (by omega)]) (fun a ha => ?_) (fun a b ha hb e => ?_)
  · rw [e3]; exact (W.2.1 _ (lt a ha)).2.1
  · rw [e3, e3] at e
    have := W.2.2.1 _ _ (lt a ha) (lt b hb) e
    by_cases c1 : a = q <;> by_cases c2 : a = p <;> by_cases c3 : b = q <;> by_cases c4 : b = p <;> simp only [c1, c2, c3, c4, if_true, if_false] at this <;> first
      | omega
      | (split at this <;> omega)
      | (split at this <;> split at this <;> omega)
theorem a1_exch {r : zS} {ρ : (Nat → Nat) × (Nat → Nat → Nat)} (R : qRm r ρ) (W : qW ρ) {p q : Nat} (hp : p < ρ.1 1) (hq : q < ρ.1 1) {post : zS → Prop}
    (h : ∀ r', qRm r' (qSx ρ p q) → post r') : wp_X1_exchange r (nI p) (nI q) post := by
  have hc := R.1.2.2
  have hv : vp_in (nI p) 12 := q_in (by omega) (by omega)
  have hv' : vp_in (nI q) 12 := q_in (by omega) (by omega)
  unfold wp_X1_exchange
  rw [e1_has R.1, qP_n hc hp, q_t, e1_has R.1, qP_n hc hq, q_t]
  simp only [hv, hv', true_and, forall_eq, q_clamp (n := p) (by omega), q_clamp (n := q) (by omega)]
  rw [R.1.2.1 6 (by decide) p hp, R.1.2.1 6 (by decide) q hq]
  exact q1_link (qR0_A (qR0_A R.1 6 p _) 6 q _) (qW_L (qSx_W W hp hq)) h
theorem a8_exch {m : zS} {ρ : (Nat → Nat) × (Nat → Nat → Nat)} (M : qMR m ρ) {p q : Nat} (hp : p < ρ.1 1) (hq : q < ρ.1 1) {post : zS → Prop}
    (h : ∀ m', qMR m' (qSx ρ p q) → qFr 9 18 m m' → post m') : wp_X8_changes m (nI p) (nI q) post := by
  have hc := M.2.2
  have hv : vp_in (nI p) 12 := q_in (by omega) (by omega)
  have hv' : vp_in (nI q) 12 := q_in (by omega) (by omega)
  unfold wp_X8_changes
  simp only [hv, hv', true_and, forall_eq, q_clamp (n := p) (by omega), q_clamp (n := q) (by omega)]
  rw [(M.2.1 p hp).2.1, (M.2.1 q hq).2.1]
  exact h _ (qMR_A (k := 6) (qMR_A (k := 6) M (by decide) p _) (by decide) q _) (qFr_A (qFr_A qFr_rf (by decide) _ _) (by decide) _ _)
theorem qSx_rf {ρ : (Nat → Nat) × (Nat → Nat → Nat)} (p : Nat) : qSx ρ p p = ρ := by
  refine Prod.ext rfl (funext fun j => funext fun i => ?_)
  show (if j = 6 ∧ i = p then ρ.2 6 p else if j = 6 ∧ i = p then ρ.2 6 p else ρ.2 j i) = ρ.2 j i
  split
  · next c => rw [c.1, c.2]
  · rfl
theorem s_swap {x r m : zS} {ρ : (Nat → Nat) × (Nat → Nat → Nat)} (R : qRm r ρ) (M : qMR m ρ) (W : qW ρ) (p q : Int32) {post : Int32 → zS → zS → Int32 → zS → Prop}
    (h : ∀ v r' m' ρ', qRm r' ρ' → qMR m' ρ' → qW ρ' → ρ'.1 1 = ρ.1 1 → qFr 9 18 m m' → post v x r' v m')
    (hr : ∀ v k, k < 5 → post v (zA x 12 k (x.2.1 12 k + 1)) r v (zA m 8 (k + 2) (m.2.1 8 (k + 2) + 1))) :
    wp_X7_swap x r p q (fun v x' r' => wp_X8_swap m p q (fun v' m' => post v x' r' v' m')) := by
  have hc := R.1.2.2
  simp only [wp_X7_swap, wp_X7_swap_22, wp_X8_swap, wp_X8_swap_18, e1_has R.1, e8_isPupil M, e7_r2, e8_r2]
  cases h1 : qP ρ p
  · simp only [q_f]; exact hr _ 0 (by decide)
  cases h2 : qP ρ q
  · simp only [q_f, q_t]; exact hr _ 0 (by decide)
  simp only [q_t]
  obtain ⟨p, hp, rfl⟩ := qP_t h1
  obtain ⟨q, hq, rfl⟩ := qP_t h2
  by_cases c : nI p = nI q
  · have e : p = q := (nI_eq (by omega) (by omega)).mp c
    subst e
    rw [q_pos rfl]
    refine a8_exch M hp hp (fun m' M' F => ?_)
    rw [qSx_rf] at M'
    rw [q_pos rfl]
    exact h _ _ _ _ R M' W rfl F
  · rw [q_neg c]
    refine a1_exch R W hp hq (fun r' R' => a8_exch M hp hq (fun m' M' F => ?_))
    rw [q_neg c]
    exact h _ _ _ _ R' M' (qSx_W W hp hq) rfl F
