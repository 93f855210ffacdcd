/-! whom one comes to -/
section QREACH
variable {x r y k m : zS} {ρ : (Nat → Nat) × (Nat → Nat → Nat)}
theorem qpop_mono {a b : Nat} (h : qin a b) : qpop a ≤ qpop b := by
  rw [qpop_tb, qpop_tb]
  have t : ∀ i, (a.testBit i).toNat ≤ (b.testBit i).toNat := fun i => by
    cases c : a.testBit i
    · exact Nat.zero_le _
    · rw [h i c]; exact Nat.le_refl _
  have := t 0; have := t 1; have := t 2; have := t 3; have := t 4; have := t 5; have := t 6; have := t 7; have := t 8; have := t 9; have := t 10; have := t 11
  omega
theorem qpop_lt {a b q : Nat} (h : qin a b) (hq : q < 12) (h1 : b.testBit q = true) (h0 : a.testBit q = false) : qpop a + 1 ≤ qpop b := by
  rw [← qpop_add hq h0]
  refine qpop_mono (fun i hi => ?_)
  rw [Nat.testBit_or, Nat.testBit_two_pow] at hi
  by_cases c : q = i
  · rw [← c]; exact h1
  · rw [decide_eq_false c, Bool.or_false] at hi; exact h i hi
theorem qpop_all {n v : Nat} (hn : n ≤ 12) (hv : ∀ q, v.testBit q = true → q < n) (h : n ≤ qpop v) : ∀ q, q < n → v.testBit q = true := by
  intro q hq
  cases c : v.testBit q with
  | true => rfl
  | false =>
    have full : ∀ n, n < 13 → qpop (2 ^ n - 1) = n := by decide
    have := qpop_lt (a := v) (b := 2 ^ n - 1) (q := q) (fun i hi => by rw [Nat.testBit_two_pow_sub_one]; exact decide_eq_true (hv i hi)) (by omega) (by rw [Nat.testBit_two_pow_sub_one]; exact decide_eq_true hq) c
    rw [full n (by omega)] at this
    omega
theorem q_and2 (a j : Nat) : (a &&& 2 ^ j = 0) = (a.testBit j = false) := by
  refine propext ⟨fun z => ?_, fun z => ?_⟩
  · have := congrArg (fun t => t.testBit j) z
    simp only [Nat.testBit_and, Nat.zero_testBit, Nat.testBit_two_pow, decide_true, Bool.and_true] at this
    exact this
  · refine Nat.eq_of_testBit_eq (fun i => ?_)
    rw [Nat.testBit_and, Nat.zero_testBit, Nat.testBit_two_pow]
    by_cases e : j = i
    · subst e; rw [z]; rfl
    · rw [decide_eq_false e, Bool.and_false]
theorem q_lt12 {n v : Nat} (hn : n ≤ 12) (hv : ∀ q, v.testBit q = true → q < n) : v < 2 ^ 12 := by
  refine Nat.lt_pow_two_of_testBit v (fun i hi => ?_)
  cases c : v.testBit i with
  | false => rfl
  | true => have := hv i c; omega
/-- the least that holds one's neighbours and those of all that pass it on -/
def qRS (ρ : (Nat → Nat) × (Nat → Nat → Nat)) (g a q : Nat) : Prop := ∀ S : Nat → Prop, (∀ q, q < ρ.1 1 → qnb ρ a q = true → S q) → (∀ p q, p < ρ.1 1 → q < ρ.1 1 → S p → g.testBit p = false → qnb ρ p q = true → S q) → S q
theorem qRS_base {g a q : Nat} (hq : q < ρ.1 1) (h : qnb ρ a q = true) : qRS ρ g a q := fun S hb _ => hb q hq h
theorem qRS_step {g a p q : Nat} (hp : p < ρ.1 1) (hq : q < ρ.1 1) (h : qRS ρ g a p) (hg : g.testBit p = false) (hn : qnb ρ p q = true) : qRS ρ g a q := fun S hb hs => hs p q hp hq (h S hb hs) hg hn
theorem a1_reach (R : qRm r ρ) (W : qW ρ) {a g : Nat} (ha : a < ρ.1 1) {post : Int32 → Prop}
    (h : ∀ v, v < 2 ^ 12 → (∀ q, v.testBit q = true ↔ (q < ρ.1 1 ∧ q ≠ a ∧ qRS ρ g a q)) → post (nI v)) : wp_X1_reachOf r (nI a) (nI g ^^^ (-1 : Int32)) post := by
  have hc := R.1.2.2
  unfold wp_X1_reachOf
  refine q1_nearAt R ha ?_
  -- what a round keeps
  let snd : Nat → Prop := fun v => (∀ q, v.testBit q = true → q < ρ.1 1 ∧ qRS ρ g a q) ∧ qin (qN ρ a) v
  let cls : Nat → Prop := fun v => ∀ p q, p < ρ.1 1 → q < ρ.1 1 → v.testBit p = true → g.testBit p = false → qnb ρ p q = true → v.testBit q = true
  have s0 : snd (qN ρ a) := ⟨fun q hq => by
    rw [qN_bit, Bool.and_eq_true] at hq
    have h1 := of_decide_eq_true hq.1
    exact ⟨h1, qRS_base h1 hq.2⟩, fun i hi => hi⟩
  refine q_lp2 (B := wb_X1_reachOf_9 r (nI a) (nI g ^^^ (-1 : Int32)) post) (fun q x3 x4 => ∃ i v, i + q = ρ.1 1 ∧ x4 = nI i ∧ x3 = nI v ∧ snd v ∧ (cls v ∨ i ≤ qpop v)) ?_ (ρ.1 1) _ _ ⟨0, _, by omega, rfl, rfl, s0, Or.inr (Nat.zero_le _)⟩
  rintro q _ _ ⟨i, v, hi, rfl, rfl, hs, hcl⟩ K hK
  have hv12 : v < 2 ^ 12 := q_lt12 hc (fun q hq => (hs.1 q hq).1)
  unfold wb_X1_reachOf_9
  rw [R.1.1 1 (by decide)]
  by_cases e : nI (ρ.1 1) ≤ nI i
  · have := (q_leN (by omega) (by omega)).mp e
    have : i = ρ.1 1 := by omega
    subst this
    have hcl : cls v := by
      rcases hcl with z | z
      · exact z
      · exact fun p q _ hq _ _ _ => qpop_all hc (fun q hq => (hs.1 q hq).1) z q hq
    rw [q_pos e, q_clr (by omega)]
    refine h _ (qclr_lt hv12) (fun q => ?_)
    rw [qclr_bit hv12, Bool.and_eq_true]
    constructor
    · rintro ⟨h1, h2⟩
      have h2 : q ≠ a := by simpa using h2
      exact ⟨(hs.1 q h1).1, h2, (hs.1 q h1).2⟩
    · rintro ⟨h1, h2, h3⟩
      refine ⟨?_, by simpa using h2⟩
      exact h3 (fun q => v.testBit q = true) (fun q hq hn => hs.2 q (by rw [qN_bit, decide_eq_true hq, hn]; rfl)) (fun p q hp hq hv hg hn => hcl p q hp hq hv hg hn)
  · have e' : ¬ ρ.1 1 ≤ i := fun z => e ((q_leN (by omega) (by omega)).mpr z)
    rw [q_neg e]
    refine q_lp3 (B := wb_X1_reachOf_21 r (nI a) (nI g ^^^ (-1 : Int32)) post K) (fun q2 x3 x4 x5 => ∃ j v', j + q2 = ρ.1 1 ∧ x5 = nI j ∧ x4 = nI i ∧ x3 = nI v' ∧ snd v' ∧ qin v v' ∧ (cls v → v' = v) ∧ (∀ p, p < j → v.testBit p = true → g.testBit p = false → qin (qN ρ p) v')) ?_ (ρ.1 1) _ _ _ ⟨0, v, by omega, rfl, rfl, rfl, hs, fun _ hi => hi, fun _ => rfl, fun p hp => absurd hp (by omega)⟩
    rintro q2 _ _ _ ⟨j, v', hj, rfl, rfl, rfl, hs', hin, hcv, hdone⟩ K2 hK2
    have hv12' : v' < 2 ^ 12 := q_lt12 hc (fun q hq => (hs'.1 q hq).1)
    unfold wb_X1_reachOf_21 wp_X1_reachOf_50
    rw [R.1.1 1 (by decide)]
    by_cases e2 : nI (ρ.1 1) ≤ nI j
    · have := (q_leN (by omega) (by omega)).mp e2
      have : j = ρ.1 1 := by omega
      subst this
      rw [q_pos e2, q_all, q_succ]
      refine hK (q - 1) _ _ (by omega) ⟨i + 1, v', by omega, rfl, rfl, hs', ?_⟩
      by_cases ev : v' = v
      · left
        subst ev
        exact fun p q hp hq hvp hg hn => hdone p hp hvp hg q (by rw [qN_bit, decide_eq_true hq, hn]; rfl)
      · right
        have hi' : i ≤ qpop v := by
          rcases hcl with z | z
          · exact absurd (hcv z) ev
          · exact z
        have : ∃ q, v'.testBit q = true ∧ v.testBit q = false := by
          by_cases z : ∃ q, v'.testBit q = true ∧ v.testBit q = false
          · exact z
          · exfalso
            refine ev (Nat.eq_of_testBit_eq (fun i => ?_))
            cases c1 : v.testBit i
            · cases c2 : v'.testBit i
              · rfl
              · exact absurd ⟨i, c2, c1⟩ z
            · exact hin i c1
        obtain ⟨q, hq1, hq0⟩ := this
        have := qpop_lt hin (by have := (hs'.1 q hq1).1; omega) hq1 hq0
        omega
    · have e2' : ¬ ρ.1 1 ≤ j := fun z => e2 ((q_leN (by omega) (by omega)).mpr z)
      have hjn : j < ρ.1 1 := by omega
      have tb : ((nI v' &&& (nI g ^^^ (-1 : Int32))) &&& ((1 : Int32) <<< (nI j &&& 31)) = 0) = ((v'.testBit j && !g.testBit j) = false) := by
        rw [q_not, q_shl1 j (by omega), q_and]
        have hlt : (v' &&& ((2 ^ 32 - 1) ^^^ g)) &&& 2 ^ j < 2 ^ 31 := Nat.lt_of_le_of_lt Nat.and_le_left (Nat.lt_of_le_of_lt Nat.and_le_left (Nat.lt_of_lt_of_le hv12' (by decide)))
        rw [q_nz hlt, ← q_not_bit (a := v') (u := g) (i := j) (by omega), q_and2]
      rw [q_neg e2, tb]
      simp only [forall_eq, q_succ]
      have dn : ∀ v'', qin v' v'' → (v'.testBit j = true → g.testBit j = false → qin (qN ρ j) v'') → ∀ p, p < j + 1 → v.testBit p = true → g.testBit p = false → qin (qN ρ p) v'' := by
        intro v'' h1 h2 p hp hvp hg
        by_cases z : p = j
        · subst z; exact h2 (hin p hvp) hg
        · exact fun i hi => h1 i (hdone p (by omega) hvp hg i hi)
      refine ⟨fun c => hK2 (q2 - 1) _ _ _ (by omega) ⟨j + 1, v', by omega, rfl, rfl, rfl, hs', hin, hcv, dn v' (fun _ hi => hi) (fun h1 h2 => by rw [h1, h2] at c; cases c)⟩, fun c => ?_⟩
      have c' : v'.testBit j = true ∧ g.testBit j = false := by
        cases c1 : v'.testBit j <;> cases c2 : g.testBit j <;> rw [c1, c2] at c <;> simp at c ⊢
      refine q1_nearAt R hjn ?_
      rw [q_or]
      have in1 : qin v' (v' ||| qN ρ j) := fun i hi => by rw [Nat.testBit_or, hi]; rfl
      refine hK2 (q2 - 1) _ _ _ (by omega) ⟨j + 1, v' ||| qN ρ j, by omega, rfl, rfl, rfl, ⟨fun q hq => ?_, fun i hi => in1 i (hs'.2 i hi)⟩, fun i hi => in1 i (hin i hi), fun z => ?_, dn _ in1 (fun _ _ i hi => by rw [Nat.testBit_or, hi, Bool.or_true])⟩
      · rw [Nat.testBit_or, Bool.or_eq_true] at hq
        rcases hq with hq | hq
        · exact hs'.1 q hq
        · rw [qN_bit, Bool.and_eq_true] at hq
          have h1 := of_decide_eq_true hq.1
          exact ⟨h1, qRS_step hjn h1 (hs'.1 j c'.1).2 c'.2 hq.2⟩
      · have ev := hcv z
        subst ev
        refine Nat.eq_of_testBit_eq (fun i => ?_)
        rw [Nat.testBit_or]
        cases c3 : (qN ρ j).testBit i
        · rw [Bool.or_false]
        · rw [Bool.or_true]
          rw [qN_bit, Bool.and_eq_true] at c3
          exact (z j i hjn (of_decide_eq_true c3.1) c'.1 c'.2 c3.2).symm
/-- the least that holds one and the neighbours of all that go on -/
def qTM (ρ : (Nat → Nat) × (Nat → Nat → Nat)) (thr : Nat → Bool) (w a q : Nat) : Prop := ∀ S : Nat → Prop, S a → (∀ p q, p < ρ.1 1 → q < ρ.1 1 → S p → (p = a ∨ thr p = true) → qnb ρ p q = true → w.testBit q = false → S q) → S q
theorem a8_comes (M : qMR m ρ) (W : qW ρ) {a w : Nat} (ha : a < ρ.1 1) {p2 : Int32} {thr : Nat → Bool} (ht : ∀ q, q < ρ.1 1 → ∀ P : Int32 → Prop, P (qz (thr q)) → wp_X8_has p2 (nI q) P) {post : Int32 → Prop}
    (h : ∀ v, v < 2 ^ 12 → (∀ q, v.testBit q = true ↔ qTM ρ thr w a q) → post (nI v)) : wp_X8_comesTo m (nI a) p2 (nI w) post := by
  have hc := M.2.2
  let snd : Nat → Prop := fun v => (∀ q, v.testBit q = true → q < ρ.1 1 ∧ qTM ρ thr w a q) ∧ v.testBit a = true
  let cls : Nat → Prop := fun v => ∀ p q, p < ρ.1 1 → q < ρ.1 1 → v.testBit p = true → (p = a ∨ thr p = true) → qnb ρ p q = true → w.testBit q = false → v.testBit q = true
  have s0 : snd (2 ^ a) := ⟨fun q hq => by
    rw [Nat.testBit_two_pow] at hq
    have : a = q := of_decide_eq_true hq
    subst this
    exact ⟨ha, fun S h1 _ => h1⟩, by rw [Nat.testBit_two_pow]; exact decide_eq_true rfl⟩
  unfold wp_X8_comesTo
  rw [q_all, q_shl1 a (by omega)]
  refine q_lp2 (B := wb_X8_comesTo_8 m (nI a) p2 (nI w) post) (fun q x4 x5 => ∃ v, x4 = nI v ∧ snd v ∧ ((x5 = 0 ∧ cls v) ∨ (x5 = 1 ∧ 13 ≤ q + qpop v))) ?_ 13 _ _ ⟨_, rfl, s0, Or.inr ⟨rfl, by omega⟩⟩
  rintro q _ x5 ⟨v, rfl, hs, hx⟩ K hK
  have hv12 : v < 2 ^ 12 := q_lt12 hc (fun q hq => (hs.1 q hq).1)
  unfold wb_X8_comesTo_8
  rcases hx with ⟨rfl, hcl⟩ | ⟨rfl, hm⟩
  · rw [q_pos rfl]
    refine h v hv12 (fun q => ⟨fun hq => (hs.1 q hq).2, fun hq => ?_⟩)
    exact hq (fun q => v.testBit q = true) hs.2 (fun p q hp hq h1 h2 h3 h4 => hcl p q hp hq h1 h2 h3 h4)
  · rw [q_neg (by decide)]
    have hp12 := qpop_le v
    refine q_lp3 (B := wb_X8_comesTo_20 m (nI a) p2 (nI w) post K) (fun q2 x4 x6 x7 => ∃ j v', j + q2 = ρ.1 1 ∧ x7 = nI j ∧ x6 = nI v ∧ x4 = nI v' ∧ snd v' ∧ qin v v' ∧ (∀ p, p < j → v.testBit p = true → (p = a ∨ thr p = true) → ∀ q, q < ρ.1 1 → qnb ρ p q = true → w.testBit q = false → v'.testBit q = true)) ?_ (ρ.1 1) _ _ _ ⟨0, v, by omega, rfl, rfl, rfl, hs, fun _ hi => hi, fun p hp => absurd hp (by omega)⟩
    rintro q2 _ _ _ ⟨j, v', hj, rfl, rfl, rfl, hs', hin, hdone⟩ K2 hK2
    have hv12' : v' < 2 ^ 12 := q_lt12 hc (fun q hq => (hs'.1 q hq).1)
    unfold wb_X8_comesTo_20 wp_X8_comesTo_103
    rw [M.1.2.1]
    by_cases e2 : nI (ρ.1 1) ≤ nI j
    · have := (q_leN (by omega) (by omega)).mp e2
      have : j = ρ.1 1 := by omega
      subst this
      rw [q_pos e2, nI_eq (a := v') (b := v) (by omega) (by omega)]
      refine ⟨fun ev => hK 0 _ _ (by omega) ⟨v', rfl, hs', Or.inl ⟨rfl, ?_⟩⟩, fun ev => hK (q - 1) _ _ (by omega) ⟨v', rfl, hs', Or.inr ⟨rfl, ?_⟩⟩⟩
      · subst ev
        exact fun p q hp hq h1 h2 h3 h4 => hdone p hp h1 h2 q hq h3 h4
      · have : ∃ q, v'.testBit q = true ∧ v.testBit q = false := by
          by_cases z : ∃ q, v'.testBit q = true ∧ v.testBit q = false
          · exact z
          · exfalso
            refine ev (Nat.eq_of_testBit_eq (fun i => ?_))
            cases c1 : v.testBit i
            · cases c2 : v'.testBit i
              · rfl
              · exact absurd ⟨i, c2, c1⟩ z
            · exact hin i c1
        obtain ⟨q, hq1, hq0⟩ := this
        have := qpop_lt hin (by have := (hs'.1 q hq1).1; omega) hq1 hq0
        omega
    · have e2' : ¬ ρ.1 1 ≤ j := fun z => e2 ((q_leN (by omega) (by omega)).mpr z)
      have hjn : j < ρ.1 1 := by omega
      rw [q_neg e2]
      have nx : ∀ v'', snd v'' → qin v' v'' → (v'.testBit j = true → (j = a ∨ thr j = true) → ∀ q, q < ρ.1 1 → qnb ρ j q = true → w.testBit q = false → v''.testBit q = true) → K2 (nI v'') (nI v) (nI (j + 1)) := by
        intro v'' h1 h2 h3
        refine hK2 (q2 - 1) _ _ _ (by omega) ⟨j + 1, v'', by omega, rfl, rfl, rfl, h1, fun i hi => h2 i (hin i hi), fun p hp hvp hpt q hq hn hw => ?_⟩
        by_cases z : p = j
        · subst z; exact h3 (hin p hvp) hpt q hq hn hw
        · exact h2 q (hdone p (by omega) hvp hpt q hq hn hw)
      have no : (v'.testBit j = true → (j = a ∨ thr j = true) → False) → wp_X8_comesTo_58 m (nI a) p2 (nI w) post K K2 (nI v') (nI v) (nI j) := by
        intro c
        unfold wp_X8_comesTo_58 wp_X8_comesTo_59 wp_X8_comesTo_82
        rw [q_0]
        simp only [forall_eq, q_succ, q_or0]
        exact nx v' hs' (fun _ hi => hi) (fun h1 h2 => (c h1 h2).elim)
      have yes : v'.testBit j = true → (j = a ∨ thr j = true) → wp_X8_comesTo_54 m (nI a) p2 (nI w) post K K2 (nI v') (nI v) (nI j) := by
        intro c1 c2
        unfold wp_X8_comesTo_54 wp_X8_comesTo_59 wp_X8_comesTo_82
        rw [q_1]
        refine q8_beside M (qW_L W) hjn ?_
        rw [q_not, q_or]
        simp only [forall_eq, q_succ]
        have hb : ∀ i, (qN ρ j &&& ((2 ^ 32 - 1) ^^^ w)).testBit i = true ↔ (i < ρ.1 1 ∧ qnb ρ j i = true ∧ w.testBit i = false) := by
          intro i
          by_cases hi : i < 32
          · rw [q_not_bit hi, qN_bit, Bool.and_eq_true, Bool.and_eq_true, decide_eq_true_iff]
            cases w.testBit i <;> simp
          · constructor
            · intro z
              rw [Nat.testBit_and, qN_bit, Bool.and_eq_true, Bool.and_eq_true] at z
              have := of_decide_eq_true z.1.1
              omega
            · rintro ⟨z, -⟩; omega
        refine nx _ ⟨fun q hq => ?_, by rw [Nat.testBit_or, hs'.2]; rfl⟩ (fun i hi => by rw [Nat.testBit_or, hi]; rfl) (fun _ _ q hq hn hw => by rw [Nat.testBit_or, (hb q).mpr ⟨hq, hn, hw⟩, Bool.or_true])
        rw [Nat.testBit_or, Bool.or_eq_true] at hq
        rcases hq with hq | hq
        · exact hs'.1 q hq
        · obtain ⟨g1, g2, g3⟩ := (hb q).mp hq
          exact ⟨g1, fun S t1 t2 => t2 j q hjn g1 ((hs'.1 j c1).2 S t1 t2) c2 g2 g3⟩
      refine e8_has (Nat.lt_of_lt_of_le hv12' (by decide)) (by omega) ?_
      refine q_br (fun c1 => ?_) (fun c1 => no (fun z => by rw [c1] at z; cases z))
      rw [nI_eq (a := j) (b := a) (by omega) (by omega)]
      refine ⟨fun c2 => yes c1 (Or.inl c2), fun c2 => ht j hjn _ ?_⟩
      refine q_br (fun c3 => yes c1 (Or.inr c3)) (fun c3 => no (fun _ z => ?_))
      rcases z with z | z
      · exact c2 z
      · rw [c3] at z; cases z
theorem qTM_lt {thr : Nat → Bool} {w a q : Nat} (ha : a < ρ.1 1) (h : qTM ρ thr w a q) : q < ρ.1 1 := h (fun q => q < ρ.1 1) ha (fun _ _ _ hq _ _ _ _ => hq)
/-- with all that aren't in g passing it on, and none left out -/
theorem qTM_RS {g a q : Nat} (hqa : q ≠ a) : qTM ρ (fun p => !g.testBit p) 0 a q → qRS ρ g a q := by
  intro h
  have := h (fun q => q = a ∨ qRS ρ g a q) (Or.inl rfl) (fun p q hp hq hs ht hn _ => by
    rcases hs with rfl | hs
    · exact Or.inr (qRS_base hq hn)
    · rcases ht with rfl | ht
      · exact Or.inr (qRS_base hq hn)
      · have : g.testBit p = false := by simpa using ht
        exact Or.inr (qRS_step hp hq hs this hn))
  rcases this with z | z
  · exact absurd z hqa
  · exact z
theorem qRS_TM {g a q : Nat} (ha : a < ρ.1 1) (h : qRS ρ g a q) : qTM ρ (fun p => !g.testBit p) 0 a q :=
  h (fun q => qTM ρ (fun p => !g.testBit p) 0 a q) (fun q hq hn S t1 t2 => t2 a q ha hq t1 (Or.inl rfl) hn (Nat.zero_testBit q)) (fun p q hp hq hs hg hn S t1 t2 => t2 p q hp hq (hs S t1 t2) (Or.inr (by
    show (!g.testBit p) = true
    rw [hg]; rfl)) hn (Nat.zero_testBit q))
/-- with all passing it on, and those of g left out -/
theorem qTM_RS2 {g a b : Nat} (hba : b ≠ a) : qTM ρ (fun _ => true) g a b → qRS ρ g a b := by
  intro h
  have := h (fun q => q = a ∨ (g.testBit q = false ∧ qRS ρ g a q)) (Or.inl rfl) (fun p q hp hq hs _ hn hw => by
    rcases hs with rfl | ⟨h1, h2⟩
    · exact Or.inr ⟨hw, qRS_base hq hn⟩
    · exact Or.inr ⟨hw, qRS_step hp hq h2 h1 hn⟩)
  rcases this with z | z
  · exact absurd z hba
  · exact z.2
theorem qRS_TM2 {g a b : Nat} (ha : a < ρ.1 1) (hb : g.testBit b = false) (h : qRS ρ g a b) : qTM ρ (fun _ => true) g a b :=
  h (fun q => g.testBit q = false → qTM ρ (fun _ => true) g a q) (fun q hq hn hw S t1 t2 => t2 a q ha hq t1 (Or.inl rfl) hn hw) (fun p q hp hq hs hg hn hw S t1 t2 => t2 p q hp hq (hs hg S t1 t2) (Or.inr rfl) hn hw) hb
end QREACH
