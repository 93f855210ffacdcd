/-! reach, cut -/
section QCUT
variable {x r y k m : zS} {ρ : (Nat → Nat) × (Nat → Nat → Nat)}
theorem s_reach (R : qRm r ρ) (M : qMR m ρ) (W : qW ρ) (a : Int32) {post : Int32 → zS → Int32 → zS → Prop}
    (h : ∀ v, post v x v m)
    (hr : ∀ v k, k < 5 → post v (zA x 12 k (x.2.1 12 k + 1)) v (zA m 8 (k + 2) (m.2.1 8 (k + 2) + 1))) :
    wp_X7_reach x r a (fun v x' => wp_X8_reach m a (fun v' m' => post v x' v' m')) := by
  have hc := R.1.2.2
  simp only [wp_X7_reach, wp_X8_reach, e1_has R.1, e8_isPupil M, e7_r2, e8_r2]
  cases h1 : qP ρ a
  · simp only [q_f]; exact hr _ 0 (by decide)
  simp only [q_t]
  obtain ⟨a, ha, rfl⟩ := qP_t h1
  unfold wp_X1_everybody
  have p2 : 2 ^ ρ.1 1 ≤ 2 ^ 12 := Nat.pow_le_pow_right (by decide) hc
  have e1 : nI (2 ^ ρ.1 1) - (1 : Int32) = nI (2 ^ ρ.1 1 - 1) := pk_sub (b := 1) (Nat.two_pow_pos _)
  rw [R.1.1 1 (by decide), q_shl1 _ (by omega), e1]
  refine a1_readers R W (by omega) ?_
  have gb : ∀ q, q < ρ.1 1 → (qrm ρ (2 ^ ρ.1 1 - 1)).testBit q = qrd ρ q := fun q hq => by
    unfold qrm
    rw [qmask_bit, Nat.testBit_two_pow_sub_one, decide_eq_true hq]; simp
  generalize qrm ρ (2 ^ ρ.1 1 - 1) = g at *
  refine a1_reach R W ha (fun v hv12 hv => ?_)
  refine q_lp3 (B := wb_X8_reach_20 (nI a) _) (fun q m' x2 x3 => ∃ j, j + q = ρ.1 1 ∧ m = m' ∧ x3 = nI j ∧ x2 = nI (qmask j (fun i => !qrd ρ i))) ?_ (ρ.1 1) _ _ _ ⟨0, by omega, rfl, rfl, rfl⟩
  rintro q _ _ _ ⟨j, hj, rfl, rfl, rfl⟩ K hK
  unfold wb_X8_reach_20 wp_X8_reach_48
  rw [M.1.2.1]
  by_cases e : nI (ρ.1 1) ≤ nI j
  · have := (q_leN (by omega) (by omega)).mp e
    have : j = ρ.1 1 := by omega
    subst this
    rw [q_pos e]
    have q12 : qmask (ρ.1 1) (fun i => !qrd ρ i) < 2 ^ 12 := Nat.lt_of_lt_of_le (qmask_lt _ _) p2
    refine a8_comes (w := 0) (thr := fun p => !g.testBit p) M W ha (fun q hq P hP => ?_) (fun v' hv12' hv' => ?_)
    · refine e8_has (Nat.lt_of_lt_of_le q12 (by decide)) (by omega) ?_
      rw [qmask_bit, decide_eq_true hq, Bool.true_and, ← gb q hq]; exact hP
    · rw [q_clr (by omega)]
      have : qclr v' a = v := by
        refine Nat.eq_of_testBit_eq (fun i => ?_)
        rw [qclr_bit hv12']
        cases c : v.testBit i
        · cases c1 : v'.testBit i
          · rfl
          · by_cases c2 : i = a
            · rw [decide_eq_true c2]; rfl
            · have t := (hv' i).mp c1
              have := (hv i).mpr ⟨qTM_lt ha t, c2, qTM_RS c2 t⟩
              rw [c] at this; cases this
        · obtain ⟨t1, t2, t3⟩ := (hv i).mp c
          rw [(hv' i).mpr (qRS_TM ha t3), decide_eq_false t2]; rfl
      rw [this]; exact h _
  · have e' : ¬ ρ.1 1 ≤ j := fun z => e ((q_leN (by omega) (by omega)).mpr z)
    rw [q_neg e, q_clamp (by omega), (M.2.1 j (by omega)).1, e8_reads (W.2.1 j (by omega)).1]
    refine ⟨q_in (by omega) (by omega), ?_⟩
    simp only [forall_eq, q_succ, q_or0, q_orb (q := j) (by omega)]
    refine q_br (fun c => ?_) (fun c => ?_)
    · refine hK (q - 1) _ _ _ (by omega) ⟨j + 1, by omega, rfl, rfl, ?_⟩
      rw [qmask_f]
      have : qrd ρ j = true := c
      rw [this]; rfl
    · refine hK (q - 1) _ _ _ (by omega) ⟨j + 1, by omega, rfl, rfl, ?_⟩
      rw [qmask_t]
      have : qrd ρ j = false := c
      rw [this]; rfl
/-- without whom there is no way -/
def qSe (ρ : (Nat → Nat) × (Nat → Nat → Nat)) (a b g : Nat) : Prop := g.testBit a = false ∧ g.testBit b = false ∧ ¬ qRS ρ g a b
def qCu (ρ : (Nat → Nat) × (Nat → Nat → Nat)) (a b init g best : Nat) : Prop := best ≤ init ∧ (∀ g', g' < g → qSe ρ a b g' → best ≤ qpop g') ∧ (best = init ∨ ∃ g', g' < g ∧ qSe ρ a b g' ∧ best = qpop g')
theorem qCu_stay {a b init g best : Nat} (h : qCu ρ a b init g best) (c : qSe ρ a b g → best ≤ qpop g) : qCu ρ a b init (g + 1) best := by
  obtain ⟨h1, h2, h3⟩ := h
  refine ⟨h1, fun g' hg' s => ?_, ?_⟩
  · by_cases z : g' = g
    · subst z; exact c s
    · exact h2 g' (by omega) s
  · rcases h3 with e | ⟨g', t1, t2, t3⟩
    · exact Or.inl e
    · exact Or.inr ⟨g', by omega, t2, t3⟩
theorem qCu_take {a b init g best : Nat} (h : qCu ρ a b init g best) (c : qSe ρ a b g) (l : qpop g < best) : qCu ρ a b init (g + 1) (qpop g) := by
  obtain ⟨h1, h2, h3⟩ := h
  refine ⟨by omega, fun g' hg' s => ?_, Or.inr ⟨g, by omega, c, rfl⟩⟩
  by_cases z : g' = g
  · subst z; exact Nat.le_refl _
  · have := h2 g' (by omega) s; omega
theorem q_deg_lt (hc : ρ.1 1 ≤ 12) {p : Nat} : qpop (qN ρ p) ≤ ρ.1 1 := by
  have full : ∀ n, n < 13 → qpop (2 ^ n - 1) = n := by decide
  have := qpop_mono (a := qN ρ p) (b := 2 ^ ρ.1 1 - 1) (fun i hi => by
    rw [qN_bit, Bool.and_eq_true] at hi
    rw [Nat.testBit_two_pow_sub_one]; exact hi.1)
  rw [full _ (by omega)] at this; exact this
theorem qnb_self (p : Nat) : qnb ρ p p = false := by unfold qnb; rw [qbs_self]; rfl
/-- the neighbours of one end part them -/
theorem qSe_a {a b : Nat} (hn : qnb ρ a b = false) : qSe ρ a b (qN ρ a) := by
  refine ⟨by rw [qN_bit, qnb_self, Bool.and_false], by rw [qN_bit, hn, Bool.and_false], fun h => ?_⟩
  have := h (fun q => (qN ρ a).testBit q = true) (fun q hq hq' => by rw [qN_bit, decide_eq_true hq, hq']; rfl) (fun p q _ _ hs hg _ => by rw [hs] at hg; cases hg)
  rw [qN_bit, hn, Bool.and_false] at this; cases this
theorem qSe_b (W : qW ρ) {a b : Nat} (ha : a < ρ.1 1) (hb : b < ρ.1 1) (hn : qnb ρ a b = false) : qSe ρ a b (qN ρ b) := by
  refine ⟨by rw [qN_bit, qnb_symm W hb ha, hn, Bool.and_false], by rw [qN_bit, qnb_self, Bool.and_false], fun h => ?_⟩
  have := h (fun q => q ≠ b) (fun q hq hq' z => by subst z; rw [hn] at hq'; cases hq') (fun p q hp hq hs hg hq' z => by
    subst z
    rw [qN_bit, decide_eq_true hp, qnb_symm W hq hp, hq'] at hg
    cases hg)
  exact this rfl
theorem s_cut (R : qRm r ρ) (M : qMR m ρ) (W : qW ρ) (a b : Int32) {post : Int32 → zS → Int32 → zS → Prop}
    (h : ∀ v, post v x v m)
    (hr : ∀ v k, k < 5 → post v (zA x 12 k (x.2.1 12 k + 1)) v (zA m 8 (k + 2) (m.2.1 8 (k + 2) + 1))) :
    wp_X7_cut x r a b (fun v x' => wp_X8_cut m a b (fun v' m' => post v x' v' m')) := by
  have hc := R.1.2.2
  have p2 : 2 ^ ρ.1 1 ≤ 2 ^ 12 := Nat.pow_le_pow_right (by decide) hc
  simp only [wp_X7_cut, wp_X8_cut, e7_isPair R.1, e8_areTwo M, e7_r2, e8_r2]
  cases h1 : qP2 ρ a b
  · simp only [q_f]; exact hr _ 0 (by decide)
  simp only [q_t]
  obtain ⟨a, b, ha, hb, hab, rfl, rfl⟩ := qP2_t h1
  refine q1_nearAt R ha ?_
  have hqN := qN_lt hc a
  rw [q_bit0 (by omega) (by omega), qN_bit, decide_eq_true hb, Bool.true_and]
  have m8 : ∀ (P : Int32 → zS → Prop), (qnb ρ a b = false → ∃ n, wp_X8_cut_35 (nI a) (nI b) P n m (m.1 10) 0) → (qnb ρ a b = true → P (-1) m) → wp_X8_areBeside m (nI a) (nI b) (fun v3 => (v3 = 0 → ∀ v5, v5 = m.1 10 → ∃ n, wp_X8_cut_35 (nI a) (nI b) P n m v5 0) ∧ (¬ v3 = 0 → P (-1) m)) := by
    intro P h0 h1
    refine e8_areBeside M (qW_L W) ha hb ?_
    exact q_br h1 (fun c v5 hv5 => by rw [hv5]; exact h0 c)
  refine ⟨fun hn => ?_, fun hn => m8 _ (fun c => absurd c hn) (fun _ => h _)⟩
  have da := q_deg_lt (ρ := ρ) hc (p := a)
  have db := q_deg_lt (ρ := ρ) hc (p := b)
  refine q1_neighboursOf R ha (q1_neighboursOf R hb ?_)
  have emin : (if nI (qpop (qN ρ b)) < nI (qpop (qN ρ a)) then nI (qpop (qN ρ b)) else nI (qpop (qN ρ a))) = nI (min (qpop (qN ρ a)) (qpop (qN ρ b))) := by
    by_cases c : nI (qpop (qN ρ b)) < nI (qpop (qN ρ a))
    · have c' := (nI_ltI (by omega) (by omega)).mp c
      rw [if_pos c, Nat.min_eq_right (by omega)]
    · have c' : ¬ qpop (qN ρ b) < qpop (qN ρ a) := fun z => c ((nI_ltI (by omega) (by omega)).mpr z)
      rw [if_neg c, Nat.min_eq_left (by omega)]
  rw [q_all, q_all, emin, q_shl1 a (by omega), q_shl1 b (by omega), q_or]
  have sepN : ∀ p, p < ρ.1 1 → qN ρ p < 2 ^ ρ.1 1 := fun p _ => qmask_lt _ _
  -- the two results are the same
  have same : ∀ u v, qCu ρ a b (min (qpop (qN ρ a)) (qpop (qN ρ b))) (2 ^ ρ.1 1) u → qCu ρ a b (ρ.1 1) (2 ^ ρ.1 1) v → u = v := by
    rintro u v ⟨u1, u2, u3⟩ ⟨v1, v2, v3⟩
    have sa := v2 _ (sepN a ha) (qSe_a hn)
    have sb := v2 _ (sepN b hb) (qSe_b W ha hb hn)
    have l1 : v ≤ u := by
      rcases u3 with e | ⟨g', t1, t2, t3⟩
      · rw [e]; exact Nat.le_min.mpr ⟨sa, sb⟩
      · rw [t3]; exact v2 g' t1 t2
    have l2 : u ≤ v := by
      rcases v3 with e | ⟨g', t1, t2, t3⟩
      · have := Nat.min_le_left (qpop (qN ρ a)) (qpop (qN ρ b)); omega
      · rw [t3]; exact u2 g' t1 t2
    omega
  have m8' : ∀ (u : Nat), qCu ρ a b (min (qpop (qN ρ a)) (qpop (qN ρ b))) (2 ^ ρ.1 1) u → ∀ P : Int32 → zS → Prop, P (nI u) m → ∃ n, wp_X8_cut_35 (nI a) (nI b) P n m (m.1 10) 0 := by
    intro u hu P hP
    rw [M.1.2.1]
    refine q_lp3 (B := wb_X8_cut_35 (nI a) (nI b) P) (fun q m' x3 x4 => ∃ g best, g + q = 2 ^ ρ.1 1 ∧ m = m' ∧ x4 = nI g ∧ x3 = nI best ∧ qCu ρ a b (ρ.1 1) g best) ?_ (2 ^ ρ.1 1) _ _ _ ⟨0, ρ.1 1, by omega, rfl, rfl, rfl, Nat.le_refl _, fun g' hg' => absurd hg' (Nat.not_lt_zero _), Or.inl rfl⟩
    rintro q _ _ _ ⟨g, best, hg, rfl, rfl, rfl, hC⟩ K hK
    have hb12 : best ≤ 12 := by have := hC.1; omega
    unfold wb_X8_cut_35
    rw [M.1.2.1, q_shl1 _ (by omega)]
    by_cases e : nI (2 ^ ρ.1 1) ≤ nI g
    · have := (q_leN (by omega) (by omega)).mp e
      have : g = 2 ^ ρ.1 1 := by omega
      subst this
      rw [q_pos e, ← same u best hu hC]; exact hP
    · have e' : ¬ 2 ^ ρ.1 1 ≤ g := fun z => e ((q_leN (by omega) (by omega)).mpr z)
      have hg12 : g < 4096 := by omega
      have hp12 := qpop_le g
      rw [q_neg e]
      have stay : (qSe ρ a b g → best ≤ qpop g) → wp_X8_cut_77 (nI a) (nI b) P K m (nI best) (nI g) := by
        intro c
        unfold wp_X8_cut_77 wp_X8_cut_78 wp_X8_cut_108 wp_X8_cut_109
        rw [q_0, q_all, q_succ]
        exact hK (q - 1) _ _ _ (by omega) ⟨g + 1, best, by omega, rfl, rfl, rfl, qCu_stay hC c⟩
      refine e8_has (by omega) (by omega) (q_br (fun ca => stay (fun z => by rw [z.1] at ca; cases ca)) (fun ca => ?_))
      refine e8_has (by omega) (by omega) (q_br (fun cb => stay (fun z => by rw [z.2.1] at cb; cases cb)) (fun cb => ?_))
      refine q8_bits hg12 ?_
      refine ⟨fun c => stay (fun _ => (q_leN (by omega) (by omega)).mp c), fun c => ?_⟩
      have c' : ¬ best ≤ qpop g := fun z => c ((q_leN (by omega) (by omega)).mpr z)
      unfold wp_X8_cut_78 wp_X8_cut_108 wp_X8_cut_109
      rw [q_1]
      have all1 : ∀ q, q < 12 → ((-1 : Int32) >>> (nI q &&& 31)) &&& 1 = 1 := by decide +kernel
      refine a8_comes (w := g) (thr := fun _ => true) M W ha (fun q hq Q hQ => ?_) (fun v' hv12' hv' => ?_)
      · unfold wp_X8_has
        rw [all1 q (by omega)]
        exact ⟨fun z => absurd z (by decide), fun _ => hQ⟩
      · refine e8_has (Nat.lt_of_lt_of_le hv12' (by decide)) (by omega) (q_br (fun cv => ?_) (fun cv => ?_))
        · rw [q_all, q_succ]
          refine hK (q - 1) _ _ _ (by omega) ⟨g + 1, best, by omega, rfl, rfl, rfl, qCu_stay hC (fun z => absurd (qTM_RS2 (Ne.symm hab) ((hv' b).mp cv)) z.2.2)⟩
        · refine q8_bits hg12 ?_
          rw [q_all, q_succ]
          refine hK (q - 1) _ _ _ (by omega) ⟨g + 1, qpop g, by omega, rfl, rfl, rfl, qCu_take hC ⟨ca, cb, fun z => ?_⟩ (by omega)⟩
          rw [(hv' b).mpr (qRS_TM2 ha cb z)] at cv; cases cv
  refine q_lp4 (B := wb_X7_cut_65 r (nI a) (nI b) _) (fun q x' x3 x4 x5 => ∃ g best, g + q = 2 ^ ρ.1 1 ∧ x = x' ∧ x5 = nI g ∧ x3 = nI best ∧ x4 = nI (2 ^ a ||| 2 ^ b) ∧ qCu ρ a b (min (qpop (qN ρ a)) (qpop (qN ρ b))) g best) ?_ (2 ^ ρ.1 1) _ _ _ _ ⟨0, _, by omega, rfl, rfl, rfl, rfl, Nat.le_refl _, fun g' hg' => absurd hg' (Nat.not_lt_zero _), Or.inl rfl⟩
  rintro q _ _ _ _ ⟨g, best, hg, rfl, rfl, rfl, rfl, hC⟩ K hK
  have hb12 : best ≤ 12 := by have := hC.1; have := Nat.min_le_left (qpop (qN ρ a)) (qpop (qN ρ b)); omega
  unfold wb_X7_cut_65 wp_X7_cut_121
  rw [R.1.1 1 (by decide), q_shl1 _ (by omega)]
  by_cases e : nI (2 ^ ρ.1 1) ≤ nI g
  · have := (q_leN (by omega) (by omega)).mp e
    have : g = 2 ^ ρ.1 1 := by omega
    subst this
    rw [q_pos e]
    exact m8 _ (fun _ => m8' best hC _ (h _)) (fun c => by rw [hn] at c; cases c)
  · have e' : ¬ 2 ^ ρ.1 1 ≤ g := fun z => e ((q_leN (by omega) (by omega)).mpr z)
    have hg12 : g < 4096 := by omega
    have hp12 := qpop_le g
    rw [q_neg e]
    simp only [forall_eq, q_succ]
    have stay : (qSe ρ a b g → best ≤ qpop g) → K x (nI best) (nI (2 ^ a ||| 2 ^ b)) (nI (g + 1)) := fun c => hK (q - 1) _ _ _ _ (by omega) ⟨g + 1, best, by omega, rfl, rfl, rfl, rfl, qCu_stay hC c⟩
    have ez : (nI g &&& nI (2 ^ a ||| 2 ^ b) = (0 : Int32)) = (g.testBit a = false ∧ g.testBit b = false) := by
      rw [q_and, q_nz (Nat.lt_of_le_of_lt Nat.and_le_left (by omega))]
      refine propext ⟨fun z => ?_, fun z => ?_⟩
      · have t : ∀ i, (g &&& (2 ^ a ||| 2 ^ b)).testBit i = false := fun i => by rw [z]; exact Nat.zero_testBit i
        have ta := t a
        have tb := t b
        rw [Nat.testBit_and, Nat.testBit_or, Nat.testBit_two_pow, Nat.testBit_two_pow] at ta tb
        simp at ta tb
        exact ⟨ta, tb⟩
      · refine Nat.eq_of_testBit_eq (fun i => ?_)
        rw [Nat.testBit_and, Nat.testBit_or, Nat.testBit_two_pow, Nat.testBit_two_pow, Nat.zero_testBit]
        by_cases ea : a = i
        · subst ea; rw [z.1]; rfl
        · by_cases eb : b = i
          · subst eb; rw [z.2]; rfl
          · rw [decide_eq_false ea, decide_eq_false eb]; simp
    rw [ez]
    refine ⟨fun cz => q_bitCount hg12 ?_, fun cz => stay (fun z => absurd ⟨z.1, z.2.1⟩ cz)⟩
    refine ⟨fun c => stay (fun _ => (q_leN (by omega) (by omega)).mp c), fun c => ?_⟩
    have c' : ¬ best ≤ qpop g := fun z => c ((q_leN (by omega) (by omega)).mpr z)
    refine a1_reach R W ha (fun v hv12 hv => ?_)
    rw [q_bit0 (Nat.lt_of_lt_of_le hv12 (by decide)) (by omega)]
    refine ⟨fun cv => q_bitCount hg12 ?_, fun cv => stay (fun z => ?_)⟩
    · refine hK (q - 1) _ _ _ _ (by omega) ⟨g + 1, qpop g, by omega, rfl, rfl, rfl, rfl, qCu_take hC ⟨cz.1, cz.2, fun z => ?_⟩ (by omega)⟩
      rw [(hv b).mpr ⟨hb, Ne.symm hab, z⟩] at cv; cases cv
    · exfalso
      cases c2 : v.testBit b
      · exact cv c2
      · exact z.2.2 ((hv b).mp c2).2.2
end QCUT
