/-! calls about pairs of ways: together, halves */ -/
section QPAIR2
variable {x r y k m : zS} {ρ : (Nat → Nat) × (Nat → Nat → Nat)}
theorem q_and_z {u v : Nat} (hu : u < 2 ^ 12) : (nI u &&& nI v = (0 : Int32)) = (u &&& v = 0) := by
  rw [q_and, q_nz (Nat.lt_of_le_of_lt Nat.and_le_left (Nat.lt_of_lt_of_le hu (by decide)))]
theorem s_together {y2 : zS} (R : qRm r ρ) (M : qMR m ρ) (W : qW ρ) (a b c d s : Int32) {post : Int32 → zS → zS → zS → zS → Int32 → zS → Prop}
    (h : ∀ v y' y2' k' m', qFr 35 50 m m' → post v x y' y2' k' v m')
    (hr : ∀ v j, j < 5 → ∀ y' y2' k' m', qFr 35 50 m m' → post v (zA x 12 j (x.2.1 12 j + 1)) y' y2' k' v (zA m' 8 (j + 2) (m'.2.1 8 (j + 2) + 1))) :
    wp_X7_together x r y y2 k a b c d s (fun v x' y' y2' k' => wp_X8_together m a b c d s (fun v' m' => post v x' y' y2' k' v' m')) := by
  have hc := R.1.2.2
  simp only [wp_X7_together, wp_X8_together, wp_X7_together_27, wp_X8_together_32, e7_isPair R.1, e8_areTwo M, e7_isSecond, e8_inI (lo := 0) (hi := 9999) (a := 0) (b := 9999) rfl rfl, e7_r2, e8_r2]
  cases h1 : qP2 ρ a b
  · simp only [q_f]; exact hr _ 0 (by decide) y y2 k m qFr_rf
  cases h2 : qP2 ρ c d
  · simp only [q_t, q_f]; exact hr _ 0 (by decide) y y2 k m qFr_rf
  cases h3 : qI 0 9999 s
  · simp only [q_t, q_f]; exact hr _ 0 (by decide) y y2 k m qFr_rf
  simp only [q_t]
  obtain ⟨a, b, ha, hb, hab, rfl, rfl⟩ := qP2_t h1
  obtain ⟨c, d, hc', hd, hcd, rfl, rfl⟩ := qP2_t h2
  have hB := q_many W ha hb hab
  have hB2 := q_many W hc' hd hcd
  have G := qAll_go (b := b) ha hab
  have G2 := qAll_go (b := d) hc' hcd
  refine a6_find R ha hb hB (fun y' Y => a6_find R hc' hd hB2 (fun y2' Y2 => a5_rate R W Y G s (fun k' ya Ya hca => a5_rate R W Y2 G2 s (fun k'' yb Yb hcb => ?_))))
  -- the reference up to its loops
  have m8 : ∀ (P : Int32 → zS → Prop), (∀ m', qFr 35 50 m m' → qF m' ρ d s (qAll ρ c d) → (∀ i, i < (qAll ρ a b).length → m'.2.1 48 i = nI (qmk ((qAll ρ a b).getD i [])) ∧ m'.2.1 49 i = nI (qch ρ b s ((qAll ρ a b).getD i []))) → P (nI (qAll ρ a b).length) m') →
      wp_X8_findWays m (nI a) (nI b) s 0 (fun s10 => ∀ v11 : Int32, v11 = s10.1 38 → wp_X8_copied 1000 (s10.2.1 46) 1000 (s10.2.1 48) (fun s13 => wp_X8_copied 1000 ((zG s10 48 s13).2.1 47) 1000 ((zG s10 48 s13).2.1 49) (fun s15 => wp_X8_findWays (zG (zG s10 48 s13) 49 s15) (nI c) (nI d) s 0 (P v11)))) := by
    intro P hP
    refine a8_find (o := 0) M W ha hb hB s (by decide) (fun m1 F f v11 hv11 => ?_)
    rw [q_filt0] at F
    rw [F.1] at hv11
    subst hv11
    refine a8_copied (Nat.le_refl _) (by decide) (fun g1 hg1 _ => a8_copied (Nat.le_refl _) (by decide) (fun g2 hg2 _ => ?_))
    have f2 : qFr 35 50 m (zG (zG m1 48 g1) 49 g2) := qFr_G (k := 49) (qFr_G (k := 48) (qFr_wk f (by decide) (by decide)) (by decide) _) (by decide) _
    refine a8_find (o := 0) (qMR_fr M f2 (Or.inr (by decide))) W hc' hd hB2 s (by decide) (fun m2 F2 f3 => ?_)
    rw [q_filt0] at F2
    refine hP m2 (qFr_tr f2 (qFr_wk f3 (by decide) (by decide))) F2 (fun i hi => ?_)
    rw [(f3 48 (by decide)).2.1, (f3 49 (by decide)).2.1]
    have e1 : (zG (zG m1 48 g1) 49 g2).2.1 48 i = g1 i := rfl
    have e2 : (zG (zG m1 48 g1) 49 g2).2.1 49 i = g2 i := rfl
    rw [e1, e2, hg1 i (by omega), hg2 i (by omega)]
    exact F.2.1 i hi
  generalize hL1 : qAll ρ a b = L1 at *
  generalize hL2 : qAll ρ c d = L2 at *
  have l1 : ∀ i, i < L1.length → qmk (L1.getD i []) < 2 ^ 12 := fun i hi => qmk_lt (fun q hq => by have := (G _ (q_getD_mem L1 hi)).1.2.2.2 q hq; omega)
  have l2 : ∀ i, i < L2.length → qmk (L2.getD i []) < 2 ^ 12 := fun i hi => qmk_lt (fun q hq => by have := (G2 _ (q_getD_mem L2 hi)).1.2.2.2 q hq; omega)
  have ch1 : ∀ i, qch ρ b s (L1.getD i []) ≤ 1000000 := fun i => qch_le _ _ _
  have ch2 : ∀ i, qch ρ d s (L2.getD i []) ≤ 1000000 := fun i => qch_le _ _ _
  let ok : Nat → Nat → Prop := fun i j => qmk (L1.getD i []) &&& qmk (L2.getD j []) = 0
  let val : Nat → Nat → Nat := fun i j => qch ρ b s (L1.getD i []) * qch ρ d s (L2.getD j []) / 1000000
  have vle : ∀ i j, val i j ≤ 1000000 := fun i j => q_both_le (ch1 i) (ch2 j)
  -- the reference's loops
  have m8' : ∀ (t : Int32), qMx (fun i j => i < L1.length ∧ j < L2.length) ok val t → ∀ (P : Int32 → zS → Prop), (∀ m', qFr 35 50 m m' → (t = -1 → P (-5) (zA m' 8 5 (m'.2.1 8 5 + 1))) ∧ (¬ t = -1 → P t m')) → ∀ m', qFr 35 50 m m' → qF m' ρ d s L2 → (∀ i, i < L1.length → m'.2.1 48 i = nI (qmk (L1.getD i [])) ∧ m'.2.1 49 i = nI (qch ρ b s (L1.getD i []))) → ∃ n, wp_X8_together_92 (nI a) (nI b) (nI c) (nI d) s P n m' (nI L1.length) (-1) 0 := by
    intro t hx P hP m' f F o
    refine q_lp4 (B := wb_X8_together_92 (nI a) (nI b) (nI c) (nI d) s P) (fun q m'' x6 x7 x8 => ∃ i, i + q = L1.length ∧ m' = m'' ∧ x6 = nI L1.length ∧ x8 = nI i ∧ qMx (fun i' j' => i' < i ∧ j' < L2.length) ok val x7) ?_ L1.length _ _ _ _ ⟨0, by omega, rfl, rfl, rfl, qMx_0 (fun i j z => absurd z.1 (Nat.not_lt_zero i))⟩
    rintro q _ _ x7 _ ⟨i, hi, rfl, rfl, rfl, hI⟩ K hK
    unfold wb_X8_together_92
    rw [e8_r5]
    by_cases e : nI L1.length ≤ nI i
    · have := (q_leN (by omega) (by omega)).mp e
      have : i = L1.length := by omega
      subst this
      rw [q_pos e, ← qMx_uniq hx hI]
      exact hP m' f
    · have e' : ¬ L1.length ≤ i := fun z => e ((q_leN (by omega) (by omega)).mpr z)
      have hil : i < L1.length := by omega
      rw [q_neg e]
      refine q_lp5 (B := wb_X8_together_102 (nI a) (nI b) (nI c) (nI d) s P K) (fun q2 m'' x6 x7 x8 x9 => ∃ j, j + q2 = L2.length ∧ m' = m'' ∧ x6 = nI L1.length ∧ x8 = nI i ∧ x9 = nI j ∧ qMx (fun i' j' => (i' < i ∧ j' < L2.length) ∨ (i' = i ∧ j' < j)) ok val x7) ?_ L2.length _ _ _ _ _ ⟨0, by omega, rfl, rfl, rfl, rfl, qMx_congr hI (fun i' j' => by omega) (fun _ _ _ => Iff.rfl) (fun _ _ _ => rfl)⟩
      rintro q2 _ _ x7' _ _ ⟨j, hj, rfl, rfl, rfl, rfl, hI2⟩ K2 hK2
      unfold wb_X8_together_102 wp_X8_together_160 wp_X8_together_162
      rw [F.1]
      by_cases e2 : nI L2.length ≤ nI j
      · have := (q_leN (by omega) (by omega)).mp e2
        have : j = L2.length := by omega
        subst this
        rw [q_pos e2, q_all, q_succ]
        exact hK (q - 1) _ _ _ _ (by omega) ⟨i + 1, by omega, rfl, rfl, rfl, qMx_congr hI2 (fun i' j' => by omega) (fun _ _ _ => Iff.rfl) (fun _ _ _ => rfl)⟩
      · have e2' : ¬ L2.length ≤ j := fun z => e2 ((q_leN (by omega) (by omega)).mpr z)
        have hjl : j < L2.length := by omega
        have vi : vp_in (nI i) 1000 := q_in (by omega) (by omega)
        have vj : vp_in (nI j) 1000 := q_in (by omega) (by omega)
        rw [q_neg e2]
        simp only [vi, vj, true_and, q_clamp (n := i) (by omega), q_clamp (n := j) (by omega), (o i hil).1, (o i hil).2, (F.2.1 j hjl).1, (F.2.1 j hjl).2, e8_both (ch1 i) (ch2 j), q_and_z (l1 i hil), forall_eq, q_succ]
        have nx : ∀ t', qMx (fun i' j' => (i' < i ∧ j' < L2.length) ∨ (i' = i ∧ j' < j + 1)) ok val t' → K2 m' (nI L1.length) t' (nI i) (nI (j + 1)) := fun t' ht' => hK2 (q2 - 1) _ _ _ _ _ (by omega) ⟨j + 1, by omega, rfl, rfl, rfl, rfl, ht'⟩
        have hS : ∀ i' j', ((i' < i ∧ j' < L2.length) ∨ (i' = i ∧ j' < j + 1)) ↔ (((i' < i ∧ j' < L2.length) ∨ (i' = i ∧ j' < j)) ∨ (i' = i ∧ j' = j)) := fun i' j' => by omega
        refine ⟨fun z => ?_, fun z => nx _ (qMx_no hI2 hS z)⟩
        have := qMx_yes hI2 hS z (vle i j)
        by_cases g : nI (val i j) ≤ x7'
        · have g' : ¬ x7' < nI (val i j) := by rw [q_ltI]; rw [q_leI] at g; omega
          rw [if_neg g'] at this
          rw [q_pos g]; exact nx _ this
        · have g' : x7' < nI (val i j) := by rw [q_ltI]; rw [q_leI] at g; omega
          rw [if_pos g'] at this
          rw [q_neg g]; exact nx _ this
  -- the class's loops
  refine q_lp6 (B := wb_X7_together_101 r (nI a) (nI b) (nI c) (nI d) s _) (fun q x' y1 y2'' k1 x6 x7 => ∃ i, i + q = L1.length ∧ x = x' ∧ ya = y1 ∧ yb = y2'' ∧ k'' = k1 ∧ x7 = nI i ∧ qMx (fun i' j' => i' < i ∧ j' < L2.length) ok val x6) ?_ L1.length _ _ _ _ _ _ ⟨0, by omega, rfl, rfl, rfl, rfl, rfl, qMx_0 (fun i j z => absurd z.1 (Nat.not_lt_zero i))⟩
  rintro q _ _ _ _ x6 _ ⟨i, hi, rfl, rfl, rfl, rfl, rfl, hI⟩ K hK
  unfold wb_X7_together_101
  rw [Ya.1, e7_r5]
  by_cases e : nI L1.length ≤ nI i
  · have := (q_leN (by omega) (by omega)).mp e
    have : i = L1.length := by omega
    subst this
    rw [q_pos e]
    have fin : ∀ (v : Int32) (x' : zS), (∀ m', qFr 35 50 m m' → (x6 = -1 → post v x' ya yb k'' (-5) (zA m' 8 5 (m'.2.1 8 5 + 1))) ∧ (¬ x6 = -1 → post v x' ya yb k'' x6 m')) → wp_X8_findWays m (nI a) (nI b) s 0 (fun s10 => ∀ v11 : Int32, v11 = s10.1 38 → wp_X8_copied 1000 (s10.2.1 46) 1000 (s10.2.1 48) (fun s13 => wp_X8_copied 1000 ((zG s10 48 s13).2.1 47) 1000 ((zG s10 48 s13).2.1 49) (fun s15 => wp_X8_findWays (zG (zG s10 48 s13) 49 s15) (nI c) (nI d) s 0 (fun s17 => ∃ n, wp_X8_together_92 (nI a) (nI b) (nI c) (nI d) s (fun v' m' => post v x' ya yb k'' v' m') n s17 v11 (-1) 0)))) := by
      intro v x' hv
      exact m8 (fun v11 s17 => ∃ n, wp_X8_together_92 (nI a) (nI b) (nI c) (nI d) s (fun v' m' => post v x' ya yb k'' v' m') n s17 v11 (-1) 0) (fun m' f F o => m8' x6 hI _ hv m' f F o)
    refine ⟨fun z => fin _ _ (fun m' f => ⟨fun _ => hr _ 3 (by decide) _ _ _ _ f, fun z' => absurd z z'⟩), fun z => fin _ _ (fun m' f => ⟨fun z' => absurd z' z, fun _ => h _ _ _ _ _ f⟩)⟩
  · have e' : ¬ L1.length ≤ i := fun z => e ((q_leN (by omega) (by omega)).mpr z)
    have hil : i < L1.length := by omega
    rw [q_neg e]
    refine q_lp7 (B := wb_X7_together_116 r (nI a) (nI b) (nI c) (nI d) s _ K) (fun q2 x' y1 y2'' k1 x6 x7 x8 => ∃ j, j + q2 = L2.length ∧ x = x' ∧ ya = y1 ∧ yb = y2'' ∧ k'' = k1 ∧ x7 = nI i ∧ x8 = nI j ∧ qMx (fun i' j' => (i' < i ∧ j' < L2.length) ∨ (i' = i ∧ j' < j)) ok val x6) ?_ L2.length _ _ _ _ _ _ _ ⟨0, by omega, rfl, rfl, rfl, rfl, rfl, rfl, qMx_congr hI (fun i' j' => by omega) (fun _ _ _ => Iff.rfl) (fun _ _ _ => rfl)⟩
    rintro q2 _ _ _ _ x6' _ _ ⟨j, hj, rfl, rfl, rfl, rfl, rfl, rfl, hI2⟩ K2 hK2
    unfold wb_X7_together_116 wp_X7_together_178
    rw [Yb.1]
    by_cases e2 : nI L2.length ≤ nI j
    · have := (q_leN (by omega) (by omega)).mp e2
      have : j = L2.length := by omega
      subst this
      rw [q_pos e2, q_all, q_succ]
      exact hK (q - 1) _ _ _ _ _ _ (by omega) ⟨i + 1, by omega, rfl, rfl, rfl, rfl, rfl, qMx_congr hI2 (fun i' j' => by omega) (fun _ _ _ => Iff.rfl) (fun _ _ _ => rfl)⟩
    · have e2' : ¬ L2.length ≤ j := fun z => e2 ((q_leN (by omega) (by omega)).mpr z)
      have hjl : j < L2.length := by omega
      rw [q_neg e2]
      refine a6_all Ya hil (fun q hq => by have := (G _ (q_getD_mem L1 hil)).1.2.2.2 q hq; omega) (a6_all Yb hjl (fun q hq => by have := (G2 _ (q_getD_mem L2 hjl)).1.2.2.2 q hq; omega) ?_)
      rw [q_and_z (l1 i hil), e6_chance Ya hil, e6_chance Yb hjl, hca i hil, hcb j hjl, e7_both (ch1 i) (ch2 j)]
      simp only [forall_eq, q_succ]
      have nx : ∀ t', qMx (fun i' j' => (i' < i ∧ j' < L2.length) ∨ (i' = i ∧ j' < j + 1)) ok val t' → K2 x ya yb k'' t' (nI i) (nI (j + 1)) := fun t' ht' => hK2 (q2 - 1) _ _ _ _ _ _ _ (by omega) ⟨j + 1, by omega, rfl, rfl, rfl, rfl, rfl, rfl, ht'⟩
      have hS : ∀ i' j', ((i' < i ∧ j' < L2.length) ∨ (i' = i ∧ j' < j + 1)) ↔ (((i' < i ∧ j' < L2.length) ∨ (i' = i ∧ j' < j)) ∨ (i' = i ∧ j' = j)) := fun i' j' => by omega
      exact ⟨fun z => nx _ (qMx_yes hI2 hS z (vle i j)), fun z => nx _ (qMx_no hI2 hS z)⟩
theorem qcl_z {a b u v : Nat} (ha : a < 12) (hb : b < 12) (hu : u < 2 ^ 12) (ua : u.testBit a = true) (ub : u.testBit b = true) (va : v.testBit a = true) (vb : v.testBit b = true) : (qcl a b u &&& qcl a b v = 0) = (u &&& v = 2 ^ a ||| 2 ^ b) := by
  refine propext ⟨fun z => ?_, fun z => ?_⟩
  · refine Nat.eq_of_testBit_eq (fun i => ?_)
    rw [Nat.testBit_and, Nat.testBit_or, Nat.testBit_two_pow, Nat.testBit_two_pow]
    by_cases ea : a = i
    · subst ea; rw [ua, va]; simp
    · by_cases eb : b = i
      · subst eb; rw [ub, vb]; simp
      · rw [decide_eq_false ea, decide_eq_false eb]
        by_cases hi : i < 32
        · rw [qcl_and] at z
          have := congrArg (fun t => t.testBit i) z
          simp only [Nat.zero_testBit] at this
          rw [qcl_bit hi, Nat.testBit_and] at this
          have ea' : ¬ i = a := fun z => ea z.symm
          have eb' : ¬ i = b := fun z => eb z.symm
          simpa [ea', eb'] using this
        · have : u.testBit i = false := Nat.testBit_lt_two_pow (Nat.lt_of_lt_of_le hu (Nat.pow_le_pow_right (by decide) (by omega)))
          rw [this]; rfl
  · rw [qcl_and, z]
    refine Nat.eq_of_testBit_eq (fun i => ?_)
    rw [Nat.zero_testBit]
    by_cases hi : i < 32
    · rw [qcl_bit hi, Nat.testBit_or, Nat.testBit_two_pow, Nat.testBit_two_pow]
      by_cases ea : i = a
      · subst ea; simp
      · by_cases eb : i = b
        · subst eb; simp
        · have ea' : ¬ a = i := fun z => ea z.symm
          have eb' : ¬ b = i := fun z => eb z.symm
          simp [ea', eb']
    · unfold qcl
      rw [Nat.testBit_and, Nat.testBit_or, Nat.testBit_two_pow, Nat.testBit_two_pow, decide_eq_false (by omega), decide_eq_false (by omega)]; rfl
theorem s_halves (R : qRm r ρ) (M : qMR m ρ) (W : qW ρ) (a b s : Int32) {post : Int32 → zS → zS → zS → Int32 → zS → Prop}
    (h : ∀ v y' k' m', qFr 35 50 m m' → post v x y' k' v m')
    (hr : ∀ v j, j < 5 → ∀ y' k' m', qFr 35 50 m m' → post v (zA x 12 j (x.2.1 12 j + 1)) y' k' v (zA m' 8 (j + 2) (m'.2.1 8 (j + 2) + 1))) :
    wp_X7_halves x r y k a b s (fun v x' y' k' => wp_X8_halves m a b s (fun v' m' => post v x' y' k' v' m')) := by
  have hc := R.1.2.2
  simp only [wp_X7_halves, wp_X8_halves, wp_X7_halves_16, wp_X8_halves_21, e7_isPair R.1, e8_areTwo M, e7_isSecond, e8_inI (lo := 0) (hi := 9999) (a := 0) (b := 9999) rfl rfl, e7_r2, e8_r2]
  cases h1 : qP2 ρ a b
  · simp only [q_f]; exact hr _ 0 (by decide) y k m qFr_rf
  cases h3 : qI 0 9999 s
  · simp only [q_t, q_f]; exact hr _ 0 (by decide) y k m qFr_rf
  simp only [q_t]
  obtain ⟨a, b, ha, hb, hab, rfl, rfl⟩ := qP2_t h1
  have hB := q_many W ha hb hab
  have G := qAll_go (b := b) ha hab
  refine a6_find R ha hb hB (fun y' Y => a5_rate R W Y G s (fun k' ya Ya hca => ?_))
  have m8 : ∀ (P : Int32 → zS → Prop), (∀ m', qFr 35 50 m m' → qF m' ρ b s (qAll ρ a b) → P (nI (2 ^ a ||| 2 ^ b)) m') → wp_X8_findWays m (nI a) (nI b) s 0 (fun s8 => ∀ v9 : Int32, v9 = (((1 : Int32) <<< (nI a &&& 31)) ||| ((1 : Int32) <<< (nI b &&& 31))) → P v9 s8) := by
    intro P hP
    refine a8_find (o := 0) M W ha hb hB s (by decide) (fun m1 F f v9 hv9 => ?_)
    rw [q_filt0] at F
    rw [q_shl1 a (by omega), q_shl1 b (by omega), q_or] at hv9
    rw [hv9]
    exact hP m1 (qFr_wk f (by decide) (by decide)) F
  generalize hL1 : qAll ρ a b = L1 at *
  have l1 : ∀ i, i < L1.length → qmk (L1.getD i []) < 2 ^ 12 := fun i hi => qmk_lt (fun q hq => by have := (G _ (q_getD_mem L1 hi)).1.2.2.2 q hq; omega)
  have ch1 : ∀ i, qch ρ b s (L1.getD i []) ≤ 1000000 := fun i => qch_le _ _ _
  have ends : ∀ i, i < L1.length → (qmk (L1.getD i [])).testBit a = true ∧ (qmk (L1.getD i [])).testBit b = true := fun i hi => by
    obtain ⟨mid, em, -⟩ := q_mid G hi
    rw [em, qmk_bit, qmk_bit]
    exact ⟨decide_eq_true (List.mem_cons_of_mem _ (List.mem_append_right _ (List.mem_singleton.mpr rfl))), decide_eq_true List.mem_cons_self⟩
  have bet : ∀ j, j < L1.length → ∀ P : Int32 → Prop, P (nI (qcl a b (qmk (L1.getD j [])))) → wp_X6_betweenOf ya (nI j) P := by
    intro j hjl P hP
    obtain ⟨mid, em, hn, hrr, hq⟩ := q_mid G hjl
    refine a6_between Ya hjl em (fun q hq => by have := hrr q hq; omega) ?_
    obtain ⟨⟨g1, g2, g3, g4⟩, -⟩ := G _ (q_getD_mem L1 hjl)
    rw [em] at g2 g4 hP
    rw [qcl_mid g2 (fun q hq => by have := g4 q hq; omega)]; exact hP
  have ends12 : 2 ^ a ||| 2 ^ b < 2 ^ 12 := Nat.or_lt_two_pow (Nat.pow_lt_pow_right (by decide) (by omega)) (Nat.pow_lt_pow_right (by decide) (by omega))
  let ok : Nat → Nat → Prop := fun i j => qmk (L1.getD i []) &&& qmk (L1.getD j []) = 2 ^ a ||| 2 ^ b
  let val : Nat → Nat → Nat := fun i j => qch ρ b s (L1.getD i []) * qch ρ b s (L1.getD j []) / 1000000
  have vle : ∀ i j, val i j ≤ 1000000 := fun i j => q_both_le (ch1 i) (ch1 j)
  have vcomm : ∀ i j, val i j = val j i := fun i j => by show _ * _ / _ = _ * _ / _; rw [Nat.mul_comm]
  have ocomm : ∀ i j, ok i j = ok j i := fun i j => by show (_ &&& _ = _) = (_ &&& _ = _); rw [Nat.and_comm]
  -- the reference's loops: i from 0 on, j below i
  have m8' : ∀ (t : Int32), qMx (fun i j => i < j ∧ j < L1.length) ok val t → ∀ (P : Int32 → zS → Prop), (∀ m', qFr 35 50 m m' → (t = -1 → P (-5) (zA m' 8 5 (m'.2.1 8 5 + 1))) ∧ (¬ t = -1 → P t m')) → ∀ m', qFr 35 50 m m' → qF m' ρ b s L1 → ∃ n, wp_X8_halves_51 (nI a) (nI b) s P n m' (nI (2 ^ a ||| 2 ^ b)) (-1) 0 := by
    intro t hx P hP m' f F
    refine q_lp4 (B := wb_X8_halves_51 (nI a) (nI b) s P) (fun q m'' x4 x5 x6 => ∃ i, i + q = L1.length ∧ m' = m'' ∧ x4 = nI (2 ^ a ||| 2 ^ b) ∧ x6 = nI i ∧ qMx (fun j' i' => j' < i' ∧ i' < i) ok val x5) ?_ L1.length _ _ _ _ ⟨0, by omega, rfl, rfl, rfl, qMx_0 (fun i j z => absurd z.2 (Nat.not_lt_zero j))⟩
    rintro q _ _ x5 _ ⟨i, hi, rfl, rfl, rfl, hI⟩ K hK
    unfold wb_X8_halves_51
    rw [e8_r5, F.1]
    by_cases e : nI L1.length ≤ nI i
    · have := (q_leN (by omega) (by omega)).mp e
      have : i = L1.length := by omega
      subst this
      rw [q_pos e, ← qMx_uniq hx hI]
      exact hP m' f
    · have e' : ¬ L1.length ≤ i := fun z => e ((q_leN (by omega) (by omega)).mpr z)
      have hil : i < L1.length := by omega
      rw [q_neg e]
      refine q_lp5 (B := wb_X8_halves_63 (nI a) (nI b) s P K) (fun q2 m'' x4 x5 x6 x7 => ∃ j, j + q2 = i ∧ m' = m'' ∧ x4 = nI (2 ^ a ||| 2 ^ b) ∧ x6 = nI i ∧ x7 = nI j ∧ qMx (fun j' i' => (j' < i' ∧ i' < i) ∨ (i' = i ∧ j' < j)) ok val x5) ?_ i _ _ _ _ _ ⟨0, by omega, rfl, rfl, rfl, rfl, qMx_congr hI (fun i' j' => by omega) (fun _ _ _ => Iff.rfl) (fun _ _ _ => rfl)⟩
      rintro q2 _ _ x5' _ _ ⟨j, hj, rfl, rfl, rfl, rfl, hI2⟩ K2 hK2
      unfold wb_X8_halves_63 wp_X8_halves_121 wp_X8_halves_123
      by_cases e2 : nI i ≤ nI j
      · have := (q_leN (by omega) (by omega)).mp e2
        have : j = i := by omega
        subst this
        rw [q_pos e2, q_all, q_succ]
        exact hK (q - 1) _ _ _ _ (by omega) ⟨j + 1, by omega, rfl, rfl, rfl, qMx_congr hI2 (fun i' j' => by omega) (fun _ _ _ => Iff.rfl) (fun _ _ _ => rfl)⟩
      · have e2' : ¬ i ≤ j := fun z => e2 ((q_leN (by omega) (by omega)).mpr z)
        have hjl : j < L1.length := by omega
        have vi : vp_in (nI i) 1000 := q_in (by omega) (by omega)
        have vj : vp_in (nI j) 1000 := q_in (by omega) (by omega)
        have oke : (nI (qmk (L1.getD i [])) &&& nI (qmk (L1.getD j [])) = nI (2 ^ a ||| 2 ^ b)) = ok j i := by
          rw [ocomm, q_and, nI_eq (Nat.lt_of_le_of_lt Nat.and_le_left (Nat.lt_of_lt_of_le (l1 i hil) (by decide))) (Nat.lt_of_lt_of_le ends12 (by decide))]
        rw [q_neg e2]
        simp only [vi, vj, true_and, q_clamp (n := i) (by omega), q_clamp (n := j) (by omega), (F.2.1 i hil).1, (F.2.1 i hil).2, (F.2.1 j hjl).1, (F.2.1 j hjl).2, e8_both (ch1 i) (ch1 j), oke, forall_eq, q_succ]
        have nx : ∀ t', qMx (fun j' i' => (j' < i' ∧ i' < i) ∨ (i' = i ∧ j' < j + 1)) ok val t' → K2 m' (nI (2 ^ a ||| 2 ^ b)) t' (nI i) (nI (j + 1)) := fun t' ht' => hK2 (q2 - 1) _ _ _ _ _ (by omega) ⟨j + 1, by omega, rfl, rfl, rfl, rfl, ht'⟩
        have hS : ∀ j' i', ((j' < i' ∧ i' < i) ∨ (i' = i ∧ j' < j + 1)) ↔ (((j' < i' ∧ i' < i) ∨ (i' = i ∧ j' < j)) ∨ (j' = j ∧ i' = i)) := fun j' i' => by omega
        refine ⟨fun z => ?_, fun z => nx _ (qMx_no hI2 hS z)⟩
        have := qMx_yes hI2 hS z (vle j i)
        rw [vcomm j i] at this
        by_cases g : nI (val i j) ≤ x5'
        · have g' : ¬ x5' < nI (val i j) := by rw [q_ltI]; rw [q_leI] at g; omega
          rw [if_neg g'] at this
          rw [q_pos g]; exact nx _ this
        · have g' : x5' < nI (val i j) := by rw [q_ltI]; rw [q_leI] at g; omega
          rw [if_pos g'] at this
          rw [q_neg g]; exact nx _ this
  refine q_lp5 (B := wb_X7_halves_58 r (nI a) (nI b) s _) (fun q x' y1 k1 x4 x5 => ∃ i, i + q = L1.length ∧ x = x' ∧ ya = y1 ∧ k' = k1 ∧ x5 = nI i ∧ qMx (fun i' j' => i' < i ∧ i' < j' ∧ j' < L1.length) ok val x4) ?_ L1.length _ _ _ _ _ ⟨0, by omega, rfl, rfl, rfl, rfl, qMx_0 (fun i j z => absurd z.1 (Nat.not_lt_zero i))⟩
  rintro q _ _ _ x4 _ ⟨i, hi, rfl, rfl, rfl, rfl, hI⟩ K hK
  unfold wb_X7_halves_58
  rw [Ya.1, e7_r5]
  by_cases e : nI L1.length ≤ nI i
  · have := (q_leN (by omega) (by omega)).mp e
    have : i = L1.length := by omega
    subst this
    have hI' : qMx (fun i j => i < j ∧ j < L1.length) ok val x4 := qMx_congr hI (fun i' j' => by omega) (fun _ _ _ => Iff.rfl) (fun _ _ _ => rfl)
    rw [q_pos e]
    refine ⟨fun z => m8 _ (fun m' f F => m8' x4 hI' _ (fun m' f => ⟨fun _ => hr _ 3 (by decide) _ _ _ f, fun z' => absurd z z'⟩) m' f F), fun z => m8 _ (fun m' f F => m8' x4 hI' _ (fun m' f => ⟨fun z' => absurd z' z, fun _ => h _ _ _ _ f⟩) m' f F)⟩
  · have e' : ¬ L1.length ≤ i := fun z => e ((q_leN (by omega) (by omega)).mpr z)
    have hil : i < L1.length := by omega
    rw [q_neg e, q_all, q_succ]
    refine q_lp6 (B := wb_X7_halves_76 r (nI a) (nI b) s _ K) (fun q2 x' y1 k1 x4 x5 x6 => ∃ j, j + q2 = L1.length ∧ i < j ∧ x = x' ∧ ya = y1 ∧ k' = k1 ∧ x5 = nI i ∧ x6 = nI j ∧ qMx (fun i' j' => (i' < i ∧ i' < j' ∧ j' < L1.length) ∨ (i' = i ∧ i < j' ∧ j' < j)) ok val x4) ?_ (L1.length - (i + 1)) _ _ _ _ _ _ ⟨i + 1, by omega, by omega, rfl, rfl, rfl, rfl, rfl, qMx_congr hI (fun i' j' => by omega) (fun _ _ _ => Iff.rfl) (fun _ _ _ => rfl)⟩
    rintro q2 _ _ _ x4' _ _ ⟨j, hj, hij, rfl, rfl, rfl, rfl, rfl, hI2⟩ K2 hK2
    unfold wb_X7_halves_76 wp_X7_halves_138
    rw [Ya.1]
    by_cases e2 : nI L1.length ≤ nI j
    · have := (q_leN (by omega) (by omega)).mp e2
      have : j = L1.length := by omega
      subst this
      rw [q_pos e2, q_all, q_succ]
      exact hK (q - 1) _ _ _ _ _ (by omega) ⟨i + 1, by omega, rfl, rfl, rfl, rfl, qMx_congr hI2 (fun i' j' => by omega) (fun _ _ _ => Iff.rfl) (fun _ _ _ => rfl)⟩
    · have e2' : ¬ L1.length ≤ j := fun z => e2 ((q_leN (by omega) (by omega)).mpr z)
      have hjl : j < L1.length := by omega
      rw [q_neg e2]
      refine bet i hil _ (bet j hjl _ ?_)
      have lz : qcl a b (qmk (L1.getD i [])) < 2 ^ 12 := Nat.lt_of_le_of_lt Nat.and_le_left (l1 i hil)
      have oke : (qcl a b (qmk (L1.getD i [])) &&& qcl a b (qmk (L1.getD j [])) = 0) = ok i j := qcl_z (by omega) (by omega) (l1 i hil) (ends i hil).1 (ends i hil).2 (ends j hjl).1 (ends j hjl).2
      rw [q_and_z lz, oke, e6_chance Ya hil, e6_chance Ya hjl, hca i hil, hca j hjl, e7_both (ch1 i) (ch1 j)]
      simp only [forall_eq, q_succ]
      have nx : ∀ t', qMx (fun i' j' => (i' < i ∧ i' < j' ∧ j' < L1.length) ∨ (i' = i ∧ i < j' ∧ j' < j + 1)) ok val t' → K2 x ya k' t' (nI i) (nI (j + 1)) := fun t' ht' => hK2 (q2 - 1) _ _ _ _ _ _ (by omega) ⟨j + 1, by omega, by omega, rfl, rfl, rfl, rfl, rfl, ht'⟩
      have hS : ∀ i' j', ((i' < i ∧ i' < j' ∧ j' < L1.length) ∨ (i' = i ∧ i < j' ∧ j' < j + 1)) ↔ (((i' < i ∧ i' < j' ∧ j' < L1.length) ∨ (i' = i ∧ i < j' ∧ j' < j)) ∨ (i' = i ∧ j' = j)) := fun i' j' => by omega
      exact ⟨fun z => nx _ (qMx_yes hI2 hS z (vle i j)), fun z => nx _ (qMx_no hI2 hS z)⟩
end QPAIR2
