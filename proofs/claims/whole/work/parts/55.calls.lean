/-! calls about ways: ways, fewest, surest, unread, unseen, readers, must */ -/
section QCALLS
variable {x r y k m : zS} {ρ : (Nat → Nat) × (Nat → Nat → Nat)}
theorem q_filt0 {b : Nat} {s : Int32} (L : List (List Nat)) : L.filter (qwt ρ b s 0) = L := by
  rw [List.filter_eq_self]
  intro w _
  rfl
theorem qY_len0 {L : List (List Nat)} (Y : qY y L) : (y.1 0 = 0) = (L = []) := by
  have := Y.2.1
  rw [Y.1, q_nz (by omega)]
  exact propext ⟨fun h => List.eq_nil_of_length_eq_zero h, fun h => by rw [h]; rfl⟩
theorem qF_len0 {b : Nat} {s : Int32} {L : List (List Nat)} (F : qF m ρ b s L) (hL : L.length < 1000) : (m.1 38 = 0) = (L = []) := by
  rw [F.1, q_nz (by omega)]
  exact propext ⟨fun h => List.eq_nil_of_length_eq_zero h, fun h => by rw [h]; rfl⟩
theorem s_ways (R : qRm r ρ) (M : qMR m ρ) (W : qW ρ) (a b : Int32) {post : Int32 → zS → zS → Int32 → zS → Prop}
    (h : ∀ v y' m', qFr 35 50 m m' → post v x y' v m')
    (hr : ∀ v k, k < 5 → ∀ y' m', qFr 35 50 m m' → post v (zA x 12 k (x.2.1 12 k + 1)) y' v (zA m' 8 (k + 2) (m'.2.1 8 (k + 2) + 1))) :
    wp_X7_ways x r y a b (fun v x' y' => wp_X8_ways m a b (fun v' m' => post v x' y' v' m')) := by
  simp only [wp_X7_ways, wp_X8_ways, e7_isPair R.1, e8_areTwo M, e7_r2, e8_r2]
  cases h1 : qP2 ρ a b
  · simp only [q_f]; exact hr _ 0 (by decide) y m qFr_rf
  simp only [q_t]
  obtain ⟨a, b, ha, hb, hab, rfl, rfl⟩ := qP2_t h1
  have hB := q_many W ha hb hab
  refine a6_find R ha hb hB (fun y' Y => a8_find (o := 0) M W ha hb hB 0 (by decide) (fun m' F f => ?_))
  rw [q_filt0] at F
  rw [Y.1, F.1]
  exact h _ _ _ (qFr_wk f (by decide) (by decide))
theorem s_fewest (R : qRm r ρ) (M : qMR m ρ) (W : qW ρ) (a b : Int32) {post : Int32 → zS → zS → Int32 → zS → Prop}
    (h : ∀ v y' m', qFr 35 50 m m' → post v x y' v m')
    (hr : ∀ v k, k < 5 → ∀ y' m', qFr 35 50 m m' → post v (zA x 12 k (x.2.1 12 k + 1)) y' v (zA m' 8 (k + 2) (m'.2.1 8 (k + 2) + 1))) :
    wp_X7_fewest x r y a b (fun v x' y' => wp_X8_fewest m a b (fun v' m' => post v x' y' v' m')) := by
  simp only [wp_X7_fewest, wp_X8_fewest, e7_isPair R.1, e8_areTwo M, e7_r2, e8_r2]
  cases h1 : qP2 ρ a b
  · simp only [q_f]; exact hr _ 0 (by decide) y m qFr_rf
  simp only [q_t]
  obtain ⟨a, b, ha, hb, hab, rfl, rfl⟩ := qP2_t h1
  have hB := q_many W ha hb hab
  have G := qAll_go (b := b) ha hab
  have n1 : ∀ n, n < 10 → ¬ nI n = (-1 : Int32) := by decide +kernel
  refine a6_find R ha hb hB (fun y' Y => ?_)
  have m8 : ∀ (P : zS → Prop), (∀ m', qF m' ρ b 0 (qAll ρ a b) → qFr 35 48 m m' → P m') → wp_X8_findWays m (nI a) (nI b) 0 0 P := fun P hP => a8_find (o := 0) M W ha hb hB 0 (by decide) (fun m' F f => by rw [q_filt0] at F; exact hP m' F f)
  generalize qAll ρ a b = L at *
  refine q_lp4 (B := wb_X7_fewest_34 r (nI a) (nI b) _) (fun t x' y'' x3 x4 => ∃ j, j + t = L.length ∧ x = x' ∧ y' = y'' ∧ x4 = nI j ∧ ((qfo (fun w => w.length - 1) qhn (L.take j) = none ∧ x3 = -1) ∨ (∃ v, qfo (fun w => w.length - 1) qhn (L.take j) = some v ∧ v < 9 ∧ x3 = nI v))) ?_ L.length _ _ _ _ ⟨0, by omega, rfl, rfl, rfl, Or.inl ⟨rfl, rfl⟩⟩
  rintro t _ _ x3 _ ⟨j, hj, rfl, rfl, rfl, hI⟩ K hK
  unfold wb_X7_fewest_34 wp_X7_fewest_70 wp_X7_fewest_73
  rw [Y.1]
  by_cases e : nI L.length ≤ nI j
  · have := (q_leN (by omega) (by omega)).mp e
    have : j = L.length := by omega
    subst this
    rw [List.take_length] at hI
    rw [q_pos e]
    refine m8 _ (fun m' F f => ?_)
    rw [qF_len0 F (by omega)]
    rcases hI with ⟨f1, rfl⟩ | ⟨v, f1, f2, rfl⟩
    · rw [q_pos (qfo_none.mp f1)]
      exact h _ _ _ (qFr_wk f (by decide) (by decide))
    · rw [q_neg (fun z => by rw [qfo_none.mpr z] at f1; cases f1), (F.2.2.2.1 v f1).1]
      exact h _ _ _ (qFr_wk f (by decide) (by decide))
  · have e' : ¬ L.length ≤ j := fun z => e ((q_leN (by omega) (by omega)).mpr z)
    have hjl : j < L.length := by omega
    have hl9 := (Y.2.2 j hjl).2.1
    have hl1 : 1 ≤ (L.getD j []).length := by
      obtain ⟨g1, -⟩ := (G _ (q_getD_mem L hjl)).1
      cases c : L.getD j [] with
      | nil => rw [c] at g1; cases g1
      | cons p t => exact Nat.le_add_left 1 _
    have s1 : nI (L.getD j []).length - (1 : Int32) = nI ((L.getD j []).length - 1) := pk_sub (b := 1) hl1
    rw [q_neg e, e6_size Y hjl, q_all, s1]
    simp only [forall_eq, q_succ]
    have sn : qfo (fun w => w.length - 1) qhn (L.take (j + 1)) = qst (fun w => w.length - 1) qhn (qfo (fun w => w.length - 1) qhn (L.take j)) (L.getD j []) := by rw [q_take_succ L hjl, qfo_snoc]
    have nx : ∀ v, qfo (fun w => w.length - 1) qhn (L.take (j + 1)) = some v → v < 9 → K x y' (nI v) (nI (j + 1)) := fun v hv hv9 => hK (t - 1) _ _ _ _ (by omega) ⟨j + 1, by omega, rfl, rfl, rfl, Or.inr ⟨v, hv, hv9, rfl⟩⟩
    rcases hI with ⟨f1, rfl⟩ | ⟨v, f1, f2, rfl⟩
    · rw [q_pos rfl]
      rw [f1] at sn
      exact nx _ sn (by omega)
    · rw [q_neg (n1 v (by omega))]
      rw [f1] at sn
      have sn : qfo (fun w => w.length - 1) qhn (L.take (j + 1)) = some (qhn v (L.getD j [])) := sn
      unfold qhn at sn
      by_cases c : nI v ≤ nI ((L.getD j []).length - 1)
      · have c' := (q_leN (by omega) (by omega)).mp c
        rw [q_pos c]
        rw [if_neg (by omega)] at sn
        exact nx _ sn f2
      · have c' : ¬ v ≤ (L.getD j []).length - 1 := fun z => c ((q_leN (by omega) (by omega)).mpr z)
        rw [q_neg c]
        rw [if_pos (by omega)] at sn
        exact nx _ sn (by omega)
theorem s_surestOf (R : qRm r ρ) (M : qMR m ρ) (W : qW ρ) (a b s i : Int32) {o : Nat} (ho : o < 3) {post : Int32 → zS → zS → zS → Int32 → zS → Prop}
    (h : ∀ v y' k' m', qFr 35 50 m m' → post v x y' k' v m')
    (hr : ∀ v j, j < 5 → ∀ y' k' m', qFr 35 50 m m' → post v (zA x 12 j (x.2.1 12 j + 1)) y' k' v (zA m' 8 (j + 2) (m'.2.1 8 (j + 2) + 1))) :
    wp_X7_surestOf x r y k a b s i (nI o) (fun v x' y' k' => wp_X8_surestOf m a b s i (nI o) (fun v' m' => post v x' y' k' v' m')) := by
  have hc := R.1.2.2
  have m1 : (-1 : Int32).toInt = -1 := rfl
  simp only [wp_X7_surestOf, wp_X8_surestOf, wp_X7_surestOf_22, wp_X8_surestOf_27, wp_X8_surestOf_59, e7_isPair R.1, e8_areTwo M, e7_isSecond, e8_inI (lo := 0) (hi := 9999) (a := 0) (b := 9999) rfl rfl, e7_r2, e8_r2, e7_r5, e8_r5]
  cases h1 : qP2 ρ a b
  · simp only [q_f]; exact hr _ 0 (by decide) y k m qFr_rf
  cases h2 : qI 0 9999 s
  · simp only [q_t, q_f]; exact hr _ 0 (by decide) y k m qFr_rf
  simp only [q_t]
  by_cases g : (-1 : Int32) ≤ i
  · simp only [q_pos g]
    rw [q_leI, m1] at g
    obtain ⟨a, b, ha, hb, hab, rfl, rfl⟩ := qP2_t h1
    have hB := q_many W ha hb hab
    have G := qAll_go (b := b) ha hab
    refine a6_find R ha hb hB (fun y' Y => ?_)
    refine a5_surest R W Y G s ho (fun hn k' => ?_) (fun B w k' hs hw hwB g0 g1 g2 => ?_)
    · rw [q_0]
      refine a8_find M W ha hb hB s ho (fun m' F f => ?_)
      have hl : ((qAll ρ a b).filter (qwt ρ b s o)).length ≤ (qAll ρ a b).length := List.length_filter_le _ _
      rw [qF_len0 F (by omega), q_pos (qfo_none.mp hn)]
      exact hr _ 3 (by decide) _ _ _ (qFr_wk f (by decide) (by decide))
    · rw [q_1, g0, g1]
      have mem := qbest_mem B hs
      have mem2 := (List.mem_filter.mp mem).1
      obtain ⟨⟨gw1, gw2, gw3, gw4⟩, -⟩ := G B mem2
      have bl1 : 1 ≤ B.length := by
        cases c : B with
        | nil => rw [c] at gw1; cases gw1
        | cons p t => exact Nat.le_add_left 1 _
      have m8 : ∀ (P : zS → Prop), (∀ m', qF m' ρ b s ((qAll ρ a b).filter (qwt ρ b s o)) → qFr 35 50 m m' → ¬ m'.1 38 = 0 → P m') → wp_X8_findWays m (nI a) (nI b) s (nI o) P := fun P hP => a8_find M W ha hb hB s ho (fun m' F f => hP m' F (qFr_wk f (by decide) (by decide)) (by
        have hl : ((qAll ρ a b).filter (qwt ρ b s o)).length ≤ (qAll ρ a b).length := List.length_filter_le _ _
        rw [qF_len0 F (by omega)]
        intro z
        rw [z] at hs; cases hs))
      by_cases c : i = (-1 : Int32)
      · rw [q_pos c]
        refine m8 _ (fun m' F f hz => ?_)
        obtain ⟨b1, b2, b3, b4, b5⟩ := F.2.2.2.2.2 B hs
        have l : i ≤ m'.1 43 := by rw [b2, c, q_leI, nI_toInt (by omega), m1]; omega
        rw [q_neg hz, q_pos l, q_pos c, b1]
        exact h _ _ _ _ f
      · have c' : i.toInt ≠ -1 := fun z => c (Int32.toInt_inj.mp (z.trans m1.symm))
        rw [q_neg c, e6_size Y hw, hwB]
        by_cases d : nI B.length ≤ i
        · rw [q_pos d]
          rw [q_leI, nI_toInt (by omega)] at d
          refine m8 _ (fun m' F f hz => ?_)
          obtain ⟨b1, b2, b3, b4, b5⟩ := F.2.2.2.2.2 B hs
          have l : ¬ i ≤ m'.1 43 := by rw [b2, q_leI, nI_toInt (by omega)]; omega
          rw [q_neg hz, q_neg l]
          exact hr _ 3 (by decide) _ _ _ f
        · rw [q_neg d]
          rw [q_leI, nI_toInt (by omega)] at d
          obtain ⟨t, ht, rfl⟩ : ∃ t, t < B.length ∧ i = nI t := ⟨i.toInt.toNat, by omega, q_nat (by omega)⟩
          rw [e6_on Y hw (by rw [hwB]; exact ht), hwB]
          refine m8 _ (fun m' F f hz => ?_)
          obtain ⟨b1, b2, b3, b4, b5⟩ := F.2.2.2.2.2 B hs
          have l : nI t ≤ m'.1 43 := by rw [b2, q_leN (by omega) (by omega)]; omega
          rw [q_neg hz, q_pos l, q_neg c, q_clamp (by omega), b5 t ht]
          exact ⟨q_in (by omega) (by omega), h _ _ _ _ f⟩
  · simp only [q_neg g]
    exact hr _ 0 (by decide) y k m qFr_rf
end QCALLS
