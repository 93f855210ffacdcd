/-! calls about ways: readers, must, when, answer */ -/
section QCALLS2
variable {x r y k m : zS} {ρ : (Nat → Nat) × (Nat → Nat → Nat)}
theorem q_lb {L : List (List Nat)} {a b : Nat} (G : qGo ρ a b L) {j : Nat} (hj : j < L.length) : 2 ≤ (L.getD j []).length ∧ (L.getD j []).length ≤ 9 := by
  obtain ⟨⟨g1, g2, g3, g4⟩, mid, e⟩ := G _ (q_getD_mem L hj)
  refine ⟨?_, g3⟩
  rw [e, List.length_cons, List.length_append]; exact Nat.le_add_left 2 _
theorem s_readers (R : qRm r ρ) (M : qMR m ρ) (W : qW ρ) (a b : Int32) {post : Int32 → zS → zS → Int32 → zS → Prop}
    (h : ∀ v y' m', qFr 35 50 m m' → post v x y' v m')
    (hr : ∀ v k, k < 5 → ∀ y' m', qFr 35 50 m m' → post v (zA x 12 k (x.2.1 12 k + 1)) y' v (zA m' 8 (k + 2) (m'.2.1 8 (k + 2) + 1))) :
    wp_X7_readers x r y a b (fun v x' y' => wp_X8_readers m a b (fun v' m' => post v x' y' v' m')) := by
  have hc := R.1.2.2
  simp only [wp_X7_readers, wp_X8_readers, e7_isPair R.1, e8_areTwo M, e7_r2, e8_r2, e7_r5, e8_r5]
  cases h1 : qP2 ρ a b
  · simp only [q_f]; exact hr _ 0 (by decide) y m qFr_rf
  simp only [q_t]
  obtain ⟨a, b, ha, hb, hab, rfl, rfl⟩ := qP2_t h1
  have hB := q_many W ha hb hab
  have G := qAll_go (b := b) ha hab
  refine a6_find R ha hb hB (fun y' Y => ?_)
  have m8 : ∀ (P : zS → Prop), (∀ m', qF m' ρ b 0 (qAll ρ a b) → qFr 35 50 m m' → P m') → wp_X8_findWays m (nI a) (nI b) 0 0 P := fun P hP => a8_find (o := 0) M W ha hb hB 0 (by decide) (fun m' F f => by rw [q_filt0] at F; exact hP m' F (qFr_wk f (by decide) (by decide)))
  generalize qAll ρ a b = L at *
  rw [qY_len0 Y]
  by_cases c0 : L = []
  · rw [q_pos c0]
    refine m8 _ (fun m' F f => ?_)
    rw [qF_len0 F (by omega), q_pos c0]
    exact hr _ 3 (by decide) _ _ f
  rw [q_neg c0]
  refine q_lp4 (B := wb_X7_readers_52 r (nI a) (nI b) _) (fun t x' y'' x3 x4 => ∃ j, j + t = L.length ∧ x = x' ∧ y' = y'' ∧ x4 = nI j ∧ ((qfo (qrn ρ b) (qrf' ρ b) (L.take j) = none ∧ x3 = nI 9) ∨ (∃ v, qfo (qrn ρ b) (qrf' ρ b) (L.take j) = some v ∧ v < 9 ∧ x3 = nI v))) ?_ L.length _ _ _ _ ⟨0, by omega, rfl, rfl, rfl, Or.inl ⟨rfl, rfl⟩⟩
  rintro t _ _ x3 _ ⟨j, hj, rfl, rfl, rfl, hI⟩ K hK
  unfold wb_X7_readers_52
  rw [Y.1]
  by_cases e : nI L.length ≤ nI j
  · have := (q_leN (by omega) (by omega)).mp e
    have : j = L.length := by omega
    subst this
    rw [List.take_length] at hI
    rw [q_pos e]
    refine m8 _ (fun m' F f => ?_)
    rw [qF_len0 F (by omega), q_neg c0]
    rcases hI with ⟨f1, rfl⟩ | ⟨v, f1, f2, rfl⟩
    · exact absurd (qfo_none.mp f1) c0
    · rw [(F.2.2.2.2.1 v f1).1]
      exact h _ _ _ f
  · have e' : ¬ L.length ≤ j := fun z => e ((q_leN (by omega) (by omega)).mpr z)
    have hjl : j < L.length := by omega
    obtain ⟨mid, em, hn, hrr, hq⟩ := q_mid G hjl
    have hl := q_lb G hjl
    have hml : mid.length ≤ 7 := by
      have : (L.getD j []).length = mid.length + 2 := by rw [em, List.length_cons, List.length_append]; rfl
      omega
    have hql : qrn ρ b (L.getD j []) ≤ 7 := by rw [hq]; exact Nat.le_trans (List.length_filter_le _ _) hml
    rw [q_neg e]
    refine a6_between Y hjl em (fun q hq => by have := hrr q hq; omega) ?_
    have hm : qmk mid < 2 ^ 12 := qmk_lt (fun q hq => by have := hrr q hq; omega)
    refine a1_readers R W (Nat.lt_of_lt_of_le hm (by decide)) (q_bitCount (qrm_lt hc _) ?_)
    rw [qrm_pop hc mid hn hrr, ← hq]
    simp only [forall_eq, q_succ]
    have sn : qfo (qrn ρ b) (qrf' ρ b) (L.take (j + 1)) = qst (qrn ρ b) (qrf' ρ b) (qfo (qrn ρ b) (qrf' ρ b) (L.take j)) (L.getD j []) := by rw [q_take_succ L hjl, qfo_snoc]
    have nx : ∀ v, qfo (qrn ρ b) (qrf' ρ b) (L.take (j + 1)) = some v → v < 9 → K x y' (nI v) (nI (j + 1)) := fun v hv hv9 => hK (t - 1) _ _ _ _ (by omega) ⟨j + 1, by omega, rfl, rfl, rfl, Or.inr ⟨v, hv, hv9, rfl⟩⟩
    rcases hI with ⟨f1, rfl⟩ | ⟨v, f1, f2, rfl⟩
    · rw [f1] at sn
      rw [if_pos ((nI_ltI (by omega) (by omega)).mpr (by omega))]
      exact nx _ sn (by omega)
    · rw [f1] at sn
      have sn : qfo (qrn ρ b) (qrf' ρ b) (L.take (j + 1)) = some (qrf' ρ b v (L.getD j [])) := sn
      unfold qrf' at sn
      by_cases c : nI (qrn ρ b (L.getD j [])) < nI v
      · have c' := (nI_ltI (by omega) (by omega)).mp c
        rw [if_pos c]
        rw [if_pos c'] at sn
        exact nx _ sn (by omega)
      · have c' : ¬ qrn ρ b (L.getD j []) < v := fun z => c ((nI_ltI (by omega) (by omega)).mpr z)
        rw [if_neg c]
        rw [if_neg c'] at sn
        exact nx _ sn f2
/-- a mask without two places -/
def qcl (a b v : Nat) : Nat := v &&& ((2 ^ 32 - 1) ^^^ (2 ^ a ||| 2 ^ b))
theorem qcl_bit {a b v i : Nat} (hi : i < 32) : (qcl a b v).testBit i = (v.testBit i && !decide (i = a ∨ i = b)) := by
  unfold qcl
  rw [q_not_bit hi, Nat.testBit_or, Nat.testBit_two_pow, Nat.testBit_two_pow]
  congr 2
  have e1 : decide (a = i) = decide (i = a) := decide_eq_decide.mpr ⟨Eq.symm, Eq.symm⟩
  have e2 : decide (b = i) = decide (i = b) := decide_eq_decide.mpr ⟨Eq.symm, Eq.symm⟩
  rw [e1, e2, Bool.decide_or]
theorem qcl_mid {a b : Nat} {mid : List Nat} (hn : (b :: (mid ++ [a])).Nodup) (hr : ∀ q ∈ b :: (mid ++ [a]), q < 12) : qmk mid = qcl a b (qmk (b :: (mid ++ [a]))) := by
  refine Nat.eq_of_testBit_eq (fun i => ?_)
  by_cases hi : i < 32
  · rw [qcl_bit hi, qmk_bit, qmk_bit]
    have n1 := List.nodup_cons.mp hn
    have n2 := List.nodup_append.mp n1.2
    by_cases ea : i = a
    · subst ea
      have : i ∉ mid := fun z => n2.2.2 i z i (List.mem_singleton.mpr rfl) rfl
      simp [this]
    · by_cases eb : i = b
      · subst eb
        have : i ∉ mid := fun z => n1.1 (List.mem_append_left _ z)
        simp [this]
      · simp [ea, eb]
  · have h1 : qmk mid < 2 ^ 12 := qmk_lt (fun q hq => hr q (List.mem_cons_of_mem _ (List.mem_append_left _ hq)))
    have h2 : qmk (b :: (mid ++ [a])) < 2 ^ 12 := qmk_lt hr
    have f1 : ∀ v, v < 2 ^ 12 → v.testBit i = false := fun v hv => Nat.testBit_lt_two_pow (Nat.lt_of_lt_of_le hv (Nat.pow_le_pow_right (by decide) (by omega)))
    unfold qcl
    rw [Nat.testBit_and, f1 _ h1, f1 _ h2]; rfl
theorem qcl_and {a b u v : Nat} : qcl a b u &&& qcl a b v = qcl a b (u &&& v) := by
  unfold qcl
  refine Nat.eq_of_testBit_eq (fun i => ?_)
  simp only [Nat.testBit_and]
  cases u.testBit i <;> cases v.testBit i <;> simp
theorem s_must (R : qRm r ρ) (M : qMR m ρ) (W : qW ρ) (a b : Int32) {post : Int32 → zS → zS → Int32 → zS → Prop}
    (h : ∀ v y' m', qFr 35 50 m m' → post v x y' v m')
    (hr : ∀ v k, k < 5 → ∀ y' m', qFr 35 50 m m' → post v (zA x 12 k (x.2.1 12 k + 1)) y' v (zA m' 8 (k + 2) (m'.2.1 8 (k + 2) + 1))) :
    wp_X7_must x r y a b (fun v x' y' => wp_X8_must m a b (fun v' m' => post v x' y' v' m')) := by
  have hc := R.1.2.2
  simp only [wp_X7_must, wp_X8_must, e7_isPair R.1, e8_areTwo M, e7_r2, e8_r2, e7_r5, e8_r5]
  cases h1 : qP2 ρ a b
  · simp only [q_f]; exact hr _ 0 (by decide) y m qFr_rf
  simp only [q_t]
  obtain ⟨a, b, ha, hb, hab, rfl, rfl⟩ := qP2_t h1
  have hB := q_many W ha hb hab
  have G := qAll_go (b := b) ha hab
  refine a6_find R ha hb hB (fun y' Y => ?_)
  have m8 : ∀ (P : zS → Prop), (∀ m', qF m' ρ b 0 (qAll ρ a b) → qFr 35 50 m m' → P m') → wp_X8_findWays m (nI a) (nI b) 0 0 P := fun P hP => a8_find (o := 0) M W ha hb hB 0 (by decide) (fun m' F f => by rw [q_filt0] at F; exact hP m' F (qFr_wk f (by decide) (by decide)))
  generalize qAll ρ a b = L at *
  rw [qY_len0 Y]
  by_cases c0 : L = []
  · rw [q_pos c0]
    refine m8 _ (fun m' F f => ?_)
    rw [qF_len0 F (by omega), q_pos c0]
    exact hr _ 3 (by decide) _ _ f
  rw [q_neg c0]
  have hL0 : 0 < L.length := by
    cases z : L with
    | nil => exact absurd z c0
    | cons p t => exact Nat.succ_pos _
  have bet : ∀ j, j < L.length → ∀ P : Int32 → Prop, P (nI (qcl a b (qmk (L.getD j [])))) → wp_X6_betweenOf y' (nI j) P := by
    intro j hjl P hP
    obtain ⟨mid, em, hn, hrr, hq⟩ := q_mid G hjl
    refine a6_between Y hjl em (fun q hq => by have := hrr q hq; omega) ?_
    obtain ⟨⟨g1, g2, g3, g4⟩, -⟩ := G _ (q_getD_mem L hjl)
    rw [em] at g2 g4 hP
    rw [qcl_mid g2 (fun q hq => by have := g4 q hq; omega)]; exact hP
  have t1 : L.take 1 = [L.getD 0 []] := by
    have := q_take_succ L hL0
    rw [Nat.zero_add, List.take_zero, List.nil_append] at this; exact this
  refine bet 0 hL0 _ ?_
  refine q_lp4 (B := wb_X7_must_58 r (nI a) (nI b) _) (fun t x' y'' x3 x4 => ∃ j, j + t = L.length ∧ 1 ≤ j ∧ x = x' ∧ y' = y'' ∧ x4 = nI j ∧ ∃ v, qfo qmk (fun a w => a &&& qmk w) (L.take j) = some v ∧ x3 = nI (qcl a b v)) ?_ (L.length - 1) _ _ _ _ ⟨1, by omega, Nat.le_refl 1, rfl, rfl, rfl, _, by rw [t1]; rfl, rfl⟩
  rintro t _ _ _ _ ⟨j, hj, hj1, rfl, rfl, rfl, v, f1, rfl⟩ K hK
  unfold wb_X7_must_58
  rw [Y.1]
  by_cases e : nI L.length ≤ nI j
  · have := (q_leN (by omega) (by omega)).mp e
    have : j = L.length := by omega
    subst this
    rw [List.take_length] at f1
    rw [q_pos e]
    refine m8 _ (fun m' F f => ?_)
    rw [qF_len0 F (by omega), q_neg c0, F.2.2.1 v f1, q_shl1 a (by omega), q_shl1 b (by omega), q_or, q_not]
    exact h _ _ _ f
  · have e' : ¬ L.length ≤ j := fun z => e ((q_leN (by omega) (by omega)).mpr z)
    have hjl : j < L.length := by omega
    rw [q_neg e]
    refine bet j hjl _ ?_
    simp only [forall_eq, q_succ, q_and, qcl_and]
    refine hK (t - 1) _ _ _ _ (by omega) ⟨j + 1, by omega, by omega, rfl, rfl, rfl, _, ?_, rfl⟩
    rw [q_take_succ L hjl, qfo_snoc, f1]; rfl
/-! chances -/
/-- the chance of the surest way; -1: there is none -/
def qcv (ρ : (Nat → Nat) × (Nat → Nat → Nat)) (a b : Nat) (s : Int32) : Int32 := match qbest ρ b s (qAll ρ a b) with
  | none => -1
  | some B => nI (qch ρ b s B)
theorem qcv_cases (ρ : (Nat → Nat) × (Nat → Nat → Nat)) (a b : Nat) (s : Int32) : (qbest ρ b s (qAll ρ a b) = none ∧ qcv ρ a b s = -1) ∨ (∃ B, qbest ρ b s (qAll ρ a b) = some B ∧ qcv ρ a b s = nI (qch ρ b s B)) := by
  unfold qcv
  cases qbest ρ b s (qAll ρ a b) with
  | none => exact Or.inl ⟨rfl, rfl⟩
  | some B => exact Or.inr ⟨B, rfl, rfl⟩
theorem q_not1 {n : Nat} (h : n ≤ 1000000) : ¬ nI n = (-1 : Int32) := fun e => by
  have := congrArg Int32.toInt e
  rw [nI_toInt (by omega)] at this
  have : (n : Int) = -1 := this
  omega
theorem a7_chance (R : qRm r ρ) (W : qW ρ) {a b : Nat} (ha : a < ρ.1 1) (hb : b < ρ.1 1) (hab : a ≠ b) (s : Int32) {post : Int32 → zS → zS → Prop}
    (h : ∀ y' k', (∀ B, qbest ρ b s (qAll ρ a b) = some B → k'.1 2 = nI (qsec ρ B)) → post (qcv ρ a b s) y' k') : wp_X7_chanceIn x r y k (nI a) (nI b) s post := by
  unfold wp_X7_chanceIn
  refine a6_find R ha hb (q_many W ha hb hab) (fun y' Y => ?_)
  refine a5_surest (o := 0) R W Y (qAll_go (b := b) ha hab) s (by decide) (fun hn k' => ?_) (fun B i k' hB _ _ _ g1 g2 => ?_)
  · rw [q_0]
    rw [q_filt0] at hn
    have := h y' k' (fun B hB => by rw [hn] at hB; cases hB)
    unfold qcv at this
    rw [hn] at this; exact this
  · rw [q_1]
    rw [q_filt0] at hB
    have := h y' k' (fun B' hB' => by rw [hB] at hB'; rw [← Option.some.inj hB']; exact g2)
    unfold qcv at this
    rw [hB] at this
    rw [g1]; exact this
theorem a8_chance (M : qMR m ρ) (W : qW ρ) {a b : Nat} (ha : a < ρ.1 1) (hb : b < ρ.1 1) (hab : a ≠ b) (s : Int32) {post : Int32 → zS → Prop}
    (h : ∀ m', qFr 35 50 m m' → (∀ B, qbest ρ b s (qAll ρ a b) = some B → m'.1 44 = s + nI (qsec ρ B)) → post (qcv ρ a b s) m') : wp_X8_chanceNow m (nI a) (nI b) s post := by
  unfold wp_X8_chanceNow
  have hB := q_many W ha hb hab
  refine a8_find (o := 0) M W ha hb hB s (by decide) (fun m' F f => ?_)
  rw [q_filt0] at F
  rw [qF_len0 F (by omega)]
  have f' := qFr_wk (a' := 35) (b' := 50) f (by decide) (by decide)
  have := h m' f' (fun B hB => (F.2.2.2.2.2 B hB).2.2.1)
  unfold qcv at this
  cases c : qbest ρ b s (qAll ρ a b) with
  | none =>
    rw [c] at this
    rw [q_pos (qfo_none.mp c)]; exact this
  | some B =>
    rw [c] at this
    rw [q_neg (fun z => by rw [z] at c; cases c), (F.2.2.2.2.2 B c).1]; exact this
/-- when to send it, of the first seconds, and its chance -/
def qwn (ρ : (Nat → Nat) × (Nat → Nat → Nat)) (a b : Nat) : Nat → Int32 × Int32
  | 0 => (-1, -1)
  | j + 1 => if qcv ρ a b (nI j) ≤ (qwn ρ a b j).2 then qwn ρ a b j else (nI j, qcv ρ a b (nI j))
theorem qwn_s (a b j : Nat) : qwn ρ a b (j + 1) = if qcv ρ a b (nI j) ≤ (qwn ρ a b j).2 then qwn ρ a b j else (nI j, qcv ρ a b (nI j)) := rfl
theorem q_m1_le {c : Nat} (hc : c ≤ 1000000) : (-1 : Int32) ≤ nI c := by
  rw [q_leI, nI_toInt (by omega)]; show (-1 : Int) ≤ c; omega
theorem qwn_ge (a b j : Nat) : (-1 : Int32) ≤ (qwn ρ a b j).2 := by
  induction j with
  | zero => exact (by decide : (-1 : Int32) ≤ -1)
  | succ j ih =>
    rw [qwn_s]
    split
    · exact ih
    · show (-1 : Int32) ≤ qcv ρ a b (nI j)
      rcases qcv_cases ρ a b (nI j) with ⟨-, e⟩ | ⟨B, -, e⟩
      · rw [e]; decide
      · rw [e]; exact q_m1_le (qch_le _ _ _)
theorem s_when (R : qRm r ρ) (M : qMR m ρ) (W : qW ρ) (a b : Int32) {post : Int32 → zS → zS → zS → Int32 → zS → Prop}
    (h : ∀ v y' k' m', qFr 35 50 m m' → post v x y' k' v m')
    (hr : ∀ v j, j < 5 → ∀ y' k' m', qFr 35 50 m m' → post v (zA x 12 j (x.2.1 12 j + 1)) y' k' v (zA m' 8 (j + 2) (m'.2.1 8 (j + 2) + 1))) :
    wp_X7_when x r y k a b (fun v x' y' k' => wp_X8_when m a b (fun v' m' => post v x' y' k' v' m')) := by
  have hc := R.1.2.2
  have ht := W.1
  simp only [wp_X7_when, wp_X8_when, e7_isPair R.1, e8_areTwo M, e7_r2, e8_r2]
  cases h1 : qP2 ρ a b
  · simp only [q_f]; exact hr _ 0 (by decide) y k m qFr_rf
  simp only [q_t]
  obtain ⟨a, b, ha, hb, hab, rfl, rfl⟩ := qP2_t h1
  have hB := q_many W ha hb hab
  have G := qAll_go (b := b) ha hab
  refine a6_find R ha hb hB (fun y' Y => ?_)
  -- the reference's loop
  have m8 : ∀ (P : Int32 → zS → Prop), (∀ m', qFr 35 50 m m' → ((qwn ρ a b (ρ.1 2)).1 = -1 → P (-5) (zA m' 8 5 (m'.2.1 8 5 + 1))) ∧ (¬ (qwn ρ a b (ρ.1 2)).1 = -1 → P (qwn ρ a b (ρ.1 2)).1 m')) → ∃ n, wp_X8_when_24 (nI a) (nI b) P n m (-1) (-1) 0 := by
    intro P hP
    refine q_lp4 (B := wb_X8_when_24 (nI a) (nI b) P) (fun t m' x3 x4 x5 => ∃ j, j + t = ρ.1 2 ∧ qFr 35 50 m m' ∧ x5 = nI j ∧ x3 = (qwn ρ a b j).1 ∧ x4 = (qwn ρ a b j).2) ?_ (ρ.1 2) _ _ _ _ ⟨0, by omega, qFr_rf, rfl, rfl, rfl⟩
    rintro t m' _ _ _ ⟨j, hj, f, rfl, rfl, rfl⟩ K hK
    have M' := qMR_fr M f (Or.inr (by decide))
    unfold wb_X8_when_24 wp_X8_when_57
    rw [M'.1.2.2.1, e8_r5]
    by_cases e : nI (ρ.1 2) ≤ nI j
    · have := (q_leN (by omega) (by omega)).mp e
      have : j = ρ.1 2 := by omega
      rw [q_pos e, this]
      exact hP m' f
    · have e' : ¬ ρ.1 2 ≤ j := fun z => e ((q_leN (by omega) (by omega)).mpr z)
      rw [q_neg e]
      refine a8_chance M' W ha hb hab _ (fun m'' f' _ => ?_)
      simp only [forall_eq, q_succ]
      have nx : ∀ u v, qwn ρ a b (j + 1) = (u, v) → K m'' u v (nI (j + 1)) := fun u v hv => hK (t - 1) _ _ _ _ (by omega) ⟨j + 1, by omega, qFr_tr f f', rfl, by rw [hv], by rw [hv]⟩
      by_cases c : qcv ρ a b (nI j) ≤ (qwn ρ a b j).2
      · rw [q_pos c]; exact nx _ _ (by rw [qwn_s, if_pos c])
      · rw [q_neg c]; exact nx _ _ (by rw [qwn_s, if_neg c])
  refine q_lp6 (B := wb_X7_when_37 r (nI a) (nI b) _) (fun t x' y'' k' x3 x4 x5 => ∃ j, j + t = ρ.1 2 ∧ x = x' ∧ y' = y'' ∧ x5 = nI j ∧ x3 = (qwn ρ a b j).1 ∧ x4 = (qwn ρ a b j).2) ?_ (ρ.1 2) _ _ _ _ _ _ ⟨0, by omega, rfl, rfl, rfl, rfl, rfl⟩
  rintro t _ _ k' _ _ _ ⟨j, hj, rfl, rfl, rfl, rfl, rfl⟩ K hK
  unfold wb_X7_when_37 wp_X7_when_94
  rw [R.1.1 2 (by decide), e7_r5]
  by_cases e : nI (ρ.1 2) ≤ nI j
  · have := (q_leN (by omega) (by omega)).mp e
    have : j = ρ.1 2 := by omega
    rw [q_pos e, this]
    refine ⟨fun c => m8 _ (fun m' f => ⟨fun _ => hr _ 3 (by decide) _ _ _ f, fun d => absurd c d⟩), fun c => m8 _ (fun m' f => ⟨fun d => absurd d c, fun _ => h _ _ _ _ f⟩)⟩
  · have e' : ¬ ρ.1 2 ≤ j := fun z => e ((q_leN (by omega) (by omega)).mpr z)
    have ge := qwn_ge (ρ := ρ) a b j
    rw [q_neg e]
    have nx : ∀ k'' u v, qwn ρ a b (j + 1) = (u, v) → K x y' k'' u v (nI (j + 1)) := fun k'' u v hv => hK (t - 1) _ _ _ _ _ _ (by omega) ⟨j + 1, by omega, rfl, rfl, rfl, by rw [hv], by rw [hv]⟩
    refine a5_surest (o := 0) R W Y G (nI j) (by decide) (fun hn k'' => ?_) (fun B i k'' hB _ _ _ g1 g2 => ?_)
    · rw [q_0, q_all, q_succ]
      rw [q_filt0] at hn
      refine nx k'' _ _ ?_
      have : qcv ρ a b (nI j) = -1 := by unfold qcv; rw [hn]
      rw [qwn_s, this, if_pos ge]
    · rw [q_1, g1]
      rw [q_filt0] at hB
      simp only [forall_eq, q_succ]
      have ev : qcv ρ a b (nI j) = nI (qch ρ b (nI j) B) := by unfold qcv; rw [hB]
      by_cases c : nI (qch ρ b (nI j) B) ≤ (qwn ρ a b j).2
      · rw [q_pos c]; exact nx k'' _ _ (by rw [qwn_s, ev, if_pos c])
      · rw [q_neg c]; exact nx k'' _ _ (by rw [qwn_s, ev, if_neg c])
end QCALLS2
