/-! judge, told -/
section QTOLD
variable {x r m : zS} {ρ : (Nat → Nat) × (Nat → Nat → Nat)} {sh : Nat → zS} {n : Nat} {σ : Nat → Nat → Nat}
/-- a list of what g says of the numbers below, the last one first -/
def qpt (g : Nat → Nat) : Nat → List Nat
  | 0 => []
  | i + 1 => g i :: qpt g i
def qgt (f : Nat → Int64) (i : Nat) : Nat := (f i).toInt.toNat
def qgr (ρ : (Nat → Nat) × (Nat → Nat → Nat)) (f : Nat → Int64) (i : Nat) : Prop := 0 ≤ (f i).toInt ∧ (f i).toInt < (ρ.1 1 : Int)
/-- a place of a row goes on with the way -/
def qgd (ρ : (Nat → Nat) × (Nat → Nat → Nat)) (f : Nat → Int64) (i : Nat) : Prop :=
  qgr ρ f i ∧ (qgt f i ∉ qpt (qgt f) i ∧ (i = 0 ∨ qnb ρ (qgt f (i - 1)) (qgt f i) = true))
theorem qgt_lN {f : Nat → Int64} {i : Nat} (h : qgr ρ f i) : f i = lN (qgt f i) := by
  have h1 := Int64.toInt_lt (f i)
  have h0 := h.1
  apply Int64.toInt_inj.mp
  unfold qgt
  rw [pk_lT (by omega)]
  omega
theorem qgt_nI {f : Nat → Int64} (hc : ρ.1 1 ≤ 12) {i : Nat} (h : qgr ρ f i) : (f i).toInt32 = nI (qgt f i) ∧ qgt f i < ρ.1 1 := by
  have hg : qgt f i < ρ.1 1 := by
    have h1 := h.1
    have h2 := h.2
    unfold qgt; omega
  exact ⟨by rw [qgt_lN h, lN_i], hg⟩
theorem qpt_len (g : Nat → Nat) (i : Nat) : (qpt g i).length = i := by
  induction i with
  | zero => rfl
  | succ i ih => show (qpt g i).length + 1 = _; rw [ih]
theorem qpt_at (g : Nat → Nat) (k : Nat) : ∀ i, i < k → qat (qpt g k) i = g i := by
  induction k with
  | zero => intro i hi; omega
  | succ k ih =>
    intro i hi
    have hl := qpt_len g k
    show qat (g k :: qpt g k) i = g i
    by_cases e : i = k
    · subst e
      have := qat_cons_eq (g i) (qpt g i)
      rw [hl] at this; exact this
    · rw [qat_cons_lt _ _ (by omega)]
      exact ih i (by omega)
theorem qpt_mem {g : Nat → Nat} {k q : Nat} (h : q ∈ qpt g k) : ∃ i, i < k ∧ q = g i := by
  induction k with
  | zero => exact absurd h List.not_mem_nil
  | succ k ih =>
    rcases List.mem_cons.mp h with e | h
    · exact ⟨k, by omega, e⟩
    · obtain ⟨i, hi, e⟩ := ih h
      exact ⟨i, by omega, e⟩
theorem qpt_shift (g : Nat → Nat) (k : Nat) : qpt g (k + 1) = qpt (fun j => g (j + 1)) k ++ [g 0] := by
  induction k with
  | zero => rfl
  | succ k ih =>
    show g (k + 1) :: qpt g (k + 1) = g (k + 1) :: (qpt (fun j => g (j + 1)) k ++ [g 0])
    rw [ih]
theorem qpt_nodup {f : Nat → Int64} {k : Nat} (h : ∀ i, i < k → qgd ρ f i) : (qpt (qgt f) k).Nodup := by
  induction k with
  | zero => exact List.nodup_nil
  | succ k ih =>
    exact List.nodup_cons.mpr ⟨(h k (by omega)).2.1, ih (fun i hi => h i (by omega))⟩
theorem qpt_mk {f : Nat → Int64} (hc : ρ.1 1 ≤ 12) {k : Nat} (h : ∀ i, i < k → qgd ρ f i) : qmk (qpt (qgt f) k) < 2 ^ 12 :=
  qmk_lt (fun q hq => by
    obtain ⟨i, hi, e⟩ := qpt_mem hq
    have := (qgt_nI hc (h i hi).1).2
    omega)
/-- the class's first wrong place -/
theorem a7_wrong (R : qRm r ρ) {s : Nat} (S : qS1 (sh s) m s n (σ s)) (z : σ s 0 = 1) {k : Nat} (hk : k ≤ σ s 2) {post : Int32 → Prop}
    (h1 : (∀ i, i < k → qgd ρ ((sh s).2.2 2) i) → post (-1))
    (h2 : ∀ i, i < k → (∀ j, j < i → qgd ρ ((sh s).2.2 2) j) → ¬ qgd ρ ((sh s).2.2 2) i → post (nI i)) : wp_X7_wrongIn x sh r s (nI k) post := by
  have hc := R.1.2.2
  obtain ⟨d1, d2, d3, d4, d5, d6, d7⟩ := S.2.2.2.1 z
  generalize hf : (sh s).2.2 2 = f at *
  refine q_lp3 (B := wb_X7_wrongIn_8 x sh r s (nI k) post) (fun q x3 x4 x5 => ∃ i, i + q = k ∧ x5 = nI i ∧ x3 = nI (qmk (qpt (qgt f) i)) ∧ x4 = (if i = 0 then -1 else nI (qgt f (i - 1))) ∧ ∀ j, j < i → qgd ρ f j) ?_ k _ _ _ ⟨0, by omega, rfl, rfl, rfl, fun j hj => absurd hj (by omega)⟩
  rintro q _ _ _ ⟨i, hi, rfl, rfl, rfl, hg⟩ K hK
  unfold wb_X7_wrongIn_8
  by_cases e : nI k ≤ nI i
  · have := (q_leN (by omega) (by omega)).mp e
    have : i = k := by omega
    subst this
    rw [q_pos e]; exact h1 hg
  · have e' : ¬ k ≤ i := fun z => e ((q_leN (by omega) (by omega)).mpr z)
    have no : ¬ qgd ρ f i → post (nI i) := h2 i (by omega) hg
    have l0 : (0 : Int64).toInt = 0 := rfl
    have hm := qpt_mk hc hg
    rw [q_neg e, e2_cell S z (by omega), lg_cmp_lt, lg_cmp_lt, Int64.lt_iff_toInt_lt, Int64.lt_iff_toInt_lt, l0, R.1.1 1 (by decide), q_64, nI_toInt (by omega), hf]
    refine ⟨fun c => no (fun g => by have := g.1.1; omega), fun c => ⟨fun c2 v hv => ?_, fun c2 => no (fun g => by have := g.1.2; omega)⟩⟩
    have gr : qgr ρ f i := ⟨by omega, c2⟩
    obtain ⟨g1, g2⟩ := qgt_nI hc gr
    rw [g1] at hv
    subst hv
    rw [q_bit0 (Nat.lt_of_lt_of_le hm (by decide)) (by omega), qmk_bit]
    refine ⟨fun c3 => ?_, fun c3 => no (fun g => ?_)⟩
    · have c3 := of_decide_eq_false c3
      have nx : qgd ρ f i → wp_X7_wrongIn_86 x sh r s (nI k) post K (nI (qmk (qpt (qgt f) i))) (nI i) (nI (qgt f i)) := by
        intro g
        unfold wp_X7_wrongIn_86
        rw [q_all, q_all, q_succ, q_orb (by omega)]
        refine hK (q - 1) _ _ _ (by omega) ⟨i + 1, by omega, rfl, rfl, by rw [if_neg (by omega)]; rfl, fun j hj => ?_⟩
        by_cases w : j = i
        · subst w; exact g
        · exact hg j (by omega)
      by_cases i0 : i = 0
      · rw [if_pos i0, q_pos rfl]
        exact nx ⟨gr, c3, Or.inl i0⟩
      · obtain ⟨p1, p2⟩ := qgt_nI hc (hg (i - 1) (by omega)).1
        rw [if_neg i0, q_neg (fun c => by
          have n1 : ∀ n, n < 48 → ¬ nI n = (-1 : Int32) := by decide +kernel
          exact n1 _ (by omega) c)]
        refine q1_nearAt R p2 ?_
        have hN : qN ρ (qgt f (i - 1)) < 2 ^ 31 := Nat.lt_of_lt_of_le (qmask_lt _ _) (Nat.pow_le_pow_right (by decide) (by omega))
        rw [q_bit0 hN (by omega), qN_bit, decide_eq_true g2, Bool.true_and]
        refine ⟨fun c4 => no (fun g => ?_), fun c4 => nx ⟨gr, c3, Or.inr ?_⟩⟩
        · rcases g.2.2 with w | w
          · exact i0 w
          · rw [c4] at w; cases w
        · cases w : qnb ρ (qgt f (i - 1)) (qgt f i)
          · exact absurd w c4
          · rfl
    · exact c3 (decide_eq_false g.2.1)
/-- the reference's -/
theorem a8_wrong (M : qMR m ρ) (L : qL ρ) {s : Nat} {f : Nat → Int64} {k : Nat} (hk : k ≤ 40) (hf : ∀ i, i < k → f i = m.2.2 (100 + s) i) {post : Int32 → Prop}
    (h1 : (∀ i, i < k → qgd ρ f i) → post (-1))
    (h2 : ∀ i, i < k → (∀ j, j < i → qgd ρ f j) → ¬ qgd ρ f i → post (nI i)) : wp_X8_wrongIn m s (nI k) post := by
  have hc := M.2.2
  have ep : ∀ (v : Int64) (P : Int32 → Prop), wp_X8_isPupil m v P = P (qz (decide (0 ≤ v.toInt ∧ v.toInt ≤ (ρ.1 1 : Int) - 1))) := by
    intro v P
    have e : (m.1 10 - (1 : Int32)).toInt64.toInt = (ρ.1 1 : Int) - 1 := by rw [M.1.2.1, q_64, q_sub1 _ (by omega)]
    have l0 : (0 : Int64).toInt = 0 := rfl
    have xb : ∀ b : Bool, xbool (qz b) := fun b => by cases b <;> rfl
    unfold wp_X8_isPupil
    rw [e8_in, e, l0]
    exact q_and_t (xb _)
  refine q_lp2 (B := wb_X8_wrongIn_5 m s (nI k) post) (fun q x3 x4 => ∃ i, i + q = k ∧ x4 = nI i ∧ x3 = nI (qmk (qpt (qgt f) i)) ∧ ∀ j, j < i → qgd ρ f j) ?_ k _ _ ⟨0, by omega, rfl, rfl, fun j hj => absurd hj (by omega)⟩
  rintro q _ _ ⟨i, hi, rfl, rfl, hg⟩ K hK
  unfold wb_X8_wrongIn_5
  by_cases e : nI k ≤ nI i
  · have := (q_leN (by omega) (by omega)).mp e
    have : i = k := by omega
    subst this
    rw [q_pos e]; exact h1 hg
  · have e' : ¬ k ≤ i := fun z => e ((q_leN (by omega) (by omega)).mpr z)
    have no : ¬ qgd ρ f i → post (nI i) := h2 i (by omega) hg
    have hm := qpt_mk hc hg
    have vi : vp_in (nI i) 40 := q_in (by omega) (by omega)
    rw [q_neg e, q_clamp (by omega), ep, ← hf i (by omega)]
    refine ⟨vi, q_br (fun c => ?_) (fun c => no (fun g => ?_))⟩
    · have c := of_decide_eq_true c
      have gr : qgr ρ f i := ⟨c.1, by omega⟩
      obtain ⟨g1, g2⟩ := qgt_nI hc gr
      rw [g1]
      refine ⟨vi, e8_has (Nat.lt_of_lt_of_le hm (by decide)) (by omega) ?_⟩
      rw [qmk_bit]
      refine q_br (fun c3 => no (fun g => ?_)) (fun c3 => ?_)
      · exact g.2.1 (of_decide_eq_true c3)
      · have c3 := of_decide_eq_false c3
        have nx : qgd ρ f i → wp_X8_wrongIn_61 m s (nI k) post K (nI (qmk (qpt (qgt f) i))) (nI i) := by
          intro g
          unfold wp_X8_wrongIn_61
          rw [q_clamp (by omega), ← hf i (by omega), g1, q_all, q_all, q_succ, q_orb (by omega)]
          refine ⟨vi, hK (q - 1) _ _ (by omega) ⟨i + 1, by omega, rfl, rfl, fun j hj => ?_⟩⟩
          by_cases w : j = i
          · subst w; exact g
          · exact hg j (by omega)
        have le0 : (nI i ≤ (0 : Int32)) = (i ≤ 0) := propext (q_leN (b := 0) (by omega) (by decide))
        rw [le0]
        refine ⟨fun w => nx ⟨gr, c3, Or.inl (by omega)⟩, fun w => ?_⟩
        have s1 : nI i - (1 : Int32) = nI (i - 1) := pk_sub (b := 1) (by omega)
        obtain ⟨p1, p2⟩ := qgt_nI hc (hg (i - 1) (by omega)).1
        rw [s1, q_clamp (by omega), ← hf (i - 1) (by omega), p1]
        refine ⟨q_in (by omega) (by omega), vi, e8_areBeside M L p2 g2 ?_⟩
        refine q_br (fun c4 => nx ⟨gr, c3, Or.inr c4⟩) (fun c4 => no (fun g => ?_))
        rcases g.2.2 with w' | w'
        · omega
        · rw [c4] at w'; cases w'
    · exact of_decide_eq_false c ⟨g.1.1, by have := g.1.2; omega⟩
/-- what the reference says of a row and how much of it -/
theorem a8_noWay (S : qS sh m n σ) {s k : Nat} (hs : s < 8) (hk : k ≤ 9) {post : Int32 → zS → Prop}
    (h2 : σ s 0 = 2 → post (-3) (zA m 8 3 (m.2.1 8 3 + 1))) (h0 : σ s 0 = 0 → post (-4) (zA m 8 4 (m.2.1 8 4 + 1)))
    (h1 : σ s 0 = 1 → (k ≤ σ s 2 → post 0 m) ∧ (¬ k ≤ σ s 2 → post (-2) (zA m 8 2 (m.2.1 8 2 + 1)))) : wp_X8_noWay m (nI s) (nI k) post := by
  have vs : vp_in (nI s) 8 := q_in hs (by omega)
  have is : qI 0 7 (nI s) = true := qI_t.mpr (by rw [nI_toInt (by omega)]; omega)
  have ik : qI 0 9 (nI k) = true := qI_t.mpr (by rw [nI_toInt (by omega)]; omega)
  have S1 := S.2 s hs
  have a3 := S1.2.1
  have t3 : σ s 0 = 0 ∨ σ s 0 = 1 ∨ σ s 0 = 2 := by omega
  simp only [wp_X8_noWay, wp_X8_noRow, e8_inI (lo := 0) (hi := 7) (a := 0) (b := 7) rfl rfl, e8_inI (lo := 0) (hi := 9) (a := 0) (b := 9) rfl rfl, is, ik, q_t, vs, true_and, q_clamp (n := s) (by omega), S1.1, e8_r2, e8_r3, e8_r4]
  rcases t3 with z | z | z
  · rw [z, q_neg (show ¬ nI 0 = 2 by decide), q_pos (show nI 0 = 0 from rfl), q_neg (by decide)]
    exact h0 z
  · obtain ⟨d1, d2, d3, d4, d5, d6, d7⟩ := S1.2.2.2.1 z
    rw [z, q_neg (show ¬ nI 1 = 2 by decide), q_neg (show ¬ nI 1 = 0 by decide), q_Tr, d6, q_leN (by omega) (by omega)]
    exact h1 z
  · rw [z, q_pos (show nI 2 = 2 from rfl), q_neg (by decide)]
    exact h2 z
theorem a8_noWay_bad {s k : Int32} (c : (qI 0 7 s && qI 0 9 k) = false) {post : Int32 → zS → Prop} (h : post (-2) (zA m 8 2 (m.2.1 8 2 + 1))) : wp_X8_noWay m s k post := by
  simp only [wp_X8_noWay, wp_X8_noWay_24, e8_inI (lo := 0) (hi := 7) (a := 0) (b := 7) rfl rfl, e8_inI (lo := 0) (hi := 9) (a := 0) (b := 9) rfl rfl, e8_r2]
  cases c1 : qI 0 7 s
  · simp only [q_f]; exact h
  cases c2 : qI 0 9 k
  · simp only [q_f, q_t]; exact h
  rw [c1, c2] at c; cases c
theorem s_judge (R : qRm r ρ) (M : qMR m ρ) (W : qW ρ) (S : qS sh m n σ) (s k : Int32) {post : Int32 → zS → Int32 → zS → Prop}
    (h : ∀ v, post v x v m)
    (hr : ∀ v k, k < 5 → post v (zA x 12 k (x.2.1 12 k + 1)) v (zA m 8 (k + 2) (m.2.1 8 (k + 2) + 1))) :
    wp_X7_judge x sh r s k (fun v x' => wp_X8_judge m s k (fun v' m' => post v x' v' m')) := by
  have bad : (qI 0 7 s && qI 0 9 k) = false → wp_X7_judge_17 sh r s k (fun v x' => wp_X8_judge m s k (fun v' m' => post v x' v' m')) x := fun c => by
    simp only [wp_X7_judge_17, e7_r2]
    unfold wp_X8_judge
    refine a8_noWay_bad c ?_
    rw [q_neg (by decide)]
    exact hr _ 0 (by decide)
  unfold wp_X7_judge
  rw [e7_isShelf]
  refine q_br (fun a => ?_) (fun a => bad (by rw [a]; rfl))
  refine ⟨fun c => bad ?_, fun c => ⟨fun d => ?_, fun d => bad ?_⟩⟩
  · have e9 : qI 0 9 k = false := qI_f.mpr (fun z => by rw [q_ltI, q_zero] at c; omega)
    rw [e9, Bool.and_false]
  · have hz : qI 0 9 k = true := qI_t.mpr ⟨by rw [q_ltI, q_zero] at c; omega, by rw [q_leI] at d; exact d⟩
    obtain ⟨s, hs, rfl⟩ := qI07 a
    obtain ⟨k, hk1, rfl⟩ := qI_n (by decide) hz
    have hk : k ≤ 9 := by omega
    have vs : vp_in (nI s) 8 := q_in hs (by omega)
    have S1 := S.2 s hs
    unfold wp_X7_rowFault
    rw [e7_rowsFault S hs hs]
    unfold qrf
    by_cases c2 : σ s 0 = 2 ∨ σ s 0 = 2
    · rw [if_pos c2]
      dsimp only
      rw [q_neg (by decide), e7_r3]
      unfold wp_X8_judge
      refine a8_noWay S hs hk (fun _ => ?_) (fun z => by omega) (fun z1 => by omega)
      rw [q_neg (by decide)]
      exact hr _ 1 (by decide)
    rw [if_neg c2]
    by_cases c0 : σ s 0 = 0 ∨ σ s 0 = 0
    · rw [if_pos c0]
      dsimp only
      rw [q_neg (by decide), e7_r4]
      unfold wp_X8_judge
      refine a8_noWay S hs hk (fun z => by omega) (fun _ => ?_) (fun z1 => by omega)
      rw [q_neg (by decide)]
      exact hr _ 2 (by decide)
    rw [if_neg c0]
    dsimp only
    have a3 := S1.2.1
    have z1 : σ s 0 = 1 := by omega
    obtain ⟨d1, d2, d3, d4, d5, d6, d7⟩ := S1.2.2.2.1 z1
    rw [q_pos rfl]
    refine ⟨vs, fun k9 hk9 => ?_⟩
    rw [q_clamp (by omega)] at hk9
    subst hk9
    rw [d3, q_leN (by omega) (by omega), e7_r2]
    refine ⟨fun hks => ⟨vs, fun k11 hk11 => ?_⟩, fun hks => ?_⟩
    · rw [q_clamp (by omega)] at hk11
      subst hk11
      have m8 : ∀ v, ((∀ i, i < k → qgd ρ ((sh k11).2.2 2) i) → v = -1) → (∀ i, i < k → (∀ j, j < i → qgd ρ ((sh k11).2.2 2) j) → ¬ qgd ρ ((sh k11).2.2 2) i → v = nI i) → wp_X8_judge m (nI k11) (nI k) (fun v' m' => post v x v' m') := by
        intro v v1 v2
        unfold wp_X8_judge
        refine a8_noWay S hs hk (fun z => by omega) (fun z => by omega) (fun _ => ⟨fun _ => ?_, fun z => absurd hks z⟩)
        rw [q_pos rfl]
        refine ⟨vs, fun k4 hk4 => ?_⟩
        rw [q_clamp (by omega)] at hk4
        subst hk4
        refine a8_wrong M (qW_L W) (f := (sh k4).2.2 2) (by omega) (fun i hi => d7 i (by omega)) (fun g => ?_) (fun i hi g1 g2 => ?_)
        · rw [v1 g]; exact h _
        · rw [v2 i hi g1 g2]; exact h _
      refine a7_wrong R S1 z1 hks (fun g => m8 _ (fun _ => rfl) (fun i hi _ g2 => absurd (g i hi) g2)) (fun i hi g1 g2 => m8 _ (fun g => absurd (g i hi) g2) (fun i' hi' g1' g2' => ?_))
      congr 1
      rcases Nat.lt_trichotomy i i' with lt | e | gt
      · exact absurd (g1' i lt) g2
      · exact e
      · exact absurd (g1 i' gt) g2'
    · unfold wp_X8_judge
      refine a8_noWay S hs hk (fun z => by omega) (fun z => by omega) (fun _ => ⟨fun z => absurd z hks, fun _ => ?_⟩)
      rw [q_neg (by decide)]
      exact hr _ 0 (by decide)
  · have e9 : qI 0 9 k = false := qI_f.mpr (fun z => d (by rw [q_leI]; exact z.2))
    rw [e9, Bool.and_false]
end QTOLD
