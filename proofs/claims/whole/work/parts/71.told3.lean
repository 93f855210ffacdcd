/-! told -/
section QTOLD3
variable {x r m y k0 : zS} {ρ : (Nat → Nat) × (Nat → Nat → Nat)} {sh : Nat → zS} {n : Nat} {σ : Nat → Nat → Nat}
theorem s_told (R : qRm r ρ) (M : qMR m ρ) (W : qW ρ) (S : qS sh m n σ) (s k w o : Int32) {post : Int32 → zS → zS → zS → Int32 → zS → Prop}
    (h : ∀ v y' k', post v x y' k' v m)
    (hr : ∀ v k, k < 5 → post v (zA x 12 k (x.2.1 12 k + 1)) y k0 v (zA m 8 (k + 2) (m.2.1 8 (k + 2) + 1))) :
    wp_X7_told x sh r y k0 s k w o (fun v x' y' k' => wp_X8_told m s k w o (fun v' m' => post v x' y' k' v' m')) := by
  have hc := R.1.2.2
  have bad : (((qI 0 7 s && qI 2 9 k) && qI 0 9999 w) && qI 0 2 o) = false → wp_X7_told_36 sh r s k w o (fun v x' y' k' => wp_X8_told m s k w o (fun v' m' => post v x' y' k' v' m')) x y k0 := fun c => by
    simp only [wp_X7_told_36, wp_X8_told, wp_X8_told_51, e7_r2, e8_r2, e8_inI (lo := 0) (hi := 7) (a := 0) (b := 7) rfl rfl, e8_inI (lo := 2) (hi := 9) (a := 2) (b := 9) rfl rfl, e8_inI (lo := 0) (hi := 9999) (a := 0) (b := 9999) rfl rfl, e8_inI (lo := 0) (hi := 2) (a := 0) (b := 2) rfl rfl]
    cases c1 : qI 0 7 s
    · simp only [q_f]; exact hr _ 0 (by decide)
    cases c2 : qI 2 9 k
    · simp only [q_t, q_f]; exact hr _ 0 (by decide)
    cases c3 : qI 0 9999 w
    · simp only [q_t, q_f]; exact hr _ 0 (by decide)
    cases c4 : qI 0 2 o
    · simp only [q_t, q_f]; exact hr _ 0 (by decide)
    rw [c1, c2, c3, c4] at c; cases c
  unfold wp_X7_told
  rw [e7_isShelf]
  refine q_br (fun a => ?_) (fun a => bad (by rw [a]; rfl))
  have l2 : (2 : Int32).toInt = 2 := rfl
  have l9 : (9 : Int32).toInt = 9 := rfl
  refine ⟨fun c => bad ?_, fun c => ⟨fun d => bad ?_, fun d => ?_⟩⟩
  · have e9 : qI 2 9 k = false := qI_f.mpr (fun z => by rw [q_ltI, l2] at c; omega)
    rw [e9, Bool.and_false]; rfl
  · have e9 : qI 2 9 k = false := qI_f.mpr (fun z => by rw [q_ltI, l9] at d; omega)
    rw [e9, Bool.and_false]; rfl
  have hz : qI 2 9 k = true := qI_t.mpr ⟨by rw [q_ltI, l2] at c; omega, by rw [q_ltI, l9] at d; omega⟩
  rw [e7_isSecond]
  refine q_br (fun cw => ?_) (fun cw => bad (by rw [cw, Bool.and_false]; rfl))
  refine ⟨fun c => bad ?_, fun c => ⟨fun d => ?_, fun d => bad ?_⟩⟩
  · have e2 : qI 0 2 o = false := qI_f.mpr (fun z => by rw [q_ltI, q_zero] at c; omega)
    rw [e2, Bool.and_false]
  rotate_left
  · have e2 : qI 0 2 o = false := qI_f.mpr (fun z => d (by rw [q_leI]; exact z.2))
    rw [e2, Bool.and_false]
  have ho : qI 0 2 o = true := qI_t.mpr ⟨by rw [q_ltI, q_zero] at c; omega, by rw [q_leI] at d; exact d⟩
  obtain ⟨s, hs, rfl⟩ := qI07 a
  obtain ⟨k, hk1, rfl⟩ := qI_n (by decide) hz
  have hk9 : k ≤ 9 := by omega
  have hk2 : 2 ≤ k := by omega
  have vs : vp_in (nI s) 8 := q_in hs (by omega)
  have S1 := S.2 s hs
  have a3 := S1.2.1
  -- the reference behind its checks
  have m8 : ∀ P : Int32 → zS → Prop, wp_X8_noWay m (nI s) (nI k) (fun v11 s12 => (v11 = 0 → vp_in (nI s) 8 ∧ (∀ k14 : Nat, k14 = (nI s).toNatClampNeg → wp_X8_wrongIn s12 k14 (nI k) (fun v15 => (v15 = (-1 : Int32) → ∃ n : Nat, wp_X8_told_110 (nI s) (nI k) w o P n s12 w (0 : Int32) (1000000 : Int64) (1 : Int32)) ∧ (¬ v15 = (-1 : Int32) → wp_X8_refuse s12 (-5 : Int32) (fun v33 s34 => P v33 s34))))) ∧ (¬ v11 = 0 → P v11 s12)) → wp_X8_told m (nI s) (nI k) w o P := by
    intro P hP
    unfold wp_X8_told
    rw [e8_inI (lo := 0) (hi := 7) (a := 0) (b := 7) rfl rfl, a, q_t, e8_inI (lo := 2) (hi := 9) (a := 2) (b := 9) rfl rfl, hz, q_t, e8_inI (lo := 0) (hi := 9999) (a := 0) (b := 9999) rfl rfl, cw, q_t, e8_inI (lo := 0) (hi := 2) (a := 0) (b := 2) rfl rfl, ho, q_t]
    exact hP
  unfold wp_X7_rowFault
  rw [e7_rowsFault S hs hs]
  unfold qrf
  by_cases c2 : σ s 0 = 2 ∨ σ s 0 = 2
  · rw [if_pos c2]
    dsimp only
    rw [q_neg (by decide), e7_r3]
    refine m8 _ (a8_noWay S hs hk9 (fun _ => ?_) (fun z => by omega) (fun z1 => by omega))
    rw [q_neg (by decide)]
    exact hr _ 1 (by decide)
  rw [if_neg c2]
  by_cases c0 : σ s 0 = 0 ∨ σ s 0 = 0
  · rw [if_pos c0]
    dsimp only
    rw [q_neg (by decide), e7_r4]
    refine m8 _ (a8_noWay S hs hk9 (fun z => by omega) (fun _ => ?_) (fun z1 => by omega))
    rw [q_neg (by decide)]
    exact hr _ 2 (by decide)
  rw [if_neg c0]
  dsimp only
  have z1 : σ s 0 = 1 := by omega
  obtain ⟨d1, d2, d3, d4, d5, d6, d7⟩ := S1.2.2.2.1 z1
  rw [q_pos rfl]
  refine ⟨vs, fun k13 hk13 => ?_⟩
  rw [q_clamp (by omega)] at hk13
  subst hk13
  rw [d3, q_leN (by omega) (by omega), e7_r2]
  refine ⟨fun hks => ⟨vs, fun k15 hk15 => ?_⟩, fun hks => ?_⟩
  rotate_left
  · refine m8 _ (a8_noWay S hs hk9 (fun z => by omega) (fun z => by omega) (fun _ => ⟨fun z => absurd z hks, fun _ => ?_⟩))
    rw [q_neg (by decide)]
    exact hr _ 0 (by decide)
  rw [q_clamp (by omega)] at hk15
  subst hk15
  have m8' : ∀ P : Int32 → zS → Prop, ((∀ i, i < k → qgd ρ ((sh k15).2.2 2) i) → ∃ n, wp_X8_told_110 (nI k15) (nI k) w o P n m w 0 1000000 1) → (∀ i, i < k → ¬ qgd ρ ((sh k15).2.2 2) i → P (-5) (zA m 8 5 (m.2.1 8 5 + 1))) → wp_X8_told m (nI k15) (nI k) w o P := by
    intro P p1 p2
    refine m8 _ (a8_noWay S hs hk9 (fun z => by omega) (fun z => by omega) (fun _ => ⟨fun _ => ?_, fun z => absurd hks z⟩))
    rw [q_pos rfl]
    refine ⟨vs, fun k4 hk4 => ?_⟩
    rw [q_clamp (by omega)] at hk4
    subst hk4
    refine a8_wrong M (qW_L W) (f := (sh k4).2.2 2) (by omega) (fun i hi => d7 i (by omega)) (fun g => ?_) (fun i hi g1 g2 => ?_)
    · rw [q_pos rfl]; exact p1 g
    · rw [q_neg (fun c => by
        have n1 : ∀ n, n < 48 → ¬ nI n = (-1 : Int32) := by decide +kernel
        exact n1 _ (by omega) c), e8_r5]
      exact p2 i hi g2
  refine a7_wrong R S1 z1 hks (fun g => ?_) (fun i hi g1 g2 => ?_)
  rotate_left
  · rw [q_neg (fun c => by
      have n1 : ∀ n, n < 48 → ¬ nI n = (-1 : Int32) := by decide +kernel
      exact n1 _ (by omega) c), e7_r5]
    exact m8' _ (fun g => absurd (g i hi) g2) (fun _ _ _ => hr _ 3 (by decide))
  rw [q_pos rfl]
  refine ⟨vs, fun k18 hk18 => ?_⟩
  rw [q_clamp (by omega)] at hk18
  subst hk18
  refine a6_told S1 z1 (by omega) hk9 hks (fun i hi => (qgt_nI hc (g i hi).1).1) (fun y' Y => ?_)
  have hg0 := g
  generalize hf : (sh k18).2.2 2 = f at *
  have hl := qpt_len (qgt f) k
  obtain ⟨k', rfl⟩ : ∃ k', k = k' + 2 := ⟨k - 2, by omega⟩
  have hmem : ∀ q ∈ qpt (qgt f) (k' + 2), q < ρ.1 1 := fun q hq => by
    obtain ⟨i, hi, e⟩ := qpt_mem hq
    rw [e]; exact (qgt_nI hc (g i hi).1).2
  refine a5_take (b := qgt f (k' + 1)) R W Y (w := 0) (show 0 < 1 by decide) (show (qpt (qgt f) (k' + 2)).head? = _ from rfl) (show (qpt (qgt f) (k' + 2)).Nodup from qpt_nodup g) (show ∀ q ∈ qpt (qgt f) (k' + 2), q < ρ.1 1 from hmem) w (fun kk g0 g1 g2 g3 => ?_)
  have g1 : kk.1 1 = nI (qch ρ (qgt f (k' + 1)) w (qpt (qgt f) (k' + 2))) := g1
  have g2 : kk.1 2 = nI (qsec ρ (qpt (qgt f) (k' + 2))) := g2
  -- the reference's answer
  have m9 : ∀ v, (o = 0 → nI (qch ρ (qgt f (k' + 1)) w (qpt (qgt f) (k' + 2))) = v) → (¬ o = 0 → o = 1 → nI (qsec ρ (qpt (qgt f) (k' + 2))) = v) → (¬ o = 0 → ¬ o = 1 → nI (qrm ρ (qmk (qpt (fun j => qgt f (j + 1)) k'))) = v) → wp_X8_told m (nI k18) (nI (k' + 2)) w o (fun v' m' => post v x y' kk v' m') := by
    intro v v0 v1 v2
    refine m8' _ (fun g => a8_told M W hs hk2 hk9 (fun i hi => d7 i (by omega)) g w o (fun c => ?_) (fun c c1 => ?_) (fun c c1 => ?_)) (fun i hi g2 => absurd (g i hi) g2)
    · rw [← v0 c]; exact h _ _ _
    · rw [← v1 c c1]; exact h _ _ _
    · rw [← v2 c c1]; exact h _ _ _
  refine ⟨fun c => m9 _ (fun _ => g1.symm) (fun z => absurd c z) (fun z => absurd c z), fun c => ⟨fun c1 => m9 _ (fun z => absurd z c) (fun _ _ => g2.symm) (fun _ z => absurd c1 z), fun c1 => ?_⟩⟩
  have hb : ∀ q ∈ qpt (fun j => qgt f (j + 1)) k', q < 12 := fun q hq => by
    obtain ⟨i, hi, e⟩ := qpt_mem hq
    have := (qgt_nI hc (g (i + 1) (by omega)).1).2
    rw [e]; omega
  refine a6_between Y (w := 0) (show 0 < 1 by decide) (a := qgt f 0) (b := qgt f (k' + 1)) (mid := qpt (fun j => qgt f (j + 1)) k') (show qpt (qgt f) (k' + 2) = _ from by
    show qgt f (k' + 1) :: qpt (qgt f) (k' + 1) = _
    rw [qpt_shift]) hb ?_
  refine a1_readers R W (Nat.lt_of_lt_of_le (qmk_lt hb) (by decide)) ?_
  exact m9 _ (fun z => absurd z c) (fun _ z => absurd z c1) (fun _ _ => rfl)
end QTOLD3
