/-! told -/
section QTOLD2
variable {x r m : zS} {ρ : (Nat → Nat) × (Nat → Nat → Nat)} {sh : Nat → zS} {n : Nat} {σ : Nat → Nat → Nat}
theorem a6_told {y : zS} {h : zS} {s : Nat} {τ : Nat → Nat} (S : qS1 h m s n τ) (z : τ 0 = 1) {k : Nat} (hk1 : 1 ≤ k) (hk9 : k ≤ 9) (hk : k ≤ τ 2) (hg : ∀ i, i < k → (h.2.2 2 i).toInt32 = nI (qgt (h.2.2 2) i)) {post : zS → Prop}
    (hp : ∀ y', qY y' [qpt (qgt (h.2.2 2)) k] → post y') : wp_X6_takeTold y h (nI k) post := by
  have hlen := qpt_len (qgt (h.2.2 2)) k
  refine q_lp2 (B := wb_X6_takeTold_7 h (nI k) post) (fun q y' x3 => ∃ j, j + q = k ∧ x3 = nI j ∧ qY y' [] ∧ ∀ i, i < j → y'.2.1 4 i = nI (qgt (h.2.2 2) i)) ?_ k _ _ ⟨0, by omega, rfl, ⟨rfl, by decide, fun w hw => absurd hw (Nat.not_lt_zero w)⟩, fun i hi => absurd hi (by omega)⟩
  rintro q y' _ ⟨j, hj, rfl, Y, t⟩ K hK
  unfold wb_X6_takeTold_7
  by_cases e : nI k ≤ nI j
  · have := (q_leN (by omega) (by omega)).mp e
    have : j = k := by omega
    subst this
    rw [q_pos e]
    unfold wp_X6_takeTold_36
    have kk := a6_keep Y (π := qpt (qgt (h.2.2 2)) j) (by omega) (fun i hi => by rw [hlen] at hi; rw [qpt_at _ _ i hi]; exact t i hi) (by decide) (post := post) (fun y'' Y'' _ => hp y'' Y'')
    rw [hlen] at kk
    exact kk
  · have e' : ¬ k ≤ j := fun z => e ((q_leN (by omega) (by omega)).mpr z)
    rw [q_neg e, q_neg (fun c => by have := (nI_leI (a := 9) (by decide) (by omega)).mp c; omega), e2_cell S z (by omega), q_all, hg j (by omega)]
    refine ⟨q_in (by omega) (by omega), fun j7 hj7 v hv => ?_⟩
    rw [q_clamp (by omega)] at hj7
    subst hj7
    rw [hv, q_succ]
    refine hK (q - 1) _ _ (by omega) ⟨j7 + 1, by omega, rfl, qY_A Y (by decide) _ _, fun i hi => ?_⟩
    rw [z_A]
    by_cases w : i = j7
    · rw [if_pos ⟨rfl, w⟩, w]
    · rw [if_neg (by omega)]; exact t i (by omega)
/-- the reference along a told way -/
theorem a8_told (M : qMR m ρ) (W : qW ρ) {s : Nat} (hs : s < 8) {f : Nat → Int64} {k : Nat} (hk2 : 2 ≤ k) (hk9 : k ≤ 9) (hf : ∀ i, i < k → f i = m.2.2 (100 + s) i) (hg : ∀ i, i < k → qgd ρ f i) (w o : Int32) {post : Int32 → zS → Prop}
    (h0 : o = 0 → post (nI (qch ρ (qgt f (k - 1)) w (qpt (qgt f) k))) m) (h1 : ¬ o = 0 → o = 1 → post (nI (qsec ρ (qpt (qgt f) k))) m) (h2 : ¬ o = 0 → ¬ o = 1 → post (nI (qrm ρ (qmk (qpt (fun j => qgt f (j + 1)) (k - 2))))) m) :
    ∃ n, wp_X8_told_110 (nI s) (nI k) w o post n m w 0 1000000 1 := by
  have hc := M.2.2
  have vs : vp_in (nI s) 8 := q_in hs (by omega)
  have s1 : ∀ i, 1 ≤ i → nI i - (1 : Int32) = nI (i - 1) := fun i hi => pk_sub (b := 1) hi
  generalize hb : qgt f (k - 1) = b at *
  refine q_lp5 (B := wb_X8_told_110 (nI s) (nI k) w o post) (fun q m' x6 x7 x8 x10 => ∃ i, i + q = k ∧ 1 ≤ i ∧ m = m' ∧ x10 = nI i ∧ x6 = w + nI (qsec ρ (qpt (qgt f) i)) ∧ x8 = lN (qch ρ b w (qpt (qgt f) i)) ∧ x7 = nI (qrm ρ (qmk (qpt (fun j => qgt f (j + 1)) (min (i - 1) (k - 2)))))) ?_ (k - 1) _ _ _ _ _ ⟨1, by omega, by omega, rfl, rfl, ?_, rfl, ?_⟩
  · rintro q _ _ _ _ _ ⟨i, hi, hi1, rfl, rfl, rfl, rfl, rfl⟩ K hK
    have hq1 := qch_le (ρ := ρ) b w (qpt (qgt f) i)
    unfold wb_X8_told_110
    by_cases e : nI k ≤ nI i
    · have := (q_leN (by omega) (by omega)).mp e
      have : i = k := by omega
      subst this
      rw [q_pos e, lN_i]
      have mm : min (i - 1) (i - 2) = i - 2 := by omega
      rw [mm]
      refine ⟨h0, fun c => ⟨fun c1 => ?_, h2 c⟩⟩
      have : w + nI (qsec ρ (qpt (qgt f) i)) - w = nI (qsec ρ (qpt (qgt f) i)) := by
        rw [Int32.add_comm, Int32.add_sub_cancel]
      rw [this]
      exact h1 c c1
    · have e' : ¬ k ≤ i := fun z => e ((q_leN (by omega) (by omega)).mpr z)
      have vi : vp_in (nI i) 40 := q_in (by omega) (by omega)
      have vi1 : vp_in (nI (i - 1)) 40 := q_in (by omega) (by omega)
      obtain ⟨g1, g2⟩ := qgt_nI hc (hg i (by omega)).1
      obtain ⟨p1, p2⟩ := qgt_nI hc (hg (i - 1) (by omega)).1
      have g12 : qgt f i < 12 := by omega
      obtain ⟨i', rfl⟩ : ∃ i', i = i' + 1 := ⟨i - 1, by omega⟩
      simp only [Nat.add_sub_cancel] at p1 p2 vi1
      have l1000 : (1000 : Int64) = lN 1000 := rfl
      have d1000 : (1000 : Int32) = nI 1000 := rfl
      rw [q_neg e, s1 k (by omega), nI_eq (by omega) (by omega)]
      refine ⟨vs, fun k20 hk20 => ⟨vi, fun v21 hv21 => ?_⟩⟩
      rw [q_clamp (by omega)] at hk20
      subst hk20
      rw [q_clamp (by omega), ← hf (i' + 1) (by omega), g1] at hv21
      subst hv21
      have last : (qgt f (i' + 1) = b) ↔ i' + 1 = k - 1 := by
        refine ⟨fun c => ?_, fun c => by rw [← hb, ← c]⟩
        rcases Nat.lt_or_ge (i' + 1) (k - 1) with lt | ge
        · exfalso
          refine (hg (k - 1) (by omega)).2.1 ?_
          rw [hb, ← c]
          have : ∀ t, i' + 1 < t → qgt f (i' + 1) ∈ qpt (qgt f) t := by
            intro t
            induction t with
            | zero => intro h; omega
            | succ t ih =>
              intro h
              by_cases z : i' + 1 = t
              · rw [z]; exact List.mem_cons_self
              · exact List.mem_cons_of_mem _ (ih (by omega))
          exact this _ lt
        · omega
      have go : ∀ l : Bool, l = decide (qgt f (i' + 1) = b) → wp_X8_told_151 (nI k20) (nI k) w o post K m (w + nI (qsec ρ (qpt (qgt f) (i' + 1)))) (nI (qrm ρ (qmk (qpt (fun j => qgt f (j + 1)) (min (i' + 1 - 1) (k - 2)))))) (nI (i' + 1)) (nI (qgt f (i' + 1))) (qz l) (w + nI (qsec ρ (qpt (qgt f) (i' + 1)))) (nI (qgt f (i' + 1))) (1000 : Int32) (lN (qch ρ b w (qpt (qgt f) (i' + 1)))) := by
        intro l hl
        unfold wp_X8_told_151
        refine a8_loss M W g2 l _ ?_
        have hla := qla_le ρ (qgt f (i' + 1)) l (w + nI (qsec ρ (qpt (qgt f) (i' + 1))))
        have hm : qch ρ b w (qpt (qgt f) (i' + 1)) * (1000 - qla ρ (qgt f (i' + 1)) l (w + nI (qsec ρ (qpt (qgt f) (i' + 1))))) ≤ 1000000 * 1000 := Nat.mul_le_mul hq1 (by omega)
        have ec : qch ρ b w (qpt (qgt f) (i' + 1 + 1)) = qch ρ b w (qpt (qgt f) (i' + 1)) * (1000 - qla ρ (qgt f (i' + 1)) l (w + nI (qsec ρ (qpt (qgt f) (i' + 1))))) / 1000 := by
          rw [hl]; rfl
        have es : qsec ρ (qpt (qgt f) (i' + 1 + 1)) = qsec ρ (qpt (qgt f) (i' + 1)) + qtk ρ (qgt f i') := rfl
        rw [q_all, d1000, pk_sub (by omega), nI_l (by omega), lN_mul, l1000, pk_lDiv (by omega) (by decide) (by decide), ← ec]
        refine ⟨vs, fun k25 hk25 => ?_⟩
        rw [q_clamp (by omega)] at hk25
        subst hk25
        rw [s1 (i' + 1) (by omega), show i' + 1 - 1 = i' by omega, q_clamp (by omega), ← hf i' (by omega), p1]
        refine ⟨vi1, a8_hand M W p2 ?_⟩
        rw [q_all, Int32.add_assoc, nI_add, ← es]
        -- the readers
        have nx : ∀ y, y = qrm ρ (qmk (qpt (fun j => qgt f (j + 1)) (min (i' + 1) (k - 2)))) → K m (w + nI (qsec ρ (qpt (qgt f) (i' + 1 + 1)))) (nI y) (lN (qch ρ b w (qpt (qgt f) (i' + 1 + 1)))) (nI (i' + 1 + 1)) := by
          intro y hy
          exact hK (q - 1) _ _ _ _ _ (by omega) ⟨i' + 1 + 1, by omega, by omega, rfl, rfl, rfl, rfl, by rw [hy, show i' + 1 + 1 - 1 = i' + 1 by omega]⟩
        have r214 : (∀ q, qrm ρ (qmk (qpt (fun j => qgt f (j + 1)) (min i' (k - 2)))) = q → q = qrm ρ (qmk (qpt (fun j => qgt f (j + 1)) (min (i' + 1) (k - 2))))) → wp_X8_told_214 (nI k25) (nI k) w o post K m (w + nI (qsec ρ (qpt (qgt f) (i' + 1 + 1)))) (lN (qch ρ b w (qpt (qgt f) (i' + 1 + 1)))) (nI (i' + 1)) (nI (qrm ρ (qmk (qpt (fun j => qgt f (j + 1)) (min i' (k - 2)))))) := by
          intro hq
          unfold wp_X8_told_214 wp_X8_told_215
          rw [q_all, q_all, q_or0, q_succ]
          exact nx _ (hq _ rfl)
        rw [s1 k (by omega), q_leN (by omega) (by omega)]
        refine ⟨fun c => r214 (fun q hq => by rw [← hq, show min (i' + 1) (k - 2) = min i' (k - 2) by omega]), fun c => ?_⟩
        have m1 : min i' (k - 2) = i' := by omega
        have m2 : min (i' + 1) (k - 2) = i' + 1 := by omega
        have hr6 := (W.2.1 _ g2).1
        have st := qrm_cons (ρ := ρ) (q := qgt f (i' + 1)) (t := qpt (fun j => qgt f (j + 1)) i') g2
        rw [q_clamp (by omega), (M.2.1 _ g2).1, e8_reads hr6]
        refine ⟨q_in (by omega) (by omega), q_br (fun d => ?_) (fun d => r214 (fun q hq => ?_))⟩
        · unfold wp_X8_told_215
          have d' : qrd ρ (qgt f (i' + 1)) = true := d
          rw [q_all, q_all, q_shl1 _ (by omega), q_or, q_succ]
          refine nx _ ?_
          rw [m1, m2]
          rw [if_pos d'] at st
          exact st.symm
        · have d' : qrd ρ (qgt f (i' + 1)) = false := d
          rw [m1] at hq
          rw [m2, ← hq]
          rw [d', if_neg (by decide), Nat.or_zero] at st
          exact st.symm
      refine ⟨fun c => go true (by rw [decide_eq_true (last.mpr c)]), fun c => go false (by rw [decide_eq_false (fun z => c (last.mp z))])⟩
  · show w = w + nI 0
    exact (Int32.add_zero w).symm
  · rw [show min (1 - 1) (k - 2) = 0 by omega]
    have : qrm ρ (qmk (qpt (fun j => qgt f (j + 1)) 0)) = 0 := by
      refine Nat.eq_of_testBit_eq (fun i => ?_)
      unfold qrm; rw [qmask_bit]; simp [qmk, qpt]
    rw [this]; rfl
end QTOLD2
