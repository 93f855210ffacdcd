/-! the pupil with the most neighbours -/
def qcr (ρ : (Nat → Nat) × (Nat → Nat → Nat)) : Nat → Nat
  | 0 => 0
  | i + 1 => if qpop (qN ρ (i + 1)) ≤ qpop (qN ρ (qcr ρ i)) then qcr ρ i else i + 1
theorem qcr_le (ρ : (Nat → Nat) × (Nat → Nat → Nat)) (i : Nat) : qcr ρ i ≤ i := by
  induction i with
  | zero => exact Nat.le_refl 0
  | succ i ih =>
    unfold qcr
    split <;> omega
theorem qpop_le (a : Nat) : qpop a ≤ 12 := by unfold qpop; omega
theorem s_crowd {x r m : zS} {ρ : (Nat → Nat) × (Nat → Nat → Nat)} (R : qRm r ρ) (M : qMR m ρ) (L : qL ρ) {post : Int32 → zS → Int32 → zS → Prop}
    (h : ∀ v, post v x v m) (hr : qRef x m 3 post) :
    wp_X7_crowd x r (fun v x' => wp_X8_crowd m (fun v' m' => post v x' v' m')) := by
  have hc := R.1.2.2
  have p12 := qpop_le
  unfold wp_X7_crowd
  rw [R.1.1 1 (by decide)]
  refine ⟨fun c => ?_, fun c => ?_⟩
  · refine q7_refuse (k := 3) (by omega) ?_
    unfold wp_X8_crowd
    rw [M.1.2.1]
    exact ⟨fun _ => q8_refuse (k := 3) (by omega) hr, fun d => absurd c d⟩
  · have hn : ρ.1 1 ≠ 0 := fun e => c (by rw [e]; rfl)
    have m8 : ∀ v, v = nI (qcr ρ (ρ.1 1 - 1)) → wp_X8_crowd m (fun v' m' => post v x v' m') := by
      intro v hv
      unfold wp_X8_crowd
      rw [M.1.2.1]
      refine ⟨fun d => absurd d c, fun _ => ?_⟩
      have key : ∀ k i, i + 1 + k = ρ.1 1 → wp_X8_crowd_18 (fun v' m' => post v x v' m') (k + 1) m (nI (qcr ρ i)) (nI (i + 1)) := by
        intro k
        induction k with
        | zero =>
          intro i hi
          rw [wu_X8_crowd_18]
          unfold wb_X8_crowd_18
          rw [M.1.2.1]
          have e : i = ρ.1 1 - 1 := by omega
          refine ⟨fun _ => by rw [e, ← hv]; exact h v, fun c => absurd ((q_leN (by omega) (by omega)).mpr (by omega)) c⟩
        | succ k ih =>
          intro i hi
          have hq := qcr_le ρ i
          have k' := ih (i + 1) (by omega)
          unfold qcr at k'
          rw [wu_X8_crowd_18]
          unfold wb_X8_crowd_18
          rw [M.1.2.1]
          refine ⟨fun c => ?_, fun _ => q8_beside M L (by omega) (q8_bits (qN_lt hc _) (q8_beside M L (by omega) (q8_bits (qN_lt hc _) ?_)))⟩
          · have := (q_leN (by omega) (by omega)).mp c; omega
          · rw [q_leN (by have := p12 (qN ρ (i + 1)); omega) (by have := p12 (qN ρ (qcr ρ i)); omega)]
            refine ⟨fun d w hw => ?_, fun d w hw => ?_⟩
            · rw [if_pos d] at k'; rw [hw, q_succ]; exact k'
            · rw [if_neg d] at k'; rw [hw, q_succ]; exact k'
      exact ⟨_, key (ρ.1 1 - 1) 0 (by omega)⟩
    have key : ∀ k i, i + 1 + k = ρ.1 1 → wp_X7_crowd_21 r (fun v x' => wp_X8_crowd m (fun v' m' => post v x' v' m')) (k + 1) x (nI (qcr ρ i)) (nI (i + 1)) := by
      intro k
      induction k with
      | zero =>
        intro i hi
        rw [wu_X7_crowd_21]
        unfold wb_X7_crowd_21
        rw [R.1.1 1 (by decide)]
        have e : i = ρ.1 1 - 1 := by omega
        refine ⟨fun _ => m8 _ (by rw [e]), fun c => absurd ((q_leN (by omega) (by omega)).mpr (by omega)) c⟩
      | succ k ih =>
        intro i hi
        have hq := qcr_le ρ i
        have k' := ih (i + 1) (by omega)
        unfold qcr at k'
        rw [wu_X7_crowd_21]
        unfold wb_X7_crowd_21
        rw [R.1.1 1 (by decide)]
        refine ⟨fun c => ?_, fun _ => q1_neighboursOf R (by omega) (q1_neighboursOf R (by omega) ?_)⟩
        · have := (q_leN (by omega) (by omega)).mp c; omega
        · rw [q_leN (by have := p12 (qN ρ (i + 1)); omega) (by have := p12 (qN ρ (qcr ρ i)); omega)]
          refine ⟨fun d w hw => ?_, fun d w hw => ?_⟩
          · rw [if_pos d] at k'; rw [hw, q_succ]; exact k'
          · rw [if_neg d] at k'; rw [hw, q_succ]; exact k'
    exact ⟨_, key (ρ.1 1 - 1) 0 (by omega)⟩
