/-! who sits in a row -/
def qrw (ρ : (Nat → Nat) × (Nat → Nat → Nat)) (p : Int32) (i : Nat) : Bool := decide (nI (ρ.2 6 i) / (4 : Int32) = p)
theorem s_inRow {x r m : zS} {ρ : (Nat → Nat) × (Nat → Nat → Nat)} (R : qRm r ρ) (M : qMR m ρ) (W : qW ρ) (p : Int32) {post : Int32 → zS → Int32 → zS → Prop}
    (h : ∀ v, post v x v m) (hr : qRef x m 0 post) :
    wp_X7_inRow x r p (fun v x' => wp_X8_inRow m p (fun v' m' => post v x' v' m')) := by
  have hc := R.1.2.2
  have hw4 := W.1.2.1
  have key8 : ∀ v, v = nI (qmask (ρ.1 1) (qrw ρ p)) → ∀ k i, i + k = ρ.1 1 → wp_X8_inRow_27 p (fun v' m' => post v x v' m') (k + 1) m (nI (qmask i (qrw ρ p))) (nI i) := by
    intro v hv k
    induction k with
    | zero =>
      intro i hi
      rw [wu_X8_inRow_27]
      unfold wb_X8_inRow_27
      rw [M.1.2.1]
      have e : i = ρ.1 1 := by omega
      refine ⟨fun _ => by rw [e, ← hv]; exact h v, fun c => absurd ((q_leN (by omega) (by omega)).mpr (by omega)) c⟩
    | succ k ih =>
      intro i hi
      rw [wu_X8_inRow_27]
      unfold wb_X8_inRow_27
      rw [M.1.2.1]
      refine ⟨fun c => ?_, fun _ => ⟨q_in (by omega) (by omega), ?_⟩⟩
      · have := (q_leN (by omega) (by omega)).mp c; omega
      · rw [q_clamp (by omega), (M.2.1 i (by omega)).2.1]
        have k' := ih (i + 1) (by omega)
        refine ⟨fun d v hv w hw => ?_, fun d v hv w hw => ?_⟩
        · rw [qmask_t (by unfold qrw; exact decide_eq_true d)] at k'
          rw [hv, hw, q_shl1 i (by omega), q_or, q_succ]; exact k'
        · rw [qmask_f (by unfold qrw; exact decide_eq_false d)] at k'
          rw [hv, hw, q_or0, q_succ]; exact k'
  have hm : ∀ n, n < 5 → (nI n - (1 : Int32)).toInt = (n : Int) - 1 := by decide +kernel
  have key7 : (0 ≤ p.toInt ∧ p.toInt < ρ.1 0) → ∀ k i, i + k = ρ.1 1 → wp_X7_inRow_26 r p (fun v x' => wp_X8_inRow m p (fun v' m' => post v x' v' m')) (k + 1) x (nI (qmask i (qrw ρ p))) (nI i) := by
    intro hp k
    induction k with
    | zero =>
      intro i hi
      rw [wu_X7_inRow_26]
      unfold wb_X7_inRow_26
      rw [R.1.1 1 (by decide)]
      have e : i = ρ.1 1 := by omega
      refine ⟨fun _ => ?_, fun c => absurd ((q_leN (by omega) (by omega)).mpr (by omega)) c⟩
      unfold wp_X8_inRow
      rw [M.1.1]
      refine q8_in (fun _ _ => ⟨fun c => absurd c (by decide), fun _ => ⟨_, key8 _ (by rw [e]) (ρ.1 1) 0 (by omega)⟩⟩) (fun d => ?_)
      rw [q_64, q_64, hm _ (by omega)] at d
      have d : p.toInt < 0 ∨ (ρ.1 0 : Int) - 1 < p.toInt := d
      omega
    | succ k ih =>
      intro i hi
      rw [wu_X7_inRow_26]
      unfold wb_X7_inRow_26
      rw [R.1.1 1 (by decide)]
      refine ⟨fun c => ?_, fun _ => q1_deskAt R (by omega) ?_⟩
      · have := (q_leN (by omega) (by omega)).mp c; omega
      · have k' := ih (i + 1) (by omega)
        refine ⟨fun d v hv w hw => ?_, fun d w hw => ?_⟩
        · rw [qmask_t (by unfold qrw; exact decide_eq_true d)] at k'
          rw [hv, hw, q_shl1 i (by omega), q_or, q_succ]; exact k'
        · rw [qmask_f (by unfold qrw; exact decide_eq_false d)] at k'
          rw [hw, q_succ]; exact k'
  have no : ¬ (0 ≤ p.toInt ∧ p.toInt < ρ.1 0) → wp_X7_inRow_15 r p (fun v x' => wp_X8_inRow m p (fun v' m' => post v x' v' m')) x := by
    intro hp
    refine q7_refuse (k := 0) (by omega) ?_
    unfold wp_X8_inRow
    rw [M.1.1]
    refine q8_in (fun c d => ?_) (fun _ => ⟨fun _ => q8_refuse (k := 0) (by omega) hr, fun c => absurd rfl c⟩)
    rw [q_64, q_64, hm _ (by omega)] at d
    rw [q_64] at c
    have c : 0 ≤ p.toInt := c
    omega
  unfold wp_X7_inRow
  rw [R.1.1 0 (by decide), q_ltI, q_zero, q_ltI, nI_toInt (by omega)]
  exact ⟨fun c => no (by omega), fun c => ⟨fun d => ⟨_, key7 (by omega) (ρ.1 1) 0 (by omega)⟩, fun d => no (by omega)⟩⟩
