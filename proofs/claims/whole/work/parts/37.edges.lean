/-! edges: both sides count the same -/
theorem qN_lt {ρ : (Nat → Nat) × (Nat → Nat → Nat)} (hc : ρ.1 1 ≤ 12) (p : Nat) : qN ρ p < 4096 :=
  Nat.lt_of_lt_of_le (qmask_lt _ _) (Nat.pow_le_pow_right (n := 2) (by decide) hc)
theorem q1_neighboursOf {r : zS} {ρ : (Nat → Nat) × (Nat → Nat → Nat)} (R : qRm r ρ) {q : Nat} (hq : q < ρ.1 1) {post : Int32 → Prop}
    (h : post (nI (qpop (qN ρ q)))) : wp_X1_neighboursOf r (nI q) post := by
  have hc := R.1.2.2
  unfold wp_X1_neighboursOf
  refine q1_nearOf R (fun a ha e => ?_) (fun hn => absurd rfl (hn q hq))
  have : q = a := (nI_eq (by omega) (by omega)).mp e
  rw [← this]
  exact q_bitCount (qN_lt hc q) h
def qed (ρ : (Nat → Nat) × (Nat → Nat → Nat)) : Nat → Nat
  | 0 => 0
  | i + 1 => qed ρ i + qpop (qN ρ i)
theorem q7_edges {x r : zS} {ρ : (Nat → Nat) × (Nat → Nat → Nat)} (R : qRm r ρ) {post : Int32 → Prop}
    (h : post (nI (qed ρ (ρ.1 1)) / (2 : Int32))) : wp_X7_edges x r post := by
  have hc := R.1.2.2
  have key : ∀ k i, i + k = ρ.1 1 → wp_X7_edges_4 x r post (k + 1) (nI (qed ρ i)) (nI i) := by
    intro k
    induction k with
    | zero =>
      intro i hi
      rw [wu_X7_edges_4]
      unfold wb_X7_edges_4
      rw [R.1.1 1 (by decide)]
      have e : i = ρ.1 1 := by omega
      refine ⟨fun _ => by rw [e]; exact h, fun c => absurd ((q_leN (by omega) (by omega)).mpr (by omega)) c⟩
    | succ k ih =>
      intro i hi
      rw [wu_X7_edges_4]
      unfold wb_X7_edges_4
      rw [R.1.1 1 (by decide)]
      refine ⟨fun c => ?_, fun _ => q1_neighboursOf R (by omega) (fun v hv w hw => ?_)⟩
      · have := (q_leN (by omega) (by omega)).mp c; omega
      · rw [hv, hw, nI_add, q_succ]; exact ih (i + 1) (by omega)
  exact ⟨_, key (ρ.1 1) 0 (by omega)⟩
theorem q8_edges {m : zS} {ρ : (Nat → Nat) × (Nat → Nat → Nat)} (R : qMR m ρ) (L : qL ρ) {post : Int32 → Prop}
    (h : post (nI (qed ρ (ρ.1 1)) / (2 : Int32))) : wp_X8_edges m post := by
  have hc := R.2.2
  have key : ∀ k i, i + k = ρ.1 1 → wp_X8_edges_4 m post (k + 1) (nI (qed ρ i)) (nI i) := by
    intro k
    induction k with
    | zero =>
      intro i hi
      rw [wu_X8_edges_4]
      unfold wb_X8_edges_4
      rw [R.1.2.1]
      have e : i = ρ.1 1 := by omega
      refine ⟨fun _ => by rw [e]; exact h, fun c => absurd ((q_leN (by omega) (by omega)).mpr (by omega)) c⟩
    | succ k ih =>
      intro i hi
      rw [wu_X8_edges_4]
      unfold wb_X8_edges_4
      rw [R.1.2.1]
      refine ⟨fun c => ?_, fun _ => q8_beside R L (by omega) (q8_bits (qN_lt hc i) (fun v hv w hw => ?_))⟩
      · have := (q_leN (by omega) (by omega)).mp c; omega
      · rw [hv, hw, nI_add, q_succ]; exact ih (i + 1) (by omega)
  exact ⟨_, key (ρ.1 1) 0 (by omega)⟩
