/-! the reference's small methods over the same room -/
def qMR (m : zS) (ρ : (Nat → Nat) × (Nat → Nat → Nat)) : Prop :=
  (m.1 9 = nI (ρ.1 0) ∧ m.1 10 = nI (ρ.1 1) ∧ m.1 15 = nI (ρ.1 2) ∧ m.1 16 = nI (ρ.1 3) ∧ m.1 17 = nI (ρ.1 4)) ∧
  (∀ p, p < ρ.1 1 → m.2.1 11 p = nI (ρ.2 5 p) ∧ m.2.1 12 p = nI (ρ.2 6 p) ∧ m.2.1 13 p = nI (ρ.2 7 p) ∧ m.2.1 14 p = nI (ρ.2 8 p)) ∧ ρ.1 1 ≤ 12
theorem q8_has {a q : Nat} (ha : a < 2 ^ 31) (hq : q < 31) {post : Int32 → Prop} (h1 : a.testBit q = true → post 1) (h0 : a.testBit q = false → post 0) :
    wp_X8_has (nI a) (nI q) post := by
  unfold wp_X8_has
  rw [q_bit0 ha (by omega)]
  refine ⟨h0, fun c => h1 ?_⟩
  cases e : a.testBit q with
  | true => rfl
  | false => exact absurd e c
theorem q8_bes : ∀ a, a < 16 → ∀ b, b < 16 → (((nI a / (4 : Int32) - nI b / (4 : Int32)) * (nI a / (4 : Int32) - nI b / (4 : Int32)) + ((nI a - nI a / (4 : Int32) * (4 : Int32)) - (nI b - nI b / (4 : Int32) * (4 : Int32))) * ((nI a - nI a / (4 : Int32) * (4 : Int32)) - (nI b - nI b / (4 : Int32) * (4 : Int32)))) = (1 : Int32) ↔ qbs a b = true) := by decide +kernel
theorem qbs_self (a : Nat) : qbs a a = false := by unfold qbs; simp
theorem q8_areBeside {m : zS} {ρ : (Nat → Nat) × (Nat → Nat → Nat)} (R : qMR m ρ) (L : qL ρ) {p q : Nat} (hp : p < ρ.1 1) (hq : q < ρ.1 1) {post : Int32 → Prop}
    (h1 : qnb ρ p q = true → post 1) (h0 : qnb ρ p q = false → post 0) : wp_X8_areBeside m (nI p) (nI q) post := by
  have hc := R.2.2
  have hq12 : (2 : Nat) ^ 12 = 4096 := by decide
  have lp := L.2 p hp
  have lq := L.2 q hq
  unfold wp_X8_areBeside
  rw [q_clamp (by omega), q_clamp (by omega), (R.2.1 p hp).2.1, (R.2.1 q hq).2.1, (R.2.1 p hp).2.2.2]
  refine ⟨q_in (by omega) (by omega), q_in (by omega) (by omega), fun v1 e1 => ⟨q_in (by omega) (by omega), q_in (by omega) (by omega), fun v2 e2 => ⟨fun c => ?_, fun c => ⟨q_in (by omega) (by omega), ?_⟩⟩⟩⟩
  · have : p = q := (nI_eq (by omega) (by omega)).mp c
    subst this
    exact h0 (by unfold qnb; rw [qbs_self]; rfl)
  · refine q8_has (by omega) (by omega) (fun hb => ⟨fun c => absurd c (by decide), fun _ => h0 (by unfold qnb; rw [hb]; simp)⟩) (fun hb => ⟨fun _ => ?_, fun c => absurd rfl c⟩)
    rw [e1, e2, q8_bes _ lp.1 _ lq.1]
    refine ⟨fun c => h1 (by unfold qnb; rw [hb, c]; rfl), fun c => h0 ?_⟩
    unfold qnb
    cases e : qbs (ρ.2 6 p) (ρ.2 6 q) with
    | false => rfl
    | true => exact absurd e c
theorem q_or0 (i : Nat) : nI i ||| (0 : Int32) = nI i := by rw [show (0 : Int32) = nI 0 from rfl, q_or, Nat.or_zero]
theorem q8_beside {m : zS} {ρ : (Nat → Nat) × (Nat → Nat → Nat)} (R : qMR m ρ) (L : qL ρ) {p : Nat} (hp : p < ρ.1 1) {post : Int32 → Prop}
    (h : post (nI (qN ρ p))) : wp_X8_beside m (nI p) post := by
  have hc := R.2.2
  have key : ∀ k i, i + k = ρ.1 1 → wp_X8_beside_4 m (nI p) post (k + 1) (nI (qmask i (qnb ρ p))) (nI i) := by
    intro k
    induction k with
    | zero =>
      intro i hi
      rw [wu_X8_beside_4]
      unfold wb_X8_beside_4
      rw [R.1.2.1]
      have e : i = ρ.1 1 := by omega
      refine ⟨fun _ => by rw [e]; exact h, fun c => absurd ((q_leN (by omega) (by omega)).mpr (by omega)) c⟩
    | succ k ih =>
      intro i hi
      rw [wu_X8_beside_4]
      unfold wb_X8_beside_4
      rw [R.1.2.1]
      refine ⟨fun c => ?_, fun _ => ?_⟩
      · have := (q_leN (by omega) (by omega)).mp c; omega
      · refine q8_areBeside R L hp (by omega) (fun hb => ⟨fun c => absurd c (by decide), fun _ => ?_⟩) (fun hb => ⟨fun _ => ?_, fun c => absurd rfl c⟩)
        · intro v hv w hw
          rw [hv, hw, q_succ, q_shl1 i (by omega), q_or]
          have := ih (i + 1) (by omega)
          rw [show qmask (i + 1) (qnb ρ p) = qmask i (qnb ρ p) ||| (if qnb ρ p i = true then 2 ^ i else 0) from rfl, if_pos hb] at this
          exact this
        · intro v hv w hw
          rw [hv, hw, q_succ, q_or0]
          have := ih (i + 1) (by omega)
          rw [show qmask (i + 1) (qnb ρ p) = qmask i (qnb ρ p) ||| (if qnb ρ p i = true then 2 ^ i else 0) from rfl, hb, if_neg (by decide), Nat.or_zero] at this
          exact this
  exact ⟨_, key (ρ.1 1) 0 (by omega)⟩
theorem q8_sitting {m : zS} {ρ : (Nat → Nat) × (Nat → Nat → Nat)} (R : qMR m ρ) {p : Int32} {post : Int32 → Prop}
    (h1 : ∀ q, q < ρ.1 1 → p = nI (ρ.2 6 q) → post (nI q)) (h0 : (∀ q, q < ρ.1 1 → p ≠ nI (ρ.2 6 q)) → post (-1)) :
    wp_X8_sitting m p post := by
  have hc := R.2.2
  have key : ∀ k i, i + k = ρ.1 1 → (∀ q, q < i → p ≠ nI (ρ.2 6 q)) → wp_X8_sitting_2 m p post (k + 1) (nI i) := by
    intro k
    induction k with
    | zero =>
      intro i hi hno
      rw [wu_X8_sitting_2]
      unfold wb_X8_sitting_2
      rw [R.1.2.1]
      refine ⟨fun _ => h0 (fun q hq => hno q (by omega)), fun c => absurd ((q_leN (by omega) (by omega)).mpr (by omega)) c⟩
    | succ k ih =>
      intro i hi hno
      rw [wu_X8_sitting_2]
      unfold wb_X8_sitting_2
      rw [R.1.2.1]
      refine ⟨fun c => ?_, fun _ => ⟨q_in (by omega) (by omega), ?_⟩⟩
      · have := (q_leN (by omega) (by omega)).mp c; omega
      · rw [q_clamp (by omega), (R.2.1 i (by omega)).2.1]
        refine ⟨fun c => h1 i (by omega) c.symm, fun c v hv => ?_⟩
        rw [hv, q_succ]
        refine ih (i + 1) (by omega) (fun q hq => ?_)
        by_cases e : q = i
        · rw [e]; exact fun x => c x.symm
        · exact hno q (by omega)
  exact ⟨_, key (ρ.1 1) 0 (by omega) (fun q hq => absurd hq (by omega))⟩
