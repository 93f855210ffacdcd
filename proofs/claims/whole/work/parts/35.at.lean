/-! calls that only ask about the room -/
/-- what the room of a class may hold -/
def qW (ρ : (Nat → Nat) × (Nat → Nat → Nat)) : Prop :=
  (2 ≤ ρ.1 0 ∧ ρ.1 0 ≤ 4 ∧ ρ.1 1 ≤ 12 ∧ 1 ≤ ρ.1 2 ∧ ρ.1 2 ≤ 20 ∧ ρ.1 3 ≤ ρ.1 2 ∧ ρ.1 4 ≤ 1000) ∧
  (∀ p, p < ρ.1 1 → ρ.2 5 p < 6 ∧ ρ.2 6 p < 4 * ρ.1 0 ∧ ρ.2 7 p < 10 ∧ ρ.2 8 p < 2 ^ 12) ∧
  (∀ p q, p < ρ.1 1 → q < ρ.1 1 → ρ.2 6 p = ρ.2 6 q → p = q) ∧
  (∀ p q, p < ρ.1 1 → (ρ.2 8 p).testBit q = true → q < ρ.1 1 ∧ q ≠ p ∧ (ρ.2 8 q).testBit p = true)
theorem qW_L {ρ : (Nat → Nat) × (Nat → Nat → Nat)} (W : qW ρ) : qL ρ :=
  ⟨W.1.2.2.1, fun p hp => ⟨by have := (W.2.1 p hp).2.1; have := W.1.2.1; omega, (W.2.1 p hp).2.2.2⟩⟩
/-- both sides refuse alike -/
def qRef (x m : zS) (k : Nat) (post : Int32 → zS → Int32 → zS → Prop) : Prop :=
  post (nI k * (-1) + (-2)) (zA x 12 k (x.2.1 12 k + 1)) (nI k * (-1) + (-2)) (zA m 8 (k + 2) (m.2.1 8 (k + 2) + 1))
theorem q_both {x m : zS} {k : Nat} (hk : k < 5) {post : Int32 → zS → Int32 → zS → Prop} (h : qRef x m k post) :
    wp_X7_refuse x (nI k * (-1) + (-2)) (fun r x' => wp_X8_refuse m (nI k * (-1) + (-2)) (fun r' m' => post r x' r' m')) :=
  q7_refuse hk (q8_refuse hk h)
theorem s_at {x r m : zS} {ρ : (Nat → Nat) × (Nat → Nat → Nat)} (R : qRm r ρ) (M : qMR m ρ) (W : qW ρ) (p : Int32) {post : Int32 → zS → Int32 → zS → Prop}
    (h : ∀ v, post v x v m) (hr : qRef x m 0 post) :
    wp_X7_at x r p (fun v x' => wp_X8_at m p (fun v' m' => post v x' v' m')) := by
  have hc := R.1.2.2
  have hdist := W.2.2.1
  unfold wp_X7_at wp_X8_at
  refine q1_hasDesk R.1 W.1.2.1 (fun q hq e => ⟨fun c => absurd c (by decide), fun _ => ?_⟩) (fun hno => ⟨fun _ => ?_, fun c => absurd rfl c⟩)
  · have hin : ∀ {Q : Int32 → Prop}, Q 1 → wp_X8_isDesk m p Q := fun hQ => q8_isDesk M W.1.2.1 (fun _ _ _ => hQ) (fun hno => absurd e (hno q hq))
    refine q1_holderOf R.1 (fun a ha ea => ?_) (fun hn => ?_)
    · refine hin ⟨fun c => absurd c (by decide), fun _ => q8_sitting M (fun b hb eb => ?_) (fun hn => absurd ea (hn a ha))⟩
      have : a = b := by
        refine hdist a b ha hb ?_
        have := (W.2.1 a ha).2.1
        have := (W.2.1 b hb).2.1
        have := W.1.2.1
        rw [ea] at eb
        exact (nI_eq (by omega) (by omega)).mp eb
      rw [this]; exact h _
    · exact hin ⟨fun c => absurd c (by decide), fun _ => q8_sitting M (fun b hb eb => absurd eb (hn b hb)) (fun _ => h _)⟩
  · refine q7_refuse (k := 0) (by omega) (q8_isDesk M W.1.2.1 (fun q hq e => absurd e (hno q hq)) (fun _ => ⟨fun _ => q8_refuse (k := 0) (by omega) hr, fun c => absurd rfl c⟩))
theorem q1_markOf {r : zS} {ρ : (Nat → Nat) × (Nat → Nat → Nat)} (R : qRm r ρ) {p : Int32} {post : Int32 → Prop}
    (h1 : ∀ q, q < ρ.1 1 → p = nI q → post (nI (ρ.2 7 q))) (h0 : (∀ q, q < ρ.1 1 → p ≠ nI q) → post (-1)) : wp_X1_markOf r p post :=
  q1_get R.1 (R.1.2.1 7 (by decide)) h1 h0
theorem s_pupilOf {x r m : zS} {ρ : (Nat → Nat) × (Nat → Nat → Nat)} (R : qRm r ρ) (M : qMR m ρ) (W : qW ρ) (p k : Int32) {post : Int32 → zS → Int32 → zS → Prop}
    (h : ∀ v, post v x v m) (hr : qRef x m 0 post) :
    wp_X7_pupilOf x r p k (fun v x' => wp_X8_pupilOf m p k (fun v' m' => post v x' v' m')) := by
  have hc := R.1.2.2
  unfold wp_X7_pupilOf
  refine q1_has R.1 (fun q hq e => ⟨fun c => absurd c (by decide), fun _ => ?_⟩) (fun hno => ⟨fun _ => ?_, fun c => absurd rfl c⟩)
  · have hin : ∀ {Q : Int32 → Prop}, Q 1 → wp_X8_isPupil m p.toInt64 Q := fun hQ => q8_isPupil M (fun _ _ _ => hQ) (fun hno => absurd e (hno q hq))
    have hv : vp_in p 12 := by rw [e]; exact q_in (by omega) (by omega)
    have hcl : p.toNatClampNeg = q := by rw [e]; exact q_clamp (by omega)
    have hM := M.2.1 q hq
    have no : ∀ {A : Int32 → Prop}, (∀ a, a < ρ.1 1 → p = nI a → A (nI a)) → A p := fun hA => by rw [e]; exact hA q hq e
    have eq : ∀ a, a < ρ.1 1 → p = nI a → a = q := fun a ha ea => (nI_eq (by omega) (by omega)).mp (ea.symm.trans e)
    refine ⟨fun c => ?_, fun c => ?_, fun c => ?_, fun c => ?_, fun c => ?_, fun c0 c1 c2 c3 c4 => ?_⟩
    · subst c
      refine q1_kindOf R (fun a ha ea => ?_) (fun hn => absurd e (hn q hq))
      rw [eq a ha ea]
      refine hin ⟨fun c => absurd c (by decide), fun _ => ⟨fun _ => ⟨hv, ?_⟩, fun c => absurd c (by decide), fun c => absurd c (by decide), fun c => absurd c (by decide), fun c => absurd c (by decide), fun c => absurd rfl c⟩⟩
      rw [hcl, hM.1]; exact h _
    · subst c
      refine q1_deskOf R (fun a ha ea => ?_) (fun hn => absurd e (hn q hq))
      rw [eq a ha ea]
      refine hin ⟨fun c => absurd c (by decide), fun _ => ⟨fun c => absurd c (by decide), fun _ => ⟨hv, ?_⟩, fun c => absurd c (by decide), fun c => absurd c (by decide), fun c => absurd c (by decide), fun _ c => absurd rfl c⟩⟩
      rw [hcl, hM.2.1]; exact h _
    · subst c
      refine q1_markOf R (fun a ha ea => ?_) (fun hn => absurd e (hn q hq))
      rw [eq a ha ea]
      refine hin ⟨fun c => absurd c (by decide), fun _ => ⟨fun c => absurd c (by decide), fun c => absurd c (by decide), fun _ => ⟨hv, ?_⟩, fun c => absurd c (by decide), fun c => absurd c (by decide), fun _ _ c => absurd rfl c⟩⟩
      rw [hcl, hM.2.2.1]; exact h _
    · subst c
      refine q1_nearOf R (fun a ha ea => ?_) (fun hn => absurd e (hn q hq))
      rw [eq a ha ea]
      refine hin ⟨fun c => absurd c (by decide), fun _ => ⟨fun c => absurd c (by decide), fun c => absurd c (by decide), fun c => absurd c (by decide), fun _ => ?_, fun c => absurd c (by decide), fun _ _ _ c => absurd rfl c⟩⟩
      rw [e]; exact q8_beside M (qW_L W) hq (h _)
    · subst c
      refine q1_barredOf R (fun a ha ea => ?_) (fun hn => absurd e (hn q hq))
      rw [eq a ha ea]
      refine hin ⟨fun c => absurd c (by decide), fun _ => ⟨fun c => absurd c (by decide), fun c => absurd c (by decide), fun c => absurd c (by decide), fun c => absurd c (by decide), fun _ => ⟨hv, ?_⟩, fun _ _ _ _ c => absurd rfl c⟩⟩
      rw [hcl, hM.2.2.2]; exact h _
    · refine q7_refuse (k := 0) (by omega) (hin ⟨fun c => absurd c (by decide), fun _ => ⟨fun c => absurd c c0, fun c => absurd c c1, fun c => absurd c c2, fun c => absurd c c3, fun c => absurd c c4, fun _ _ _ _ _ => q8_refuse (k := 0) (by omega) hr⟩⟩)
  · exact q7_refuse (k := 0) (by omega) (q8_isPupil M (fun q hq e => absurd e (hno q hq)) (fun _ => ⟨fun _ => q8_refuse (k := 0) (by omega) hr, fun c => absurd rfl c⟩))
