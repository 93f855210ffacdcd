/-! who sits alone; who sits in a row -/
theorem qmask_t {n : Nat} {f : Nat → Bool} (h : f n = true) : qmask (n + 1) f = qmask n f ||| 2 ^ n := by
  show qmask n f ||| (if f n = true then 2 ^ n else 0) = _
  rw [if_pos h]
theorem qmask_f {n : Nat} {f : Nat → Bool} (h : f n = false) : qmask (n + 1) f = qmask n f := by
  show qmask n f ||| (if f n = true then 2 ^ n else 0) = _
  rw [h, if_neg (by decide), Nat.or_zero]
theorem q_nz {a : Nat} (ha : a < 2 ^ 31) : nI a = (0 : Int32) ↔ a = 0 := nI_eq (b := 0) ha (by decide)
def qlo (ρ : (Nat → Nat) × (Nat → Nat → Nat)) (i : Nat) : Bool := decide (qN ρ i = 0)
theorem q1_nearAt {r : zS} {ρ : (Nat → Nat) × (Nat → Nat → Nat)} (R : qRm r ρ) {q : Nat} (hq : q < ρ.1 1) {post : Int32 → Prop}
    (h : post (nI (qN ρ q))) : wp_X1_nearOf r (nI q) post := by
  have hc := R.1.2.2
  refine q1_nearOf R (fun a ha e => ?_) (fun hn => absurd rfl (hn q hq))
  rw [← (nI_eq (by omega) (by omega)).mp e]; exact h
theorem q1_deskAt {r : zS} {ρ : (Nat → Nat) × (Nat → Nat → Nat)} (R : qRm r ρ) {q : Nat} (hq : q < ρ.1 1) {post : Int32 → Prop}
    (h : post (nI (ρ.2 6 q))) : wp_X1_deskOf r (nI q) post := by
  have hc := R.1.2.2
  refine q1_deskOf R (fun a ha e => ?_) (fun hn => absurd rfl (hn q hq))
  rw [← (nI_eq (by omega) (by omega)).mp e]; exact h
theorem q1_kindAt {r : zS} {ρ : (Nat → Nat) × (Nat → Nat → Nat)} (R : qRm r ρ) {q : Nat} (hq : q < ρ.1 1) {post : Int32 → Prop}
    (h : post (nI (ρ.2 5 q))) : wp_X1_kindOf r (nI q) post := by
  have hc := R.1.2.2
  refine q1_kindOf R (fun a ha e => ?_) (fun hn => absurd rfl (hn q hq))
  rw [← (nI_eq (by omega) (by omega)).mp e]; exact h
theorem q7_lonely {x r : zS} {ρ : (Nat → Nat) × (Nat → Nat → Nat)} (R : qRm r ρ) {post : Int32 → Prop}
    (h : post (nI (qmask (ρ.1 1) (qlo ρ)))) : wp_X7_lonely x r post := by
  have hc := R.1.2.2
  have key : ∀ k i, i + k = ρ.1 1 → wp_X7_lonely_4 x r post (k + 1) (nI (qmask i (qlo ρ))) (nI i) := by
    intro k
    induction k with
    | zero =>
      intro i hi
      rw [wu_X7_lonely_4]
      unfold wb_X7_lonely_4
      rw [R.1.1 1 (by decide)]
      have e : i = ρ.1 1 := by omega
      refine ⟨fun _ => by rw [e]; exact h, fun c => absurd ((q_leN (by omega) (by omega)).mpr (by omega)) c⟩
    | succ k ih =>
      intro i hi
      rw [wu_X7_lonely_4]
      unfold wb_X7_lonely_4
      rw [R.1.1 1 (by decide)]
      have hl := qN_lt hc i
      refine ⟨fun c => ?_, fun _ => q1_nearAt R (by omega) ?_⟩
      · have := (q_leN (by omega) (by omega)).mp c; omega
      · rw [q_nz (by omega)]
        have k' := ih (i + 1) (by omega)
        refine ⟨fun d v hv w hw => ?_, fun d w hw => ?_⟩
        · rw [qmask_t (by unfold qlo; exact decide_eq_true d)] at k'
          rw [hv, hw, q_shl1 i (by omega), q_or, q_succ]; exact k'
        · rw [qmask_f (by unfold qlo; exact decide_eq_false d)] at k'
          rw [hw, q_succ]; exact k'
  exact ⟨_, key (ρ.1 1) 0 (by omega)⟩
theorem q8_lonely {m : zS} {ρ : (Nat → Nat) × (Nat → Nat → Nat)} (R : qMR m ρ) (L : qL ρ) {post : Int32 → Prop}
    (h : post (nI (qmask (ρ.1 1) (qlo ρ)))) : wp_X8_lonely m post := by
  have hc := R.2.2
  have key : ∀ k i, i + k = ρ.1 1 → wp_X8_lonely_4 m post (k + 1) (nI (qmask i (qlo ρ))) (nI i) := by
    intro k
    induction k with
    | zero =>
      intro i hi
      rw [wu_X8_lonely_4]
      unfold wb_X8_lonely_4
      rw [R.1.2.1]
      have e : i = ρ.1 1 := by omega
      refine ⟨fun _ => by rw [e]; exact h, fun c => absurd ((q_leN (by omega) (by omega)).mpr (by omega)) c⟩
    | succ k ih =>
      intro i hi
      rw [wu_X8_lonely_4]
      unfold wb_X8_lonely_4
      rw [R.1.2.1]
      have hl := qN_lt hc i
      refine ⟨fun c => ?_, fun _ => q8_beside R L (by omega) ?_⟩
      · have := (q_leN (by omega) (by omega)).mp c; omega
      · rw [q_nz (by omega)]
        have k' := ih (i + 1) (by omega)
        refine ⟨fun d v hv w hw => ?_, fun d v hv w hw => ?_⟩
        · rw [qmask_t (by unfold qlo; exact decide_eq_true d)] at k'
          rw [hv, hw, q_shl1 i (by omega), q_or, q_succ]; exact k'
        · rw [qmask_f (by unfold qlo; exact decide_eq_false d)] at k'
          rw [hv, hw, q_or0, q_succ]; exact k'
  exact ⟨_, key (ρ.1 1) 0 (by omega)⟩
