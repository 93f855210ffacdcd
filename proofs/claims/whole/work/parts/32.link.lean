/-! the room's own list of neighbours -/
theorem z_I {r : zS} {k k' : Nat} {x : Int32} : (zI r k x).1 k' = if k' = k then x else r.1 k' := rfl
theorem z_Ia {r : zS} {k : Nat} {x : Int32} : (zI r k x).2 = r.2 := rfl
theorem z_A {r : zS} {k j k' j' : Nat} {x : Int32} : (zA r k j x).2.1 k' j' = if k' = k ∧ j' = j then x else r.2.1 k' j' := by
  show va_up r.2.1 k (upd (r.2.1 k) j x) k' j' = _
  unfold va_up upd
  by_cases h : k' = k
  · subst h; by_cases g : j' = j <;> simp [g]
  · simp [h]
theorem z_Ai {r : zS} {k j : Nat} {x : Int32} : (zA r k j x).1 = r.1 := rfl
theorem z_Al {r : zS} {k j : Nat} {x : Int32} : (zA r k j x).2.2 = r.2.2 := rfl
/-- what a room's desks and marks of barred pupils must keep for the links -/
def qL (ρ : (Nat → Nat) × (Nat → Nat → Nat)) : Prop := ρ.1 1 ≤ 12 ∧ ∀ p, p < ρ.1 1 → ρ.2 6 p < 16 ∧ ρ.2 8 p < 2 ^ 12
theorem q_R0A9 {r : zS} {ρ : (Nat → Nat) × (Nat → Nat → Nat)} (R : qR0 r ρ) (j : Nat) (v : Int32) : qR0 (zA r 9 j v) ρ := by
  refine ⟨R.1, fun k hk p hp => ?_, R.2.2⟩
  rw [z_A, if_neg (by omega)]; exact R.2.1 k hk p hp
theorem q1_link {r : zS} {ρ : (Nat → Nat) × (Nat → Nat → Nat)} (R : qR0 r ρ) (L : qL ρ) {post : zS → Prop}
    (h : ∀ r', qRm r' ρ → post r') : wp_X1_link r post := by
  have hc := R.2.2
  have hq12 : (2 : Nat) ^ 12 = 4096 := by decide
  have key : ∀ k i, i + k = ρ.1 1 → ∀ r : zS, qR0 r ρ → (∀ p, p < i → r.2.1 9 p = nI (qN ρ p)) → wp_X1_link_2 post (k + 1) r (nI i) := by
    intro k
    induction k with
    | zero =>
      intro i hi r R hn
      rw [wu_X1_link_2]
      unfold wb_X1_link_2
      rw [R.1 1 (by decide)]
      refine ⟨fun _ => h r ⟨R, fun p hp => hn p (by omega)⟩, fun c => absurd ((q_leN (by omega) (by omega)).mpr (by omega)) c⟩
    | succ k ih =>
      intro i hi r R hn
      have hl := L.2 i (by omega)
      rw [wu_X1_link_2]
      unfold wb_X1_link_2
      rw [R.1 1 (by decide), q_12n]
      refine ⟨fun c => ?_, fun _ => ⟨fun c => ?_, fun _ => ⟨q_in (by omega) (by omega), ?_⟩⟩⟩
      · have := (q_leN (by omega) (by omega)).mp c; omega
      · have := (q_leN (by omega) (by omega)).mp c; omega
      · intro j3 hj3
        rw [q_clamp (by omega)] at hj3
        subst hj3
        have inner : ∀ m j, j + m = ρ.1 1 → ∀ r : zS, qR0 r ρ → (∀ p, p < j3 → r.2.1 9 p = nI (qN ρ p)) → r.2.1 9 j3 = nI (qmask j (qnb ρ j3)) →
            wp_X1_link_25 post (wp_X1_link_2 post (k + 1)) (m + 1) r (nI j3) (nI j) := by
          intro m
          induction m with
          | zero =>
            intro j hj r R hn hi9
            rw [wu_X1_link_25]
            unfold wb_X1_link_25
            rw [R.1 1 (by decide)]
            refine ⟨fun _ => ?_, fun c => absurd ((q_leN (by omega) (by omega)).mpr (by omega)) c⟩
            intro v hv
            rw [hv, q_succ]
            refine ih (j3 + 1) (by omega) r R (fun p hp => ?_)
            by_cases e : p = j3
            · rw [e, hi9]; unfold qN; congr 2
            · exact hn p (by omega)
          | succ m ihm =>
            intro j hj r R hn hi9
            rw [wu_X1_link_25]
            unfold wb_X1_link_25
            have hl2 := L.2 j (by omega)
            have hstep : qnb ρ j3 j = false → wp_X1_link_82 post (wp_X1_link_2 post (k + 1)) (wp_X1_link_25 post (wp_X1_link_2 post (k + 1)) (m + 1)) r (nI j3) (nI j) := by
              intro hf v hv
              rw [hv, q_succ]
              refine ihm (j + 1) (by omega) r R hn ?_
              rw [hi9]
              show _ = nI (qmask j (qnb ρ j3) ||| (if qnb ρ j3 j = true then 2 ^ j else 0))
              rw [hf]; simp
            rw [R.1 1 (by decide), q_12n]
            refine ⟨fun c => ?_, fun _ => ⟨fun c => ?_, fun _ => ⟨q_in (by omega) (by omega), q_in (by omega) (by omega), ?_⟩⟩⟩
            · have := (q_leN (by omega) (by omega)).mp c; omega
            · have := (q_leN (by omega) (by omega)).mp c; omega
            · rw [q_clamp (by omega), q_clamp (by omega), R.2.1 6 (by decide) j3 (by omega), R.2.1 6 (by decide) j (by omega), R.2.1 8 (by decide) j3 (by omega)]
              refine q1_areBeside hl.1 hl2.1 (fun hb => ⟨fun c => absurd c (by decide), fun _ => ⟨q_in (by omega) (by omega), ?_⟩⟩) (fun hb => ⟨fun _ => hstep (by unfold qnb; rw [hb]; rfl), fun c => absurd rfl c⟩)
              rw [q_bit0 (by omega) (by omega)]
              refine ⟨fun c => ⟨q_in (by omega) (by omega), fun v hv => ⟨q_in (by omega) (by omega), fun j12 hj12 => ?_⟩⟩, fun c => hstep ?_⟩
              · rw [hj12]
                intro w hw
                rw [hw, q_succ]
                refine ihm (j + 1) (by omega) _ (q_R0A9 R _ _) (fun p hp => ?_) ?_
                · rw [z_A, if_neg (by omega)]; exact hn p hp
                · rw [z_A, if_pos ⟨rfl, rfl⟩, hv, hi9, q_shl1 j (by omega), q_or]
                  show _ = nI (qmask j (qnb ρ j3) ||| (if qnb ρ j3 j = true then 2 ^ j else 0))
                  have : qnb ρ j3 j = true := by unfold qnb; rw [hb, c]; rfl
                  rw [if_pos this]
              · unfold qnb; cases e : (ρ.2 8 j3).testBit j with
                | false => exact absurd e c
                | true => simp
        refine ⟨_, inner (ρ.1 1) 0 (by omega) _ (q_R0A9 R _ _) (fun p hp => ?_) ?_⟩
        · rw [z_A, if_neg (by omega)]; exact hn p hp
        · rw [z_A, if_pos ⟨rfl, rfl⟩]; rfl
  exact ⟨_, key (ρ.1 1) 0 (by omega) r R (fun p hp => absurd hp (by omega))⟩
