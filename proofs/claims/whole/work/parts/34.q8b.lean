/-! ranges and refusals -/
theorem q8_in {x lo hi : Int64} {post : Int32 → Prop} (h1 : lo.toInt ≤ x.toInt → x.toInt ≤ hi.toInt → post 1)
    (h0 : x.toInt < lo.toInt ∨ hi.toInt < x.toInt → post 0) : wp_X8_in x lo hi post := by
  unfold wp_X8_in
  rw [lg_cmp_lt, lg_cmp_gt, Int64.lt_iff_toInt_lt, Int64.lt_iff_toInt_lt]
  exact ⟨fun c => h0 (Or.inl c), fun c => ⟨fun d => h0 (Or.inr d), fun d => h1 (by omega) (by omega)⟩⟩
theorem xbool_0 : xbool 0 := rfl
theorem xbool_1 : xbool 1 := rfl
theorem q_64 (p : Int32) : p.toInt64.toInt = p.toInt := Int32.toInt_toInt64 p
theorem q_sub1 : ∀ n, n < 13 → (nI n - (1 : Int32)).toInt = (n : Int) - 1 := by decide +kernel
theorem q8_isPupil {m : zS} {ρ : (Nat → Nat) × (Nat → Nat → Nat)} (R : qMR m ρ) {p : Int32} {post : Int32 → Prop}
    (h1 : ∀ q, q < ρ.1 1 → p = nI q → post 1) (h0 : (∀ q, q < ρ.1 1 → p ≠ nI q) → post 0) : wp_X8_isPupil m p.toInt64 post := by
  have hc := R.2.2
  unfold wp_X8_isPupil
  rw [R.1.2.1]
  refine q8_in (fun c d => ⟨xbool_1, ?_⟩) (fun c => ⟨xbool_0, h0 (fun q hq e => ?_)⟩)
  · rw [q_64, q_64, q_sub1 _ (by omega)] at d
    rw [q_64] at c
    have c : 0 ≤ p.toInt := c
    exact h1 p.toInt.toNat (by omega) (q_nat c)
  · rw [q_64, q_64, q_sub1 _ (by omega), e, nI_toInt (by omega)] at c
    have c : (q : Int) < 0 ∨ (ρ.1 1 : Int) - 1 < q := c
    omega
theorem q8_isDesk {m : zS} {ρ : (Nat → Nat) × (Nat → Nat → Nat)} (R : qMR m ρ) (hr : ρ.1 0 ≤ 4) {p : Int32} {post : Int32 → Prop}
    (h1 : ∀ q, q < 4 * ρ.1 0 → p = nI q → post 1) (h0 : (∀ q, q < 4 * ρ.1 0 → p ≠ nI q) → post 0) : wp_X8_isDesk m p post := by
  have hm : ∀ n, n < 5 → ((4 : Int32) * nI n - (1 : Int32)).toInt = 4 * (n : Int) - 1 := by decide +kernel
  unfold wp_X8_isDesk
  rw [R.1.1]
  refine q8_in (fun c d => ⟨xbool_1, ?_⟩) (fun c => ⟨xbool_0, h0 (fun q hq e => ?_)⟩)
  · rw [q_64, q_64, hm _ (by omega)] at d
    rw [q_64] at c
    have c : 0 ≤ p.toInt := c
    exact h1 p.toInt.toNat (by omega) (q_nat c)
  · rw [q_64, q_64, hm _ (by omega), e, nI_toInt (by omega)] at c
    have c : (q : Int) < 0 ∨ 4 * (ρ.1 0 : Int) - 1 < q := c
    omega
theorem q1_hasDesk {r : zS} {ρ : (Nat → Nat) × (Nat → Nat → Nat)} (R : qR0 r ρ) (hr : ρ.1 0 ≤ 4) {p : Int32} {post : Int32 → Prop}
    (h1 : ∀ q, q < 4 * ρ.1 0 → p = nI q → post 1) (h0 : (∀ q, q < 4 * ρ.1 0 → p ≠ nI q) → post 0) : wp_X1_hasDesk r p post := by
  have hm : ∀ n, n < 5 → (nI n * (4 : Int32)).toInt = 4 * (n : Int) := by decide +kernel
  unfold wp_X1_hasDesk wp_X1_deskCount
  show (p < 0 → post 0) ∧ (¬p < 0 → ((r.1 0) * (4 : Int32) ≤ p → post 0) ∧ (¬(r.1 0) * (4 : Int32) ≤ p → post 1))
  rw [R.1 0 (by decide), q_ltI, q_zero, q_leI, hm _ (by omega)]
  refine ⟨fun c => h0 (fun q hq e => ?_), fun c => ⟨fun d => h0 (fun q hq e => ?_), fun d => h1 p.toInt.toNat (by omega) (q_nat (by omega))⟩⟩
  · rw [e, nI_toInt (by omega)] at c; omega
  · rw [e, nI_toInt (by omega)] at d; omega
/-- the refusals of the class and of the reference, side by side -/
def qRf (x m : zS) : Prop := ∀ k, k < 5 → x.2.1 12 k = m.2.1 8 (k + 2)
theorem q7_refuse {x : zS} {k : Nat} (hk : k < 5) {post : Int32 → zS → Prop} (h : post (nI k * (-1) + (-2)) (zA x 12 k (x.2.1 12 k + 1))) :
    wp_X7_refuse x (nI k * (-1) + (-2)) post := by
  have e : ∀ k, k < 5 → (-2 : Int32) - (nI k * (-1) + (-2)) = nI k := by decide +kernel
  have e0 : ∀ k, k < 5 → ¬ (nI k < 0) ∧ ¬ ((5 : Int32) ≤ nI k) := by decide +kernel
  intro v hv
  rw [e k hk] at hv
  subst hv
  refine ⟨fun c => absurd c (e0 k hk).1, fun _ => ⟨fun c => absurd c (e0 k hk).2, fun _ => ⟨q_in hk (by omega), fun v4 h4 => ⟨q_in hk (by omega), fun j5 h5 => ?_⟩⟩⟩⟩
  rw [q_clamp (by omega)] at h4 h5
  rw [h4, h5]; exact h
theorem q8_refuse {m : zS} {k : Nat} (hk : k < 5) {post : Int32 → zS → Prop} (h : post (nI k * (-1) + (-2)) (zA m 8 (k + 2) (m.2.1 8 (k + 2) + 1))) :
    wp_X8_refuse m (nI k * (-1) + (-2)) post := by
  have e : ∀ k, k < 5 → -(nI k * (-1) + (-2)) = nI (k + 2) := by decide +kernel
  unfold wp_X8_refuse
  rw [e k hk]
  refine ⟨q_in (by omega) (by omega), fun v hv => ⟨q_in (by omega) (by omega), fun j hj => ?_⟩⟩
  rw [q_clamp (by omega)] at hv hj
  rw [hv, hj]; exact h
