/-! the room's small methods, a case a lemma -/
theorem q_ltI {a b : Int32} : a < b ↔ a.toInt < b.toInt := Int32.lt_iff_toInt_lt
theorem q_leI {a b : Int32} : a ≤ b ↔ a.toInt ≤ b.toInt := Int32.le_iff_toInt_le
theorem q_zero : (0 : Int32).toInt = 0 := rfl
theorem q_12 : (12 : Int32).toInt = 12 := rfl
/-- an int that is a small natural -/
theorem q_nat {p : Int32} (h : 0 ≤ p.toInt) : p = nI p.toInt.toNat := by
  apply Int32.toInt_inj.mp
  have h2 : p.toInt < 2 ^ 31 := p.toInt_lt
  rw [nI_toInt (by omega)]
  omega
theorem q_clamp {n : Nat} (h : n < 2 ^ 31) : (nI n).toNatClampNeg = n := by
  show (nI n).toInt.toNat = n
  rw [nI_toInt h]; rfl
theorem q_in {n k : Nat} (h : n < k) (hk : k < 2 ^ 31) : vp_in (nI n) k := by
  unfold vp_in
  rintro (h1 | h1)
  · rw [q_ltI, nI_toInt (by omega), q_zero] at h1; omega
  · rw [q_clamp (by omega)] at h1; omega
/-- a room of the class holds the abstract room -/
def qR0 (r : zS) (ρ : (Nat → Nat) × (Nat → Nat → Nat)) : Prop :=
  (∀ k, k < 5 → r.1 k = nI (ρ.1 k)) ∧ (∀ k, 5 ≤ k ∧ k ≤ 8 → ∀ p, p < ρ.1 1 → r.2.1 k p = nI (ρ.2 k p)) ∧ ρ.1 1 ≤ 12
/-- two desks lie beside one another -/
def qbs (a b : Nat) : Bool := decide ((a / 4 - b / 4) + (b / 4 - a / 4) + ((a % 4 - b % 4) + (b % 4 - a % 4)) = 1)
/-- two pupils are neighbours -/
def qnb (ρ : (Nat → Nat) × (Nat → Nat → Nat)) (p q : Nat) : Bool := qbs (ρ.2 6 p) (ρ.2 6 q) && !(ρ.2 8 p).testBit q
/-- the mask of a pupil's neighbours -/
def qN (ρ : (Nat → Nat) × (Nat → Nat → Nat)) (p : Nat) : Nat := qmask (ρ.1 1) (qnb ρ p)
def qRm (r : zS) (ρ : (Nat → Nat) × (Nat → Nat → Nat)) : Prop := qR0 r ρ ∧ ∀ p, p < ρ.1 1 → r.2.1 9 p = nI (qN ρ p)
theorem q1_has {r : zS} {ρ : (Nat → Nat) × (Nat → Nat → Nat)} (R : qR0 r ρ) {p : Int32} {post : Int32 → Prop}
    (h1 : ∀ q, q < ρ.1 1 → p = nI q → post 1) (h0 : (∀ q, q < ρ.1 1 → p ≠ nI q) → post 0) : wp_X1_has r p post := by
  have hc := R.2.2
  have ht : (r.1 1).toInt = (ρ.1 1 : Int) := by rw [R.1 1 (by decide), nI_toInt (by omega)]
  unfold wp_X1_has
  have hno : (p.toInt < 0 ∨ (ρ.1 1 : Int) ≤ p.toInt) → post 0 := fun hb => h0 (fun q hq e => by
    rw [e, nI_toInt (by omega)] at hb; omega)
  refine ⟨fun c => hno (Or.inl (by rw [q_ltI, q_zero] at c; exact c)), fun c => ?_⟩
  rw [q_ltI, q_zero] at c
  refine ⟨fun d => hno (Or.inr (by rw [q_leI, ht] at d; exact d)), fun d => ?_⟩
  rw [q_leI, ht] at d
  refine ⟨fun e => ?_, fun _ => ?_⟩
  · rw [q_leI, q_12] at e; omega
  · exact h1 p.toInt.toNat (by omega) (q_nat (by omega))
theorem q1_get {r : zS} {ρ : (Nat → Nat) × (Nat → Nat → Nat)} (R : qR0 r ρ) {p : Int32} {post : Int32 → Prop} {z : Int32} {k : Nat} {f : Nat → Nat}
    (hk : ∀ q, q < ρ.1 1 → r.2.1 k q = nI (f q))
    (h1 : ∀ q, q < ρ.1 1 → p = nI q → post (nI (f q))) (h0 : (∀ q, q < ρ.1 1 → p ≠ nI q) → post z) :
    wp_X1_has r p (fun v1 => (v1 = 0 → post z) ∧ (¬ v1 = 0 → vp_in p 12 ∧ (post (r.2.1 k p.toNatClampNeg)))) := by
  have hc := R.2.2
  refine q1_has R (fun q hq e => ⟨fun c => absurd c (by decide), fun _ => ⟨?_, ?_⟩⟩) (fun h => ⟨fun _ => h0 h, fun c => absurd rfl c⟩)
  · rw [e]; exact q_in (by omega) (by omega)
  · rw [e, q_clamp (by omega), hk q hq]; exact h1 q hq e
theorem q1_kindOf {r : zS} {ρ : (Nat → Nat) × (Nat → Nat → Nat)} (R : qRm r ρ) {p : Int32} {post : Int32 → Prop}
    (h1 : ∀ q, q < ρ.1 1 → p = nI q → post (nI (ρ.2 5 q))) (h0 : (∀ q, q < ρ.1 1 → p ≠ nI q) → post (-1)) : wp_X1_kindOf r p post :=
  q1_get R.1 (R.1.2.1 5 (by decide)) h1 h0
theorem q1_deskOf {r : zS} {ρ : (Nat → Nat) × (Nat → Nat → Nat)} (R : qRm r ρ) {p : Int32} {post : Int32 → Prop}
    (h1 : ∀ q, q < ρ.1 1 → p = nI q → post (nI (ρ.2 6 q))) (h0 : (∀ q, q < ρ.1 1 → p ≠ nI q) → post (-1)) : wp_X1_deskOf r p post :=
  q1_get R.1 (R.1.2.1 6 (by decide)) h1 h0
theorem q1_nearOf {r : zS} {ρ : (Nat → Nat) × (Nat → Nat → Nat)} (R : qRm r ρ) {p : Int32} {post : Int32 → Prop}
    (h1 : ∀ q, q < ρ.1 1 → p = nI q → post (nI (qN ρ q))) (h0 : (∀ q, q < ρ.1 1 → p ≠ nI q) → post 0) : wp_X1_nearOf r p post :=
  q1_get R.1 R.2 h1 h0
theorem q1_barredOf {r : zS} {ρ : (Nat → Nat) × (Nat → Nat → Nat)} (R : qRm r ρ) {p : Int32} {post : Int32 → Prop}
    (h1 : ∀ q, q < ρ.1 1 → p = nI q → post (nI (ρ.2 8 q))) (h0 : (∀ q, q < ρ.1 1 → p ≠ nI q) → post 0) : wp_X1_barredOf r p post :=
  q1_get R.1 (R.1.2.1 8 (by decide)) h1 h0
theorem q_leN {a b : Nat} (ha : a < 2 ^ 31) (hb : b < 2 ^ 31) : nI a ≤ nI b ↔ a ≤ b := nI_leI ha hb
theorem q_12n : (12 : Int32) = nI 12 := rfl
theorem q_succ (i : Nat) : nI i + (1 : Int32) = nI (i + 1) := nI_add i 1
theorem q1_holderOf {r : zS} {ρ : (Nat → Nat) × (Nat → Nat → Nat)} (R : qR0 r ρ) {p : Int32} {post : Int32 → Prop}
    (h1 : ∀ q, q < ρ.1 1 → p = nI (ρ.2 6 q) → post (nI q)) (h0 : (∀ q, q < ρ.1 1 → p ≠ nI (ρ.2 6 q)) → post (-1)) :
    wp_X1_holderOf r p post := by
  have hc := R.2.2
  have key : ∀ k i, i + k = ρ.1 1 → (∀ q, q < i → p ≠ nI (ρ.2 6 q)) → wp_X1_holderOf_2 r p post (k + 1) (nI i) := by
    intro k
    induction k with
    | zero =>
      intro i hi hno
      rw [wu_X1_holderOf_2]
      unfold wb_X1_holderOf_2
      rw [R.1 1 (by decide)]
      refine ⟨fun _ => h0 (fun q hq => hno q (by omega)), fun c => absurd ((q_leN (by omega) (by omega)).mpr (by omega)) c⟩
    | succ k ih =>
      intro i hi hno
      rw [wu_X1_holderOf_2]
      unfold wb_X1_holderOf_2
      rw [R.1 1 (by decide), q_12n]
      refine ⟨fun c => ?_, fun _ => ⟨fun c => ?_, fun _ => ⟨q_in (by omega) (by omega), ?_⟩⟩⟩
      · have := (q_leN (by omega) (by omega)).mp c; omega
      · have := (q_leN (by omega) (by omega)).mp c; omega
      · rw [q_clamp (by omega), R.2.1 6 (by decide) i (by omega)]
        refine ⟨fun c => h1 i (by omega) c.symm, fun c v hv => ?_⟩
        rw [hv, q_succ]
        refine ih (i + 1) (by omega) (fun q hq => ?_)
        by_cases e : q = i
        · rw [e]; exact fun x => c x.symm
        · exact hno q (by omega)
  exact ⟨_, key (ρ.1 1) 0 (by omega) (fun q hq => absurd hq (by omega))⟩

theorem q1_bes : ∀ a, a < 16 → ∀ b, b < 16 → (((if 0 ≤ ((nI a / (4 : Int32)) - (nI b / (4 : Int32))) then ((nI a / (4 : Int32)) - (nI b / (4 : Int32))) else 0 - ((nI a / (4 : Int32)) - (nI b / (4 : Int32)))) + (if 0 ≤ ((nI a - nI a / (4 : Int32) * (4 : Int32)) - (nI b - nI b / (4 : Int32) * (4 : Int32))) then ((nI a - nI a / (4 : Int32) * (4 : Int32)) - (nI b - nI b / (4 : Int32) * (4 : Int32))) else 0 - ((nI a - nI a / (4 : Int32) * (4 : Int32)) - (nI b - nI b / (4 : Int32) * (4 : Int32))))) = (1 : Int32) ↔ qbs a b = true) := by decide +kernel
theorem q1_areBeside {a b : Nat} (ha : a < 16) (hb : b < 16) {post : Int32 → Prop} (h1 : qbs a b = true → post 1) (h0 : qbs a b = false → post 0) :
    wp_X1_areBeside (nI a) (nI b) post := by
  unfold wp_X1_areBeside
  refine ⟨fun c => h1 ((q1_bes a ha b hb).mp c), fun c => h0 ?_⟩
  cases e : qbs a b with
  | false => rfl
  | true => exact absurd ((q1_bes a ha b hb).mpr e) c
