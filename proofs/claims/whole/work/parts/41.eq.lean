/-! equations: what a small method's walk asks is its answer's post; loops by a measure -/
def qz (b : Bool) : Int32 := if b then 1 else 0
theorem qz_t : qz true = 1 := rfl
theorem qz_f : qz false = 0 := rfl
theorem qz_ne (b : Bool) : qz b = 0 ↔ b = false := by cases b <;> decide
theorem q_t {A C : Prop} : ((qz true = 0 → A) ∧ (¬ qz true = 0 → C)) = C :=
  propext ⟨fun h => h.2 (by decide), fun h => ⟨fun c => absurd c (by decide), fun _ => h⟩⟩
theorem q_f {A C : Prop} : ((qz false = 0 → A) ∧ (¬ qz false = 0 → C)) = A :=
  propext ⟨fun h => h.1 rfl, fun h => ⟨fun _ => h, fun c => absurd rfl c⟩⟩
theorem q_br {b : Bool} {A C : Prop} (h1 : b = true → C) (h0 : b = false → A) : (qz b = 0 → A) ∧ (¬ qz b = 0 → C) := by
  cases b with
  | true => rw [q_t]; exact h1 rfl
  | false => rw [q_f]; exact h0 rfl
theorem q_1 {A C : Prop} : (((1 : Int32) = 0 → A) ∧ (¬ (1 : Int32) = 0 → C)) = C := q_t
theorem q_0 {A C : Prop} : (((0 : Int32) = 0 → A) ∧ (¬ (0 : Int32) = 0 → C)) = A := q_f
theorem q_pos {p A C : Prop} (h : p) : ((p → A) ∧ (¬ p → C)) = A := propext ⟨fun k => k.1 h, fun k => ⟨fun _ => k, fun c => absurd h c⟩⟩
theorem q_neg {p A C : Prop} (h : ¬ p) : ((p → A) ∧ (¬ p → C)) = C := propext ⟨fun k => k.2 h, fun k => ⟨fun c => absurd c h, fun _ => k⟩⟩
theorem q_all {α : Type} {a : α} {P : α → Prop} : (∀ v, v = a → P v) = P a := propext ⟨fun h => h a rfl, fun h v e => e ▸ h⟩
theorem q_and_t {p C : Prop} (h : p) : (p ∧ C) = C := propext ⟨fun k => k.2, fun k => ⟨h, k⟩⟩
/-- an int within two bounds -/
def qI (lo hi : Int) (p : Int32) : Bool := decide (lo ≤ p.toInt ∧ p.toInt ≤ hi)
theorem qI_t {lo hi : Int} {p : Int32} : qI lo hi p = true ↔ lo ≤ p.toInt ∧ p.toInt ≤ hi := by unfold qI; exact decide_eq_true_iff
theorem qI_f {lo hi : Int} {p : Int32} : qI lo hi p = false ↔ ¬ (lo ≤ p.toInt ∧ p.toInt ≤ hi) := by unfold qI; exact decide_eq_false_iff_not
theorem e8_in {x lo hi : Int64} {post : Int32 → Prop} : wp_X8_in x lo hi post = post (qz (decide (lo.toInt ≤ x.toInt ∧ x.toInt ≤ hi.toInt))) := by
  unfold wp_X8_in
  rw [lg_cmp_lt, lg_cmp_gt, Int64.lt_iff_toInt_lt, Int64.lt_iff_toInt_lt]
  by_cases c : x.toInt < lo.toInt
  · rw [q_pos c, decide_eq_false (by omega)]; rfl
  · rw [q_neg c]
    by_cases d : hi.toInt < x.toInt
    · rw [q_pos d, decide_eq_false (by omega)]; rfl
    · rw [q_neg d, decide_eq_true (by omega)]; rfl
theorem e8_inI {lo hi : Int64} {a b : Int} {p : Int32} {post : Int32 → Prop} (ha : lo.toInt = a) (hb : hi.toInt = b) : wp_X8_in p.toInt64 lo hi post = post (qz (qI a b p)) := by
  rw [e8_in, ha, hb, q_64]; rfl
theorem e_rng {p lo hi : Int32} {a b : Int} {post : Int32 → Prop} (ha : lo.toInt = a) (hb : hi.toInt = b) :
    ((p < lo → post 0) ∧ (¬ p < lo → (hi < p → post 0) ∧ (¬ hi < p → post 1))) = post (qz (qI a b p)) := by
  rw [q_ltI, q_ltI, ha, hb]
  unfold qI
  by_cases c : p.toInt < a
  · rw [q_pos c, decide_eq_false (by omega)]; rfl
  · rw [q_neg c]
    by_cases d : b < p.toInt
    · rw [q_pos d, decide_eq_false (by omega)]; rfl
    · rw [q_neg d, decide_eq_true (by omega)]; rfl
theorem e7_isSecond {p : Int32} {post : Int32 → Prop} : wp_X7_isSecond p post = post (qz (qI 0 9999 p)) := e_rng rfl rfl
theorem e7_isKind {p : Int32} {post : Int32 → Prop} : wp_X7_isKind p post = post (qz (qI 0 5 p)) := e_rng rfl rfl
theorem e7_isMark {p : Int32} {post : Int32 → Prop} : wp_X7_isMark p post = post (qz (qI 0 9 p)) := e_rng rfl rfl
theorem e7_isRowCount {p : Int32} {post : Int32 → Prop} : wp_X7_isRowCount p post = post (qz (qI 2 4 p)) := e_rng rfl rfl
theorem e_rng' {p lo hi : Int32} {a b : Int} {post : Int32 → Prop} (ha : lo.toInt = a) (hb : hi.toInt = b + 1) :
    ((p < lo → post 0) ∧ (¬ p < lo → (hi ≤ p → post 0) ∧ (¬ hi ≤ p → post 1))) = post (qz (qI a b p)) := by
  rw [q_ltI, q_leI, ha, hb]
  unfold qI
  by_cases c : p.toInt < a
  · rw [q_pos c, decide_eq_false (by omega)]; rfl
  · rw [q_neg c]
    by_cases d : b + 1 ≤ p.toInt
    · rw [q_pos d, decide_eq_false (by omega)]; rfl
    · rw [q_neg d, decide_eq_true (by omega)]; rfl
theorem e7_isShelf {p : Int32} {post : Int32 → Prop} : wp_X7_isShelf p post = post (qz (qI 0 7 p)) := e_rng' rfl rfl
/-- an int that is a number of a pupil, of a desk -/
def qP (ρ : (Nat → Nat) × (Nat → Nat → Nat)) (p : Int32) : Bool := qI 0 ((ρ.1 1 : Int) - 1) p
def qD (ρ : (Nat → Nat) × (Nat → Nat → Nat)) (p : Int32) : Bool := qI 0 (4 * (ρ.1 0 : Int) - 1) p
theorem qP_t {ρ : (Nat → Nat) × (Nat → Nat → Nat)} {p : Int32} (h : qP ρ p = true) : ∃ q, q < ρ.1 1 ∧ p = nI q := by
  have := qI_t.mp h
  exact ⟨p.toInt.toNat, by omega, q_nat (by omega)⟩
theorem qP_n {ρ : (Nat → Nat) × (Nat → Nat → Nat)} {q : Nat} (hc : ρ.1 1 ≤ 12) (h : q < ρ.1 1) : qP ρ (nI q) = true :=
  qI_t.mpr (by rw [nI_toInt (by omega)]; omega)
theorem qD_t {ρ : (Nat → Nat) × (Nat → Nat → Nat)} {p : Int32} (h : qD ρ p = true) : ∃ q, q < 4 * ρ.1 0 ∧ p = nI q := by
  have := qI_t.mp h
  exact ⟨p.toInt.toNat, by omega, q_nat (by omega)⟩
theorem e1_has {r : zS} {ρ : (Nat → Nat) × (Nat → Nat → Nat)} (R : qR0 r ρ) {p : Int32} {post : Int32 → Prop} : wp_X1_has r p post = post (qz (qP ρ p)) := by
  have hc := R.2.2
  have ht : (r.1 1).toInt = (ρ.1 1 : Int) := by rw [R.1 1 (by decide), nI_toInt (by omega)]
  unfold wp_X1_has qP qI
  rw [q_ltI, q_leI, q_leI, ht, q_12, q_zero]
  by_cases c : p.toInt < 0
  · rw [q_pos c, decide_eq_false (by omega)]; rfl
  · rw [q_neg c]
    by_cases d : (ρ.1 1 : Int) ≤ p.toInt
    · rw [q_pos d, decide_eq_false (by omega)]; rfl
    · rw [q_neg d, q_neg (by omega), decide_eq_true (by omega)]; rfl
theorem e8_isPupil {m : zS} {ρ : (Nat → Nat) × (Nat → Nat → Nat)} (R : qMR m ρ) {p : Int32} {post : Int32 → Prop} : wp_X8_isPupil m p.toInt64 post = post (qz (qP ρ p)) := by
  have hc := R.2.2
  unfold wp_X8_isPupil
  have e : (m.1 10 - (1 : Int32)).toInt64.toInt = (ρ.1 1 : Int) - 1 := by rw [R.1.2.1, q_64, q_sub1 _ (by omega)]
  have xb : ∀ b : Bool, xbool (qz b) := fun b => by cases b <;> rfl
  rw [e8_inI (a := 0) rfl e]
  exact q_and_t (xb _)
theorem e8_isDesk {m : zS} {ρ : (Nat → Nat) × (Nat → Nat → Nat)} (R : qMR m ρ) (hr : ρ.1 0 ≤ 4) {p : Int32} {post : Int32 → Prop} : wp_X8_isDesk m p post = post (qz (qD ρ p)) := by
  have hm : ∀ n, n < 5 → ((4 : Int32) * nI n - (1 : Int32)).toInt = 4 * (n : Int) - 1 := by decide +kernel
  unfold wp_X8_isDesk
  have e : ((4 : Int32) * m.1 9 - (1 : Int32)).toInt64.toInt = 4 * (ρ.1 0 : Int) - 1 := by rw [R.1.1, q_64, hm _ (by omega)]
  have xb : ∀ b : Bool, xbool (qz b) := fun b => by cases b <;> rfl
  rw [e8_inI (a := 0) rfl e]
  exact q_and_t (xb _)
theorem e1_hasDesk {r : zS} {ρ : (Nat → Nat) × (Nat → Nat → Nat)} (R : qR0 r ρ) (hr : ρ.1 0 ≤ 4) {p : Int32} {post : Int32 → Prop} : wp_X1_hasDesk r p post = post (qz (qD ρ p)) := by
  have hm : ∀ n, n < 5 → (nI n * (4 : Int32)).toInt = (4 * (n : Int) - 1) + 1 := by decide +kernel
  unfold wp_X1_hasDesk wp_X1_deskCount
  exact e_rng' (lo := 0) (hi := r.1 0 * 4) rfl (by rw [R.1 0 (by decide), hm _ (by omega)])
/-- two pupils, not one -/
def qP2 (ρ : (Nat → Nat) × (Nat → Nat → Nat)) (a b : Int32) : Bool := qP ρ a && qP ρ b && !(decide (a = b))
theorem qP2_t {ρ : (Nat → Nat) × (Nat → Nat → Nat)} {a b : Int32} (h : qP2 ρ a b = true) : ∃ p q, p < ρ.1 1 ∧ q < ρ.1 1 ∧ p ≠ q ∧ a = nI p ∧ b = nI q := by
  unfold qP2 at h
  rw [Bool.and_eq_true, Bool.and_eq_true] at h
  obtain ⟨⟨h1, h2⟩, h3⟩ := h
  obtain ⟨p, hp, rfl⟩ := qP_t h1
  obtain ⟨q, hq, rfl⟩ := qP_t h2
  refine ⟨p, q, hp, hq, fun e => ?_, rfl, rfl⟩
  subst e
  simp at h3
theorem e7_isPair {x r : zS} {ρ : (Nat → Nat) × (Nat → Nat → Nat)} (R : qR0 r ρ) {a b : Int32} {post : Int32 → Prop} : wp_X7_isPair x r a b post = post (qz (qP2 ρ a b)) := by
  unfold wp_X7_isPair qP2
  rw [e1_has R, e1_has R]
  by_cases c : a = b
  · rw [q_pos c]; cases qP ρ a <;> cases qP ρ b <;> simp [q_t, q_f, c, qz_f]
  · rw [q_neg c]; cases qP ρ a <;> cases qP ρ b <;> simp [q_t, q_f, c, qz_f, qz_t]
theorem e8_areTwo {m : zS} {ρ : (Nat → Nat) × (Nat → Nat → Nat)} (R : qMR m ρ) {a b : Int32} {post : Int32 → Prop} : wp_X8_areTwo m a b post = post (qz (qP2 ρ a b)) := by
  unfold wp_X8_areTwo qP2
  rw [e8_isPupil R, e8_isPupil R]
  by_cases c : a = b
  · rw [q_pos c]; cases qP ρ a <;> cases qP ρ b <;> simp [q_t, q_f, c, qz_f]
  · rw [q_neg c]; cases qP ρ a <;> cases qP ρ b <;> simp [q_t, q_f, c, qz_f, qz_t]
theorem e7_refuse {x : zS} {k : Nat} (hk : k < 5) {post : Int32 → zS → Prop} : wp_X7_refuse x (nI k * (-1) + (-2)) post = post (nI k * (-1) + (-2)) (zA x 12 k (x.2.1 12 k + 1)) := by
  refine propext ⟨fun h => ?_, q7_refuse hk⟩
  have e : ∀ k, k < 5 → (-2 : Int32) - (nI k * (-1) + (-2)) = nI k := by decide +kernel
  have e0 : ∀ k, k < 5 → ¬ (nI k < 0) ∧ ¬ ((5 : Int32) ≤ nI k) := by decide +kernel
  have h1 := (((h _ rfl).2 (by rw [e k hk]; exact (e0 k hk).1)).2 (by rw [e k hk]; exact (e0 k hk).2)).2 _ rfl
  have h2 := h1.2 _ rfl
  rw [e k hk, q_clamp (by omega)] at h2
  exact h2
theorem e8_refuse {m : zS} {k : Nat} (hk : k < 5) {post : Int32 → zS → Prop} : wp_X8_refuse m (nI k * (-1) + (-2)) post = post (nI k * (-1) + (-2)) (zA m 8 (k + 2) (m.2.1 8 (k + 2) + 1)) := by
  refine propext ⟨fun h => ?_, q8_refuse hk⟩
  have e : ∀ k, k < 5 → -(nI k * (-1) + (-2)) = nI (k + 2) := by decide +kernel
  unfold wp_X8_refuse at h
  have h1 := (h.2 _ rfl).2 _ rfl
  rw [e k hk, q_clamp (by omega)] at h1
  exact h1
theorem e7_r2 {x : zS} {post : Int32 → zS → Prop} : wp_X7_refuse x (-2) post = post (-2) (zA x 12 0 (x.2.1 12 0 + 1)) := e7_refuse (k := 0) (by omega)
theorem e7_r3 {x : zS} {post : Int32 → zS → Prop} : wp_X7_refuse x (-3) post = post (-3) (zA x 12 1 (x.2.1 12 1 + 1)) := e7_refuse (k := 1) (by omega)
theorem e7_r4 {x : zS} {post : Int32 → zS → Prop} : wp_X7_refuse x (-4) post = post (-4) (zA x 12 2 (x.2.1 12 2 + 1)) := e7_refuse (k := 2) (by omega)
theorem e7_r5 {x : zS} {post : Int32 → zS → Prop} : wp_X7_refuse x (-5) post = post (-5) (zA x 12 3 (x.2.1 12 3 + 1)) := e7_refuse (k := 3) (by omega)
theorem e7_r6 {x : zS} {post : Int32 → zS → Prop} : wp_X7_refuse x (-6) post = post (-6) (zA x 12 4 (x.2.1 12 4 + 1)) := e7_refuse (k := 4) (by omega)
theorem e8_r2 {m : zS} {post : Int32 → zS → Prop} : wp_X8_refuse m (-2) post = post (-2) (zA m 8 2 (m.2.1 8 2 + 1)) := e8_refuse (k := 0) (by omega)
theorem e8_r3 {m : zS} {post : Int32 → zS → Prop} : wp_X8_refuse m (-3) post = post (-3) (zA m 8 3 (m.2.1 8 3 + 1)) := e8_refuse (k := 1) (by omega)
theorem e8_r4 {m : zS} {post : Int32 → zS → Prop} : wp_X8_refuse m (-4) post = post (-4) (zA m 8 4 (m.2.1 8 4 + 1)) := e8_refuse (k := 2) (by omega)
theorem e8_r5 {m : zS} {post : Int32 → zS → Prop} : wp_X8_refuse m (-5) post = post (-5) (zA m 8 5 (m.2.1 8 5 + 1)) := e8_refuse (k := 3) (by omega)
theorem e8_r6 {m : zS} {post : Int32 → zS → Prop} : wp_X8_refuse m (-6) post = post (-6) (zA m 8 6 (m.2.1 8 6 + 1)) := e8_refuse (k := 4) (by omega)
/-! loops: an invariant with a measure that falls -/
section QLP
variable {α β γ δ ε ζ η : Type}
theorem q_lp1 {B : (α → Prop) → α → Prop} (I : Nat → α → Prop) (h : ∀ m x, I m x → ∀ k : α → Prop, (∀ m' x', m' < m → I m' x' → k x') → B k x) (m : Nat) (x : α) (i : I m x) :
    ∃ n : Nat, (Nat.rec (motive := fun _ => α → Prop) (fun _ => False) (fun _ ih => B ih) n : α → Prop) x := by
  have key : ∀ n m x, m < n → I m x → (Nat.rec (motive := fun _ => α → Prop) (fun _ => False) (fun _ ih => B ih) n : α → Prop) x := by
    intro n
    induction n with
    | zero => intro m x hm; omega
    | succ n ih => intro m x hm i; exact h m x i _ (fun m' x' hm' i' => ih m' x' (by omega) i')
  exact ⟨m + 1, key (m + 1) m x (by omega) i⟩
theorem q_lp2 {B : (α → β → Prop) → α → β → Prop} (I : Nat → α → β → Prop) (h : ∀ m x y, I m x y → ∀ k : α → β → Prop, (∀ m' x' y', m' < m → I m' x' y' → k x' y') → B k x y) (m : Nat) (x : α) (y : β) (i : I m x y) :
    ∃ n : Nat, (Nat.rec (motive := fun _ => α → β → Prop) (fun _ _ => False) (fun _ ih => B ih) n : α → β → Prop) x y := by
  have key : ∀ n m x y, m < n → I m x y → (Nat.rec (motive := fun _ => α → β → Prop) (fun _ _ => False) (fun _ ih => B ih) n : α → β → Prop) x y := by
    intro n
    induction n with
    | zero => intro m x y hm; omega
    | succ n ih => intro m x y hm i; exact h m x y i _ (fun m' x' y' hm' i' => ih m' x' y' (by omega) i')
  exact ⟨m + 1, key (m + 1) m x y (by omega) i⟩
theorem q_lp3 {B : (α → β → γ → Prop) → α → β → γ → Prop} (I : Nat → α → β → γ → Prop) (h : ∀ m x y z, I m x y z → ∀ k : α → β → γ → Prop, (∀ m' x' y' z', m' < m → I m' x' y' z' → k x' y' z') → B k x y z) (m : Nat) (x : α) (y : β) (z : γ) (i : I m x y z) :
    ∃ n : Nat, (Nat.rec (motive := fun _ => α → β → γ → Prop) (fun _ _ _ => False) (fun _ ih => B ih) n : α → β → γ → Prop) x y z := by
  have key : ∀ n m x y z, m < n → I m x y z → (Nat.rec (motive := fun _ => α → β → γ → Prop) (fun _ _ _ => False) (fun _ ih => B ih) n : α → β → γ → Prop) x y z := by
    intro n
    induction n with
    | zero => intro m x y z hm; omega
    | succ n ih => intro m x y z hm i; exact h m x y z i _ (fun m' x' y' z' hm' i' => ih m' x' y' z' (by omega) i')
  exact ⟨m + 1, key (m + 1) m x y z (by omega) i⟩
theorem q_lp4 {B : (α → β → γ → δ → Prop) → α → β → γ → δ → Prop} (I : Nat → α → β → γ → δ → Prop) (h : ∀ m x y z u, I m x y z u → ∀ k : α → β → γ → δ → Prop, (∀ m' x' y' z' u', m' < m → I m' x' y' z' u' → k x' y' z' u') → B k x y z u) (m : Nat) (x : α) (y : β) (z : γ) (u : δ) (i : I m x y z u) :
    ∃ n : Nat, (Nat.rec (motive := fun _ => α → β → γ → δ → Prop) (fun _ _ _ _ => False) (fun _ ih => B ih) n : α → β → γ → δ → Prop) x y z u := by
  have key : ∀ n m x y z u, m < n → I m x y z u → (Nat.rec (motive := fun _ => α → β → γ → δ → Prop) (fun _ _ _ _ => False) (fun _ ih => B ih) n : α → β → γ → δ → Prop) x y z u := by
    intro n
    induction n with
    | zero => intro m x y z u hm; omega
    | succ n ih => intro m x y z u hm i; exact h m x y z u i _ (fun m' x' y' z' u' hm' i' => ih m' x' y' z' u' (by omega) i')
  exact ⟨m + 1, key (m + 1) m x y z u (by omega) i⟩
theorem q_lp5 {B : (α → β → γ → δ → ε → Prop) → α → β → γ → δ → ε → Prop} (I : Nat → α → β → γ → δ → ε → Prop) (h : ∀ m x y z u v, I m x y z u v → ∀ k : α → β → γ → δ → ε → Prop, (∀ m' x' y' z' u' v', m' < m → I m' x' y' z' u' v' → k x' y' z' u' v') → B k x y z u v) (m : Nat) (x : α) (y : β) (z : γ) (u : δ) (v : ε) (i : I m x y z u v) :
    ∃ n : Nat, (Nat.rec (motive := fun _ => α → β → γ → δ → ε → Prop) (fun _ _ _ _ _ => False) (fun _ ih => B ih) n : α → β → γ → δ → ε → Prop) x y z u v := by
  have key : ∀ n m x y z u v, m < n → I m x y z u v → (Nat.rec (motive := fun _ => α → β → γ → δ → ε → Prop) (fun _ _ _ _ _ => False) (fun _ ih => B ih) n : α → β → γ → δ → ε → Prop) x y z u v := by
    intro n
    induction n with
    | zero => intro m x y z u v hm; omega
    | succ n ih => intro m x y z u v hm i; exact h m x y z u v i _ (fun m' x' y' z' u' v' hm' i' => ih m' x' y' z' u' v' (by omega) i')
  exact ⟨m + 1, key (m + 1) m x y z u v (by omega) i⟩
theorem q_lp6 {B : (α → β → γ → δ → ε → ζ → Prop) → α → β → γ → δ → ε → ζ → Prop} (I : Nat → α → β → γ → δ → ε → ζ → Prop) (h : ∀ m x y z u v w, I m x y z u v w → ∀ k : α → β → γ → δ → ε → ζ → Prop, (∀ m' x' y' z' u' v' w', m' < m → I m' x' y' z' u' v' w' → k x' y' z' u' v' w') → B k x y z u v w) (m : Nat) (x : α) (y : β) (z : γ) (u : δ) (v : ε) (w : ζ) (i : I m x y z u v w) :
    ∃ n : Nat, (Nat.rec (motive := fun _ => α → β → γ → δ → ε → ζ → Prop) (fun _ _ _ _ _ _ => False) (fun _ ih => B ih) n : α → β → γ → δ → ε → ζ → Prop) x y z u v w := by
  have key : ∀ n m x y z u v w, m < n → I m x y z u v w → (Nat.rec (motive := fun _ => α → β → γ → δ → ε → ζ → Prop) (fun _ _ _ _ _ _ => False) (fun _ ih => B ih) n : α → β → γ → δ → ε → ζ → Prop) x y z u v w := by
    intro n
    induction n with
    | zero => intro m x y z u v w hm; omega
    | succ n ih => intro m x y z u v w hm i; exact h m x y z u v w i _ (fun m' x' y' z' u' v' w' hm' i' => ih m' x' y' z' u' v' w' (by omega) i')
  exact ⟨m + 1, key (m + 1) m x y z u v w (by omega) i⟩
end QLP
