/-! ways, as lists of pupils, the last one first -/
section QWAY
variable {ρ : (Nat → Nat) × (Nat → Nat → Nat)}
/-- the mask of a list -/
def qmk : List Nat → Nat
  | [] => 0
  | q :: π => qmk π ||| 2 ^ q
theorem qmk_bit (π : List Nat) (i : Nat) : (qmk π).testBit i = decide (i ∈ π) := by
  induction π with
  | nil => simp [qmk]
  | cons q π ih =>
    unfold qmk
    rw [Nat.testBit_or, ih, Nat.testBit_two_pow]
    by_cases e : q = i
    · subst e; simp
    · have e' : ¬ i = q := fun z => e z.symm
      simp [e, e']
theorem qmk_lt {π : List Nat} (h : ∀ q ∈ π, q < 12) : qmk π < 2 ^ 12 := by
  induction π with
  | nil => exact Nat.two_pow_pos 12
  | cons q π ih =>
    unfold qmk
    exact Nat.or_lt_two_pow (ih (fun x hx => h x (List.mem_cons_of_mem _ hx))) (Nat.pow_lt_pow_right (by decide) (h q List.mem_cons_self))
/-- the i-th pupil on a way -/
def qat (π : List Nat) (i : Nat) : Nat := π.getD (π.length - 1 - i) 0
theorem qat_cons_lt (q : Nat) (π : List Nat) {i : Nat} (h : i < π.length) : qat (q :: π) i = qat π i := by
  unfold qat
  rw [show (q :: π).length - 1 - i = (π.length - 1 - i) + 1 by rw [List.length_cons]; omega]
  rfl
theorem qat_cons_eq (q : Nat) (π : List Nat) : qat (q :: π) π.length = q := by
  unfold qat
  rw [show (q :: π).length - 1 - π.length = 0 by rw [List.length_cons]; omega]
  rfl
theorem qat_mem {π : List Nat} {i : Nat} (h : i < π.length) : qat π i ∈ π := by
  unfold qat
  rw [List.getD_eq_getElem?_getD, List.getElem?_eq_getElem (by omega)]
  exact List.getElem_mem _
/-- the lists of what g makes of the numbers below n, one behind the other -/
def qfl (g : Nat → List (List Nat)) : Nat → List (List Nat)
  | 0 => []
  | j + 1 => qfl g j ++ g j
/-- all ways to a pupil that go on from a list -/
def qx (ρ : (Nat → Nat) × (Nat → Nat → Nat)) (to : Nat) : Nat → List Nat → List (List Nat)
  | 0, _ => []
  | _ + 1, [] => []
  | d + 1, p :: π => if p = to then [p :: π] else if 9 ≤ (p :: π).length then [] else
      qfl (fun q => if qnb ρ p q && !decide (q ∈ p :: π) then qx ρ to d (q :: p :: π) else []) (ρ.1 1)
theorem qfl_mem {g : Nat → List (List Nat)} {n : Nat} {w : List Nat} : w ∈ qfl g n ↔ ∃ q, q < n ∧ w ∈ g q := by
  induction n with
  | zero => constructor
            · intro h; exact absurd h List.not_mem_nil
            · rintro ⟨q, hq, -⟩; omega
  | succ n ih =>
    unfold qfl
    rw [List.mem_append, ih]
    constructor
    · rintro (⟨q, hq, h⟩ | h)
      · exact ⟨q, by omega, h⟩
      · exact ⟨n, by omega, h⟩
    · rintro ⟨q, hq, h⟩
      by_cases e : q = n
      · subst e; exact Or.inr h
      · exact Or.inl ⟨q, by omega, h⟩
/-- what every way is -/
def qWay (ρ : (Nat → Nat) × (Nat → Nat → Nat)) (to : Nat) (w : List Nat) : Prop :=
  w.head? = some to ∧ w.Nodup ∧ w.length ≤ 9 ∧ (∀ q ∈ w, q < ρ.1 1)
theorem qx_way {to : Nat} : ∀ (d : Nat) (π : List Nat), π.Nodup → π.length ≤ 9 → (∀ q ∈ π, q < ρ.1 1) → ∀ w ∈ qx ρ to d π, qWay ρ to w ∧ ∃ pre, w = pre ++ π := by
  intro d
  induction d with
  | zero => intro π _ _ _ w hw; exact absurd hw List.not_mem_nil
  | succ d ih =>
    intro π hn hl hr w hw
    cases π with
    | nil => exact absurd hw List.not_mem_nil
    | cons p π =>
      unfold qx at hw
      by_cases e : p = to
      · rw [if_pos e] at hw
        have := List.mem_singleton.mp hw
        subst this
        exact ⟨⟨by rw [← e]; rfl, hn, hl, hr⟩, [], rfl⟩
      · rw [if_neg e] at hw
        by_cases g : 9 ≤ (p :: π).length
        · rw [if_pos g] at hw; exact absurd hw List.not_mem_nil
        · rw [if_neg g] at hw
          obtain ⟨q, hq, hw⟩ := qfl_mem.mp hw
          by_cases c : (qnb ρ p q && !decide (q ∈ p :: π)) = true
          · rw [if_pos c] at hw
            rw [Bool.and_eq_true] at c
            have c2 : q ∉ p :: π := by simpa using c.2
            obtain ⟨h1, pre, h2⟩ := ih (q :: p :: π) (List.nodup_cons.mpr ⟨c2, hn⟩) (by rw [List.length_cons]; omega) (fun x hx => by
              rcases List.mem_cons.mp hx with rfl | hx
              · exact hq
              · exact hr x hx) w hw
            exact ⟨h1, pre ++ [q], by rw [h2, List.append_assoc]; rfl⟩
          · rw [if_neg c] at hw; exact absurd hw List.not_mem_nil
/-- seconds, chance, whether a hand began when the master looked, by how many it is read -/
def qsec (ρ : (Nat → Nat) × (Nat → Nat → Nat)) : List Nat → Nat
  | [] => 0
  | [_] => 0
  | _ :: p :: π => qsec ρ (p :: π) + qtk ρ p
def qch (ρ : (Nat → Nat) × (Nat → Nat → Nat)) (to : Nat) (s : Int32) : List Nat → Nat
  | [] => 1000000
  | [_] => 1000000
  | q :: p :: π => qch ρ to s (p :: π) * (1000 - qla ρ q (decide (q = to)) (s + nI (qsec ρ (p :: π)))) / 1000
def qse (ρ : (Nat → Nat) × (Nat → Nat → Nat)) (s : Int32) : List Nat → Bool
  | [] => false
  | [_] => false
  | _ :: p :: π => qse ρ s (p :: π) || qlk ρ (s + nI (qsec ρ (p :: π)))
def qrn (ρ : (Nat → Nat) × (Nat → Nat → Nat)) (to : Nat) : List Nat → Nat
  | [] => 0
  | [_] => 0
  | q :: p :: π => qrn ρ to (p :: π) + (if !decide (q = to) && qrd ρ q then 1 else 0)
theorem qch_le (to : Nat) (s : Int32) (π : List Nat) : qch ρ to s π ≤ 1000000 := by
  induction π with
  | nil => exact Nat.le_refl _
  | cons q π ih =>
    cases π with
    | nil => exact Nat.le_refl _
    | cons p π =>
      unfold qch
      have h : qch ρ to s (p :: π) * (1000 - qla ρ q (decide (q = to)) (s + nI (qsec ρ (p :: π)))) ≤ 1000000 * 1000 := Nat.mul_le_mul ih (by omega)
      exact Nat.div_le_of_le_mul (by omega)
theorem qsec_le (π : List Nat) : qsec ρ π ≤ 2 * π.length := by
  induction π with
  | nil => exact Nat.le_refl _
  | cons q π ih =>
    cases π with
    | nil => exact Nat.zero_le _
    | cons p π =>
      unfold qsec
      have : qtk ρ p ≤ 2 := by unfold qtk; split <;> omega
      rw [List.length_cons (a := q)]; omega
theorem qrn_le (to : Nat) (π : List Nat) : qrn ρ to π ≤ π.length := by
  induction π with
  | nil => exact Nat.le_refl _
  | cons q π ih =>
    cases π with
    | nil => exact Nat.zero_le _
    | cons p π =>
      unfold qrn
      rw [List.length_cons (a := q)]
      split <;> omega
theorem qrn_app (to : Nat) (pre : List Nat) {π : List Nat} (h : 0 < qrn ρ to π) : 0 < qrn ρ to (pre ++ π) := by
  induction pre with
  | nil => exact h
  | cons a pre ih =>
    show 0 < qrn ρ to (a :: (pre ++ π))
    cases e : pre ++ π with
    | nil => rw [e] at ih; exact absurd ih (by unfold qrn; omega)
    | cons p t => rw [e] at ih; unfold qrn; omega
theorem qse_app (s : Int32) (pre : List Nat) {π : List Nat} (h : qse ρ s π = true) : qse ρ s (pre ++ π) = true := by
  induction pre with
  | nil => exact h
  | cons a pre ih =>
    show qse ρ s (a :: (pre ++ π)) = true
    cases e : pre ++ π with
    | nil => rw [e] at ih; exact absurd ih (by unfold qse; decide)
    | cons p t => rw [e] at ih; unfold qse; rw [ih]; rfl
/-- which ways are wanted: 0 all, 1 unread, 2 unseen -/
def qwt (ρ : (Nat → Nat) × (Nat → Nat → Nat)) (to : Nat) (s : Int32) (o : Nat) (w : List Nat) : Bool :=
  if o = 1 then decide (qrn ρ to w = 0) else if o = 2 then !qse ρ s w else true
/-- folds over lists of ways; none at first -/
def qst {β : Type} (g : List Nat → β) (f : β → List Nat → β) (o : Option β) (w : List Nat) : Option β := some (match o with | none => g w | some b => f b w)
def qfo {β : Type} (g : List Nat → β) (f : β → List Nat → β) (L : List (List Nat)) : Option β := L.foldl (qst g f) none
theorem qfo_snoc {β : Type} {g : List Nat → β} {f : β → List Nat → β} (L : List (List Nat)) (w : List Nat) : qfo g f (L ++ [w]) = qst g f (qfo g f L) w := by
  unfold qfo; rw [List.foldl_append]; rfl
theorem qfo_none {β : Type} {g : List Nat → β} {f : β → List Nat → β} {L : List (List Nat)} : qfo g f L = none ↔ L = [] := by
  constructor
  · intro h
    rcases List.eq_nil_or_concat L with e | ⟨L', w, e⟩
    · exact e
    · rw [e, List.concat_eq_append, qfo_snoc] at h; exact absurd h (by unfold qst; exact fun z => by cases z)
  · intro h; rw [h]; rfl
def qbet (ρ : (Nat → Nat) × (Nat → Nat → Nat)) (to : Nat) (s : Int32) (b w : List Nat) : List Nat :=
  if qch ρ to s b < qch ρ to s w then w else if qch ρ to s w = qch ρ to s b ∧ w.length < b.length then w else b
def qbest (ρ : (Nat → Nat) × (Nat → Nat → Nat)) (to : Nat) (s : Int32) (L : List (List Nat)) : Option (List Nat) := qfo id (qbet ρ to s) L
theorem qbest_mem {to : Nat} {s : Int32} {L : List (List Nat)} : ∀ b, qbest ρ to s L = some b → b ∈ L := by
  have key : ∀ n, ∀ L : List (List Nat), L.length = n → ∀ b, qbest ρ to s L = some b → b ∈ L := by
    intro n
    induction n with
    | zero => intro L hL b h; rw [List.eq_nil_of_length_eq_zero hL] at h; cases h
    | succ n ih =>
      intro L hL b h
      rcases List.eq_nil_or_concat L with e | ⟨L', w, e⟩
      · rw [e] at h; cases h
      · rw [List.concat_eq_append] at e
        subst e
        unfold qbest at h
        rw [qfo_snoc] at h
        rw [List.length_append] at hL
        cases k : qfo id (qbet ρ to s) L' with
        | none =>
          rw [k] at h
          have : w = b := Option.some.inj h
          rw [this]; exact List.mem_append_right _ (List.mem_singleton.mpr rfl)
        | some c =>
          rw [k] at h
          have e : qbet ρ to s c w = b := Option.some.inj h
          have hc := ih L' (by simpa using hL) c k
          unfold qbet at e
          split at e
          · rw [← e]; exact List.mem_append_right _ (List.mem_singleton.mpr rfl)
          · split at e
            · rw [← e]; exact List.mem_append_right _ (List.mem_singleton.mpr rfl)
            · rw [← e]; exact List.mem_append_left _ hc
  exact key L.length L rfl
theorem q_take_succ (L : List (List Nat)) {j : Nat} (h : j < L.length) : L.take (j + 1) = L.take j ++ [L.getD j []] := by
  rw [List.take_add_one, List.getElem?_eq_getElem h, List.getD_eq_getElem?_getD, List.getElem?_eq_getElem h]
  rfl
theorem q_getD_mem (L : List (List Nat)) {j : Nat} (h : j < L.length) : L.getD j [] ∈ L := by
  rw [List.getD_eq_getElem?_getD, List.getElem?_eq_getElem h]
  exact List.getElem_mem h
end QWAY
