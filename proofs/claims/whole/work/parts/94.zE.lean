/-! the strings at the law's start -/
def lkx (i : Nat) : Nat := ([36, 50, 58, 63, 68] : List Nat).getD i 0
def lky (i : Nat) : Nat := ([222, 230, 235, 237, 239] : List Nat).getD i 0
set_option maxRecDepth 100000 in
theorem l_zS {s : State} {b : Nat} (hgv : (Jvm.Cond.and given_1 narrow_1).before #[Value.ref b] s = true) : ∃ adK adV : Nat → Nat, vk_S 5 zLen zByt adK adV (fun q : Nat => s.heap.size ≤ q) s s.heap ∧ ∀ i : Nat, i < 5 → (Term.string RX0 (lkx i)).eval #[Value.ref b] s none [] s = some (.ref (adK i)) := by
  have hs := flat_of_before _ hgv
  have i5 : ∀ {P : Nat → Prop}, P 0 → P 1 → P 2 → P 3 → P 4 → ∀ i, i < 5 → P i := fun h0 h1 h2 h3 h4 i hi => by
    have : i = 0 ∨ i = 1 ∨ i = 2 ∨ i = 3 ∨ i = 4 := by omega
    rcases this with e | e | e | e | e <;> subst e <;> assumption
  refine vk_Sof (tm := fun i => .string RX0 (lkx i)) (fun i _ => Nat.lt_of_lt_of_le (qlen6 i) (by decide)) ?_ ?_ ?_ ?_ ?_ ?_ (fun a h z => absurd z (Nat.not_le.mpr h))
  · exact i5 (hs _ (by decide +kernel)) (hs _ (by decide +kernel)) (hs _ (by decide +kernel)) (hs _ (by decide +kernel)) (hs _ (by decide +kernel))
  · exact i5 (hs _ (by decide +kernel)) (hs _ (by decide +kernel)) (hs _ (by decide +kernel)) (hs _ (by decide +kernel)) (hs _ (by decide +kernel))
  · exact i5 (hs _ (by decide +kernel)) (hs _ (by decide +kernel)) (hs _ (by decide +kernel)) (hs _ (by decide +kernel)) (hs _ (by decide +kernel))
  · exact i5 (hs _ (by decide +kernel)) (hs _ (by decide +kernel)) (hs _ (by decide +kernel)) (hs _ (by decide +kernel)) (hs _ (by decide +kernel))
  · intro i hi j hj
    have h7 := qlen6 i
    have qi : i = 0 ∨ i = 1 ∨ i = 2 ∨ i = 3 ∨ i = 4 := by omega
    have qj : j = 0 ∨ j = 1 ∨ j = 2 ∨ j = 3 ∨ j = 4 ∨ j = 5 := by omega
    rcases qi with e | e | e | e | e <;> subst e <;> rcases qj with e | e | e | e | e | e <;> subst e <;> first | exact absurd hj (by decide) | exact hs _ (by decide +kernel)
  · intro i j hi hj hne
    have qi : i = 0 ∨ i = 1 ∨ i = 2 ∨ i = 3 ∨ i = 4 := by omega
    have qj : j = 0 ∨ j = 1 ∨ j = 2 ∨ j = 3 ∨ j = 4 := by omega
    rcases qi with e | e | e | e | e <;> subst e <;> rcases qj with e | e | e | e | e <;> subst e <;> first | exact absurd rfl hne | exact Or.inl (hs _ (by decide +kernel)) | exact Or.inr (hs _ (by decide +kernel))
