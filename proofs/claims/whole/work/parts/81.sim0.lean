/-! the start -/
section QSIM0
theorem qSim_0 : qSim xs0 (fun _ => z2) z8 none := by
  refine ⟨((fun j => if j = 0 then 3 else if j = 2 then 8 else if j = 3 then 4 else if j = 4 then 300 else 0), fun _ _ => 0), fun _ _ => 0, ⟨⟨fun j hj => ?_, fun j hj p hp => absurd hp (Nat.not_lt_zero p), by decide⟩, fun p hp => absurd hp (Nat.not_lt_zero p)⟩, ⟨⟨rfl, rfl, rfl, rfl, rfl⟩, fun p hp => absurd hp (Nat.not_lt_zero p), by decide⟩, ⟨⟨by decide, by decide, by decide, by decide, by decide, by decide, by decide⟩, fun p hp => absurd hp (Nat.not_lt_zero p), fun p q hp => absurd hp (Nat.not_lt_zero p), fun p q hp => absurd hp (Nat.not_lt_zero p)⟩, ⟨0, fun _ => 0, fun _ => false, ⟨rfl, rfl, rfl, rfl⟩, ⟨by decide, rfl, rfl⟩, fun i hi => absurd hi (Nat.not_lt_zero i)⟩, ⟨0, by decide, rfl, rfl, fun i hi => absurd hi (Nat.not_lt_zero i)⟩, ⟨by decide, fun s hs => ⟨rfl, show (0 : Nat) < 3 by decide, fun _ => rfl, fun z => absurd (show (0 : Nat) = 1 from z) (by decide), fun z => absurd (show (0 : Nat) = 2 from z) (by decide)⟩⟩, fun k hk => rfl, rfl⟩
  have : j = 0 ∨ j = 1 ∨ j = 2 ∨ j = 3 ∨ j = 4 := by omega
  rcases this with e | e | e | e | e <;> subst e <;> rfl
end QSIM0
