/-! the classes of arrays at the law's start -/
theorem l_arrs {s : State} {b : Nat} (hts : ∀ w ∈ lw_tbl, w.before #[Value.ref b] s = true) : ∃ K : Nat → ClassId, ∀ (k : Nat) (q : ClassId × FieldType), (xty K)[k]? = some q → ArrOfT s q.1 q.2 ∧ va_RA s q.1 q.2 := by
  obtain ⟨c0, k0, p0, n0, g0, d0⟩ := Cond.arrayClass_spec (hts _ tw_44)
  obtain ⟨c1, k1, p1, n1, g1, d1⟩ := Cond.arrayClass_spec (hts _ tw_106)
  obtain ⟨p2, c2, k2, m2, x2, g2, d2, n2⟩ := Cond.arrayOver_spec (hts (Cond.arrayOver (.object "UnderTheDesks$Shelf")) (by decide +kernel))
  obtain ⟨p3, c3, k3, m3, x3, g3, d3, n3⟩ := arrayOverA_spec (hts (Cond.arrayOver (.array .long)) (by decide +kernel))
  refine ⟨fun k => match k with | 0 => c0 | 1 => c1 | 2 => c2 | _ => c3, ?_⟩
  intro k q hq
  match k, hq with
  | 0, hq => cases hq; exact ⟨fun n z => ⟨fun k h => (by cases h), k0, g0, p0, d0⟩, n0⟩
  | 1, hq => cases hq; exact ⟨fun n z => ⟨fun k h => (by cases h), k1, g1, p1, d1⟩, n1⟩
  | 2, hq => cases hq; exact ⟨fun n z => ⟨fun k h => (by cases h), k2, g2, p2, d2⟩, k2, p2, g2, d2, m2, n2⟩
  | 3, hq => cases hq; exact ⟨fun n z => ⟨fun k h => (by cases h), k3, g3, p3, d3⟩, n3⟩
  | k + 4, hq => simp [xty] at hq
