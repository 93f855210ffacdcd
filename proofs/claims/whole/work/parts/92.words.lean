/-! the tables' words at the law's start -/
theorem l_xT {s : State} {b : Nat} (hts : ∀ w ∈ lw_tbl, w.before #[Value.ref b] s = true) : xT s :=
  ⟨va_Nw.of rfl (hts (.fieldLinkNest RX7 118 "UnderTheDesks$Shelf" "cells" "[J" RX7) (by decide +kernel)), va_Nw.of rfl (hts (.methodLinkNest RX7 24 yX4_init RX7) (by decide +kernel)), va_Nw.of rfl (hts (.methodLinkNest RX7 44 yX3_init RX7) (by decide +kernel)), va_Nw.of rfl (hts (.methodLinkNest RX7 60 yX6_init RX7) (by decide +kernel)), va_Nw.of rfl (hts (.methodLinkNest RX7 70 yX5_init RX7) (by decide +kernel)), va_Nw.of rfl (hts (.methodLinkNest RX7 79 yX2_init RX7) (by decide +kernel)), va_Nw.of rfl (hts (.methodLinkNest RX7 9 yX1_init RX7) (by decide +kernel)), va_Nw.of rfl (hts (.methodLinkNest RX1 84 yX7_reads RX7) (by decide +kernel)),
    hts (Cond.arrayOver (.object "UnderTheDesks$Shelf")) (by decide +kernel), hts (Cond.arrayOver (.array .long)) (by decide +kernel)⟩
theorem l_cls {s : State} {b : Nat} (hts : ∀ w ∈ wsL_law, w.before #[Value.ref b] s = true) : ∃ (dC : Nat → ClassId) (dI : Nat → Nat → Nat), ∀ (k : Nat) (q : vw_C), vwCl[k]? = some q → u_Kn s q.1 q.2.1 q.2.2 (dC k) (dI k) := by
  obtain ⟨c0, i0, h0⟩ := u_known (C := RX0) (T := TX0) (N := 5) (n := 5) hts inlX0 (hts _ mw_32)
  obtain ⟨c1, i1, h1⟩ := u_known (C := RX1) (T := TX1) (N := 10) (n := 10) hts inlX1 (hts _ mw_14)
  obtain ⟨c2, i2, h2⟩ := u_known (C := RX2) (T := TX2) (N := 3) (n := 3) hts inlX2 (hts _ mw_46)
  obtain ⟨c3, i3, h3⟩ := u_known (C := RX3) (T := TX3) (N := 2) (n := 2) hts inlX3 (hts _ mw_28)
  obtain ⟨c4, i4, h4⟩ := u_known (C := RX4) (T := TX4) (N := 8) (n := 8) hts inlX4 (hts _ mw_20)
  obtain ⟨c5, i5, h5⟩ := u_known (C := RX5) (T := TX5) (N := 4) (n := 4) hts inlX5 (hts _ mw_41)
  obtain ⟨c6, i6, h6⟩ := u_known (C := RX6) (T := TX6) (N := 5) (n := 5) hts inlX6 (hts _ mw_36)
  obtain ⟨c7, i7, h7⟩ := u_known (C := RX7) (T := TX7) (N := 13) (n := 13) hts inlX7 (hts _ mw_1)
  obtain ⟨c8, i8, h8⟩ := u_known (C := RX8) (T := TX8) (N := 50) (n := 50) hts inlX8 (hts _ mw_4)
  refine ⟨fun k => match k with | 0 => c0 | 1 => c1 | 2 => c2 | 3 => c3 | 4 => c4 | 5 => c5 | 6 => c6 | 7 => c7 | _ => c8, fun k => match k with | 0 => i0 | 1 => i1 | 2 => i2 | 3 => i3 | 4 => i4 | 5 => i5 | 6 => i6 | 7 => i7 | _ => i8, ?_⟩
  intro k q hq
  match k, hq with
  | 0, hq => cases hq; exact h0
  | 1, hq => cases hq; exact h1
  | 2, hq => cases hq; exact h2
  | 3, hq => cases hq; exact h3
  | 4, hq => cases hq; exact h4
  | 5, hq => cases hq; exact h5
  | 6, hq => cases hq; exact h6
  | 7, hq => cases hq; exact h7
  | 8, hq => cases hq; exact h8
  | k + 9, hq => simp [vwCl] at hq
