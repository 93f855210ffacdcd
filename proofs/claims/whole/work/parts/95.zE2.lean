/-! all that the class's and the reference's texts stand on, at the law's start -/
set_option maxRecDepth 100000 in
theorem l_zE {s : State} {b : Nat} (hgv : (Jvm.Cond.and given_1 narrow_1).before #[Value.ref b] s = true) (hts : ∀ w ∈ lw_tbl, w.before #[Value.ref b] s = true) : ∃ adK adV : Nat → Nat, zE adK adV (fun q : Nat => s.heap.size ≤ q) s s.heap := by
  obtain ⟨adK, adV, hV, hk⟩ := l_zS hgv
  have hs := flat_of_before _ hgv
  have i5 : ∀ {P : Nat → Prop}, P 0 → P 1 → P 2 → P 3 → P 4 → ∀ i, i < 5 → P i := fun h0 h1 h2 h3 h4 i hi => by
    have : i = 0 ∨ i = 1 ∨ i = 2 ∨ i = 3 ∨ i = 4 := by omega
    rcases this with e | e | e | e | e <;> subst e <;> assumption
  have q8 : ∀ i, i < 5 → (Cond.eq (.string RX0 (lkx i)) (.string RX8 (lky i))).before #[Value.ref b] s = true := i5 (hs _ (by decide +kernel)) (hs _ (by decide +kernel)) (hs _ (by decide +kernel)) (hs _ (by decide +kernel)) (hs _ (by decide +kernel))
  have hk8 : ∀ i, i < 5 → (Term.string RX8 (lky i)).eval #[Value.ref b] s none [] s = some (.ref (adK i)) := fun i hi => by
    obtain ⟨y, h1, h2⟩ := Cond.eq_one (q8 i hi)
    rw [hk i hi] at h1
    cases h1
    exact h2
  have hA : ∀ a : Nat, a < s.heap.size → ¬ (fun q : Nat => s.heap.size ≤ q) a := fun a h z => absurd z (Nat.not_le.mpr h)
  have hcs : (Term.static "java/lang/String" "COMPACT_STRINGS" "Z").eval #[Value.ref b] s none [] s = some (.int 1) := by
    obtain ⟨y, h1, h2⟩ := Cond.eq_one (hs (Cond.eq (.static "java/lang/String" "COMPACT_STRINGS" "Z") (.int 1)) (by decide +kernel))
    cases h2
    exact h1
  refine ⟨adK, adV, hV, va_Zof (hts (.laysStatic "java/lang/String" "COMPACT_STRINGS" "Z") (by decide +kernel)) (hts (.initialized "java/lang/String") (by decide +kernel)) hcs hA, va_Zqof (hts (.laysStatic "jdk/internal/util/Preconditions" "SIOOBE_FORMATTER" "Ljava/util/function/BiFunction;") (by decide +kernel)) (hts (.initialized "jdk/internal/util/Preconditions") (by decide +kernel)) (hs (.isRef (.static "jdk/internal/util/Preconditions" "SIOOBE_FORMATTER" "Ljava/util/function/BiFunction;")) (by decide +kernel)) hA, ⟨vk_R.of (hts (.stringRef RX0 36 "rows") (by decide +kernel)) (hk 0 (by decide)), vk_R.of (hts (.stringRef RX0 50 "pupil") (by decide +kernel)) (hk 1 (by decide)), vk_R.of (hts (.stringRef RX0 58 "bar") (by decide +kernel)) (hk 2 (by decide)), vk_R.of (hts (.stringRef RX0 63 "move") (by decide +kernel)) (hk 3 (by decide)), vk_R.of (hts (.stringRef RX0 68 "master") (by decide +kernel)) (hk 4 (by decide))⟩, vk_R.of (hts (.stringRef RX8 222 "rows") (by decide +kernel)) (hk8 0 (by decide)), vk_R.of (hts (.stringRef RX8 230 "pupil") (by decide +kernel)) (hk8 1 (by decide)), vk_R.of (hts (.stringRef RX8 235 "bar") (by decide +kernel)) (hk8 2 (by decide)), vk_R.of (hts (.stringRef RX8 237 "move") (by decide +kernel)) (hk8 3 (by decide)), vk_R.of (hts (.stringRef RX8 239 "master") (by decide +kernel)) (hk8 4 (by decide))⟩
