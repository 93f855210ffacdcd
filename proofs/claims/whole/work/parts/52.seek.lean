/-! the reference's listing of the ways -/
section QSEEK
variable {ρ : (Nat → Nat) × (Nat → Nat → Nat)}
def qhn (a : Nat) (w : List Nat) : Nat := if w.length - 1 < a then w.length - 1 else a
def qrf' (ρ : (Nat → Nat) × (Nat → Nat → Nat)) (b : Nat) (a : Nat) (w : List Nat) : Nat := if qrn ρ b w < a then qrn ρ b w else a
/-- what the reference has found: a list of ways -/
def qF (m : zS) (ρ : (Nat → Nat) × (Nat → Nat → Nat)) (b : Nat) (s : Int32) (L : List (List Nat)) : Prop :=
  m.1 38 = nI L.length ∧
  (∀ i, i < L.length → m.2.1 46 i = nI (qmk (L.getD i [])) ∧ m.2.1 47 i = nI (qch ρ b s (L.getD i []))) ∧
  (∀ v, qfo qmk (fun a w => a &&& qmk w) L = some v → m.1 41 = nI v) ∧
  (∀ v, qfo (fun w => w.length - 1) qhn L = some v → m.1 39 = nI v ∧ v < 9) ∧
  (∀ v, qfo (qrn ρ b) (qrf' ρ b) L = some v → m.1 40 = nI v ∧ v < 10) ∧
  (∀ B, qbest ρ b s L = some B → m.1 42 = nI (qch ρ b s B) ∧ m.1 43 = nI (B.length - 1) ∧ m.1 44 = s + nI (qsec ρ B) ∧ B.length ≤ 9 ∧ ∀ i, i < B.length → m.2.1 45 i = nI (qat B i))
/-- all but what the listing changes -/
def qFk (m m' : zS) : Prop := ∀ k, (k < 35 ∨ k = 36 ∨ k = 37 ∨ 48 ≤ k) → m'.1 k = m.1 k ∧ m'.2.1 k = m.2.1 k ∧ m'.2.2 k = m.2.2 k
theorem qFk_rf {m : zS} : qFk m m := fun _ _ => ⟨rfl, rfl, rfl⟩
theorem qFk_tr {m m' m'' : zS} (h : qFk m m') (h' : qFk m' m'') : qFk m m'' := fun k hk =>
  ⟨(h' k hk).1.trans (h k hk).1, (h' k hk).2.1.trans (h k hk).2.1, (h' k hk).2.2.trans (h k hk).2.2⟩
theorem qFk_35 {m : zS} (i : Nat) (x : Int32) : qFk m (zA m 35 i x) := fun j hj =>
  ⟨rfl, by funext t; rw [z_A, if_neg (by omega)], rfl⟩
theorem qFk_Fr {m m' : zS} (h : qFk m m') : qFr 35 48 m m' := fun k hk => h k (by omega)
theorem qFr_Fk {m m' : zS} (h : qFr 38 48 m m') : qFk m m' := fun k hk => by
  by_cases e : k < 38 ∨ 48 ≤ k
  · exact h k e
  · omega
theorem qF_35 {m : zS} {b : Nat} {s : Int32} {L : List (List Nat)} (F : qF m ρ b s L) (i : Nat) (x : Int32) : qF (zA m 35 i x) ρ b s L := by
  obtain ⟨h1, h2, h3, h4, h5, h6⟩ := F
  refine ⟨h1, fun j hj => ?_, h3, h4, h5, fun B hB => ?_⟩
  · rw [z_A, if_neg (by omega), z_A, if_neg (by omega)]; exact h2 j hj
  · obtain ⟨g1, g2, g3, g4, g5⟩ := h6 B hB
    exact ⟨g1, g2, g3, g4, fun j hj => by rw [z_A, if_neg (by omega)]; exact g5 j hj⟩
theorem a8_copied {n0 n1 : Nat} {f0 f1 : Nat → Int32} (h01 : n0 ≤ n1) (h1 : n1 < 2 ^ 31) {post : (Nat → Int32) → Prop}
    (h : ∀ g, (∀ i, i < n0 → g i = f0 i) → (∀ i, n0 ≤ i → g i = f1 i) → post g) : wp_X8_copied n0 f0 n1 f1 post := by
  refine q_lp2 (B := wb_X8_copied_2 n0 f0 n1 post) (fun m g x => ∃ j, j + m = n0 ∧ x = nI j ∧ (∀ i, i < j → g i = f0 i) ∧ ∀ i, j ≤ i → g i = f1 i) ?_ n0 _ _ ⟨0, by omega, rfl, fun i hi => absurd hi (by omega), fun _ _ => rfl⟩
  rintro m g _ ⟨j, hj, rfl, f2, f3⟩ K hK
  unfold wb_X8_copied_2
  have e0 : Int32.ofNat n0 = nI n0 := rfl
  rw [e0]
  by_cases e : nI n0 ≤ nI j
  · have := (q_leN (by omega) (by omega)).mp e
    have : j = n0 := by omega
    subst this
    rw [q_pos e]; exact h g f2 f3
  · have e' : ¬ n0 ≤ j := fun z => e ((q_leN (by omega) (by omega)).mpr z)
    rw [q_neg e]
    refine ⟨q_in (by omega) (by omega), fun v hv => ⟨q_in (by omega) (by omega), fun j3 hj3 w hw => ?_⟩⟩
    rw [q_clamp (by omega)] at hj3 hv
    subst hj3
    rw [hw, hv, q_succ]
    refine hK (m - 1) _ _ (by omega) ⟨j3 + 1, by omega, rfl, fun i hi => ?_, fun i hi => ?_⟩
    · show (if i = j3 then f0 j3 else g i) = f0 i
      by_cases c : i = j3
      · rw [if_pos c, c]
      · rw [if_neg c]; exact f2 i (by omega)
    · show (if i = j3 then f0 j3 else g i) = f1 i
      rw [if_neg (by omega)]; exact f3 i (by omega)
theorem a8_found {m : zS} {b : Nat} {s : Int32} {L : List (List Nat)} (F : qF m ρ b s L) {π : List Nat} (hl : 1 ≤ π.length ∧ π.length ≤ 9) (hr : ∀ q ∈ π, q < 12) (ht : ∀ i, i < π.length → m.2.1 35 i = nI (qat π i)) (hL : L.length < 1000) {post : zS → Prop}
    (h : ∀ m', qF m' ρ b s (L ++ [π]) → qFr 38 48 m m' → post m') : wp_X8_found m (nI π.length) (nI (qmk π)) (s + nI (qsec ρ π)) (nI (qch ρ b s π)) (nI (qrn ρ b π)) post := by
  obtain ⟨h1, h2, h3, h4, h5, h6⟩ := F
  have p1 : nI π.length - (1 : Int32) = nI (π.length - 1) := pk_sub (b := 1) hl.1
  have hqr := qrn_le (ρ := ρ) b π
  have hqc := qch_le (ρ := ρ) b s π
  have nz : ∀ k, k < 1000 → (nI k = (0 : Int32) ↔ k = 0) := fun k hk => q_nz (by omega)
  have emp : ∀ {β : Type} {g : List Nat → β} {f : β → List Nat → β}, L.length = 0 → qfo g f L = none := fun e => by rw [List.eq_nil_of_length_eq_zero e]; rfl
  have nem : ∀ {β : Type} {g : List Nat → β} {f : β → List Nat → β}, ¬ L.length = 0 → ∃ v, qfo g f L = some v := fun {β} {g} {f} e => by
    cases c : qfo g f L with
    | none => rw [qfo_none] at c; exact absurd (by rw [c]; rfl) e
    | some v => exact ⟨v, rfl⟩
  -- the end: one way more
  have e166 : ∀ m' : zS, m'.1 38 = nI L.length → (∀ i, i < L.length → m'.2.1 46 i = nI (qmk (L.getD i [])) ∧ m'.2.1 47 i = nI (qch ρ b s (L.getD i []))) → (m'.2.1 46 L.length = nI (qmk π) ∧ m'.2.1 47 L.length = nI (qch ρ b s π)) →
      (∀ v, qfo qmk (fun a w => a &&& qmk w) (L ++ [π]) = some v → m'.1 41 = nI v) → (∀ v, qfo (fun w => w.length - 1) qhn (L ++ [π]) = some v → m'.1 39 = nI v ∧ v < 9) → (∀ v, qfo (qrn ρ b) (qrf' ρ b) (L ++ [π]) = some v → m'.1 40 = nI v ∧ v < 10) →
      (∀ B, qbest ρ b s (L ++ [π]) = some B → m'.1 42 = nI (qch ρ b s B) ∧ m'.1 43 = nI (B.length - 1) ∧ m'.1 44 = s + nI (qsec ρ B) ∧ B.length ≤ 9 ∧ ∀ i, i < B.length → m'.2.1 45 i = nI (qat B i)) → qFr 38 48 m m' →
      wp_X8_found_166 (nI π.length) (nI (qmk π)) (s + nI (qsec ρ π)) (nI (qch ρ b s π)) (nI (qrn ρ b π)) post m' := by
    intro m' k1 k2 k3 k4 k5 k6 k7 k8 v hv
    rw [hv, k1, q_succ]
    refine h _ ⟨?_, fun i hi => ?_, k4, k5, k6, k7⟩ (qFr_I (k := 38) k8 (by decide) _)
    · rw [z_I, if_pos rfl, List.length_append]; rfl
    · rw [List.length_append] at hi
      have hi : i < L.length + 1 := hi
      rw [z_Ia]
      by_cases e : i = L.length
      · subst e; rw [q_getD_r]; exact k3
      · rw [q_getD_l L π (by omega)]; exact k2 i (by omega)
  -- from the numbers on
  have e99 : ∀ (m' : zS) (y : Nat), m'.1 38 = nI L.length → (∀ i, i < L.length → m'.2.1 46 i = nI (qmk (L.getD i [])) ∧ m'.2.1 47 i = nI (qch ρ b s (L.getD i []))) → (m'.2.1 46 L.length = nI (qmk π) ∧ m'.2.1 47 L.length = nI (qch ρ b s π)) →
      (∀ v, qfo qmk (fun a w => a &&& qmk w) (L ++ [π]) = some v → m'.1 41 = nI v) → (∀ v, qfo (fun w => w.length - 1) qhn (L ++ [π]) = some v → m'.1 39 = nI v ∧ v < 9) → (∀ v, qfo (qrn ρ b) (qrf' ρ b) (L ++ [π]) = some v → v = y) → y < 10 →
      m'.1 42 = m.1 42 → m'.1 43 = m.1 43 → m'.1 44 = m.1 44 → m'.2.1 45 = m.2.1 45 → m'.2.1 35 = m.2.1 35 → qFr 38 48 m m' →
      wp_X8_found_99 (nI π.length) (nI (qmk π)) (s + nI (qsec ρ π)) (nI (qch ρ b s π)) (nI (qrn ρ b π)) post m' (nI y) := by
    intro m' y k1 k2 k3 k4 k5 k6 ky k7 k8 k9 k10 k11 k12
    have F40 : qFr 38 48 m (zI m' 40 (nI y)) := qFr_I (k := 40) k12 (by decide) _
    have k6' : ∀ v, qfo (qrn ρ b) (qrf' ρ b) (L ++ [π]) = some v → (nI y) = nI v ∧ v < 10 := fun v hv => by rw [k6 v hv]; exact ⟨rfl, ky⟩
    -- it is the best
    have e137 : qbest ρ b s (L ++ [π]) = some π → wp_X8_found_137 (nI π.length) (nI (qmk π)) (s + nI (qsec ρ π)) (nI (qch ρ b s π)) (nI (qrn ρ b π)) post (zI m' 40 (nI y)) := by
      intro hb v hv
      rw [hv, p1]
      refine a8_copied (by decide) (by decide) (fun g hg _ => ?_)
      refine e166 _ k1 k2 k3 k4 k5 k6' (fun B hB => ?_) ?_
      · rw [hb] at hB
        have : π = B := Option.some.inj hB
        subst this
        refine ⟨rfl, rfl, rfl, hl.2, fun i hi => ?_⟩
        rw [z_G, if_pos rfl, hg i (by omega)]
        show m'.2.1 35 i = _
        rw [k11]; exact ht i hi
      · exact qFr_G (k := 45) (qFr_I (k := 44) (qFr_I (k := 43) (qFr_I (k := 42) F40 (by decide) _) (by decide) _) (by decide) _) (by decide) _
    -- it isn't
    have e166' : (∀ B, qbest ρ b s (L ++ [π]) = some B → qbest ρ b s L = some B) → wp_X8_found_166 (nI π.length) (nI (qmk π)) (s + nI (qsec ρ π)) (nI (qch ρ b s π)) (nI (qrn ρ b π)) post (zI m' 40 (nI y)) := by
      intro hb
      refine e166 _ k1 k2 k3 k4 k5 k6' (fun B hB => ?_) F40
      obtain ⟨g1, g2, g3, g4, g5⟩ := h6 B (hb B hB)
      refine ⟨?_, ?_, ?_, g4, fun i hi => ?_⟩
      · show m'.1 42 = _; rw [k7]; exact g1
      · show m'.1 43 = _; rw [k8]; exact g2
      · show m'.1 44 = _; rw [k9]; exact g3
      · show m'.2.1 45 i = _; rw [k10]; exact g5 i hi
    unfold wp_X8_found_99
    have z38 : (zI m' 40 (nI y)).1 38 = nI L.length := k1
    have z42 : (zI m' 40 (nI y)).1 42 = m.1 42 := k7
    have z43 : (zI m' 40 (nI y)).1 43 = m.1 43 := k8
    rw [z38, z42, z43, nz _ hL, p1]
    have sn : qbest ρ b s (L ++ [π]) = qst id (qbet ρ b s) (qbest ρ b s L) π := by unfold qbest; rw [qfo_snoc]
    by_cases c0 : L.length = 0
    · rw [q_pos c0]
      refine e137 ?_
      have : qbest ρ b s L = none := emp c0
      rw [sn, this]; rfl
    · rw [q_neg c0]
      obtain ⟨B, hB⟩ : ∃ B, qbest ρ b s L = some B := nem c0
      obtain ⟨g1, g2, g3, g4, g5⟩ := h6 B hB
      have hqb := qch_le (ρ := ρ) b s B
      rw [hB] at sn
      have sn : qbest ρ b s (L ++ [π]) = some (qbet ρ b s B π) := sn
      rw [g1, g2]
      by_cases c1 : nI (qch ρ b s B) < nI (qch ρ b s π)
      · have c1' := (nI_ltI (by omega) (by omega)).mp c1
        rw [q_pos c1]
        refine e137 ?_
        rw [sn]; unfold qbet; rw [if_pos c1']
      · have c1' : ¬ qch ρ b s B < qch ρ b s π := fun z => c1 ((nI_ltI (by omega) (by omega)).mpr z)
        rw [q_neg c1]
        have hBl : 1 ≤ B.length ∨ B.length = 0 := by omega
        by_cases c2 : nI (qch ρ b s π) = nI (qch ρ b s B)
        · have c2' := (nI_eq (by omega) (by omega)).mp c2
          rw [q_pos c2]
          by_cases c3 : nI (B.length - 1) ≤ nI (π.length - 1)
          · have c3' := (q_leN (by omega) (by omega)).mp c3
            rw [q_pos c3]
            refine e166' (fun B' hB' => ?_)
            rw [sn] at hB'
            unfold qbet at hB'
            rw [if_neg c1', if_neg (by omega)] at hB'
            rw [hB, hB']
          · have c3' : ¬ B.length - 1 ≤ π.length - 1 := fun z => c3 ((q_leN (by omega) (by omega)).mpr z)
            rw [q_neg c3]
            refine e137 ?_
            rw [sn]; unfold qbet; rw [if_neg c1', if_pos ⟨c2', by omega⟩]
        · have c2' : ¬ qch ρ b s π = qch ρ b s B := fun z => c2 (by rw [z])
          rw [q_neg c2]
          refine e166' (fun B' hB' => ?_)
          rw [sn] at hB'
          unfold qbet at hB'
          rw [if_neg c1', if_neg (fun z => c2' z.1)] at hB'
          rw [hB, hB']
  -- readers
  have e70 : ∀ (m' : zS) (y : Nat), m'.1 38 = nI L.length → (∀ i, i < L.length → m'.2.1 46 i = nI (qmk (L.getD i [])) ∧ m'.2.1 47 i = nI (qch ρ b s (L.getD i []))) → (m'.2.1 46 L.length = nI (qmk π) ∧ m'.2.1 47 L.length = nI (qch ρ b s π)) →
      (∀ v, qfo qmk (fun a w => a &&& qmk w) (L ++ [π]) = some v → m'.1 41 = nI v) → (∀ v, qfo (fun w => w.length - 1) qhn (L ++ [π]) = some v → v = y) → y < 9 → m'.1 40 = m.1 40 →
      m'.1 42 = m.1 42 → m'.1 43 = m.1 43 → m'.1 44 = m.1 44 → m'.2.1 45 = m.2.1 45 → m'.2.1 35 = m.2.1 35 → qFr 38 48 m m' →
      wp_X8_found_70 (nI π.length) (nI (qmk π)) (s + nI (qsec ρ π)) (nI (qch ρ b s π)) (nI (qrn ρ b π)) post m' (nI y) := by
    intro m' y k1 k2 k3 k4 k5 ky k6 k7 k8 k9 k10 k11 k12
    have F39 : qFr 38 48 m (zI m' 39 (nI y)) := qFr_I (k := 39) k12 (by decide) _
    have k5' : ∀ v, qfo (fun w => w.length - 1) qhn (L ++ [π]) = some v → (nI y) = nI v ∧ v < 9 := fun v hv => by rw [k5 v hv]; exact ⟨rfl, ky⟩
    unfold wp_X8_found_70 wp_X8_found_90
    have z38 : (zI m' 39 (nI y)).1 38 = nI L.length := k1
    have z40 : (zI m' 39 (nI y)).1 40 = m.1 40 := k6
    rw [z38, z40, nz _ hL]
    have sn : qfo (qrn ρ b) (qrf' ρ b) (L ++ [π]) = qst (qrn ρ b) (qrf' ρ b) (qfo (qrn ρ b) (qrf' ρ b) L) π := qfo_snoc _ _
    by_cases c0 : L.length = 0
    · rw [q_pos c0]
      refine e99 _ _ k1 k2 k3 k4 k5' (fun v hv => ?_) (by omega) k7 k8 k9 k10 k11 F39
      rw [sn, emp c0] at hv
      exact (Option.some.inj hv).symm
    · rw [q_neg c0]
      obtain ⟨v0, hv0⟩ : ∃ v, qfo (qrn ρ b) (qrf' ρ b) L = some v := nem c0
      obtain ⟨g1, g2⟩ := h5 v0 hv0
      rw [hv0] at sn
      have sn : qfo (qrn ρ b) (qrf' ρ b) (L ++ [π]) = some (qrf' ρ b v0 π) := sn
      rw [g1]
      by_cases c1 : nI v0 ≤ nI (qrn ρ b π)
      · have c1' := (q_leN (by omega) (by omega)).mp c1
        rw [q_pos c1]
        refine e99 _ _ k1 k2 k3 k4 k5' (fun v hv => ?_) g2 k7 k8 k9 k10 k11 F39
        rw [sn] at hv
        unfold qrf' at hv
        rw [if_neg (by omega)] at hv
        exact (Option.some.inj hv).symm
      · have c1' : ¬ v0 ≤ qrn ρ b π := fun z => c1 ((q_leN (by omega) (by omega)).mpr z)
        rw [q_neg c1]
        refine e99 _ _ k1 k2 k3 k4 k5' (fun v hv => ?_) (by omega) k7 k8 k9 k10 k11 F39
        rw [sn] at hv
        unfold qrf' at hv
        rw [if_pos (by omega)] at hv
        exact (Option.some.inj hv).symm
  -- hands
  have e39 : ∀ (m' : zS) (y : Nat), m'.1 38 = nI L.length → (∀ i, i < L.length → m'.2.1 46 i = nI (qmk (L.getD i [])) ∧ m'.2.1 47 i = nI (qch ρ b s (L.getD i []))) → (m'.2.1 46 L.length = nI (qmk π) ∧ m'.2.1 47 L.length = nI (qch ρ b s π)) →
      (∀ v, qfo qmk (fun a w => a &&& qmk w) (L ++ [π]) = some v → v = y) → m'.1 39 = m.1 39 → m'.1 40 = m.1 40 →
      m'.1 42 = m.1 42 → m'.1 43 = m.1 43 → m'.1 44 = m.1 44 → m'.2.1 45 = m.2.1 45 → m'.2.1 35 = m.2.1 35 → qFr 38 48 m m' →
      wp_X8_found_39 (nI π.length) (nI (qmk π)) (s + nI (qsec ρ π)) (nI (qch ρ b s π)) (nI (qrn ρ b π)) post m' (nI y) := by
    intro m' y k1 k2 k3 k4 k5 k6 k7 k8 k9 k10 k11 k12
    have F41 : qFr 38 48 m (zI m' 41 (nI y)) := qFr_I (k := 41) k12 (by decide) _
    have k4' : ∀ v, qfo qmk (fun a w => a &&& qmk w) (L ++ [π]) = some v → (nI y) = nI v := fun v hv => by rw [k4 v hv]
    unfold wp_X8_found_39 wp_X8_found_60
    have z38 : (zI m' 41 (nI y)).1 38 = nI L.length := k1
    have z39 : (zI m' 41 (nI y)).1 39 = m.1 39 := k5
    rw [z38, z39, nz _ hL, p1]
    have sn : qfo (fun w => w.length - 1) qhn (L ++ [π]) = qst (fun w => w.length - 1) qhn (qfo (fun w => w.length - 1) qhn L) π := qfo_snoc _ _
    by_cases c0 : L.length = 0
    · rw [q_pos c0]
      refine e70 _ _ k1 k2 k3 k4' (fun v hv => ?_) (by omega) k6 k7 k8 k9 k10 k11 F41
      rw [sn, emp c0] at hv
      exact (Option.some.inj hv).symm
    · rw [q_neg c0]
      obtain ⟨v0, hv0⟩ : ∃ v, qfo (fun w => w.length - 1) qhn L = some v := nem c0
      obtain ⟨g1, g2⟩ := h4 v0 hv0
      rw [hv0] at sn
      have sn : qfo (fun w => w.length - 1) qhn (L ++ [π]) = some (qhn v0 π) := sn
      rw [g1]
      by_cases c1 : nI v0 ≤ nI (π.length - 1)
      · have c1' := (q_leN (by omega) (by omega)).mp c1
        rw [q_pos c1]
        refine e70 _ _ k1 k2 k3 k4' (fun v hv => ?_) g2 k6 k7 k8 k9 k10 k11 F41
        rw [sn] at hv
        unfold qhn at hv
        rw [if_neg (by omega)] at hv
        exact (Option.some.inj hv).symm
      · have c1' : ¬ v0 ≤ π.length - 1 := fun z => c1 ((q_leN (by omega) (by omega)).mpr z)
        rw [q_neg c1]
        refine e70 _ _ k1 k2 k3 k4' (fun v hv => ?_) (by omega) k6 k7 k8 k9 k10 k11 F41
        rw [sn] at hv
        unfold qhn at hv
        rw [if_pos (by omega)] at hv
        exact (Option.some.inj hv).symm
  have hv : vp_in (nI L.length) 1000 := q_in hL (by omega)
  have z1 : ∀ i x, (zA m 46 i x).1 = m.1 := fun _ _ => rfl
  have z2 : ∀ i x j y, (zA (zA m 46 i x) 47 j y).1 = m.1 := fun _ _ _ _ => rfl
  unfold wp_X8_found
  simp only [z1, z2, h1, hv, true_and, forall_eq, q_clamp (n := L.length) (by omega), nz _ hL]
  have F2 : qFr 38 48 m (zA (zA m 46 L.length (nI (qmk π))) 47 L.length (nI (qch ρ b s π))) := qFr_A (k := 47) (qFr_A (k := 46) qFr_rf (by decide) _ _) (by decide) _ _
  have k2 : ∀ i, i < L.length → (zA (zA m 46 L.length (nI (qmk π))) 47 L.length (nI (qch ρ b s π))).2.1 46 i = nI (qmk (L.getD i [])) ∧ (zA (zA m 46 L.length (nI (qmk π))) 47 L.length (nI (qch ρ b s π))).2.1 47 i = nI (qch ρ b s (L.getD i [])) := fun i hi => by
    simp only [z_A]
    rw [if_neg (by omega), if_neg (by omega), if_neg (by omega), if_neg (by omega)]
    exact h2 i hi
  have k3 : (zA (zA m 46 L.length (nI (qmk π))) 47 L.length (nI (qch ρ b s π))).2.1 46 L.length = nI (qmk π) ∧ (zA (zA m 46 L.length (nI (qmk π))) 47 L.length (nI (qch ρ b s π))).2.1 47 L.length = nI (qch ρ b s π) := by
    simp [z_A]
  have k10 : (zA (zA m 46 L.length (nI (qmk π))) 47 L.length (nI (qch ρ b s π))).2.1 45 = m.2.1 45 := by funext i; simp [z_A]
  have k11 : (zA (zA m 46 L.length (nI (qmk π))) 47 L.length (nI (qch ρ b s π))).2.1 35 = m.2.1 35 := by funext i; simp [z_A]
  have sn : qfo qmk (fun a w => a &&& qmk w) (L ++ [π]) = qst qmk (fun a w => a &&& qmk w) (qfo qmk (fun a w => a &&& qmk w) L) π := qfo_snoc _ _
  refine ⟨fun c0 => ?_, fun c0 => ?_⟩
  · refine e39 _ _ h1 k2 k3 (fun v hv => ?_) rfl rfl rfl rfl rfl k10 k11 F2
    rw [sn, emp c0] at hv
    exact (Option.some.inj hv).symm
  · obtain ⟨v0, hv0⟩ : ∃ v, qfo qmk (fun a w => a &&& qmk w) L = some v := nem c0
    have g1 := h3 v0 hv0
    rw [hv0] at sn
    rw [g1, q_and]
    refine e39 _ _ h1 k2 k3 (fun v hv => ?_) rfl rfl rfl rfl rfl k10 k11 F2
    rw [sn] at hv
    exact (Option.some.inj hv).symm
end QSEEK
