/-! the surest of a list; its chances -/
section QSUR
variable {r : zS} {ρ : (Nat → Nat) × (Nat → Nat → Nat)}
theorem qpop_tb (a : Nat) : qpop a = (a.testBit 0).toNat + (a.testBit 1).toNat + (a.testBit 2).toNat + (a.testBit 3).toNat + (a.testBit 4).toNat + (a.testBit 5).toNat + (a.testBit 6).toNat + (a.testBit 7).toNat + (a.testBit 8).toNat + (a.testBit 9).toNat + (a.testBit 10).toNat + (a.testBit 11).toNat := by
  simp only [Nat.toNat_testBit]
  unfold qpop
  simp only [Nat.pow_zero, Nat.div_one]
theorem qpop_add {x q : Nat} (hq : q < 12) (hx : x.testBit q = false) : qpop (x ||| 2 ^ q) = qpop x + 1 := by
  rw [qpop_tb, qpop_tb]
  simp only [Nat.testBit_or, Nat.testBit_two_pow]
  have : q = 0 ∨ q = 1 ∨ q = 2 ∨ q = 3 ∨ q = 4 ∨ q = 5 ∨ q = 6 ∨ q = 7 ∨ q = 8 ∨ q = 9 ∨ q = 10 ∨ q = 11 := by omega
  rcases this with h | h | h | h | h | h | h | h | h | h | h | h <;> subst h <;> simp [hx] <;> omega
theorem qpop_0 {a : Nat} (ha : a < 4096) (h : qpop a = 0) : a = 0 := by
  have hs := qpop_s (a / 64) (by omega) (a % 64) (by omega)
  rw [Nat.div_add_mod] at hs
  rcases hs with hs | hs
  · exact hs
  · omega
theorem qrm_cons {q : Nat} {t : List Nat} (hq : q < ρ.1 1) : qrm ρ (qmk (q :: t)) = qrm ρ (qmk t) ||| (if qrd ρ q then 2 ^ q else 0) := by
  refine Nat.eq_of_testBit_eq (fun i => ?_)
  unfold qrm
  rw [Nat.testBit_or, qmask_bit, qmask_bit, qmk_bit, qmk_bit]
  by_cases e : i = q
  · subst e
    cases d : qrd ρ i <;> simp [d, hq, Nat.testBit_two_pow]
  · have e' : ¬ q = i := fun z => e z.symm
    have e2 : (if qrd ρ q = true then 2 ^ q else 0).testBit i = false := by
      split
      · rw [Nat.testBit_two_pow]; exact decide_eq_false e'
      · exact Nat.zero_testBit i
    rw [e2, Bool.or_false]
    simp [e]
theorem qrm_lt (hc : ρ.1 1 ≤ 12) (a : Nat) : qrm ρ a < 4096 := Nat.lt_of_lt_of_le (qmask_lt _ _) (Nat.pow_le_pow_right (n := 2) (by decide) hc)
theorem qrm_pop (hc : ρ.1 1 ≤ 12) : ∀ mid : List Nat, mid.Nodup → (∀ q ∈ mid, q < ρ.1 1) → qpop (qrm ρ (qmk mid)) = (mid.filter (qrd ρ)).length := by
  intro mid
  induction mid with
  | nil =>
    intro _ _
    have : qrm ρ (qmk []) = 0 := by
      refine Nat.eq_of_testBit_eq (fun i => ?_)
      unfold qrm; rw [qmask_bit]; simp [qmk]
    rw [this]; rfl
  | cons q t ih =>
    intro hn hr
    have hn := List.nodup_cons.mp hn
    have hq := hr q List.mem_cons_self
    have := ih hn.2 (fun x hx => hr x (List.mem_cons_of_mem _ hx))
    rw [qrm_cons hq]
    cases d : qrd ρ q
    · rw [if_neg (by decide), Nat.or_zero, List.filter_cons_of_neg (by rw [d]; decide)]; exact this
    · rw [if_pos rfl, List.filter_cons_of_pos d, List.length_cons, qpop_add (by omega), this]
      unfold qrm
      rw [qmask_bit, qmk_bit]
      simp [hn.1]
theorem qrn_mid (b a : Nat) : ∀ mid : List Nat, (∀ q ∈ mid, q ≠ b) → qrn ρ b (mid ++ [a]) = (mid.filter (qrd ρ)).length := by
  intro mid
  induction mid with
  | nil => intro _; rfl
  | cons q t ih =>
    intro h
    have hq : q ≠ b := h q List.mem_cons_self
    have := ih (fun x hx => h x (List.mem_cons_of_mem _ hx))
    show qrn ρ b (q :: (t ++ [a])) = _
    cases e : t ++ [a] with
    | nil => exact absurd e (by simp)
    | cons p u =>
      rw [e] at this
      unfold qrn
      rw [this, decide_eq_false hq]
      cases d : qrd ρ q
      · rw [List.filter_cons_of_neg (by rw [d]; decide)]; rfl
      · rw [List.filter_cons_of_pos d]; rfl
theorem qrn_way {a b : Nat} {mid : List Nat} (hn : (b :: (mid ++ [a])).Nodup) : qrn ρ b (b :: (mid ++ [a])) = (mid.filter (qrd ρ)).length := by
  have h : ∀ q ∈ mid, q ≠ b := fun q hq e => by
    subst e
    exact (List.nodup_cons.mp hn).1 (List.mem_append_left _ hq)
  rw [← qrn_mid b a mid h]
  cases e : mid ++ [a] with
  | nil => exact absurd e (by simp)
  | cons p u =>
    show qrn ρ b (p :: u) + (if !decide (b = b) && qrd ρ b then 1 else 0) = _
    rw [decide_eq_true rfl]; rfl
theorem q_mid {a b : Nat} {L : List (List Nat)} (G : qGo ρ a b L) {w : Nat} (hw : w < L.length) : ∃ mid, L.getD w [] = b :: (mid ++ [a]) ∧ mid.Nodup ∧ (∀ q ∈ mid, q < ρ.1 1) ∧ qrn ρ b (L.getD w []) = (mid.filter (qrd ρ)).length := by
  obtain ⟨⟨h1, h2, h3, h4⟩, mid, e⟩ := G _ (q_getD_mem L hw)
  refine ⟨mid, e, ?_, fun q hq => h4 q (by rw [e]; exact List.mem_cons_of_mem _ (List.mem_append_left _ hq)), ?_⟩
  · rw [e] at h2
    exact (List.nodup_append.mp (List.nodup_cons.mp h2).2).1
  · rw [e] at h2 ⊢
    exact qrn_way h2
theorem a5_wanted {k y : zS} {L : List (List Nat)} (R : qRm r ρ) (W : qW ρ) (Y : qY y L) {a b : Nat} (G : qGo ρ a b L) {w : Nat} (hw : w < L.length) (s : Int32) {o : Nat} (ho : o < 3) (h0 : k.1 0 = nI w) (h3 : k.1 3 = qz (qse ρ s (L.getD w []))) {post : Int32 → Prop}
    (h : post (qz (qwt ρ b s o (L.getD w [])))) : wp_X5_isWanted k r y (nI o) post := by
  have hc := R.1.2.2
  unfold wp_X5_isWanted
  rw [h0, h3, nI_k1 (by omega), nI_k2 (by omega)]
  have t3 : o = 0 ∨ o = 1 ∨ o = 2 := by omega
  rcases t3 with z | z | z
  · subst z
    rw [q_neg (by decide), q_neg (by decide)]; exact h
  · subst z
    rw [q_pos rfl]
    obtain ⟨mid, e, hn, hr, hq⟩ := q_mid G hw
    refine a6_between Y hw e (fun q hq => by have := hr q hq; omega) ?_
    have hm : qmk mid < 2 ^ 12 := qmk_lt (fun q hq => by have := hr q hq; omega)
    refine a1_readers R W (Nat.lt_of_lt_of_le hm (by decide)) ?_
    have hl := qrm_lt hc (qmk mid)
    have hp := qrm_pop hc mid hn hr
    have hw' : qwt ρ b s 1 (L.getD w []) = decide (qrn ρ b (L.getD w []) = 0) := rfl
    rw [hw', hq] at h
    rw [q_nz (by omega)]
    refine ⟨fun c => ?_, fun c => ?_⟩
    · rw [c] at hp
      rw [decide_eq_true (show (mid.filter (qrd ρ)).length = 0 from hp.symm)] at h; exact h
    · rw [decide_eq_false (fun g => c (qpop_0 hl (hp.trans g)))] at h; exact h
  · subst z
    rw [q_neg (by decide), q_pos rfl]
    have hw' : qwt ρ b s 2 (L.getD w []) = !qse ρ s (L.getD w []) := rfl
    rw [hw'] at h
    cases d : qse ρ s (L.getD w []) <;> rw [d] at h
    · rw [q_pos qz_f]; exact h
    · rw [q_neg (by decide)]; exact h
theorem a5_surest {k y : zS} {L : List (List Nat)} (R : qRm r ρ) (W : qW ρ) (Y : qY y L) {a b : Nat} (G : qGo ρ a b L) (s : Int32) {o : Nat} (ho : o < 3) {post : Int32 → zS → Prop}
    (h0 : qbest ρ b s (L.filter (qwt ρ b s o)) = none → ∀ k', post 0 k')
    (h1 : ∀ B i k', qbest ρ b s (L.filter (qwt ρ b s o)) = some B → i < L.length → L.getD i [] = B → k'.1 0 = nI i → k'.1 1 = nI (qch ρ b s B) → k'.1 2 = nI (qsec ρ B) → post 1 k') :
    wp_X5_takeSurest k r y s (nI o) post := by
  have hL := Y.2.1
  have lt1 : ∀ c : Nat, c ≤ 1000000 → (-1 : Int32) < nI c := fun c hc => by
    rw [q_ltI, nI_toInt (by omega)]; show (-1 : Int) < c; omega
  refine q_lp4 (B := wb_X5_takeSurest_9 r y s (nI o) post) (fun m k' x5 x6 x7 => ∃ j, j + m = L.length ∧ x7 = nI j ∧ ((qbest ρ b s ((L.take j).filter (qwt ρ b s o)) = none ∧ x5 = -1 ∧ x6 = -1) ∨ (∃ B i, qbest ρ b s ((L.take j).filter (qwt ρ b s o)) = some B ∧ i < j ∧ L.getD i [] = B ∧ x5 = nI i ∧ x6 = nI (qch ρ b s B)))) ?_ L.length _ _ _ _ ⟨0, by omega, rfl, Or.inl ⟨rfl, rfl, rfl⟩⟩
  rintro m k' x5 x6 _ ⟨j, hj, rfl, hI⟩ K hK
  unfold wb_X5_takeSurest_9
  rw [Y.1]
  by_cases e : nI L.length ≤ nI j
  · have := (q_leN (by omega) (by omega)).mp e
    have : j = L.length := by omega
    subst this
    rw [List.take_length] at hI
    rw [q_pos e]
    rcases hI with ⟨f1, rfl, rfl⟩ | ⟨B, i, f1, f2, f3, rfl, rfl⟩
    · refine a5_take_no Y s (fun k'' => ?_)
      rw [q_pos rfl]; exact h0 f1 k''
    · have g := (G _ (q_getD_mem L f2)).1
      refine a5_take (b := b) R W Y f2 g.1 g.2.1 g.2.2.2 s (fun k'' g0 g1 g2 _ => ?_)
      rw [q_neg (fun c => by have n1 : ∀ n, n < 48 → ¬ nI n = (-1 : Int32) := by decide +kernel
                             exact n1 i (by omega) c)]
      rw [f3] at g1 g2
      exact h1 B i k'' f1 f2 f3 g0 g1 g2
  · have e' : ¬ L.length ≤ j := fun z => e ((q_leN (by omega) (by omega)).mpr z)
    have hjl : j < L.length := by omega
    have g := (G _ (q_getD_mem L hjl)).1
    rw [q_neg e]
    refine a5_take (b := b) R W Y hjl g.1 g.2.1 g.2.2.2 s (fun k'' g0 g1 g2 g3 => ?_)
    have hsz := (Y.2.2 j hjl).2.1
    have hq1 := qch_le (ρ := ρ) b s (L.getD j [])
    rw [g1]
    -- the next turn
    have nx : ∀ y5 y6, ((qbest ρ b s ((L.take (j + 1)).filter (qwt ρ b s o)) = none ∧ y5 = -1 ∧ y6 = -1) ∨ (∃ B i, qbest ρ b s ((L.take (j + 1)).filter (qwt ρ b s o)) = some B ∧ i < j + 1 ∧ L.getD i [] = B ∧ y5 = nI i ∧ y6 = nI (qch ρ b s B))) → wp_X5_takeSurest_93 r y s (nI o) post K k'' y5 y6 (nI j) := by
      intro y5 y6 hy v hv
      rw [hv, q_succ]
      exact hK (m - 1) _ _ _ _ (by omega) ⟨j + 1, by omega, rfl, hy⟩
    have tk : (L.take (j + 1)).filter (qwt ρ b s o) = (L.take j).filter (qwt ρ b s o) ++ (if qwt ρ b s o (L.getD j []) then [L.getD j []] else []) := by
      rw [q_take_succ L hjl, List.filter_append]
      congr 1
      rw [List.filter_cons]; rfl
    have same : qwt ρ b s o (L.getD j []) = false → wp_X5_takeSurest_93 r y s (nI o) post K k'' x5 x6 (nI j) := by
      intro c
      rw [c, if_neg (by decide), List.append_nil] at tk
      refine nx x5 x6 ?_
      rw [tk]
      rcases hI with f | ⟨B, i, f1, f2, f3⟩
      · exact Or.inl f
      · exact Or.inr ⟨B, i, f1, by omega, f3⟩
    -- better, if it is wanted
    have good : (qwt ρ b s o (L.getD j []) = true → qbest ρ b s ((L.take (j + 1)).filter (qwt ρ b s o)) = some (L.getD j [])) → wp_X5_takeSurest_60 r y s (nI o) post K k'' x5 x6 (nI j) := by
      intro c
      unfold wp_X5_takeSurest_60 wp_X5_takeSurest_65
      rw [q_1]
      refine a5_wanted (b := b) R W Y G hjl s ho g0 g3 ?_
      refine q_br (fun d => ?_) (fun d => same d)
      rw [g1, q_all]
      exact nx _ _ (Or.inr ⟨_, j, c d, by omega, rfl, rfl, rfl⟩)
    -- not better
    have bad : (qwt ρ b s o (L.getD j []) = true → qbest ρ b s ((L.take (j + 1)).filter (qwt ρ b s o)) = qbest ρ b s ((L.take j).filter (qwt ρ b s o))) → wp_X5_takeSurest_64 r y s (nI o) post K k'' x5 x6 (nI j) := by
      intro c
      unfold wp_X5_takeSurest_64 wp_X5_takeSurest_65
      rw [q_0]
      cases d : qwt ρ b s o (L.getD j [])
      · exact same d
      · refine nx x5 x6 ?_
        rw [c d]
        rcases hI with f | ⟨B, i, f1, f2, f3⟩
        · exact Or.inl f
        · exact Or.inr ⟨B, i, f1, by omega, f3⟩
    rcases hI with ⟨f1, rfl, rfl⟩ | ⟨B, i, f1, f2, f3, rfl, rfl⟩
    · rw [q_pos (lt1 _ hq1)]
      refine good (fun c => ?_)
      rw [tk, c, if_pos rfl]
      unfold qbest at f1 ⊢
      rw [qfo_snoc, f1]; rfl
    · have hq2 := qch_le (ρ := ρ) b s B
      have hsz2 := (Y.2.2 i (by omega)).2.1
      rw [f3] at hsz2
      have sn : qwt ρ b s o (L.getD j []) = true → qbest ρ b s ((L.take (j + 1)).filter (qwt ρ b s o)) = some (qbet ρ b s B (L.getD j [])) := by
        intro c
        rw [tk, c, if_pos rfl]
        unfold qbest at f1 ⊢
        rw [qfo_snoc, f1]; rfl
      by_cases c1 : nI (qch ρ b s B) < nI (qch ρ b s (L.getD j []))
      · have c1' := (nI_ltI (by omega) (by omega)).mp c1
        rw [q_pos c1]
        refine good (fun c => ?_)
        rw [sn c]
        unfold qbet
        rw [if_pos c1']
      · have c1' : ¬ qch ρ b s B < qch ρ b s (L.getD j []) := fun z => c1 ((nI_ltI (by omega) (by omega)).mpr z)
        rw [q_neg c1]
        by_cases c2 : nI (qch ρ b s (L.getD j [])) = nI (qch ρ b s B)
        · have c2' := (nI_eq (by omega) (by omega)).mp c2
          rw [q_pos c2, e6_size Y hjl, e6_size Y (by omega), f3]
          by_cases c3 : nI B.length ≤ nI (L.getD j []).length
          · have c3' := (q_leN (by omega) (by omega)).mp c3
            rw [q_pos c3]
            refine bad (fun c => ?_)
            rw [sn c, f1]
            unfold qbet
            rw [if_neg c1', if_neg (by omega)]
          · have c3' : ¬ B.length ≤ (L.getD j []).length := fun z => c3 ((q_leN (by omega) (by omega)).mpr z)
            rw [q_neg c3]
            refine good (fun c => ?_)
            rw [sn c]
            unfold qbet
            rw [if_neg c1', if_pos ⟨c2', by omega⟩]
        · have c2' : ¬ qch ρ b s (L.getD j []) = qch ρ b s B := fun z => c2 (by rw [z])
          rw [q_neg c2]
          refine bad (fun c => ?_)
          rw [sn c, f1]
          unfold qbet
          rw [if_neg c1', if_neg (fun z => c2' z.1)]
/-- the list with its chances -/
theorem a5_rate {k y : zS} {L : List (List Nat)} (R : qRm r ρ) (W : qW ρ) (Y : qY y L) {a b : Nat} (G : qGo ρ a b L) (s : Int32) {post : zS → zS → Prop}
    (h : ∀ k' y', qY y' L → (∀ w, w < L.length → y'.2.1 3 w = nI (qch ρ b s (L.getD w []))) → post k' y') : wp_X5_rate k r y s post := by
  have hL := Y.2.1
  refine q_lp3 (B := wb_X5_rate_3 r s post) (fun m k' y' x => ∃ j, j + m = L.length ∧ x = nI j ∧ qY y' L ∧ ∀ w, w < j → y'.2.1 3 w = nI (qch ρ b s (L.getD w []))) ?_ L.length _ _ _ ⟨0, by omega, rfl, Y, fun w hw => absurd hw (by omega)⟩
  rintro m k' y' _ ⟨j, hj, rfl, Y', f⟩ K hK
  unfold wb_X5_rate_3
  rw [Y'.1]
  by_cases e : nI L.length ≤ nI j
  · have := (q_leN (by omega) (by omega)).mp e
    have : j = L.length := by omega
    subst this
    rw [q_pos e]; exact h k' y' Y' f
  · have e' : ¬ L.length ≤ j := fun z => e ((q_leN (by omega) (by omega)).mpr z)
    have hjl : j < L.length := by omega
    have g := (G _ (q_getD_mem L hjl)).1
    rw [q_neg e]
    refine a5_take (b := b) R W Y' hjl g.1 g.2.1 g.2.2.2 s (fun k'' _ g1 _ _ => ?_)
    unfold wp_X6_setChance
    rw [e6_has Y', qI_t.mpr (by rw [nI_toInt (by omega)]; omega), q_t, g1]
    refine ⟨q_in (by omega) (by omega), fun j3 hj3 v hv => ?_⟩
    rw [q_clamp (by omega)] at hj3
    subst hj3
    rw [hv, q_succ]
    refine hK (m - 1) _ _ _ (by omega) ⟨j3 + 1, by omega, rfl, qY_A Y' (by decide) _ _, fun w hw => ?_⟩
    rw [z_A]
    by_cases c : w = j3
    · rw [if_pos ⟨rfl, c⟩, c]
    · rw [if_neg (by omega)]; exact f w (by omega)
theorem e6_chance {y : zS} {L : List (List Nat)} (Y : qY y L) {w : Nat} (hw : w < L.length) {post : Int32 → Prop} : wp_X6_chanceOf y (nI w) post = post (y.2.1 3 w) := by
  have hn := Y.2.1
  unfold wp_X6_chanceOf
  rw [e6_has Y, qI_t.mpr (by rw [nI_toInt (by omega)]; omega), q_t, q_clamp (by omega)]
  exact q_and_t (q_in (by omega) (by omega))
end QSUR
