/-! a statement of a lesson on both sides -/
section QSTM
variable {l y t m : zS} {z : Nat} {b : Nat → Nat} {ρ : (Nat → Nat) × (Nat → Nat → Nat)}
theorem q_4r : ∀ n, n < 5 → (nI n * (4 : Int32) - (1 : Int32)).toInt = 4 * (n : Int) - 1 := by decide +kernel
theorem qst_tf {a : Bool} {A : Prop} (h : a = true) (h' : a = false) : A := by rw [h] at h'; cases h'
theorem s_stmt (T : qTz y m z b) (R : qRm t ρ) (W : qW ρ) {p : Nat} (hp : p ≤ z) (f2 : l.1 2 = nI (qst0 z b p)) (f3 : l.1 3 = nI (qen0 z b p)) (f4 : l.1 4 = nI (qtk0 z b p)) {post : Int32 → zS → zS → Prop}
    (h1 : ∀ l' t' ρ' e, e ≤ z → p < e → l'.1 3 = nI e → qRm t' ρ' → qW ρ' → ρ.1 1 ≤ ρ'.1 1 → (∀ m, qTz y m z b → qMR m ρ → qLk m z b p → ∀ P : Int32 → zS → Prop, (∀ m', qLk m' z b e → qMR m' ρ' → qSf m m' → P 1 m') → wp_X8_statement m P) → post 1 l' t')
    (h0 : ∀ l' t' s, l'.1 2 = nI s → (∀ m, qTz y m z b → qMR m ρ → qLk m z b p → ∀ P : Int32 → zS → Prop, (∀ m', m'.1 32 = nI s → qSf m m' → P 0 m') → wp_X8_statement m P) → post 0 l' t') :
    wp_X0_readStatement l y t post := by
  have hc := R.1.2.2
  have hz := T.1
  have hw := W.1
  have g0 := qen0_in (b := b) hp
  have g1 := qen0_in (b := b) g0.2.1
  have g2 := qen0_in (b := b) g1.2.1
  have g3 := qen0_in (b := b) g2.2.1
  have s0 := qst0_in (b := b) hp
  have s1 := qst0_in (b := b) g0.2.1
  have s2 := qst0_in (b := b) g1.2.1
  have s3 := qst0_in (b := b) g2.2.1
  have word : ∀ j, qwo z b p j = true → p < qen0 z b p := fun j h => by
    have := (of_decide_eq_true h).1
    have := g0.2.2 (by omega)
    omega
  have i0 : (0 : Int32).toInt = 0 := rfl
  have i1 : (1 : Int32).toInt = 1 := rfl
  have i2 : (2 : Int32).toInt = 2 := rfl
  have i4 : (4 : Int32).toInt = 4 := rfl
  have i5 : (5 : Int32).toInt = 5 := rfl
  have i9 : (9 : Int32).toInt = 9 := rfl
  have i20 : (20 : Int32).toInt = 20 := rfl
  have i1000 : (1000 : Int32).toInt = 1000 := rfl
  have hi1 : (t.1 1 - (1 : Int32)).toInt = (ρ.1 1 : Int) - 1 := by rw [R.1.1 1 (by decide), q_sub1 _ (by omega)]
  have hi4 : (t.1 0 * (4 : Int32) - (1 : Int32)).toInt = 4 * (ρ.1 0 : Int) - 1 := by rw [R.1.1 0 (by decide), q_4r _ (by omega)]
  unfold wp_X0_readStatement
  refine a0_word T hp f2 f3 f4 ?_
  cases w0 : qwo z b p 0
  rotate_left
  · -- rows
    have pe := word 0 w0
    rw [q_t, R.1.1 1 (by decide), q_nz (by omega)]
    refine ⟨fun c0 => ?_, fun c0 => ?_⟩
    · unfold wp_X0_readRows
      refine a0_number T g0.2.1 f3 (by rw [i4]; decide) (fun l' a2 a3 a4 => ?_)
      rw [i2, i4]
      cases c : qnk z b (qen0 z b p) 2 4
      · rw [if_neg (by decide), q_pos rfl]
        try dsimp only
        rw [q_0]
        exact h0 _ _ _ a2 (fun m T M L P k => a8_stRows T M W hp L w0 c0 (fun d => qst_tf d c) (fun _ m' e F => k m' e F))
      · have v := qnk_v c
        rw [if_pos rfl, q_neg (q_nm1 (by omega))]
        try dsimp only
        rw [q_1]
        refine h1 _ _ (qSi ρ 0 (qval z b (qen0 z b p))) _ g1.2.1 (by omega) a3 (qRm_I R (by decide) _) ?_ (Nat.le_refl _) (fun m T M L P k => a8_stRows T M W hp L w0 c0 (fun _ m' L' M' F => k m' L' M' F) (fun d => qst_tf c d))
        refine ⟨⟨by show 2 ≤ qval z b (qen0 z b p); omega, by show qval z b (qen0 z b p) ≤ 4; omega, W.1.2.2⟩, fun q hq => ?_, W.2.2.1, W.2.2.2⟩
        have hq : q < ρ.1 1 := hq
        omega
    · have n : ∀ j, j < 5 → 0 ≠ j → qwo z b p j = false := fun j hj hn => qwo_ne (by decide) hj hn w0
      exact h0 _ _ _ f2 (fun m T M L P k => a8_none T M W hp L (Or.inr c0) (Or.inl (n 1 (by decide) (by decide))) (n 2 (by decide) (by decide)) (n 3 (by decide) (by decide)) (n 4 (by decide) (by decide)) (fun m' e F => k m' e F))
  rw [q_f]
  refine a0_word T hp f2 f3 f4 ?_
  cases w1 : qwo z b p 1
  rotate_left
  · -- pupil
    have pe := word 1 w1
    rw [q_t]
    unfold wp_X1_isFull
    have c12 : (t.1 1 < (12 : Int32)) = (ρ.1 1 < 12) := by rw [R.1.1 1 (by decide)]; exact propext (nI_ltI (b := 12) (by omega) (by decide))
    rw [c12]
    dsimp only
    rw [q_0, q_1]
    refine ⟨fun hn => ?_, fun hn => ?_⟩
    · unfold wp_X0_readPupil wp_X1_deskCount
      refine a0_number T g0.2.1 f3 (by rw [i5]; decide) (fun l' a2 a3 a4 => ?_)
      rw [i0, i5]
      cases c : qnk z b (qen0 z b p) 0 5
      · rw [if_neg (by decide), q_pos rfl]
        unfold wp_X0_readPupil_34 wp_X0_readPupil_51
        rw [q_pos rfl, q_pos rfl]
        try dsimp only
        rw [q_0]
        exact h0 _ _ _ a2 (fun m T M L P k => a8_stPupil T M W hp L w0 w1 hn (fun d => qst_tf d c) (fun _ m' e F => k m' e F) (fun d => qst_tf d c) (fun d => qst_tf d c))
      · have v := qnk_v c
        rw [if_pos rfl, q_neg (q_nm1 (by omega))]
        refine a0_number T g1.2.1 a3 (by rw [hi4]; omega) (fun l1 b2 b3 b4 => ?_)
        rw [i0, hi4]
        -- no desk
        have nod : (qnk z b (qen0 z b (qen0 z b p)) 0 (4 * (ρ.1 0 : Int) - 1) = false ∨ qoc ρ (qval z b (qen0 z b (qen0 z b p))) = true) → wp_X0_readPupil_34 y (fun v26 s27 s28 => (v26 = 0 → post 0 s27 s28) ∧ (¬ v26 = 0 → post 1 s27 s28)) l1 t (nI (qval z b (qen0 z b p))) (-1) := by
          intro d
          unfold wp_X0_readPupil_34 wp_X0_readPupil_51
          rw [q_pos rfl, q_pos rfl]
          try dsimp only
          rw [q_0]
          refine h0 _ _ _ b2 (fun m T M L P k => a8_stPupil T M W hp L w0 w1 hn (fun _ d1 d2 => ?_) (fun d => qst_tf c d) (fun _ _ m' e F => k m' e F) (fun _ d1 d2 => ?_))
          · rcases d with d | d
            · exact qst_tf d1 d
            · exact qst_tf d d2
          · rcases d with d | d
            · exact qst_tf d1 d
            · exact qst_tf d d2
        unfold wp_X0_onlyFree
        cases c1 : qnk z b (qen0 z b (qen0 z b p)) 0 (4 * (ρ.1 0 : Int) - 1)
        · rw [if_neg (by decide), q_pos rfl]
          exact nod (Or.inl c1)
        · have v1 := qnk_v c1
          rw [if_pos rfl, q_neg (q_nm1 (by omega))]
          refine e1_holder R.1 W (by omega) (fun o q hq => ?_) (fun o => ?_)
          · rw [q_neg (q_nm1 (by omega))]
            exact nod (Or.inr o)
          · rw [q_pos rfl]
            unfold wp_X0_readPupil_34
            dsimp only
            rw [q_neg (q_nm1 (by omega))]
            refine a0_number T g2.2.1 b3 (by rw [i9]; decide) (fun l2 d2 d3 d4 => ?_)
            rw [i0, i9]
            unfold wp_X0_readPupil_51
            cases c2 : qnk z b (qen0 z b (qen0 z b (qen0 z b p))) 0 9
            · rw [if_neg (by decide), q_pos rfl]
              try dsimp only
              rw [q_0]
              exact h0 _ _ _ d2 (fun m T M L P k => a8_stPupil T M W hp L w0 w1 hn (fun _ _ _ d => qst_tf d c2) (fun d => qst_tf c d) (fun _ d => by
                rcases d with d | d
                · exact qst_tf c1 d
                · exact qst_tf d o) (fun _ _ _ _ m' e F => k m' e F))
            · have v2 := qnk_v c2
              rw [if_pos rfl, q_neg (q_nm1 (by omega))]
              have W' := qSt_W (k := qval z b (qen0 z b p)) (d := qval z b (qen0 z b (qen0 z b p))) (a := qval z b (qen0 z b (qen0 z b (qen0 z b p)))) W (by omega) (by omega) (by omega) hn (qoc_f.mp o)
              refine a1_seat R hn W' (fun t' R' => ?_)
              rw [q_neg (q_nm1 (by omega))]
              try dsimp only
              rw [q_1]
              exact h1 _ _ _ _ g3.2.1 (by omega) d3 R' W' (by show ρ.1 1 ≤ ρ.1 1 + 1; omega) (fun m T M L P k => a8_stPupil T M W hp L w0 w1 hn (fun _ _ _ _ m' L' M' F => k m' L' M' F) (fun d => qst_tf c d) (fun _ d => by
                rcases d with d | d
                · exact qst_tf c1 d
                · exact qst_tf d o) (fun _ _ _ d => qst_tf c2 d))
    · have n : ∀ j, j < 5 → 1 ≠ j → qwo z b p j = false := fun j hj hn => qwo_ne (by decide) hj hn w1
      exact h0 _ _ _ f2 (fun m T M L P k => a8_none T M W hp L (Or.inl w0) (Or.inr (by omega)) (n 2 (by decide) (by decide)) (n 3 (by decide) (by decide)) (n 4 (by decide) (by decide)) (fun m' e F => k m' e F))
  rw [q_f]
  refine a0_word T hp f2 f3 f4 ?_
  cases w2 : qwo z b p 2
  rotate_left
  · -- bar
    have pe := word 2 w2
    rw [q_t]
    unfold wp_X0_readBar
    refine a0_number T g0.2.1 f3 (by rw [hi1]; omega) (fun l' a2 a3 a4 => ?_)
    rw [i0, hi1]
    cases c : qnk z b (qen0 z b p) 0 ((ρ.1 1 : Int) - 1)
    · rw [if_neg (by decide), q_pos rfl]
      unfold wp_X0_readBar_38
      rw [q_pos rfl]
      exact ⟨rfl, h0 _ _ _ a2 (fun m T M L P k => a8_stBar T M W hp L w0 w1 w2 (fun d => qst_tf d c) (fun _ m' e F => k m' e F) (fun d => qst_tf d c))⟩
    · have v := qnk_v c
      rw [if_pos rfl, q_neg (q_nm1 (by omega))]
      refine a0_number T g1.2.1 a3 (by rw [hi1]; omega) (fun l1 b2 b3 b4 => ?_)
      rw [i0, hi1]
      unfold wp_X0_readBar_38
      cases c1 : qnk z b (qen0 z b (qen0 z b p)) 0 ((ρ.1 1 : Int) - 1)
      · rw [if_neg (by decide), q_pos rfl]
        exact ⟨rfl, h0 _ _ _ b2 (fun m T M L P k => a8_stBar T M W hp L w0 w1 w2 (fun _ d => qst_tf d c1) (fun d => qst_tf c d) (fun _ _ m' e F => k m' e F))⟩
      · have v1 := qnk_v c1
        rw [if_pos rfl, q_neg (q_nm1 (by omega)), nI_eq (by omega) (by omega)]
        refine ⟨fun d => ⟨rfl, ?_⟩, fun d => ?_⟩
        · exact h0 _ _ _ b2 (fun m T M L P k => a8_stBar T M W hp L w0 w1 w2 (fun _ _ n => absurd d n) (fun d => qst_tf c d) (fun _ _ m' e F => k m' e F))
        · refine a1_bars (is := true) R W (by omega) (by omega) (fun g => d g.symm) (fun t' R' => ⟨rfl, ?_⟩)
          exact h1 _ _ _ _ g2.2.1 (by omega) b3 R' (qSb_W W (by omega) (by omega) (fun g => d g.symm)) (Nat.le_refl _) (fun m T M L P k => a8_stBar T M W hp L w0 w1 w2 (fun _ _ _ m' L' M' F => k m' L' M' F) (fun d => qst_tf c d) (fun _ n => by
            rcases n with n | n
            · exact qst_tf c1 n
            · exact absurd n d))
  rw [q_f]
  refine a0_word T hp f2 f3 f4 ?_
  cases w3 : qwo z b p 3
  rotate_left
  · -- move
    have pe := word 3 w3
    rw [q_t]
    unfold wp_X0_readMove wp_X1_deskCount
    refine a0_number T g0.2.1 f3 (by rw [hi1]; omega) (fun l' a2 a3 a4 => ?_)
    rw [i0, hi1]
    cases c : qnk z b (qen0 z b p) 0 ((ρ.1 1 : Int) - 1)
    · rw [if_neg (by decide), q_pos rfl]
      unfold wp_X0_readMove_42
      rw [q_pos rfl]
      exact ⟨rfl, h0 _ _ _ a2 (fun m T M L P k => a8_stMove T M W hp L w0 w1 w2 w3 (fun d => qst_tf d c) (fun _ m' e F => k m' e F) (fun d => qst_tf d c))⟩
    · have v := qnk_v c
      rw [if_pos rfl, q_neg (q_nm1 (by omega))]
      refine a0_number T g1.2.1 a3 (by rw [hi4]; omega) (fun l1 b2 b3 b4 => ?_)
      rw [i0, hi4]
      unfold wp_X0_onlyFree wp_X0_readMove_42
      cases c1 : qnk z b (qen0 z b (qen0 z b p)) 0 (4 * (ρ.1 0 : Int) - 1)
      · rw [if_neg (by decide), q_pos rfl]
        dsimp only
        rw [q_pos rfl]
        exact ⟨rfl, h0 _ _ _ b2 (fun m T M L P k => a8_stMove T M W hp L w0 w1 w2 w3 (fun _ d => qst_tf d c1) (fun d => qst_tf c d) (fun _ _ m' e F => k m' e F))⟩
      · have v1 := qnk_v c1
        rw [if_pos rfl, q_neg (q_nm1 (by omega))]
        refine e1_holder R.1 W (by omega) (fun o q hq => ?_) (fun o => ?_)
        · rw [q_neg (q_nm1 (by omega))]
          dsimp only
          rw [q_pos rfl]
          exact ⟨rfl, h0 _ _ _ b2 (fun m T M L P k => a8_stMove T M W hp L w0 w1 w2 w3 (fun _ _ d => qst_tf o d) (fun d => qst_tf c d) (fun _ _ m' e F => k m' e F))⟩
        · have hpl : qval z b (qen0 z b p) < ρ.1 1 := by omega
          have W' := qSa_W (p := qval z b (qen0 z b p)) (d := qval z b (qen0 z b (qen0 z b p))) W (by omega) (qoc_f.mp o)
          have hv : vp_in (nI (qval z b (qen0 z b p))) 12 := q_in (by omega) (by omega)
          rw [q_pos rfl]
          dsimp only
          rw [q_neg (q_nm1 (by omega))]
          unfold wp_X1_reseat
          rw [e1_has R.1, qP_n hc hpl, q_t]
          simp only [hv, true_and, forall_eq, q_clamp (n := qval z b (qen0 z b p)) (by omega)]
          refine q1_link (qR0_A R.1 6 _ _) (qW_L W') (fun t' R' => ⟨rfl, ?_⟩)
          exact h1 _ _ _ _ g2.2.1 (by omega) b3 R' W' (Nat.le_refl _) (fun m T M L P k => a8_stMove T M W hp L w0 w1 w2 w3 (fun _ _ _ m' L' M' F => k m' L' M' F) (fun d => qst_tf c d) (fun _ n => by
            rcases n with n | n
            · exact qst_tf c1 n
            · exact qst_tf n o))
  rw [q_f]
  refine a0_word T hp f2 f3 f4 ?_
  cases w4 : qwo z b p 4
  · rw [q_f]
    exact h0 _ _ _ f2 (fun m T M L P k => a8_none T M W hp L (Or.inl w0) (Or.inl w1) w2 w3 w4 (fun m' e F => k m' e F))
  -- master
  have pe := word 4 w4
  rw [q_t]
  unfold wp_X0_readMaster
  refine a0_number T g0.2.1 f3 (by rw [i20]; decide) (fun l' a2 a3 a4 => ?_)
  rw [i1, i20]
  unfold wp_X0_readMaster_23 wp_X0_readMaster_41
  cases c : qnk z b (qen0 z b p) 1 20
  · rw [if_neg (by decide), q_pos rfl, q_pos rfl, q_pos rfl]
    try dsimp only
    rw [q_0]
    exact h0 _ _ _ a2 (fun m T M L P k => a8_stMaster T M W hp L w0 w1 w2 w3 w4 (fun d => qst_tf d c) (fun _ m' e F => k m' e F) (fun d => qst_tf d c) (fun d => qst_tf d c))
  · have v := qnk_v c
    have hiv : (nI (qval z b (qen0 z b p))).toInt = (qval z b (qen0 z b p) : Int) := nI_toInt (by omega)
    rw [if_pos rfl, q_neg (q_nm1 (by omega))]
    refine a0_number T g1.2.1 a3 (by rw [hiv]; omega) (fun l1 b2 b3 b4 => ?_)
    rw [i0, hiv]
    cases c1 : qnk z b (qen0 z b (qen0 z b p)) 0 (qval z b (qen0 z b p) : Int)
    · rw [if_neg (by decide), q_pos rfl, q_pos rfl]
      try dsimp only
      rw [q_0]
      exact h0 _ _ _ b2 (fun m T M L P k => a8_stMaster T M W hp L w0 w1 w2 w3 w4 (fun _ d => qst_tf d c1) (fun d => qst_tf c d) (fun _ _ m' e F => k m' e F) (fun _ d => qst_tf d c1))
    · have v1 := qnk_v c1
      rw [if_pos rfl, q_neg (q_nm1 (by omega))]
      refine a0_number T g2.2.1 b3 (by rw [i1000]; decide) (fun l2 d2 d3 d4 => ?_)
      rw [i0, i1000]
      cases c2 : qnk z b (qen0 z b (qen0 z b (qen0 z b p))) 0 1000
      · rw [if_neg (by decide), q_pos rfl]
        try dsimp only
        rw [q_0]
        exact h0 _ _ _ d2 (fun m T M L P k => a8_stMaster T M W hp L w0 w1 w2 w3 w4 (fun _ _ d => qst_tf d c2) (fun d => qst_tf c d) (fun _ d => qst_tf c1 d) (fun _ _ _ m' e F => k m' e F))
      · have v2 := qnk_v c2
        rw [if_pos rfl, q_neg (q_nm1 (by omega))]
        try dsimp only
        rw [q_1]
        refine h1 _ _ (qSi (qSi (qSi ρ 2 (qval z b (qen0 z b p))) 3 (qval z b (qen0 z b (qen0 z b p)))) 4 (qval z b (qen0 z b (qen0 z b (qen0 z b p))))) _ g3.2.1 (by omega) d3 (qRm_I (qRm_I (qRm_I R (by decide) _) (by decide) _) (by decide) _) ?_ (Nat.le_refl _) (fun m T M L P k => a8_stMaster T M W hp L w0 w1 w2 w3 w4 (fun _ _ _ m' L' M' F => k m' L' M' F) (fun d => qst_tf c d) (fun _ d => qst_tf c1 d) (fun _ _ d => qst_tf c2 d))
        refine ⟨⟨hw.1, hw.2.1, hw.2.2.1, by show 1 ≤ qval z b (qen0 z b p); omega, by show qval z b (qen0 z b p) ≤ 20; omega, by show qval z b (qen0 z b (qen0 z b p)) ≤ qval z b (qen0 z b p); omega, by show qval z b (qen0 z b (qen0 z b (qen0 z b p))) ≤ 1000; omega⟩, W.2.1, W.2.2.1, W.2.2.2⟩
end QSTM
