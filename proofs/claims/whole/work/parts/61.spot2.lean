/-! spot side by side; image, back -/
section QSPOT2
variable {x r y k m m1 t : zS} {ρ : (Nat → Nat) × (Nat → Nat → Nat)}
theorem s_spot_S (R : qRm r ρ) (M : qMR m ρ) (W : qW ρ) (kd mk a b : Int32) {post : Int32 → zS → zS → zS → zS → Int32 → zS → zS → Prop}
    (h : ∀ v t' y' k' m1', post v x t' y' k' v m m1')
    (hr : ∀ v j, j < 5 → ∀ t' y' k', post v (zA x 12 j (x.2.1 12 j + 1)) t' y' k' v (zA m 8 (j + 2) (m.2.1 8 (j + 2) + 1)) m1) :
    wp_X7_spot x r t y k kd mk a b (fun v x' t' y' k' => wp_X8_spot_S m m1 kd mk a b (fun v' m' m1' => post v x' t' y' k' v' m' m1')) := by
  have hc := R.1.2.2
  have h4 := W.1.2.1
  have f4 : ∀ n, n < 5 → (4 : Int32) * nI n = nI (4 * n) := by decide +kernel
  have e12 : (nI (ρ.1 1) = (12 : Int32)) = (ρ.1 1 = 12) := propext (nI_eq (b := 12) (by omega) (by decide))
  have e4 : (nI (ρ.1 1) = (4 : Int32) * nI (ρ.1 0)) = (ρ.1 1 = 4 * ρ.1 0) := by rw [f4 _ (by omega)]; exact propext (nI_eq (by omega) (by omega))
  refine a7_spot R W kd mk a b (fun v x' t' y' k' => wp_X8_spot_S m m1 kd mk a b (fun v' m' m1' => post v x' t' y' k' v' m' m1')) (fun c => ?_) (fun c c12 => ?_) (fun c cl c4 t' y' k' => ?_) (fun kd' mk' a' b' e v e1 e2 e3 e4' hk hm ha hb hab hn hn4 hsp t' y' k' => ?_)
  · simp only [wp_X8_spot_S, wp_X8_spot_S_34, e8_inI (lo := 0) (hi := 5) (a := 0) (b := 5) rfl rfl, e8_inI (lo := 0) (hi := 9) (a := 0) (b := 9) rfl rfl, e8_areTwo M, e8_r2]
    cases c1 : qI 0 5 kd
    · simp only [q_f]; exact hr _ 0 (by decide) _ _ _
    cases c2 : qI 0 9 mk
    · simp only [q_t, q_f]; exact hr _ 0 (by decide) _ _ _
    cases c3 : qP2 ρ a b
    · simp only [q_t, q_f]; exact hr _ 0 (by decide) _ _ _
    rw [c1, c2, c3] at c; cases c
  · rw [Bool.and_eq_true, Bool.and_eq_true] at c
    simp only [wp_X8_spot_S, wp_X8_spot_S_34, e8_inI (lo := 0) (hi := 5) (a := 0) (b := 5) rfl rfl, e8_inI (lo := 0) (hi := 9) (a := 0) (b := 9) rfl rfl, e8_areTwo M, c.1.1, c.1.2, c.2, q_t, M.1.1, M.1.2.1, e12, q_pos c12, e8_r6]
    exact hr _ 4 (by decide) _ _ _
  · rw [Bool.and_eq_true, Bool.and_eq_true] at c
    simp only [wp_X8_spot_S, wp_X8_spot_S_34, e8_inI (lo := 0) (hi := 5) (a := 0) (b := 5) rfl rfl, e8_inI (lo := 0) (hi := 9) (a := 0) (b := 9) rfl rfl, e8_areTwo M, c.1.1, c.1.2, c.2, q_t, M.1.1, M.1.2.1, e12, q_neg (show ¬ ρ.1 1 = 12 by omega), e4, q_pos c4, e8_r5]
    exact hr _ 3 (by decide) _ _ _
  · subst e1 e2 e3 e4'
    have c1 : qI 0 5 (nI kd') = true := qI_t.mpr (by rw [nI_toInt (by omega)]; omega)
    have c2 : qI 0 9 (nI mk') = true := qI_t.mpr (by rw [nI_toInt (by omega)]; omega)
    have c3 : qP2 ρ (nI a') (nI b') = true := by
      unfold qP2
      rw [qP_n hc ha, qP_n hc hb, decide_eq_false (fun z => hab ((nI_eq (by omega) (by omega)).mp z))]; rfl
    simp only [wp_X8_spot_S, wp_X8_spot_S_34, e8_inI (lo := 0) (hi := 5) (a := 0) (b := 5) rfl rfl, e8_inI (lo := 0) (hi := 9) (a := 0) (b := 9) rfl rfl, e8_areTwo M, c1, c2, c3, q_t, M.1.1, M.1.2.1, e12, q_neg (show ¬ ρ.1 1 = 12 by omega), e4, q_neg hn4]
    refine a8_spotS M W hk hm ha hb hab hn _ (fun x5 x6 m2 hI => ?_) m1
    rcases hI with ⟨z, -, -⟩ | ⟨e', v', z, -, rfl, rfl⟩
    · rw [hsp] at z; cases z
    · rw [hsp] at z; cases z; exact h _ _ _ _ _
theorem s_spot_N (R : qRm r ρ) (M : qMR m ρ) (W : qW ρ) (kd mk a b : Int32) {post : Int32 → zS → zS → zS → zS → Int32 → zS → wO → Prop}
    (h : ∀ v t' y' k' o, (o = none ∨ ∃ Q A LA m1, o = some (Q, A, (fun _ => none), LA, m1)) → post v x t' y' k' v m o)
    (hr : ∀ v j, j < 5 → ∀ t' y' k', post v (zA x 12 j (x.2.1 12 j + 1)) t' y' k' v (zA m 8 (j + 2) (m.2.1 8 (j + 2) + 1)) none) :
    wp_X7_spot x r t y k kd mk a b (fun v x' t' y' k' => wp_X8_spot_N m kd mk a b (fun v' m' o => post v x' t' y' k' v' m' o)) := by
  have hc := R.1.2.2
  have h4 := W.1.2.1
  have f4 : ∀ n, n < 5 → (4 : Int32) * nI n = nI (4 * n) := by decide +kernel
  have e12 : (nI (ρ.1 1) = (12 : Int32)) = (ρ.1 1 = 12) := propext (nI_eq (b := 12) (by omega) (by decide))
  have e4 : (nI (ρ.1 1) = (4 : Int32) * nI (ρ.1 0)) = (ρ.1 1 = 4 * ρ.1 0) := by rw [f4 _ (by omega)]; exact propext (nI_eq (by omega) (by omega))
  refine a7_spot R W kd mk a b (fun v x' t' y' k' => wp_X8_spot_N m kd mk a b (fun v' m' o => post v x' t' y' k' v' m' o)) (fun c => ?_) (fun c c12 => ?_) (fun c cl c4 t' y' k' => ?_) (fun kd' mk' a' b' e v e1 e2 e3 e4' hk hm ha hb hab hn hn4 hsp t' y' k' => ?_)
  · simp only [wp_X8_spot_N, wp_X8_spot_N_34, e8_inI (lo := 0) (hi := 5) (a := 0) (b := 5) rfl rfl, e8_inI (lo := 0) (hi := 9) (a := 0) (b := 9) rfl rfl, e8_areTwo M, e8_r2]
    cases c1 : qI 0 5 kd
    · simp only [q_f]; exact hr _ 0 (by decide) _ _ _
    cases c2 : qI 0 9 mk
    · simp only [q_t, q_f]; exact hr _ 0 (by decide) _ _ _
    cases c3 : qP2 ρ a b
    · simp only [q_t, q_f]; exact hr _ 0 (by decide) _ _ _
    rw [c1, c2, c3] at c; cases c
  · rw [Bool.and_eq_true, Bool.and_eq_true] at c
    simp only [wp_X8_spot_N, wp_X8_spot_N_34, e8_inI (lo := 0) (hi := 5) (a := 0) (b := 5) rfl rfl, e8_inI (lo := 0) (hi := 9) (a := 0) (b := 9) rfl rfl, e8_areTwo M, c.1.1, c.1.2, c.2, q_t, M.1.1, M.1.2.1, e12, q_pos c12, e8_r6]
    exact hr _ 4 (by decide) _ _ _
  · rw [Bool.and_eq_true, Bool.and_eq_true] at c
    simp only [wp_X8_spot_N, wp_X8_spot_N_34, e8_inI (lo := 0) (hi := 5) (a := 0) (b := 5) rfl rfl, e8_inI (lo := 0) (hi := 9) (a := 0) (b := 9) rfl rfl, e8_areTwo M, c.1.1, c.1.2, c.2, q_t, M.1.1, M.1.2.1, e12, q_neg (show ¬ ρ.1 1 = 12 by omega), e4, q_pos c4, e8_r5]
    exact hr _ 3 (by decide) _ _ _
  · subst e1 e2 e3 e4'
    have c1 : qI 0 5 (nI kd') = true := qI_t.mpr (by rw [nI_toInt (by omega)]; omega)
    have c2 : qI 0 9 (nI mk') = true := qI_t.mpr (by rw [nI_toInt (by omega)]; omega)
    have c3 : qP2 ρ (nI a') (nI b') = true := by
      unfold qP2
      rw [qP_n hc ha, qP_n hc hb, decide_eq_false (fun z => hab ((nI_eq (by omega) (by omega)).mp z))]; rfl
    simp only [wp_X8_spot_N, wp_X8_spot_N_34, e8_inI (lo := 0) (hi := 5) (a := 0) (b := 5) rfl rfl, e8_inI (lo := 0) (hi := 9) (a := 0) (b := 9) rfl rfl, e8_areTwo M, c1, c2, c3, q_t, M.1.1, M.1.2.1, e12, q_neg (show ¬ ρ.1 1 = 12 by omega), e4, q_neg hn4]
    refine a8_spotN M W hk hm ha hb hab hn _ (fun x5 x6 o hI ho => ?_)
    rcases hI with ⟨z, -, -⟩ | ⟨e', v', z, -, rfl, rfl⟩
    · rw [hsp] at z; cases z
    · rw [hsp] at z; cases z; exact h _ _ _ _ _ ho
/-- the image: the class's two, the reference's one -/
def qIm (kr kt km : zS) : Prop := ∃ ρ, qRm kr ρ ∧ qMR km ρ ∧ qW ρ ∧ qTr kt km
theorem s_image_S {kr kt u km : zS} (R : qRm r ρ) (M : qMR m ρ) (W : qW ρ) (T : qTr u m) {post : Int32 → zS → zS → zS → Int32 → zS → Prop}
    (h : ∀ kr' kt' km', qIm kr' kt' km' → post 1 (zI x 5 1) kr' kt' 1 km') :
    wp_X7_image x kr r kt u (fun v x' kr' kt' => wp_X8_image_S m km (fun v' km' => post v x' kr' kt' v' km')) := by
  unfold wp_X7_image wp_X8_image_S
  exact a1_take R (fun kr' R' => a4_take (fun kt' hT => a8_take M (fun km' M' hT' _ => h _ _ _ ⟨ρ, R', M', W, hT' _ (hT _ T)⟩)))
theorem s_image_N {kr kt u : zS} (R : qRm r ρ) (M : qMR m ρ) (W : qW ρ) (T : qTr u m) {post : Int32 → zS → zS → zS → Int32 → Nat → (Nat → Nat) → (Nat → Nat) → zS → Prop}
    (h : ∀ kr' kt' Q A LA km', qIm kr' kt' km' → post 1 (zI x 5 1) kr' kt' 1 Q A LA km') :
    wp_X7_image x kr r kt u (fun v x' kr' kt' => wp_X8_image_N m (fun v' Q A LA km' => post v x' kr' kt' v' Q A LA km')) := by
  unfold wp_X7_image wp_X8_image_N
  exact a1_take R (fun kr' R' => a4_take (fun kt' hT => a8_take M (fun km' M' hT' _ Q A LA => h _ _ _ _ _ _ ⟨ρ, R', M', W, hT' _ (hT _ T)⟩)))
theorem s_back_N {sh : Nat → zS} {kr kt u : zS} (hx : x.1 5 = 0) {post : Int32 → zS → (Nat → zS) → zS → zS → Int32 → zS → Prop}
    (hr : ∀ v j, j < 5 → post v (zA x 12 j (x.2.1 12 j + 1)) sh r u v (zA m 8 (j + 2) (m.2.1 8 (j + 2) + 1))) :
    wp_X7_back x sh r kr u kt (fun v x' sh' r' u' => wp_X8_back_N m (fun v' m' => post v x' sh' r' u' v' m')) := by
  unfold wp_X7_back wp_X8_back_N
  simp only [q_pos hx, e7_r5, e8_r5]
  exact hr _ 3 (by decide)
/-- shelves whose pupils aren't there any more hold nothing -/
def qSd (n : Nat) (σ : Nat → Nat → Nat) (j s : Nat) : Nat → Nat := if s < j ∧ σ s 0 = 2 ∧ n ≤ σ s 3 then (fun _ => 0) else σ s
theorem s_back_S {sh : Nat → zS} {kr kt u km : zS} {n : Nat} {σ : Nat → Nat → Nat} (hx : x.1 5 = 1) (I : qIm kr kt km) (S : qS sh m n σ) {post : Int32 → zS → (Nat → zS) → zS → zS → Int32 → zS → Prop}
    (h : ∀ sh' r' u' m' ρ' σ', qRm r' ρ' → qMR m' ρ' → qW ρ' → qTr u' m' → qS sh' m' (ρ'.1 1) σ' → (∀ q, (6 ≤ q ∧ q < 9 ∨ 26 ≤ q) → m'.1 q = m.1 q ∧ m'.2.1 q = m.2.1 q) → post 1 x sh' r' u' 1 m') :
    wp_X7_back x sh r kr u kt (fun v x' sh' r' u' => wp_X8_back_S m km (fun v' m' => post v x' sh' r' u' v' m')) := by
  obtain ⟨ρ', R1, M1, W1, T1⟩ := I
  have hc := R1.1.2.2
  unfold wp_X7_back wp_X8_back_S
  rw [hx, q_neg (by decide)]
  refine a1_take R1 (fun r' R' => a4_take (fun u' hT => ?_))
  -- the shelves of the class, the first j done
  refine q_lp5 (B := wb_X7_back_38 kr kt _) (fun q x' sh' r1 u1 i => ∃ j, j + q = 8 ∧ x = x' ∧ r' = r1 ∧ u' = u1 ∧ i = nI j ∧ ∀ s, s < 8 → sh' s = if s < j ∧ σ s 0 = 2 ∧ ρ'.1 1 ≤ σ s 3 then zI (zI (sh s) 0 (-1)) 1 0 else sh s) ?_ 8 _ _ _ _ _ ⟨0, by omega, rfl, rfl, rfl, rfl, fun s hs => by rw [if_neg (by omega)]⟩
  rintro q _ sh' _ _ _ ⟨j, hj, rfl, rfl, rfl, rfl, hS⟩ K hK
  unfold wb_X7_back_38 wp_X7_back_85
  by_cases e : (8 : Int32) ≤ nI j
  · have := (nI_leI (a := 8) (by decide) (by omega)).mp e
    have : j = 8 := by omega
    subst this
    rw [q_pos e]
    -- the reference
    refine a8_take M1 (fun m' M' hT' f => ?_)
    have S' : qS sh m' n σ := qS_fr S f (by decide) (by decide)
    refine q_lp2 (B := wb_X8_back_S_24 km _) (fun q m2 i => ∃ j, j + q = 8 ∧ i = nI j ∧ m2.1 = m'.1 ∧ m2.2.2 = m'.2.2 ∧ (∀ k, k ≠ 0 → m2.2.1 k = m'.2.1 k) ∧ ∀ s, s < 8 → m2.2.1 0 s = if s < j ∧ σ s 0 = 2 ∧ ρ'.1 1 ≤ σ s 3 then 0 else m'.2.1 0 s) ?_ 8 _ _ ⟨0, by omega, rfl, rfl, rfl, fun _ _ => rfl, fun s hs => by rw [if_neg (by omega)]⟩
    rintro q2 m2 _ ⟨i, hi, rfl, g1, g2, g3, g4⟩ K2 hK2
    unfold wb_X8_back_S_24 wp_X8_back_S_60
    by_cases e2 : (8 : Int32) ≤ nI i
    · have := (nI_leI (a := 8) (by decide) (by omega)).mp e2
      have : i = 8 := by omega
      subst this
      rw [q_pos e2]
      have M2 : qMR m2 ρ' := by
        refine ⟨?_, fun p hp => ?_, M'.2.2⟩
        · rw [g1]; exact M'.1
        · rw [g3 11 (by decide), g3 12 (by decide), g3 13 (by decide), g3 14 (by decide)]; exact M'.2.1 p hp
      have T2 : qTr u' m2 := by
        obtain ⟨nn, b, c, t1, t2, t3⟩ := hT _ (hT' _ T1)
        refine ⟨nn, b, c, ?_, ?_, fun i hi => ?_⟩
        · rw [g1]; exact t1
        · rw [g1]; exact t2
        · rw [g3 22 (by decide), g3 23 (by decide), g3 24 (by decide)]; exact t3 i hi
      refine h sh' r' u' m2 ρ' (qSd (ρ'.1 1) σ 8) R' M2 W1 T2 ⟨hc, fun s hs => ?_⟩ (fun q hq => ?_)
      · have S1 := S'.2 s hs
        rw [hS s hs]
        unfold qSd
        by_cases c : σ s 0 = 2 ∧ ρ'.1 1 ≤ σ s 3
        · rw [if_pos ⟨hs, c⟩, if_pos ⟨hs, c⟩]
          refine ⟨?_, by decide, fun _ => rfl, fun z => absurd z (by decide), fun z => absurd z (by decide)⟩
          rw [g4 s hs, if_pos ⟨hs, c⟩]; rfl
        · rw [if_neg (fun z => c z.2), if_neg (fun z => c z.2)]
          have S2 := qS1_fr (m' := m2) S1 (by rw [g4 s hs, if_neg (fun z => c z.2)]) (by rw [g3 1 (by decide)]) (by rw [g3 2 (by decide)]) (by rw [g3 5 (by decide)]) (fun i => by rw [g2])
          exact ⟨S2.1, S2.2.1, S2.2.2.1, S2.2.2.2.1, fun z => ⟨by omega, (S2.2.2.2.2 z).2⟩⟩
      · rw [g1, g3 q (by omega)]
        exact ⟨(f q (by omega)).1, (f q (by omega)).2.1⟩
    · have e2' : ¬ 8 ≤ i := fun z => e2 ((nI_leI (a := 8) (by decide) (by omega)).mpr z)
      have vi : vp_in (nI i) 8 := q_in (by omega) (by omega)
      have S1 := S'.2 i (by omega)
      have s3 := S1.2.1
      have z0 : m2.2.1 0 i = nI (σ i 0) := by rw [g4 i (by omega), if_neg (by omega)]; exact S1.1
      rw [q_neg e2]
      simp only [vi, true_and, forall_eq, q_clamp (n := i) (by omega), z0, nI_k2 (a := σ i 0) (by omega), g1, M'.1.2.1, g3 5 (by decide), q_succ]
      have nx : ∀ m3 : zS, m3.1 = m'.1 → m3.2.2 = m'.2.2 → (∀ k, k ≠ 0 → m3.2.1 k = m'.2.1 k) → (∀ s, s < 8 → m3.2.1 0 s = if s < i + 1 ∧ σ s 0 = 2 ∧ ρ'.1 1 ≤ σ s 3 then 0 else m'.2.1 0 s) → K2 m3 (nI (i + 1)) := fun m3 k1 k2 k3 k4 => hK2 (q2 - 1) _ _ (by omega) ⟨i + 1, by omega, rfl, k1, k2, k3, k4⟩
      have same : ¬ (σ i 0 = 2 ∧ ρ'.1 1 ≤ σ i 3) → K2 m2 (nI (i + 1)) := fun c => nx m2 g1 g2 g3 (fun s hs => by
        rw [g4 s hs]
        by_cases z : s = i
        · subst z; rw [if_neg (by omega), if_neg (fun z => c z.2)]
        · by_cases w : s < i ∧ σ s 0 = 2 ∧ ρ'.1 1 ≤ σ s 3
          · rw [if_pos w, if_pos ⟨by omega, w.2⟩]
          · rw [if_neg w, if_neg (fun v => w ⟨by omega, v.2⟩)])
      refine ⟨fun c => ?_, fun c => same (fun z => c z.1)⟩
      obtain ⟨d1, d2, d3⟩ := S1.2.2.2.2 c
      have hn12 := S'.1
      rw [d3]
      refine ⟨fun d => same (fun z => ?_), fun d => ?_⟩
      · have := (nI_ltI (by omega) (by omega)).mp d; omega
      · have d' : ρ'.1 1 ≤ σ i 3 := by
          have : ¬ σ i 3 < ρ'.1 1 := fun z => d ((nI_ltI (by omega) (by omega)).mpr z)
          omega
        refine nx (zA m2 0 i 0) g1 g2 (fun k hk => ?_) (fun s hs => ?_)
        · rw [← g3 k hk]; funext t; rw [z_A, if_neg (by omega)]
        · rw [z_A]
          by_cases z : s = i
          · subst z; rw [if_pos ⟨rfl, rfl⟩, if_pos ⟨by omega, c, d'⟩]
          · rw [if_neg (by omega), g4 s hs]
            by_cases w : s < i ∧ σ s 0 = 2 ∧ ρ'.1 1 ≤ σ s 3
            · rw [if_pos w, if_pos ⟨by omega, w.2⟩]
            · rw [if_neg w, if_neg (fun v => w ⟨by omega, v.2⟩)]
  · have e' : ¬ 8 ≤ j := fun z => e ((nI_leI (a := 8) (by decide) (by omega)).mpr z)
    have vj : vp_in (nI j) 8 := q_in (by omega) (by omega)
    have S1 := S.2 j (by omega)
    have s3 := S1.2.1
    have ej : sh' j = sh j := by rw [hS j (by omega), if_neg (by omega)]
    rw [q_neg e]
    simp only [vj, true_and, forall_eq, q_clamp (n := j) (by omega), ej, e2_pup S1 S.1, q_succ, e1_has R'.1, wp_X2_holdPupil, wp_X2_holdPupil_13]
    have nx : ∀ sh3 : Nat → zS, (∀ s, s < 8 → sh3 s = if s < j + 1 ∧ σ s 0 = 2 ∧ ρ'.1 1 ≤ σ s 3 then zI (zI (sh s) 0 (-1)) 1 0 else sh s) → K x sh3 r' u' (nI (j + 1)) := fun sh3 k1 => hK (q - 1) _ _ _ _ _ (by omega) ⟨j + 1, by omega, rfl, rfl, rfl, rfl, k1⟩
    have same : ¬ (σ j 0 = 2 ∧ ρ'.1 1 ≤ σ j 3) → K x sh' r' u' (nI (j + 1)) := fun c => nx sh' (fun s hs => by
      rw [hS s hs]
      by_cases z : s = j
      · subst z; rw [if_neg (by omega), if_neg (fun z => c z.2)]
      · by_cases w : s < j ∧ σ s 0 = 2 ∧ ρ'.1 1 ≤ σ s 3
        · rw [if_pos w, if_pos ⟨by omega, w.2⟩]
        · rw [if_neg w, if_neg (fun v => w ⟨by omega, v.2⟩)])
    refine q_br (fun c => ?_) (fun c => same (fun z => of_decide_eq_false c z.1))
    have c := of_decide_eq_true c
    have d2 := S1.2.2.2.2 c
    have hn12 := S.1
    rw [e2_held S1 S.1 c]
    refine q_br (fun d => same (fun z => ?_)) (fun d => ?_)
    · obtain ⟨q', hq', e'⟩ := qP_t d
      have := (nI_eq (by omega) (by omega)).mp e'
      omega
    · have c0 : ¬ (0 : Int32) ≤ -1 := by decide
      have d' : ρ'.1 1 ≤ σ j 3 := by
        by_cases z : ρ'.1 1 ≤ σ j 3
        · exact z
        · rw [qP_n hc (by omega)] at d; cases d
      rw [q_neg c0]
      refine nx _ (fun s hs => ?_)
      rw [z_up]
      by_cases z : s = j
      · subst z; rw [if_pos rfl, if_pos ⟨by omega, c, d'⟩]
      · rw [if_neg z, hS s hs]
        by_cases w : s < j ∧ σ s 0 = 2 ∧ ρ'.1 1 ≤ σ s 3
        · rw [if_pos w, if_pos ⟨by omega, w.2⟩]
        · rw [if_neg w, if_neg (fun v => w ⟨by omega, v.2⟩)]
end QSPOT2
