/-! code, keyLength -/
section QCODE
variable {x m : zS} {sh : Nat → zS} {n : Nat} {σ : Nat → Nat → Nat}
theorem q_lcmp0 (a b : Int64) : lg_cmp a b = 0 ↔ a = b := by
  have h1 := lg_cmp_lt a b
  have h2 := lg_cmp_gt a b
  rw [Int64.lt_iff_toInt_lt] at h1 h2
  constructor
  · intro z
    rw [z] at h1 h2
    have n1 : ¬ a.toInt < b.toInt := fun c => absurd (h1.mpr c) (by decide)
    have n2 : ¬ b.toInt < a.toInt := fun c => absurd (h2.mpr c) (by decide)
    exact Int64.toInt_inj.mp (by omega)
  · intro z
    subst z
    unfold lg_cmp
    simp
/-- all of the first n are letters -/
def qle (f : Nat → Int64) (n : Nat) : Bool := decide (∀ i, i < n → 0 ≤ (f i).toInt ∧ (f i).toInt ≤ 25)
theorem e2_cell {h : zS} {s : Nat} {τ : Nat → Nat} (S : qS1 h m s n τ) (z : τ 0 = 1) {i : Nat} (hi : i < τ 2) {post : Int64 → Prop} : wp_X2_cell h (nI i) post = post (h.2.2 2 i) := by
  obtain ⟨d1, d2, d3, d4, d5, d6, d7⟩ := S.2.2.2.1 z
  have c1 : ¬ nI i < 0 := by rw [q_ltI, q_zero, nI_toInt (by omega)]; omega
  have c2 : ¬ nI (τ 2) ≤ nI i := fun g => by have := (q_leN (by omega) (by omega)).mp g; omega
  unfold wp_X2_cell
  rw [q_neg c1, d3, q_neg c2, q_clamp (by omega)]
  exact q_and_t (q_in (by omega) (by omega))
theorem a2_letters {h : zS} {s : Nat} {τ : Nat → Nat} (S : qS1 h m s n τ) (z : τ 0 = 1) {k : Nat} (hk : k ≤ τ 2) {post : Int32 → Prop} (hp : post (qz (qle (h.2.2 2) k))) : wp_X2_hasLetters h (nI k) post := by
  obtain ⟨d1, d2, d3, d4, d5, d6, d7⟩ := S.2.2.2.1 z
  refine q_lp1 (B := wb_X2_hasLetters_2 h (nI k) post) (fun q x2 => ∃ j, j + q = k ∧ x2 = nI j ∧ ∀ i, i < j → 0 ≤ (h.2.2 2 i).toInt ∧ (h.2.2 2 i).toInt ≤ 25) ?_ k _ ⟨0, by omega, rfl, fun i hi => absurd hi (by omega)⟩
  rintro q _ ⟨j, hj, rfl, hf⟩ K hK
  unfold wb_X2_hasLetters_2
  by_cases e : nI k ≤ nI j
  · have := (q_leN (by omega) (by omega)).mp e
    have : j = k := by omega
    subst this
    have : qle (h.2.2 2) j = true := decide_eq_true hf
    rw [this] at hp
    rw [q_pos e]; exact hp
  · have e' : ¬ k ≤ j := fun z => e ((q_leN (by omega) (by omega)).mpr z)
    have no : ¬ (0 ≤ (h.2.2 2 j).toInt ∧ (h.2.2 2 j).toInt ≤ 25) → post 0 := fun c => by
      have : qle (h.2.2 2) k = false := decide_eq_false (fun z => c (z j (by omega)))
      rw [this] at hp; exact hp
    have l0 : (0 : Int64).toInt = 0 := rfl
    have l26 : (26 : Int64).toInt = 26 := rfl
    rw [q_neg e, e2_cell S z (by omega), e2_cell S z (by omega), lg_cmp_lt, lg_cmp_lt, Int64.lt_iff_toInt_lt, Int64.lt_iff_toInt_lt, l0, l26]
    refine ⟨fun c => no (fun z => by omega), fun c => ⟨fun c2 v hv => ?_, fun c2 => no (fun z => by omega)⟩⟩
    rw [hv, q_succ]
    refine hK (q - 1) _ (by omega) ⟨j + 1, by omega, rfl, fun i hi => ?_⟩
    by_cases w : i = j
    · subst w; omega
    · exact hf i (by omega)
theorem a8_letters {s : Nat} {k : Nat} (hk : k ≤ 40) {post : Int32 → Prop} (hp : post (qz (qle (m.2.2 (100 + s)) k))) : wp_X8_areLetters m s (nI k) post := by
  refine q_lp1 (B := wb_X8_areLetters_2 m s (nI k) post) (fun q x2 => ∃ j, j + q = k ∧ x2 = nI j ∧ ∀ i, i < j → 0 ≤ (m.2.2 (100 + s) i).toInt ∧ (m.2.2 (100 + s) i).toInt ≤ 25) ?_ k _ ⟨0, by omega, rfl, fun i hi => absurd hi (by omega)⟩
  rintro q _ ⟨j, hj, rfl, hf⟩ K hK
  unfold wb_X8_areLetters_2
  by_cases e : nI k ≤ nI j
  · have := (q_leN (by omega) (by omega)).mp e
    have : j = k := by omega
    subst this
    have : qle (m.2.2 (100 + s)) j = true := decide_eq_true hf
    rw [this] at hp
    rw [q_pos e]; exact hp
  · have e' : ¬ k ≤ j := fun z => e ((q_leN (by omega) (by omega)).mpr z)
    have l0 : (0 : Int64).toInt = 0 := rfl
    have l25 : (25 : Int64).toInt = 25 := rfl
    rw [q_neg e, q_clamp (by omega), e8_in, l0, l25]
    refine ⟨q_in (by omega) (by omega), q_br (fun c v hv => ?_) (fun c => ?_)⟩
    · rw [hv, q_succ]
      refine hK (q - 1) _ (by omega) ⟨j + 1, by omega, rfl, fun i hi => ?_⟩
      by_cases w : i = j
      · subst w; exact of_decide_eq_true c
      · exact hf i (by omega)
    · have : qle (m.2.2 (100 + s)) k = false := decide_eq_false (fun z => of_decide_eq_false c (z j (by omega)))
      rw [this] at hp; exact hp
theorem qle_congr {f g : Nat → Int64} {k : Nat} (h : ∀ i, i < k → f i = g i) : qle f k = qle g k := by
  unfold qle
  refine decide_eq_decide.mpr ⟨fun z i hi => by rw [← h i hi]; exact z i hi, fun z i hi => by rw [h i hi]; exact z i hi⟩
/-- what the reference says of two rows -/
theorem a8_two (S : qS sh m n σ) {s t : Nat} (hs : s < 8) (ht : t < 8) {k : Nat} (hk : k ≤ 40) {post : Int32 → zS → Prop}
    (h2 : (σ s 0 = 2 ∨ σ t 0 = 2) → post (-3) (zA m 8 3 (m.2.1 8 3 + 1))) (h0 : ¬ (σ s 0 = 2 ∨ σ t 0 = 2) → (σ s 0 = 0 ∨ σ t 0 = 0) → post (-4) (zA m 8 4 (m.2.1 8 4 + 1)))
    (h1 : σ s 0 = 1 → σ t 0 = 1 → (k ≤ σ s 2 → post 0 m) ∧ (¬ k ≤ σ s 2 → post (-2) (zA m 8 2 (m.2.1 8 2 + 1)))) : wp_X8_noTwoRows m (nI s) (nI t) (nI k) post := by
  have vs : vp_in (nI s) 8 := q_in hs (by omega)
  have vt : vp_in (nI t) 8 := q_in ht (by omega)
  have is : qI 0 7 (nI s) = true := qI_t.mpr (by rw [nI_toInt (by omega)]; omega)
  have it : qI 0 7 (nI t) = true := qI_t.mpr (by rw [nI_toInt (by omega)]; omega)
  have ik : qI 0 40 (nI k) = true := qI_t.mpr (by rw [nI_toInt (by omega)]; omega)
  have S1 := S.2 s hs
  have S2 := S.2 t ht
  have a3 := S1.2.1
  have b3 := S2.2.1
  simp only [wp_X8_noTwoRows, wp_X8_noTwoRows_63, wp_X8_noTwoRows_88, e8_inI (lo := 0) (hi := 7) (a := 0) (b := 7) rfl rfl, e8_inI (lo := 0) (hi := 40) (a := 0) (b := 40) rfl rfl, is, it, ik, q_t, vs, vt, true_and, q_clamp (n := s) (by omega), q_clamp (n := t) (by omega), S1.1, S2.1, nI_k2 (a := σ s 0) (by omega), nI_k2 (a := σ t 0) (by omega), q_nz (a := σ s 0) (by omega), q_nz (a := σ t 0) (by omega), e8_r2, e8_r3, e8_r4]
  refine ⟨fun c => h2 (Or.inl c), fun c => ⟨fun c2 => h2 (Or.inr c2), fun c2 => ⟨fun c3 => h0 (by omega) (Or.inl c3), fun c3 => ⟨fun c4 => h0 (by omega) (Or.inr c4), fun c4 => ?_⟩⟩⟩⟩
  have z1 : σ s 0 = 1 := by omega
  have z2 : σ t 0 = 1 := by omega
  obtain ⟨d1, d2, d3, d4, d5, d6, d7⟩ := S1.2.2.2.1 z1
  rw [d6, q_leN (by omega) (by omega)]
  exact h1 z1 z2
theorem a8_two_bad {s t k : Int32} (c : ((qI 0 7 s && qI 0 7 t) && qI 0 40 k) = false) {post : Int32 → zS → Prop} (h : post (-2) (zA m 8 2 (m.2.1 8 2 + 1))) : wp_X8_noTwoRows m s t k post := by
  simp only [wp_X8_noTwoRows, wp_X8_noTwoRows_36, e8_inI (lo := 0) (hi := 7) (a := 0) (b := 7) rfl rfl, e8_inI (lo := 0) (hi := 40) (a := 0) (b := 40) rfl rfl, e8_r2]
  cases c1 : qI 0 7 s
  · simp only [q_f]; exact h
  cases c2 : qI 0 7 t
  · simp only [q_f, q_t]; exact h
  cases c3 : qI 0 40 k
  · simp only [q_f, q_t]; exact h
  rw [c1, c2, c3] at c; cases c
/-- a letter and one of the key -/
def qcd (a b : Int64) : Int64 := (a + b) - (a + b) / (26 : Int64) * (26 : Int64)
theorem s_code (S : qS sh m n σ) (s t k : Int32) {post : Int32 → zS → (Nat → zS) → Int32 → zS → Prop}
    (h : ∀ v sh' m', qS sh' m' n σ → qFs m m' → post v x sh' v m')
    (hr : ∀ v k, k < 5 → post v (zA x 12 k (x.2.1 12 k + 1)) sh v (zA m 8 (k + 2) (m.2.1 8 (k + 2) + 1))) :
    wp_X7_code x sh s t k (fun v x' sh' => wp_X8_code m s t k (fun v' m' => post v x' sh' v' m')) := by
  have bad : ((qI 0 7 s && qI 0 7 t) && qI 0 40 k) = false → wp_X7_code_24 s t k (fun v x' sh' => wp_X8_code m s t k (fun v' m' => post v x' sh' v' m')) x sh := fun c => by
    simp only [wp_X7_code_24, e7_r2]
    unfold wp_X8_code
    refine a8_two_bad c ?_
    rw [q_neg (by decide)]
    exact hr _ 0 (by decide)
  unfold wp_X7_code
  rw [e7_isShelf]
  refine q_br (fun a => ?_) (fun a => bad (by rw [a]; rfl))
  rw [e7_isShelf]
  refine q_br (fun b => ?_) (fun b => bad (by rw [b]; cases qI 0 7 s <;> rfl))
  refine ⟨fun c => bad ?_, fun c => ⟨fun d => ?_, fun d => bad ?_⟩⟩
  · have e40 : qI 0 40 k = false := qI_f.mpr (fun z => by rw [q_ltI, q_zero] at c; omega)
    rw [e40, Bool.and_false]
  · have hz : qI 0 40 k = true := qI_t.mpr ⟨by rw [q_ltI, q_zero] at c; omega, by rw [q_leI] at d; exact d⟩
    obtain ⟨s, hs, rfl⟩ := qI07 a
    obtain ⟨t, ht, rfl⟩ := qI07 b
    obtain ⟨k, hk1, rfl⟩ := qI_n (by decide) hz
    have hk : k ≤ 40 := by omega
    have vs : vp_in (nI s) 8 := q_in hs (by omega)
    have vt : vp_in (nI t) 8 := q_in ht (by omega)
    have S1 := S.2 s hs
    have S2 := S.2 t ht
    have a3 := S1.2.1
    have b3 := S2.2.1
    rw [e7_rowsFault S hs ht]
    unfold qrf
    by_cases c2 : σ s 0 = 2 ∨ σ t 0 = 2
    · rw [if_pos c2]
      dsimp only
      rw [q_neg (by decide), e7_r3]
      unfold wp_X8_code
      refine a8_two S hs ht hk (fun _ => ?_) (fun z => absurd c2 z) (fun z1 z2 => by omega)
      rw [q_neg (by decide)]
      exact hr _ 1 (by decide)
    rw [if_neg c2]
    by_cases c0 : σ s 0 = 0 ∨ σ t 0 = 0
    · rw [if_pos c0]
      dsimp only
      rw [q_neg (by decide), e7_r4]
      unfold wp_X8_code
      refine a8_two S hs ht hk (fun z => absurd z c2) (fun _ _ => ?_) (fun z1 z2 => by omega)
      rw [q_neg (by decide)]
      exact hr _ 2 (by decide)
    rw [if_neg c0]
    dsimp only
    rw [q_pos rfl]
    have z1 : σ s 0 = 1 := by omega
    have z2 : σ t 0 = 1 := by omega
    obtain ⟨d1, d2, d3, d4, d5, d6, d7⟩ := S1.2.2.2.1 z1
    obtain ⟨e1, e2, e3, e4, e5, e6, e7⟩ := S2.2.2.2.1 z2
    have m8 : ∀ P : Int32 → zS → Prop, (k ≤ σ s 2 → (qle ((sh s).2.2 2) k && qle ((sh t).2.2 2) (σ t 2)) = true → σ t 2 ≠ 0 → ∃ n, wp_X8_code_76 (nI s) (nI t) (nI k) P n m 0) →
        ((¬ k ≤ σ s 2 ∨ (qle ((sh s).2.2 2) k && qle ((sh t).2.2 2) (σ t 2)) = false) → P (-2) (zA m 8 2 (m.2.1 8 2 + 1))) → (k ≤ σ s 2 → (qle ((sh s).2.2 2) k && qle ((sh t).2.2 2) (σ t 2)) = true → σ t 2 = 0 → P (-5) (zA m 8 5 (m.2.1 8 5 + 1))) → wp_X8_code m (nI s) (nI t) (nI k) P := by
      intro P p1 p2 p3
      unfold wp_X8_code wp_X8_code_50
      refine a8_two S hs ht hk (fun z => absurd z c2) (fun _ z => absurd z c0) (fun _ _ => ⟨fun hks => ?_, fun hks => ?_⟩)
      · rw [q_pos rfl]
        simp only [vs, vt, true_and, forall_eq, q_clamp (n := s) (by omega), q_clamp (n := t) (by omega), e6, e8_r2, e8_r5, q_nz (a := σ t 2) (by omega)]
        refine a8_letters hk ?_
        rw [← qle_congr (fun i hi => d7 i (by omega))]
        refine q_br (fun l1 => a8_letters e4 ?_) (fun l1 => p2 (Or.inr (by rw [l1]; rfl)))
        rw [← qle_congr (fun i hi => e7 i hi)]
        refine q_br (fun l2 => ⟨fun z => p3 hks (by rw [l1, l2]; rfl) z, fun z => p1 hks (by rw [l1, l2]; rfl) z⟩) (fun l2 => p2 (Or.inr (by rw [l2, Bool.and_false])))
      · rw [q_neg (by decide)]
        exact p2 (Or.inl hks)
    have bad2 : (¬ k ≤ σ s 2 ∨ (qle ((sh s).2.2 2) k && qle ((sh t).2.2 2) (σ t 2)) = false) → wp_X7_code_98 (nI s) (nI t) (nI k) (fun v x' sh' => wp_X8_code m (nI s) (nI t) (nI k) (fun v' m' => post v x' sh' v' m')) x sh := fun c => by
      simp only [wp_X7_code_98, e7_r2]
      refine m8 _ (fun h1 h2 _ => ?_) (fun _ => hr _ 0 (by decide)) (fun h1 h2 _ => ?_)
      · exfalso
        rcases c with z | z
        · exact z h1
        · rw [h2] at z; cases z
      · exfalso
        rcases c with z | z
        · exact z h1
        · rw [h2] at z; cases z
    refine ⟨vs, fun k11 hk11 => ⟨vt, fun k12 hk12 => ?_⟩⟩
    rw [q_clamp (by omega)] at hk11 hk12
    subst hk11 hk12
    rw [d3, e3, nI_ltI (by omega) (by omega)]
    refine ⟨fun z => bad2 (Or.inl (by omega)), fun z => ?_⟩
    have hks : k ≤ σ k11 2 := by omega
    refine a2_letters S1 z1 hks ?_
    refine q_br (fun l1 => a2_letters S2 z2 (Nat.le_refl _) ?_) (fun l1 => bad2 (Or.inr (by rw [l1]; rfl)))
    refine q_br (fun l2 => ?_) (fun l2 => bad2 (Or.inr (by rw [l2, Bool.and_false])))
    have lall : (qle ((sh k11).2.2 2) k && qle ((sh k12).2.2 2) (σ k12 2)) = true := by rw [l1, l2]; rfl
    have c1e : ((1 : Int32) ≤ nI (σ k12 2)) = (1 ≤ σ k12 2) := propext (nI_leI (a := 1) (by decide) (by omega))
    rw [c1e, e7_r5]
    refine ⟨fun hK1 => ?_, fun hK1 => m8 _ (fun _ _ z => absurd z (by omega)) (fun z => ?_) (fun _ _ _ => hr _ 3 (by decide))⟩
    rotate_left
    · exfalso
      rcases z with z | z
      · exact z hks
      · rw [lall] at z; cases z
    -- the new letters
    have hmod : ∀ i, nI i - nI i / nI (σ k12 2) * nI (σ k12 2) = nI (i % σ k12 2) ∨ ¬ i < 2 ^ 31 := fun i => by
      by_cases z : i < 2 ^ 31
      · exact Or.inl (pk_rem z (by omega) (by omega))
      · exact Or.inr z
    let N : Nat → Int64 := fun i => qft (σ k11 1) (qcd ((sh k11).2.2 2 i) ((sh k12).2.2 2 (i % σ k12 2)))
    -- the reference's loops
    have fin : ∀ sh' : Nat → zS, (∀ q, q ≠ k11 → sh' q = sh q) → (sh' k11).1 = (sh k11).1 → (∀ i, (sh' k11).2.2 2 i = if i < k then N i else (sh k11).2.2 2 i) → ∃ n, wp_X8_code_76 (nI k11) (nI k12) (nI k) (fun v' m' => post (nI k) x sh' v' m') n m 0 := by
      intro sh' h1 h2 h3
      refine q_lp2 (B := wb_X8_code_76 (nI k11) (nI k12) (nI k) _) (fun q m' x5 => ∃ j, j + q = k ∧ x5 = nI j ∧ m'.1 = m.1 ∧ m'.2.1 = m.2.1 ∧ (∀ q, q ≠ 4 → m'.2.2 q = m.2.2 q) ∧ ∀ i, i < j → m'.2.2 4 i = qcd ((sh k11).2.2 2 i) ((sh k12).2.2 2 (i % σ k12 2))) ?_ k _ _ ⟨0, by omega, rfl, rfl, rfl, fun _ _ => rfl, fun i hi => absurd hi (by omega)⟩
      rintro q m' _ ⟨j, hj, rfl, g1, g2, g3, g4⟩ K hK
      unfold wb_X8_code_76
      by_cases e : nI k ≤ nI j
      · have := (q_leN (by omega) (by omega)).mp e
        have : j = k := by omega
        subst this
        rw [q_pos e]
        refine q_lp2 (B := wb_X8_code_128 (nI k11) (nI k12) (nI j) _) (fun q m'' x5 => ∃ i, i + q = j ∧ x5 = nI i ∧ m''.1 = m.1 ∧ m''.2.1 = m.2.1 ∧ (∀ q, q ≠ 4 → q ≠ 100 + k11 → m''.2.2 q = m.2.2 q) ∧ m''.2.2 4 = m'.2.2 4 ∧ ∀ i', m''.2.2 (100 + k11) i' = if i' < i then N i' else m.2.2 (100 + k11) i') ?_ j _ _ ⟨0, by omega, rfl, g1, g2, fun q h4 _ => g3 q h4, rfl, fun i' => by rw [if_neg (by omega), g3 _ (by omega)]⟩
        rintro q2 m'' _ ⟨i, hi, rfl, f1, f2, f3, f4, f5⟩ K2 hK2
        unfold wb_X8_code_128
        by_cases w : nI j ≤ nI i
        · have := (q_leN (by omega) (by omega)).mp w
          have : i = j := by omega
          subst this
          rw [q_pos w]
          refine h _ _ _ ⟨S.1, fun s' hs' => ?_⟩ ⟨f1, fun q _ => by rw [f2]⟩
          by_cases v : s' = k11
          · subst v
            refine ⟨by rw [f2]; exact S1.1, S1.2.1, fun z => by omega, fun _ => ⟨by rw [h2]; exact d1, d2, by rw [h2]; exact d3, d4, by rw [f2]; exact d5, by rw [f2]; exact d6, fun i' hi' => ?_⟩, fun z => by omega⟩
            rw [h3, f5]
            by_cases u : i' < i
            · rw [if_pos u, if_pos u]
            · rw [if_neg u, if_neg u]; exact d7 i' hi'
          · rw [h1 s' v]
            exact qS1_fr (S.2 s' hs') (by rw [f2]) (by rw [f2]) (by rw [f2]) (by rw [f2]) (fun i' => by rw [f3 _ (by omega) (by omega)])
        · have w' : ¬ j ≤ i := fun z => w ((q_leN (by omega) (by omega)).mpr z)
          have vi : vp_in (nI i) 40 := q_in (by omega) (by omega)
          rw [q_neg w]
          simp only [vs, vi, true_and, forall_eq, q_clamp (n := k11) (by omega), q_clamp (n := i) (by omega), f2, d5, e8_fit d2, f4, g4 i (by omega), q_succ]
          refine hK2 (q2 - 1) _ _ (by omega) ⟨i + 1, by omega, rfl, f1, f2, fun q hq4 hq => ?_, ?_, fun i' => ?_⟩
          · funext t; rw [z_L, if_neg (by omega)]; rw [f3 q hq4 hq]
          · funext t; rw [z_L, if_neg (by omega), f4]
          · rw [z_L]
            by_cases u : i' = i
            · subst u; rw [if_pos ⟨rfl, rfl⟩, if_pos (by omega)]
            · rw [if_neg (by omega), f5]
              by_cases o : i' < i
              · rw [if_pos o, if_pos (by omega)]
              · rw [if_neg o, if_neg (by omega)]
      · have e' : ¬ k ≤ j := fun z => e ((q_leN (by omega) (by omega)).mpr z)
        have vj : vp_in (nI j) 40 := q_in (by omega) (by omega)
        have jm : j % σ k12 2 < σ k12 2 := Nat.mod_lt _ (by omega)
        have vm : vp_in (nI (j % σ k12 2)) 40 := q_in (by omega) (by omega)
        have er : nI j - nI j / nI (σ k12 2) * nI (σ k12 2) = nI (j % σ k12 2) := pk_rem (by omega) (by omega) (by omega)
        have nz : ¬ nI (σ k12 2) = 0 := by rw [q_nz (by omega)]; omega
        rw [q_neg e]
        simp only [vs, vt, vj, vm, true_and, forall_eq, q_clamp (n := k11) (by omega), q_clamp (n := k12) (by omega), q_clamp (n := j) (by omega), g2, e6, er, nz, not_false_eq_true, q_clamp (n := j % σ k12 2) (by omega), g3 (100 + k11) (by omega), g3 (100 + k12) (by omega), ← d7 j (by omega), ← e7 (j % σ k12 2) jm, q_succ]
        refine hK (q - 1) _ _ (by omega) ⟨j + 1, by omega, rfl, g1, g2, fun q hq => ?_, fun i hi => ?_⟩
        · funext t; rw [z_L, if_neg (by omega), g3 q hq]
        · rw [z_L]
          by_cases w : i = j
          · subst w; rw [if_pos ⟨rfl, rfl⟩]; rfl
          · rw [if_neg (by omega)]; exact g4 i (by omega)
    -- the class's loop
    refine q_lp5 (B := wb_X7_code_124 (nI k11) (nI k12) (nI k) _) (fun q x' sh' x5 x6 x7 => ∃ j, j + q = k ∧ x = x' ∧ k11 = x5 ∧ k12 = x6 ∧ x7 = nI j ∧ (∀ q, q ≠ k11 → sh' q = sh q) ∧ (sh' k11).1 = (sh k11).1 ∧ ∀ i, (sh' k11).2.2 2 i = if i < j then N i else (sh k11).2.2 2 i) ?_ k _ _ _ _ _ ⟨0, by omega, rfl, rfl, rfl, rfl, fun _ _ => rfl, rfl, fun i => by rw [if_neg (by omega)]⟩
    rintro q _ sh' _ _ _ ⟨j, hj, rfl, rfl, rfl, rfl, h1, h2, h3⟩ K hK
    unfold wb_X7_code_124
    by_cases e : nI k ≤ nI j
    · have := (q_leN (by omega) (by omega)).mp e
      have : j = k := by omega
      subst this
      rw [q_pos e]
      refine m8 _ (fun _ _ _ => fin sh' h1 h2 h3) (fun z => ?_) (fun _ _ z => absurd z (by omega))
      exfalso
      rcases z with z | z
      · exact z hks
      · rw [lall] at z; cases z
    · have e' : ¬ k ≤ j := fun z => e ((q_leN (by omega) (by omega)).mpr z)
      have jm : j % σ k12 2 < σ k12 2 := Nat.mod_lt _ (by omega)
      have er : nI j - nI j / nI (σ k12 2) * nI (σ k12 2) = nI (j % σ k12 2) := pk_rem (by omega) (by omega) (by omega)
      have nz : ¬ nI (σ k12 2) = 0 := by rw [q_nz (by omega)]; omega
      have sz12 : (sh' k12).1 1 = nI (σ k12 2) := by
        by_cases w : k12 = k11
        · subst w; rw [h2]; exact e3
        · rw [h1 k12 w]; exact e3
      have cellG : ∀ (h0 : zS) (z0 i : Nat), h0.1 1 = nI z0 → z0 ≤ 40 → i < z0 → ∀ P : Int64 → Prop, P (h0.2.2 2 i) → wp_X2_cell h0 (nI i) P := by
        intro h0 z0 i hz hz40 hi P hP
        have c1 : ¬ nI i < 0 := by rw [q_ltI, q_zero, nI_toInt (by omega)]; omega
        have c2 : ¬ nI z0 ≤ nI i := fun g => by have := (q_leN (by omega) (by omega)).mp g; omega
        unfold wp_X2_cell
        rw [q_neg c1, hz, q_neg c2, q_clamp (by omega)]
        exact ⟨q_in (by omega) (by omega), hP⟩
      rw [q_neg e]
      refine cellG (sh' k11) (σ k11 2) j (by rw [h2]; exact d3) d4 (by omega) _ ?_
      rw [sz12, er]
      refine ⟨nz, cellG (sh' k12) (σ k12 2) (j % σ k12 2) sz12 e4 jm _ ?_⟩
      have kv : (sh' k12).2.2 2 (j % σ k12 2) = (sh k12).2.2 2 (j % σ k12 2) := by
        by_cases w : k12 = k11
        · subst w
          have : j % σ k12 2 = j := Nat.mod_eq_of_lt (by omega)
          rw [this, h3, if_neg (by omega)]
        · rw [h1 k12 w]
      rw [kv, h3, if_neg (by omega)]
      have c1 : ¬ nI j < 0 := by rw [q_ltI, q_zero, nI_toInt (by omega)]; omega
      have c2' : ¬ nI (σ k11 2) ≤ nI j := fun g => by have := (q_leN (by omega) (by omega)).mp g; omega
      unfold wp_X2_put
      rw [q_neg c1, h2, d3, q_neg c2', e2_nar d2 (by rw [h2]; exact d1)]
      refine ⟨q_in (by omega) (by omega), fun j4 hj4 v hv => ?_⟩
      rw [q_clamp (by omega)] at hj4
      subst hj4
      rw [hv, q_succ]
      refine hK (q - 1) _ _ _ _ _ (by omega) ⟨j4 + 1, by omega, rfl, rfl, rfl, rfl, fun q hq => ?_, ?_, fun i => ?_⟩
      · rw [z_up, if_neg hq]; exact h1 q hq
      · rw [z_up, if_pos rfl]; exact h2
      · rw [z_up, if_pos rfl, z_L]
        by_cases w : i = j4
        · subst w; rw [if_pos ⟨rfl, rfl⟩, if_pos (by omega)]; rfl
        · rw [if_neg (by omega), h3]
          by_cases o : i < j4
          · rw [if_pos o, if_pos (by omega)]
          · rw [if_neg o, if_neg (by omega)]
  · have e40 : qI 0 40 k = false := qI_f.mpr (fun z => d (by rw [q_leI]; exact z.2))
    rw [e40, Bool.and_false]
end QCODE
