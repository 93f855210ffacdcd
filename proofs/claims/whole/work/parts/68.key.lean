/-! keyLength, judge -/
section QKEY
variable {x r m : zS} {ρ : (Nat → Nat) × (Nat → Nat → Nat)} {sh : Nat → zS} {n : Nat} {σ : Nat → Nat → Nat}
theorem q_lt64 {a b : Int64} (ha : -1000 ≤ a.toInt ∧ a.toInt ≤ 1000) (hb : -1000 ≤ b.toInt ∧ b.toInt ≤ 1000) : (a - b).toInt = a.toInt - b.toInt := by
  have h := Int64.toInt_sub a b
  rw [Int.bmod_def] at h
  omega
theorem q_la64 {a b : Int64} (ha : -1000 ≤ a.toInt ∧ a.toInt ≤ 1000) (hb : -1000 ≤ b.toInt ∧ b.toInt ≤ 1000) : (a + b).toInt = a.toInt + b.toInt := by
  have h := Int64.toInt_add a b
  rw [Int.bmod_def] at h
  omega
theorem q_key1 : ∀ n, n < 101 → (lg_cmp ((lN n - lN 50) - (lN n - lN 50) / (26 : Int64) * (26 : Int64)) (0 : Int64) = 0 ↔ n % 26 = 24) := by decide +kernel
/-- one place of a key that is k long -/
def qkc (f g : Nat → Int64) (k i : Nat) : Bool := decide ((((g i).toInt - (f i).toInt) - ((g (i - k)).toInt - (f (i - k)).toInt)) % 26 = 0)
theorem q_keyX {a b c d : Int64} (ha : 0 ≤ a.toInt ∧ a.toInt ≤ 25) (hb : 0 ≤ b.toInt ∧ b.toInt ≤ 25) (hc : 0 ≤ c.toInt ∧ c.toInt ≤ 25) (hd : 0 ≤ d.toInt ∧ d.toInt ≤ 25) :
    (lg_cmp (((a - b) - (c - d)) - ((a - b) - (c - d)) / (26 : Int64) * (26 : Int64)) (0 : Int64) = 0) ↔ ((a.toInt - b.toInt) - (c.toInt - d.toInt)) % 26 = 0 := by
  have e1 : (a - b).toInt = a.toInt - b.toInt := q_lt64 (by omega) (by omega)
  have e2 : (c - d).toInt = c.toInt - d.toInt := q_lt64 (by omega) (by omega)
  have e3 : ((a - b) - (c - d)).toInt = (a.toInt - b.toInt) - (c.toInt - d.toInt) := by rw [q_lt64 (by omega) (by omega), e1, e2]
  have e4 : (a - b) - (c - d) = lN (((a.toInt - b.toInt) - (c.toInt - d.toInt) + 50).toNat) - lN 50 := by
    apply Int64.toInt_inj.mp
    have l1 : (lN (((a.toInt - b.toInt) - (c.toInt - d.toInt) + 50).toNat)).toInt = ((((a.toInt - b.toInt) - (c.toInt - d.toInt) + 50).toNat : Nat) : Int) := lN_toInt (by omega)
    have l2 : (lN 50).toInt = 50 := lN_toInt (by decide)
    rw [e3, q_lt64 (by omega) (by omega), l1, l2]
    omega
  rw [e4, q_key1 _ (by omega)]
  omega
theorem q_keyM {a b c d : Int64} (ha : 0 ≤ a.toInt ∧ a.toInt ≤ 25) (hb : 0 ≤ b.toInt ∧ b.toInt ≤ 25) (hc : 0 ≤ c.toInt ∧ c.toInt ≤ 25) (hd : 0 ≤ d.toInt ∧ d.toInt ≤ 25) :
    (lg_cmp (((a - b) + (26 : Int64)) - ((a - b) + (26 : Int64)) / (26 : Int64) * (26 : Int64)) (((c - d) + (26 : Int64)) - ((c - d) + (26 : Int64)) / (26 : Int64) * (26 : Int64)) = 0) ↔ ((a.toInt - b.toInt) - (c.toInt - d.toInt)) % 26 = 0 := by
  have l26 : (26 : Int64).toInt = 26 := rfl
  have key : ∀ u v : Int64, (0 ≤ u.toInt ∧ u.toInt ≤ 25) → (0 ≤ v.toInt ∧ v.toInt ≤ 25) → ((u - v) + (26 : Int64)) - ((u - v) + (26 : Int64)) / (26 : Int64) * (26 : Int64) = lN ((u.toInt - v.toInt + 26).toNat % 26) := by
    intro u v hu hv
    have e1 : (u - v).toInt = u.toInt - v.toInt := q_lt64 (by omega) (by omega)
    have e2 : (u - v) + (26 : Int64) = lN (u.toInt - v.toInt + 26).toNat := by
      apply Int64.toInt_inj.mp
      rw [q_la64 (by omega) (by omega), e1, l26, lN_toInt (by omega)]
      omega
    have e26 : (26 : Int64) = lN 26 := rfl
    rw [e2, e26, pk_lRem (by omega) (by decide) (by decide)]
  rw [key a b ha hb, key c d hc hd, q_lcmp0, lN_eq (by omega) (by omega)]
  omega
/-- a key of k letters would do -/
def qkw (f g : Nat → Int64) (n k : Nat) : Bool := decide (∀ i, i < n → k ≤ i → qkc f g k i = true)
theorem s_keyLength (S : qS sh m n σ) (s t k : Int32) {post : Int32 → zS → Int32 → zS → Prop}
    (h : ∀ v, post v x v m)
    (hr : ∀ v k, k < 5 → post v (zA x 12 k (x.2.1 12 k + 1)) v (zA m 8 (k + 2) (m.2.1 8 (k + 2) + 1))) :
    wp_X7_keyLength x sh s t k (fun v x' => wp_X8_keyLength m s t k (fun v' m' => post v x' v' m')) := by
  have bad : ((qI 0 7 s && qI 0 7 t) && qI 0 40 k) = false → wp_X7_keyLength_24 sh s t k (fun v x' => wp_X8_keyLength m s t k (fun v' m' => post v x' v' m')) x := fun c => by
    simp only [wp_X7_keyLength_24, e7_r2]
    unfold wp_X8_keyLength
    refine a8_two_bad c ?_
    rw [q_neg (by decide)]
    exact hr _ 0 (by decide)
  unfold wp_X7_keyLength
  rw [e7_isShelf]
  refine q_br (fun a => ?_) (fun a => bad (by rw [a]; rfl))
  rw [e7_isShelf]
  refine q_br (fun b => ?_) (fun b => bad (by rw [b]; cases qI 0 7 s <;> rfl))
  refine ⟨fun c => bad ?_, fun c => ⟨fun d => ?_, fun d => bad ?_⟩⟩
  · have e40 : qI 0 40 k = false := qI_f.mpr (fun z => by rw [q_ltI, q_zero] at c; omega)
    rw [e40, Bool.and_false]
  · have hz : qI 0 40 k = true := qI_t.mpr ⟨by rw [q_ltI, q_zero] at c; omega, by rw [q_leI] at d; exact d⟩
    obtain ⟨s, hs, rfl⟩ := qI07 a
    obtain ⟨t, ht, rfl⟩ := qI07 b
    obtain ⟨k, hk1, rfl⟩ := qI_n (by decide) hz
    have hk : k ≤ 40 := by omega
    have vs : vp_in (nI s) 8 := q_in hs (by omega)
    have vt : vp_in (nI t) 8 := q_in ht (by omega)
    have S1 := S.2 s hs
    have S2 := S.2 t ht
    have a3 := S1.2.1
    have b3 := S2.2.1
    rw [e7_rowsFault S hs ht]
    unfold qrf
    by_cases c2 : σ s 0 = 2 ∨ σ t 0 = 2
    · rw [if_pos c2]
      dsimp only
      rw [q_neg (by decide), e7_r3]
      unfold wp_X8_keyLength
      refine a8_two S hs ht hk (fun _ => ?_) (fun z => absurd c2 z) (fun z1 z2 => by omega)
      rw [q_neg (by decide)]
      exact hr _ 1 (by decide)
    rw [if_neg c2]
    by_cases c0 : σ s 0 = 0 ∨ σ t 0 = 0
    · rw [if_pos c0]
      dsimp only
      rw [q_neg (by decide), e7_r4]
      unfold wp_X8_keyLength
      refine a8_two S hs ht hk (fun z => absurd z c2) (fun _ _ => ?_) (fun z1 z2 => by omega)
      rw [q_neg (by decide)]
      exact hr _ 2 (by decide)
    rw [if_neg c0]
    dsimp only
    rw [q_pos rfl]
    have z1 : σ s 0 = 1 := by omega
    have z2 : σ t 0 = 1 := by omega
    obtain ⟨d1, d2, d3, d4, d5, d6, d7⟩ := S1.2.2.2.1 z1
    obtain ⟨e1, e2, e3, e4, e5, e6, e7⟩ := S2.2.2.2.1 z2
    have m8 : ∀ P : Int32 → zS → Prop, (k ≤ σ s 2 → k ≤ σ t 2 → (qle ((sh s).2.2 2) k && qle ((sh t).2.2 2) k) = true → ∃ n, wp_X8_keyLength_65 (nI s) (nI t) (nI k) P n m 1) →
        ((¬ k ≤ σ s 2 ∨ ¬ k ≤ σ t 2 ∨ (k ≤ σ s 2 ∧ k ≤ σ t 2 ∧ (qle ((sh s).2.2 2) k && qle ((sh t).2.2 2) k) = false)) → P (-2) (zA m 8 2 (m.2.1 8 2 + 1))) → wp_X8_keyLength m (nI s) (nI t) (nI k) P := by
      intro P p1 p2
      unfold wp_X8_keyLength wp_X8_keyLength_55
      refine a8_two S hs ht hk (fun z => absurd z c2) (fun _ z => absurd z c0) (fun _ _ => ⟨fun hks => ?_, fun hks => ?_⟩)
      · rw [q_pos rfl]
        simp only [vs, vt, true_and, forall_eq, q_clamp (n := s) (by omega), q_clamp (n := t) (by omega), e6, e8_r2, nI_ltI (a := σ t 2) (b := k) (by omega) (by omega)]
        refine ⟨fun z => p2 (Or.inr (Or.inl (by omega))), fun z => ?_⟩
        refine a8_letters hk ?_
        rw [← qle_congr (fun i hi => d7 i (by omega))]
        refine q_br (fun l1 => a8_letters hk ?_) (fun l1 => p2 (Or.inr (Or.inr ⟨hks, by omega, by rw [l1]; rfl⟩)))
        rw [← qle_congr (fun i hi => e7 i (by omega))]
        exact q_br (fun l2 => p1 hks (by omega) (by rw [l1, l2]; rfl)) (fun l2 => p2 (Or.inr (Or.inr ⟨hks, by omega, by rw [l2, Bool.and_false]⟩)))
      · rw [q_neg (by decide)]
        exact p2 (Or.inl hks)
    have bad2 : (¬ k ≤ σ s 2 ∨ ¬ k ≤ σ t 2 ∨ (k ≤ σ s 2 ∧ k ≤ σ t 2 ∧ (qle ((sh s).2.2 2) k && qle ((sh t).2.2 2) k) = false)) → wp_X7_keyLength_103 sh (nI s) (nI t) (nI k) (fun v x' => wp_X8_keyLength m (nI s) (nI t) (nI k) (fun v' m' => post v x' v' m')) x := fun c => by
      simp only [wp_X7_keyLength_103, e7_r2]
      refine m8 _ (fun h1 h2 h3 => ?_) (fun _ => hr _ 0 (by decide))
      exfalso
      rcases c with z | z | z
      · exact z h1
      · exact z h2
      · rw [h3] at z; cases z.2.2
    refine ⟨vs, fun k11 hk11 => ⟨vt, fun k12 hk12 => ?_⟩⟩
    rw [q_clamp (by omega)] at hk11 hk12
    subst hk11 hk12
    rw [d3, e3, nI_ltI (by omega) (by omega), nI_ltI (by omega) (by omega)]
    refine ⟨fun z => bad2 (Or.inl (by omega)), fun z => ⟨fun z' => bad2 (Or.inr (Or.inl (by omega))), fun z' => ?_⟩⟩
    have hks : k ≤ σ k11 2 := by omega
    have hkt : k ≤ σ k12 2 := by omega
    refine a2_letters S1 z1 hks ?_
    refine q_br (fun l1 => a2_letters S2 z2 hkt ?_) (fun l1 => bad2 (Or.inr (Or.inr ⟨hks, hkt, by rw [l1]; rfl⟩)))
    refine q_br (fun l2 => ?_) (fun l2 => bad2 (Or.inr (Or.inr ⟨hks, hkt, by rw [l2, Bool.and_false]⟩)))
    have lf := of_decide_eq_true l1
    have lg := of_decide_eq_true l2
    have lall : (qle ((sh k11).2.2 2) k && qle ((sh k12).2.2 2) k) = true := by rw [l1, l2]; rfl
    -- the reference from a length on
    have m8' : ∀ (v : Nat), (v ≤ k ∨ (k = 0 ∧ v = 0)) → (∀ k', 1 ≤ k' → k' < v → qkw ((sh k11).2.2 2) ((sh k12).2.2 2) k k' = false) → (v = k ∨ (1 ≤ v ∧ v < k ∧ qkw ((sh k11).2.2 2) ((sh k12).2.2 2) k v = true)) → ∀ P : Int32 → zS → Prop, P (nI v) m → ∃ n, wp_X8_keyLength_65 (nI k11) (nI k12) (nI k) P n m 1 := by
      intro v hv hno hyes P hP
      refine q_lp2 (B := wb_X8_keyLength_65 (nI k11) (nI k12) (nI k) P) (fun q m' x5 => ∃ j, j + q = k + 1 ∧ 1 ≤ j ∧ (j ≤ v ∨ v = k) ∧ m = m' ∧ x5 = nI j) ?_ k _ _ ⟨1, by omega, by omega, by omega, rfl, rfl⟩
      rintro q _ _ ⟨j, hj, hj1, hjv, rfl, rfl⟩ K hK
      unfold wb_X8_keyLength_65
      by_cases e : nI k ≤ nI j
      · have := (q_leN (by omega) (by omega)).mp e
        have ev : v = k := by omega
        rw [q_pos e, ← ev]; exact hP
      · have e' : ¬ k ≤ j := fun z => e ((q_leN (by omega) (by omega)).mpr z)
        rw [q_neg e]
        refine q_lp4 (B := wb_X8_keyLength_78 (nI k11) (nI k12) (nI k) P K) (fun q2 m' x5 x6 x7 => ∃ i, i + q2 = k ∧ j ≤ i ∧ m = m' ∧ x5 = nI j ∧ x7 = nI i ∧ x6 = qz (decide (∀ i', i' < i → j ≤ i' → qkc ((sh k11).2.2 2) ((sh k12).2.2 2) j i' = true))) ?_ (k - j) _ _ _ _ ⟨j, by omega, by omega, rfl, rfl, rfl, by rw [decide_eq_true (fun i' h1 h2 => absurd h1 (by omega))]; rfl⟩
        rintro q2 _ _ _ _ ⟨i, hi, hji, rfl, rfl, rfl, rfl⟩ K2 hK2
        unfold wb_X8_keyLength_78 wp_X8_keyLength_163
        by_cases w : nI k ≤ nI i
        · have := (q_leN (by omega) (by omega)).mp w
          have : i = k := by omega
          subst this
          rw [q_pos w]
          refine q_br (fun cq => ?_) (fun cq => ?_)
          · have : v = j := by
              rcases Nat.lt_or_ge j v with lt | ge
              · have := hno j hj1 lt
                unfold qkw at this
                rw [cq] at this; cases this
              · omega
            rw [← this]; exact hP
          · rw [q_all, q_succ]
            refine hK (q - 1) _ _ (by omega) ⟨j + 1, by omega, by omega, ?_, rfl, rfl⟩
            rcases Nat.lt_or_ge j v with lt | ge
            · exact Or.inl lt
            · rcases hyes with e | ⟨y1, y2, y3⟩
              · exact Or.inr e
              · have : v = j := by omega
                subst this
                unfold qkw at y3
                rw [cq] at y3; cases y3
        · have w' : ¬ k ≤ i := fun z => w ((q_leN (by omega) (by omega)).mpr z)
          have vi : vp_in (nI i) 40 := q_in (by omega) (by omega)
          have vij : vp_in (nI (i - j)) 40 := q_in (by omega) (by omega)
          have sij : nI i - nI j = nI (i - j) := pk_sub hji
          rw [q_neg w, sij]
          simp only [vs, vt, vi, vij, true_and, forall_eq, q_clamp (n := k11) (by omega), q_clamp (n := k12) (by omega), q_clamp (n := i) (by omega), q_clamp (n := i - j) (by omega), ← d7 i (by omega), ← e7 i (by omega), ← d7 (i - j) (by omega), ← e7 (i - j) (by omega), q_succ]
          rw [q_keyM (lg i (by omega)) (lf i (by omega)) (lg (i - j) (by omega)) (lf (i - j) (by omega))]
          have o1 : ∀ g : Bool, qz g &&& (1 : Int32) = qz g := by decide
          have o0 : ∀ g : Bool, qz g &&& (0 : Int32) = qz false := by decide
          refine ⟨fun c => ?_, fun c => ?_⟩
          · rw [o1]
            refine hK2 (q2 - 1) _ _ _ _ (by omega) ⟨i + 1, by omega, by omega, rfl, rfl, rfl, ?_⟩
            congr 1
            refine decide_eq_decide.mpr ⟨fun z i' h1 h2 => ?_, fun z i' h1 h2 => z i' (by omega) h2⟩
            by_cases g : i' = i
            · subst g; exact decide_eq_true c
            · exact z i' (by omega) h2
          · rw [o0]
            refine hK2 (q2 - 1) _ _ _ _ (by omega) ⟨i + 1, by omega, by omega, rfl, rfl, rfl, ?_⟩
            congr 1
            exact (decide_eq_false (fun z => c (of_decide_eq_true (z i (by omega) hji)))).symm
    refine q_lp4 (B := wb_X7_keyLength_113 sh (nI k11) (nI k12) (nI k) _) (fun q x' x5 x6 x7 => ∃ j, j + q = k + 1 ∧ 1 ≤ j ∧ x = x' ∧ k11 = x5 ∧ k12 = x6 ∧ x7 = nI j ∧ ∀ k', 1 ≤ k' → k' < j → k' < k → qkw ((sh k11).2.2 2) ((sh k12).2.2 2) k k' = false) ?_ k _ _ _ _ ⟨1, by omega, by omega, rfl, rfl, rfl, rfl, fun k' h1 h2 => by omega⟩
    rintro q _ _ _ _ ⟨j, hj, hj1, rfl, rfl, rfl, rfl, hno⟩ K hK
    unfold wb_X7_keyLength_113
    have fin : ∀ v, (v ≤ k ∨ (k = 0 ∧ v = 0)) → (∀ k', 1 ≤ k' → k' < v → qkw ((sh k11).2.2 2) ((sh k12).2.2 2) k k' = false) → (v = k ∨ (1 ≤ v ∧ v < k ∧ qkw ((sh k11).2.2 2) ((sh k12).2.2 2) k v = true)) → wp_X8_keyLength m (nI k11) (nI k12) (nI k) (fun v' m' => post (nI v) x v' m') := fun v a1 a2 a3 => m8 _ (fun _ _ _ => m8' v a1 a2 a3 _ (h _)) (fun c => by
      exfalso
      rcases c with z | z | z
      · exact z hks
      · exact z hkt
      · rw [lall] at z; cases z.2.2)
    by_cases e : nI k ≤ nI j
    · have := (q_leN (by omega) (by omega)).mp e
      rw [q_pos e]
      exact fin k (by omega) (fun k' h1 h2 => hno k' h1 (by omega) h2) (Or.inl rfl)
    · have e' : ¬ k ≤ j := fun z => e ((q_leN (by omega) (by omega)).mpr z)
      rw [q_neg e]
      have key : ∀ Q : Int32 → Prop, Q (qz (qkw ((sh k11).2.2 2) ((sh k12).2.2 2) k j)) → wp_X7_keyWouldDo x sh k11 k12 (nI k) (nI j) Q := by
        intro Q hQ
        refine q_lp1 (B := wb_X7_keyWouldDo_3 x sh k11 k12 (nI k) (nI j) Q) (fun q2 x4 => ∃ i, i + q2 = k ∧ j ≤ i ∧ x4 = nI i ∧ ∀ i', i' < i → j ≤ i' → qkc ((sh k11).2.2 2) ((sh k12).2.2 2) j i' = true) ?_ (k - j) _ ⟨j, by omega, by omega, rfl, fun i' h1 h2 => absurd h1 (by omega)⟩
        rintro q2 _ ⟨i, hi, hji, rfl, hall⟩ K2 hK2
        unfold wb_X7_keyWouldDo_3
        by_cases w : nI k ≤ nI i
        · have := (q_leN (by omega) (by omega)).mp w
          have : i = k := by omega
          subst this
          have : qkw ((sh k11).2.2 2) ((sh k12).2.2 2) i j = true := decide_eq_true hall
          rw [this] at hQ
          rw [q_pos w]; exact hQ
        · have w' : ¬ k ≤ i := fun z => w ((q_leN (by omega) (by omega)).mpr z)
          have sij : nI i - nI j = nI (i - j) := pk_sub hji
          rw [q_neg w, sij, e2_cell S2 z2 (by omega), e2_cell S1 z1 (by omega), q_all, e2_cell S2 z2 (by omega), e2_cell S1 z1 (by omega), q_all, q_keyX (lg i (by omega)) (lf i (by omega)) (lg (i - j) (by omega)) (lf (i - j) (by omega))]
          refine ⟨fun c u hu => ?_, fun c => ?_⟩
          · rw [hu, q_succ]
            refine hK2 (q2 - 1) _ (by omega) ⟨i + 1, by omega, by omega, rfl, fun i' h1 h2 => ?_⟩
            by_cases g : i' = i
            · subst g; exact decide_eq_true c
            · exact hall i' (by omega) h2
          · have : qkw ((sh k11).2.2 2) ((sh k12).2.2 2) k j = false := decide_eq_false (fun z => c (of_decide_eq_true (z i (by omega) hji)))
            rw [this] at hQ; exact hQ
      refine key _ (q_br (fun c => ?_) (fun c => ?_))
      · exact fin j (by omega) (fun k' h1 h2 => hno k' h1 h2 (by omega)) (Or.inr ⟨hj1, by omega, c⟩)
      · rw [q_all, q_succ]
        refine hK (q - 1) _ _ _ _ (by omega) ⟨j + 1, by omega, by omega, rfl, rfl, rfl, rfl, fun k' h1 h2 h3 => ?_⟩
        by_cases g : k' = j
        · subst g; exact c
        · exact hno k' h1 (by omega) h3
  · have e40 : qI 0 40 k = false := qI_f.mpr (fun z => d (by rw [q_leI]; exact z.2))
    rw [e40, Bool.and_false]
end QKEY
