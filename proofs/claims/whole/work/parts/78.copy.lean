/-! copy -/
section QCOPY
variable {x m : zS} {sh : Nat → zS} {n : Nat} {σ : Nat → Nat → Nat}
/-- so many places from one on lie in a row -/
def qpl (z : Nat) (i k : Int32) : Bool := decide (0 ≤ i.toInt ∧ 0 ≤ k.toInt ∧ k.toInt ≤ (z : Int) ∧ i.toInt ≤ (z : Int) - k.toInt)
theorem qpl_n {z : Nat} {i k : Int32} (h : qpl z i k = true) : ∃ a c, a + c ≤ z ∧ i = nI a ∧ k = nI c := by
  have h := of_decide_eq_true h
  exact ⟨i.toInt.toNat, k.toInt.toNat, by omega, q_nat h.1, q_nat h.2.1⟩
theorem q_lsub {z : Nat} (hz : z ≤ 40) {k : Int32} (h0 : 0 ≤ k.toInt) (h1 : k.toInt ≤ (z : Int)) : (nI z - k).toInt = (z : Int) - k.toInt := by
  have e := q_nat h0
  rw [e, pk_sub (by omega), nI_toInt (by omega), nI_toInt (by omega)]
  omega
theorem e2_places {h : zS} {z : Nat} (e : h.1 1 = nI z) (hz : z ≤ 40) {i k : Int32} {post : Int32 → Prop} : wp_X2_hasPlaces h i k post = post (qz (qpl z i k)) := by
  unfold wp_X2_hasPlaces
  rw [e, q_ltI, q_ltI, q_ltI, q_ltI, q_zero, nI_toInt (by omega)]
  by_cases c1 : i.toInt < 0
  · rw [q_pos c1, show qpl z i k = false from decide_eq_false (by omega)]; rfl
  rw [q_neg c1]
  by_cases c2 : k.toInt < 0
  · rw [q_pos c2, show qpl z i k = false from decide_eq_false (by omega)]; rfl
  rw [q_neg c2]
  by_cases c3 : (z : Int) < k.toInt
  · rw [q_pos c3, show qpl z i k = false from decide_eq_false (by omega)]; rfl
  rw [q_neg c3, q_lsub hz (by omega) (by omega)]
  by_cases c4 : (z : Int) - k.toInt < i.toInt
  · rw [q_pos c4, show qpl z i k = false from decide_eq_false (by omega)]; rfl
  · rw [q_neg c4, show qpl z i k = true from decide_eq_true (by omega)]; rfl
theorem s_copy (S : qS sh m n σ) (s t i j k : Int32) {post : Int32 → zS → (Nat → zS) → Int32 → zS → Prop}
    (h : ∀ v sh' m', qS sh' m' n σ → qFs m m' → post v x sh' v m')
    (hr : ∀ v k, k < 5 → post v (zA x 12 k (x.2.1 12 k + 1)) sh v (zA m 8 (k + 2) (m.2.1 8 (k + 2) + 1))) :
    wp_X7_copy x sh s t i j k (fun v x' sh' => wp_X8_copy m s t i j k (fun v' m' => post v x' sh' v' m')) := by
  have bad : (qI 0 7 s && qI 0 7 t) = false → wp_X7_copy_14 s t i j k (fun v x' sh' => wp_X8_copy m s t i j k (fun v' m' => post v x' sh' v' m')) x sh := fun c => by
    simp only [wp_X7_copy_14, wp_X8_copy, wp_X8_copy_24, e7_r2, e8_r2, e8_inI (lo := 0) (hi := 7) (a := 0) (b := 7) rfl rfl]
    cases c1 : qI 0 7 s
    · simp only [q_f]; exact hr _ 0 (by decide)
    cases c2 : qI 0 7 t
    · simp only [q_t, q_f]; exact hr _ 0 (by decide)
    rw [c1, c2] at c; cases c
  unfold wp_X7_copy
  rw [e7_isShelf]
  refine q_br (fun a => ?_) (fun a => bad (by rw [a]; rfl))
  rw [e7_isShelf]
  refine q_br (fun b => ?_) (fun b => bad (by rw [b, Bool.and_false]))
  obtain ⟨s, hs, rfl⟩ := qI07 a
  obtain ⟨t, ht, rfl⟩ := qI07 b
  have vs : vp_in (nI s) 8 := q_in hs (by omega)
  have vt : vp_in (nI t) 8 := q_in ht (by omega)
  have S1 := S.2 s hs
  have S2 := S.2 t ht
  have a3 := S1.2.1
  have b3 := S2.2.1
  -- the reference behind the shelves
  have m8 : ∀ P : Int32 → zS → Prop, ((σ s 0 = 2 ∨ σ t 0 = 2 ∨ (σ s 0 = 1 ∧ σ t 0 = 1 ∧ σ s 1 ≠ σ t 1)) → P (-3) (zA m 8 3 (m.2.1 8 3 + 1))) → (¬ (σ s 0 = 2 ∨ σ t 0 = 2) → (σ s 0 = 0 ∨ σ t 0 = 0) → P (-4) (zA m 8 4 (m.2.1 8 4 + 1))) →
      (σ s 0 = 1 → σ t 0 = 1 → σ s 1 = σ t 1 → (qpl (σ s 2) i k && qpl (σ t 2) j k) = false → P (-2) (zA m 8 2 (m.2.1 8 2 + 1))) → (σ s 0 = 1 → σ t 0 = 1 → σ s 1 = σ t 1 → (qpl (σ s 2) i k && qpl (σ t 2) j k) = true → ∃ n, wp_X8_copy_191 (nI s) (nI t) i j k P n m 0) → wp_X8_copy m (nI s) (nI t) i j k P := by
    intro P p3 p4 p2 p1
    simp only [wp_X8_copy, wp_X8_copy_24, wp_X8_copy_86, wp_X8_copy_93, wp_X8_copy_111, wp_X8_copy_181, e8_inI (lo := 0) (hi := 7) (a := 0) (b := 7) rfl rfl, a, b, q_t, vs, vt, true_and, q_clamp (n := s) (by omega), q_clamp (n := t) (by omega), S1.1, S2.1, e8_r2, e8_r3, e8_r4, nI_k2 (a := σ s 0) (by omega), nI_k2 (a := σ t 0) (by omega), nI_k1 (a := σ s 0) (by omega), nI_k1 (a := σ t 0) (by omega), q_nz (a := σ s 0) (by omega), q_nz (a := σ t 0) (by omega)]
    refine ⟨fun c => p3 (Or.inl c), fun c => ⟨fun c2 => p3 (Or.inr (Or.inl c2)), fun c2 => ?_⟩⟩
    have both : ¬ (σ s 0 = 2 ∨ σ t 0 = 2) := fun z => z.elim c c2
    refine ⟨fun y1 => ⟨fun y2 => ?_, fun y2 => ⟨fun z => absurd z (by omega), fun _ => ⟨fun z => p4 both (Or.inr z), fun z => absurd z (by omega)⟩⟩⟩, fun y1 => ⟨fun z => p4 both (Or.inl z), fun z => absurd z (by omega)⟩⟩
    obtain ⟨d1, d2, d3, d4, d5, d6, d7⟩ := S1.2.2.2.1 y1
    obtain ⟨e1, e2, e3, e4, e5, e6, e7⟩ := S2.2.2.2.1 y2
    rw [d5, e5, nI_eq (by omega) (by omega)]
    refine ⟨fun ye => ⟨fun z => absurd z (by omega), fun _ => ⟨fun z => absurd z (by omega), fun _ => ?_⟩⟩, fun ye => p3 (Or.inr (Or.inr ⟨y1, y2, ye⟩))⟩
    have no : (qpl (σ s 2) i k && qpl (σ t 2) j k) = false → P (-2) (zA m 8 2 (m.2.1 8 2 + 1)) := p2 y1 y2 ye
    rw [d6, e6, q_ltI, q_ltI, q_ltI, q_ltI, q_ltI, q_ltI, q_leI, q_zero, nI_toInt (n := σ s 2) (by omega), nI_toInt (n := σ t 2) (by omega)]
    have f1 : ¬ (0 ≤ i.toInt ∧ 0 ≤ k.toInt ∧ k.toInt ≤ (σ s 2 : Int) ∧ i.toInt ≤ (σ s 2 : Int) - k.toInt) → (qpl (σ s 2) i k && qpl (σ t 2) j k) = false := fun g => by
      rw [show qpl (σ s 2) i k = false from decide_eq_false g]; rfl
    have f2 : ¬ (0 ≤ j.toInt ∧ 0 ≤ k.toInt ∧ k.toInt ≤ (σ t 2 : Int) ∧ j.toInt ≤ (σ t 2 : Int) - k.toInt) → (qpl (σ s 2) i k && qpl (σ t 2) j k) = false := fun g => by
      rw [show qpl (σ t 2) j k = false from decide_eq_false g, Bool.and_false]
    refine ⟨fun g => no (f1 (by omega)), fun g1 => ⟨fun g => no (f1 (by omega)), fun g2 => ⟨fun g => no (f2 (by omega)), fun g3 => ⟨fun g => no (f1 (by omega)), fun g4 => ⟨fun g => no (f2 (by omega)), fun g5 => ?_⟩⟩⟩⟩⟩
    rw [q_lsub d4 (by omega) (by omega), q_lsub e4 (by omega) (by omega)]
    refine ⟨fun g => no (f1 (by omega)), fun g6 => ⟨fun g7 => ?_, fun g => no (f2 (by omega))⟩⟩
    refine p1 y1 y2 ye ?_
    rw [show qpl (σ s 2) i k = true from decide_eq_true (by omega), show qpl (σ t 2) j k = true from decide_eq_true (by omega)]; rfl
  refine ⟨vs, fun k7 hk7 => ⟨vt, fun k8 hk8 => ?_⟩⟩
  rw [q_clamp (by omega)] at hk7 hk8
  subst hk7 hk8
  -- the class behind the sorts
  have x73 : (σ k7 0 = 1 → σ k8 0 = 1 → σ k7 1 = σ k8 1) → wp_X7_copy_73 (nI k7) (nI k8) i j k (fun v x' sh' => wp_X8_copy m (nI k7) (nI k8) i j k (fun v' m' => post v x' sh' v' m')) x sh k7 k8 := by
    intro same
    unfold wp_X7_copy_73
    rw [e7_rowsFault S hs ht]
    unfold qrf
    by_cases c2 : σ k7 0 = 2 ∨ σ k8 0 = 2
    · rw [if_pos c2]
      dsimp only
      rw [q_neg (by decide), e7_r3]
      refine m8 _ (fun _ => hr _ 1 (by decide)) (fun z => absurd c2 z) (fun z1 z2 => by omega) (fun z1 z2 => by omega)
    rw [if_neg c2]
    by_cases c0 : σ k7 0 = 0 ∨ σ k8 0 = 0
    · rw [if_pos c0]
      dsimp only
      rw [q_neg (by decide), e7_r4]
      refine m8 _ (fun z => ?_) (fun _ _ => hr _ 2 (by decide)) (fun z1 z2 => by omega) (fun z1 z2 => by omega)
      exfalso
      omega
    rw [if_neg c0]
    dsimp only
    rw [q_pos rfl]
    have z1 : σ k7 0 = 1 := by omega
    have z2 : σ k8 0 = 1 := by omega
    have ye := same z1 z2
    obtain ⟨d1, d2, d3, d4, d5, d6, d7⟩ := S1.2.2.2.1 z1
    obtain ⟨e1, e2, e3, e4, e5, e6, e7⟩ := S2.2.2.2.1 z2
    have no3 : ¬ (σ k7 0 = 2 ∨ σ k8 0 = 2 ∨ (σ k7 0 = 1 ∧ σ k8 0 = 1 ∧ σ k7 1 ≠ σ k8 1)) := by omega
    have no : (qpl (σ k7 2) i k && qpl (σ k8 2) j k) = false → wp_X7_copy_116 (nI k7) (nI k8) i j k (fun v x' sh' => wp_X8_copy m (nI k7) (nI k8) i j k (fun v' m' => post v x' sh' v' m')) x sh := fun c => by
      unfold wp_X7_copy_116
      rw [e7_r2]
      exact m8 _ (fun z => absurd z no3) (fun _ z => absurd z c0) (fun _ _ _ _ => hr _ 0 (by decide)) (fun _ _ _ g => by rw [c] at g; cases g)
    rw [e2_places d3 d4]
    refine q_br (fun g1 => ?_) (fun g1 => no (by rw [g1]; rfl))
    rw [e2_places e3 e4]
    refine q_br (fun g2 => ?_) (fun g2 => no (by rw [g2, Bool.and_false]))
    obtain ⟨i, k, hik, rfl, rfl⟩ := qpl_n g1
    obtain ⟨j, k', hjk, rfl, hkk⟩ := qpl_n g2
    have hkk : k = k' := (nI_eq (by omega) (by omega)).mp hkk
    subst hkk
    have nn : ∀ v, v < 2 ^ 31 → ¬ nI v < 0 := fun v hv => by rw [q_ltI, q_zero, nI_toInt hv]; omega
    rw [q_clamp (n := i) (by omega), q_clamp (n := j) (by omega), q_clamp (n := k) (by omega)]
    refine ⟨⟨⟨nn i (by omega), nn j (by omega), nn k (by omega)⟩, by omega, by omega⟩, fun g hg => ?_⟩
    refine m8 _ (fun z => absurd z no3) (fun _ z => absurd z c0) (fun _ _ _ c => by rw [g1, g2] at c; cases c) (fun _ _ _ _ => ?_)
    -- the reference's loops
    refine q_lp2 (B := wb_X8_copy_191 (nI k7) (nI k8) (nI i) (nI j) (nI k) _) (fun q m' x6 => ∃ c, c + q = k ∧ x6 = nI c ∧ m'.1 = m.1 ∧ m'.2.1 = m.2.1 ∧ (∀ q, q ≠ 4 → m'.2.2 q = m.2.2 q) ∧ ∀ c', c' < c → m'.2.2 4 c' = m.2.2 (100 + k7) (i + c')) ?_ k _ _ ⟨0, by omega, rfl, rfl, rfl, fun _ _ => rfl, fun c' hc' => absurd hc' (by omega)⟩
    rintro q m' _ ⟨c, hc, rfl, f1, f2, f3, f4⟩ K hK
    unfold wb_X8_copy_191
    by_cases w : nI k ≤ nI c
    · have := (q_leN (by omega) (by omega)).mp w
      have : c = k := by omega
      subst this
      rw [q_pos w]
      refine q_lp2 (B := wb_X8_copy_225 (nI k7) (nI k8) (nI i) (nI j) (nI c) _) (fun q m'' x6 => ∃ a, a + q = c ∧ x6 = nI a ∧ m''.1 = m.1 ∧ m''.2.1 = m.2.1 ∧ (∀ q, q ≠ 4 → q ≠ 100 + k8 → m''.2.2 q = m.2.2 q) ∧ m''.2.2 4 = m'.2.2 4 ∧ ∀ u, m''.2.2 (100 + k8) u = if j ≤ u ∧ u < j + a then m.2.2 (100 + k7) (i + (u - j)) else m.2.2 (100 + k8) u) ?_ c _ _ ⟨0, by omega, rfl, f1, f2, fun q h4 _ => f3 q h4, rfl, fun u => by rw [if_neg (by omega), f3 _ (by omega)]⟩
      rintro q2 m'' _ ⟨a, ha, rfl, g1', g2', g3, g4, g5⟩ K2 hK2
      unfold wb_X8_copy_225
      by_cases w2 : nI c ≤ nI a
      · have := (q_leN (by omega) (by omega)).mp w2
        have : a = c := by omega
        subst this
        rw [q_pos w2]
        refine h _ _ _ ⟨S.1, fun s' hs' => ?_⟩ ⟨g1', fun q _ => by rw [g2']⟩
        by_cases v : s' = k8
        · subst v
          rw [z_up, if_pos rfl]
          refine ⟨by rw [g2']; exact S2.1, S2.2.1, fun z => by omega, fun _ => ⟨e1, e2, e3, e4, by rw [g2']; exact e5, by rw [g2']; exact e6, fun u hu => ?_⟩, fun z => by omega⟩
          have eh : (zH (sh s') 2 g).2.2 2 u = g u := by
            show va_up (sh s').2.2 2 g 2 u = _
            rw [z_up, if_pos rfl]
          rw [eh, hg, g5]
          by_cases r : j ≤ u ∧ u < j + a
          · rw [if_pos r, pk_cpy_in r.1 r.2]
            exact d7 _ (by omega)
          · rw [if_neg r, pk_cpy_out (by omega)]
            exact e7 u hu
        · rw [z_up, if_neg v]
          exact qS1_fr (S.2 s' hs') (by rw [g2']) (by rw [g2']) (by rw [g2']) (by rw [g2']) (fun u => by rw [g3 _ (by omega) (by omega)])
      · have w2' : ¬ c ≤ a := fun z => w2 ((q_leN (by omega) (by omega)).mpr z)
        rw [q_neg w2, nI_add]
        refine ⟨vt, fun k27 hk27 => ⟨q_in (by omega) (by omega), fun v28 hv28 => ⟨q_in (by omega) (by omega), fun j29 hj29 v30 hv30 => ?_⟩⟩⟩
        rw [q_clamp (by omega)] at hk27 hv28 hj29
        subst hk27 hv28 hj29
        rw [hv30, q_succ]
        refine hK2 (q2 - 1) _ _ (by omega) ⟨a + 1, by omega, rfl, g1', g2', fun q hq4 hq => ?_, ?_, fun u => ?_⟩
        · funext e; rw [z_L, if_neg (by omega), g3 q hq4 hq]
        · funext e; rw [z_L, if_neg (by omega), g4]
        · rw [z_L]
          by_cases r : u = j + a
          · rw [if_pos ⟨rfl, r⟩, if_pos (by omega), g4, f4 a (by omega), show u - j = a by omega]
          · rw [if_neg (fun z => r z.2), g5]
            by_cases r2 : j ≤ u ∧ u < j + a
            · rw [if_pos r2, if_pos (by omega)]
            · rw [if_neg r2, if_neg (by omega)]
    · have w' : ¬ k ≤ c := fun z => w ((q_leN (by omega) (by omega)).mpr z)
      rw [q_neg w, nI_add]
      refine ⟨vs, fun k31 hk31 => ⟨q_in (by omega) (by omega), fun v32 hv32 => ⟨q_in (by omega) (by omega), fun j33 hj33 v34 hv34 => ?_⟩⟩⟩
      rw [q_clamp (by omega)] at hk31 hj33
      rw [q_clamp (by omega)] at hv32
      subst hk31 hv32 hj33
      rw [hv34, q_succ]
      refine hK (q - 1) _ _ (by omega) ⟨j33 + 1, by omega, rfl, f1, f2, fun q hq => ?_, fun c' hc' => ?_⟩
      · funext e; rw [z_L, if_neg (by omega), f3 q hq]
      · rw [z_L]
        by_cases r : c' = j33
        · rw [if_pos ⟨rfl, r⟩, r, f3 _ (by omega)]
        · rw [if_neg (fun z => r z.2)]; exact f4 c' (by omega)
  rw [e2_row S1 S.1]
  refine q_br (fun y1 => ?_) (fun y1 => x73 (fun z => absurd z (of_decide_eq_false y1)))
  rw [e2_row S2 S.1]
  refine q_br (fun y2 => ?_) (fun y2 => x73 (fun _ z => absurd z (of_decide_eq_false y2)))
  have y1 := of_decide_eq_true y1
  have y2 := of_decide_eq_true y2
  obtain ⟨d1, d2, d3, d4, d5, d6, d7⟩ := S1.2.2.2.1 y1
  obtain ⟨e1, e2, e3, e4, e5, e6, e7⟩ := S2.2.2.2.1 y2
  rw [d1, e1, nI_eq (by omega) (by omega), e7_r3]
  refine ⟨fun c => x73 (fun _ _ => c), fun c => m8 _ (fun _ => hr _ 1 (by decide)) (fun _ z => by omega) (fun _ _ z => absurd z c) (fun _ _ z => absurd z c)⟩
end QCOPY
