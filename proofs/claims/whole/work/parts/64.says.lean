/-! says, status -/
section QSAY
variable {x r y k m u : zS} {ρ : (Nat → Nat) × (Nat → Nat → Nat)} {sh : Nat → zS} {σ : Nat → Nat → Nat}
/-- one of a kind may be taken for one of another -/
def qun (ρ : (Nat → Nat) × (Nat → Nat → Nat)) (p j : Nat) : Bool := decide (ρ.2 5 p = j) || decide (j = 0) || (decide (j = 2) && qrd ρ p)
theorem e7_isUnder (W : qW ρ) {p j : Nat} (hp : p < ρ.1 1) (hj : j < 6) {post : Int32 → Prop} : wp_X7_isUnder (nI (ρ.2 5 p)) (nI j) post = post (qz (qun ρ p j)) := by
  have hw := (W.2.1 p hp).1
  unfold wp_X7_isUnder qun
  rw [nI_eq (a := ρ.2 5 p) (b := j) (by omega) (by omega), q_nz (by omega), nI_k2 (by omega), e_reads hw]
  by_cases c1 : ρ.2 5 p = j
  · rw [q_pos c1, decide_eq_true c1]; rfl
  · rw [q_neg c1, decide_eq_false c1]
    by_cases c2 : j = 0
    · rw [q_pos c2, decide_eq_true c2]; rfl
    · rw [q_neg c2, decide_eq_false c2]
      by_cases c3 : j = 2
      · rw [q_pos c3, decide_eq_true c3]
        show _ = post (qz (qrd ρ p))
        unfold qrd
        cases decide (ρ.2 5 p = 2 ∨ ρ.2 5 p = 3 ∨ ρ.2 5 p = 4)
        · rw [q_f]; rfl
        · rw [q_t]; rfl
      · rw [q_neg c3, decide_eq_false c3]; rfl
def qwd (ρ : (Nat → Nat) × (Nat → Nat → Nat)) (p j : Nat) : Nat := if j = 1 ∨ j = 4 then qlp ρ p else if j = 2 then qpop (qN ρ p) else if j = 3 then ρ.2 7 p else if j = 5 then qtk ρ p else ρ.2 6 p
theorem e7_word (R : qRm r ρ) (W : qW ρ) {p j : Nat} (d1 : p < ρ.1 1) (hj : j < 6) {Q : Int32 → Prop} (fin : Q (nI (qwd ρ p j))) : wp_X7_wordOf x r (nI p) (nI j) Q := by
  have hc := R.1.2.2
  unfold wp_X7_wordOf
  rw [nI_k1 (by omega), nI_k2 (by omega), nI_k3 (by omega), nI_k4 (by omega), nI_k5 (by omega)]
  have c6 : j = 0 ∨ j = 1 ∨ j = 2 ∨ j = 3 ∨ j = 4 ∨ j = 5 := by omega
  rcases c6 with g | g | g | g | g | g <;> subst g
  · exact ⟨fun c => absurd c (by decide), fun c => absurd c (by decide), fun c => absurd c (by decide), fun c => absurd c (by decide), fun c => absurd c (by decide), fun _ _ _ _ _ => q1_deskAt R d1 fin⟩
  · exact ⟨fun _ => a1_plain R W d1 fin, fun c => absurd c (by decide), fun c => absurd c (by decide), fun c => absurd c (by decide), fun c => absurd c (by decide), fun c => absurd rfl c⟩
  · exact ⟨fun c => absurd c (by decide), fun _ => q1_neighboursOf R d1 fin, fun c => absurd c (by decide), fun c => absurd c (by decide), fun c => absurd c (by decide), fun _ c => absurd rfl c⟩
  · exact ⟨fun c => absurd c (by decide), fun c => absurd c (by decide), fun _ => q1_markOf R (fun q hq e => by rw [← (nI_eq (by omega) (by omega)).mp e]; exact fin) (fun hn => absurd rfl (hn _ d1)), fun c => absurd c (by decide), fun c => absurd c (by decide), fun _ _ c => absurd rfl c⟩
  · exact ⟨fun c => absurd c (by decide), fun c => absurd c (by decide), fun c => absurd c (by decide), fun _ => a1_plain R W d1 fin, fun c => absurd c (by decide), fun _ _ _ c => absurd rfl c⟩
  · exact ⟨fun c => absurd c (by decide), fun c => absurd c (by decide), fun c => absurd c (by decide), fun c => absurd c (by decide), fun _ => a1_hand R W d1 fin, fun _ _ _ _ c => absurd rfl c⟩
theorem s_says (R : qRm r ρ) (M : qMR m ρ) (W : qW ρ) (S : qS sh m (ρ.1 1) σ) (s j : Int32) {post : Int32 → zS → Int32 → zS → Prop}
    (h : ∀ v, post v x v m)
    (hr : ∀ v k, k < 5 → post v (zA x 12 k (x.2.1 12 k + 1)) v (zA m 8 (k + 2) (m.2.1 8 (k + 2) + 1))) :
    wp_X7_says x sh r s j (fun v x' => wp_X8_says m s j (fun v' m' => post v x' v' m')) := by
  have hc := R.1.2.2
  simp only [wp_X7_says, wp_X7_says_14, wp_X8_says, wp_X8_says_24, e7_isShelf, e7_isKind, e8_inI (lo := 0) (hi := 7) (a := 0) (b := 7) rfl rfl, e8_inI (lo := 0) (hi := 5) (a := 0) (b := 5) rfl rfl, e7_r2, e8_r2, e7_r3, e8_r3, e7_r4]
  cases a : qI 0 7 s
  · simp only [q_f]; exact hr _ 0 (by decide)
  cases b : qI 0 5 j
  · simp only [q_t, q_f]; exact hr _ 0 (by decide)
  obtain ⟨s, hs, rfl⟩ := qI07 a
  obtain ⟨j, hj, rfl⟩ := qI_n (by decide) b
  have hj : j < 6 := by omega
  have vs : vp_in (nI s) 8 := q_in hs (by omega)
  have S1 := S.2 s hs
  have a3 := S1.2.1
  simp only [q_t, vs, true_and, forall_eq, q_clamp (n := s) (by omega), e2_row S1 S.1, e2_pup S1 S.1, S1.1, nI_k1 (a := σ s 0) (by omega), nI_k2 (a := σ s 0) (by omega)]
  have t3 : σ s 0 = 0 ∨ σ s 0 = 1 ∨ σ s 0 = 2 := by omega
  rcases t3 with z | z | z
  · rw [z]
    show (qz false = 0 → _) ∧ (¬ qz false = 0 → _)
    rw [q_f]
    show (qz false = 0 → _) ∧ (¬ qz false = 0 → _)
    rw [q_f, q_neg (by decide), q_neg (by decide)]
    unfold wp_X8_says_98
    rw [q_clamp (by omega), S1.1, z, q_pos (by decide), e8_r4]
    exact ⟨vs, hr _ 2 (by decide)⟩
  · rw [z]
    show (qz true = 0 → _) ∧ (¬ qz true = 0 → _)
    rw [q_t, q_pos rfl]
    exact hr _ 1 (by decide)
  · obtain ⟨d1, d2, d3⟩ := S1.2.2.2.2 z
    have hw := W.2.1 (σ s 3) d1
    have vp : vp_in (nI (σ s 3)) 12 := q_in (by omega) (by omega)
    rw [z]
    show (qz false = 0 → _) ∧ (¬ qz false = 0 → _)
    rw [q_f]
    show (qz true = 0 → _) ∧ (¬ qz true = 0 → _)
    rw [q_t, e2_held S1 S.1 z]
    refine q1_kindAt R d1 ?_
    rw [e7_isUnder W d1 hj]
    -- the reference's words
    have w8 : ∀ (P : Int32 → zS → Prop), P (nI (qwd ρ (σ s 3) j)) m → wp_X8_says_98 (nI s) (nI j) P m := by
      intro P hP
      unfold wp_X8_says_98
      rw [q_clamp (by omega), S1.1, z, q_neg (by decide)]
      refine ⟨vs, vs, ?_⟩
      rw [q_all, d3, q_nz (by omega), nI_k1 (by omega), nI_k2 (by omega), nI_k3 (by omega), nI_k4 (by omega), nI_k5 (by omega), q_clamp (by omega), (M.2.1 _ d1).2.1, (M.2.1 _ d1).2.2.1]
      have c6 : j = 0 ∨ j = 1 ∨ j = 2 ∨ j = 3 ∨ j = 4 ∨ j = 5 := by omega
      rcases c6 with g | g | g | g | g | g <;> subst g
      · exact ⟨fun _ => ⟨vp, hP⟩, fun c => absurd c (by decide), fun c => absurd c (by decide), fun c => absurd c (by decide), fun c => absurd c (by decide), fun c => absurd c (by decide), fun c => absurd rfl c⟩
      · exact ⟨fun c => absurd c (by decide), fun _ => a8_plain M W d1 hP, fun c => absurd c (by decide), fun c => absurd c (by decide), fun c => absurd c (by decide), fun c => absurd c (by decide), fun _ c => absurd rfl c⟩
      · exact ⟨fun c => absurd c (by decide), fun c => absurd c (by decide), fun _ => q8_beside M (qW_L W) d1 (q8_bits (qN_lt hc _) hP), fun c => absurd c (by decide), fun c => absurd c (by decide), fun c => absurd c (by decide), fun _ _ c => absurd rfl c⟩
      · exact ⟨fun c => absurd c (by decide), fun c => absurd c (by decide), fun c => absurd c (by decide), fun _ => ⟨vp, hP⟩, fun c => absurd c (by decide), fun c => absurd c (by decide), fun _ _ _ c => absurd rfl c⟩
      · exact ⟨fun c => absurd c (by decide), fun c => absurd c (by decide), fun c => absurd c (by decide), fun c => absurd c (by decide), fun _ => a8_plain M W d1 hP, fun c => absurd c (by decide), fun _ _ _ _ c => absurd rfl c⟩
      · exact ⟨fun c => absurd c (by decide), fun c => absurd c (by decide), fun c => absurd c (by decide), fun c => absurd c (by decide), fun c => absurd c (by decide), fun _ => a8_hand M W d1 hP, fun _ _ _ _ _ c => absurd rfl c⟩
    -- the reference's guard
    have g8 : ∀ (P : Int32 → zS → Prop), (qun ρ (σ s 3) j = true → P (nI (qwd ρ (σ s 3) j)) m) → (qun ρ (σ s 3) j = false → P (-3) (zA m 8 3 (m.2.1 8 3 + 1))) →
        ((2 : Nat) = 1 → P (-3) (zA m 8 3 (m.2.1 8 3 + 1))) ∧ (¬ (2 : Nat) = 1 → ((2 : Nat) = 2 → vp_in (m.2.1 5 s) 12 ∧ (((nI j = 0 → wp_X8_says_98 (nI s) (nI j) P m) ∧ (¬ nI j = 0 → (m.2.1 11 (m.2.1 5 s).toNatClampNeg = nI j → wp_X8_says_98 (nI s) (nI j) P m) ∧ (¬ m.2.1 11 (m.2.1 5 s).toNatClampNeg = nI j → (nI j = 2 → wp_X8_reads (m.2.1 11 (m.2.1 5 s).toNatClampNeg) (fun v26 => (v26 = 0 → wp_X8_says_91 (nI s) (nI j) P m) ∧ (¬ v26 = 0 → wp_X8_says_98 (nI s) (nI j) P m))) ∧ (¬ nI j = 2 → wp_X8_says_91 (nI s) (nI j) P m)))))) ∧ (¬ (2 : Nat) = 2 → wp_X8_says_98 (nI s) (nI j) P m)) := by
      intro P h1 h0
      rw [q_neg (by decide), q_pos rfl]
      have e91 : qun ρ (σ s 3) j = false → wp_X8_says_91 (nI s) (nI j) P m := fun c => by
        unfold wp_X8_says_91
        rw [e8_r3]; exact h0 c
      rw [d3, q_clamp (by omega), (M.2.1 _ d1).1, q_nz (by omega), nI_k2 (by omega), nI_eq (a := ρ.2 5 (σ s 3)) (b := j) (by omega) (by omega), e8_reads hw.1]
      refine ⟨vp, fun c => w8 P (h1 ?_), fun c => ⟨fun c2 => w8 P (h1 ?_), fun c2 => ⟨fun c3 => q_br (fun c4 => w8 P (h1 ?_)) (fun c4 => e91 ?_), fun c3 => e91 ?_⟩⟩⟩
      · unfold qun; rw [decide_eq_true c]; simp
      · unfold qun; rw [decide_eq_true c2]; rfl
      · unfold qun; rw [decide_eq_true c3]
        have : qrd ρ (σ s 3) = true := c4
        rw [this]; simp
      · unfold qun; rw [decide_eq_false c, decide_eq_false c2, decide_eq_true c3]
        have : qrd ρ (σ s 3) = false := c4
        rw [this]; rfl
      · unfold qun; rw [decide_eq_false c, decide_eq_false c2, decide_eq_false c3]; rfl
    refine q_br (fun cu => ?_) (fun cu => ?_)
    · have key : ∀ Q : Int32 → Prop, Q (nI (qwd ρ (σ s 3) j)) → wp_X7_wordOf x r (nI (σ s 3)) (nI j) Q := by
        intro Q hQ
        exact e7_word R W d1 hj hQ
      exact key _ (g8 _ (fun _ => h _) (fun c => by rw [cu] at c; cases c))
    · exact g8 (fun v' m' => post (-3) (zA x 12 1 (x.2.1 12 1 + 1)) v' m') (fun c => by rw [cu] at c; cases c) (fun _ => hr _ 1 (by decide))
/-- pairs that are barred, twice -/
def qbp (ρ : (Nat → Nat) × (Nat → Nat → Nat)) : Nat → Nat
  | 0 => 0
  | i + 1 => qbp ρ i + qpop (ρ.2 8 i)
theorem a1_pairs (R : qRm r ρ) (W : qW ρ) {post : Int32 → Prop} (h : post (nI (qbp ρ (ρ.1 1)) / (2 : Int32))) : wp_X1_barredPairs r post := by
  have hc := R.1.2.2
  refine q_lp2 (B := wb_X1_barredPairs_4 r post) (fun q a i => ∃ j, j + q = ρ.1 1 ∧ i = nI j ∧ a = nI (qbp ρ j)) ?_ (ρ.1 1) _ _ ⟨0, by omega, rfl, rfl⟩
  rintro q _ _ ⟨j, hj, rfl, rfl⟩ K hK
  unfold wb_X1_barredPairs_4
  rw [R.1.1 1 (by decide)]
  by_cases e : nI (ρ.1 1) ≤ nI j
  · have := (q_leN (by omega) (by omega)).mp e
    have : j = ρ.1 1 := by omega
    rw [q_pos e, this]; exact h
  · have e' : ¬ ρ.1 1 ≤ j := fun z => e ((q_leN (by omega) (by omega)).mpr z)
    rw [q_neg e]
    refine q1_barredOf R (fun p hp ep => ?_) (fun hn => absurd rfl (hn j (by omega)))
    rw [← (nI_eq (by omega) (by omega)).mp ep]
    refine q_bitCount (W.2.1 j (by omega)).2.2.2 ?_
    rw [q_all, q_all, nI_add, q_succ]
    exact hK (q - 1) _ _ (by omega) ⟨j + 1, by omega, rfl, rfl⟩
theorem a8_pairs (M : qMR m ρ) (W : qW ρ) (p : Int32) {post : Int32 → Prop} (h : post (nI (qbp ρ (ρ.1 1)) / (2 : Int32))) : ∃ n : Nat, wp_X8_status_76 m p post n (0 : Int32) (0 : Int32) := by
  have hc := M.2.2
  refine q_lp2 (B := wb_X8_status_76 m p post) (fun q a i => ∃ j, j + q = ρ.1 1 ∧ i = nI j ∧ a = nI (qbp ρ j)) ?_ (ρ.1 1) _ _ ⟨0, by omega, rfl, rfl⟩
  rintro q _ _ ⟨j, hj, rfl, rfl⟩ K hK
  unfold wb_X8_status_76
  rw [M.1.2.1]
  by_cases e : nI (ρ.1 1) ≤ nI j
  · have := (q_leN (by omega) (by omega)).mp e
    have : j = ρ.1 1 := by omega
    rw [q_pos e, this]; exact h
  · have e' : ¬ ρ.1 1 ≤ j := fun z => e ((q_leN (by omega) (by omega)).mpr z)
    rw [q_neg e, q_clamp (by omega), (M.2.1 j (by omega)).2.2.2]
    refine ⟨q_in (by omega) (by omega), q8_bits (W.2.1 j (by omega)).2.2.2 ?_⟩
    rw [q_all, q_all, nI_add, q_succ]
    exact hK (q - 1) _ _ (by omega) ⟨j + 1, by omega, rfl, rfl⟩
/-- shelves that hold something -/
def qsu' (σ : Nat → Nat → Nat) : Nat → Nat
  | 0 => 0
  | i + 1 => qsu' σ i + (if σ i 0 = 0 then 0 else 1)
theorem a7_used {n : Nat} (S : qS sh m n σ) {post : Int32 → Prop} (h : post (nI (qsu' σ 8))) : wp_X7_shelvesInUse x sh post := by
  refine q_lp2 (B := wb_X7_shelvesInUse_4 x sh post) (fun q a i => ∃ j, j + q = 8 ∧ i = nI j ∧ a = nI (qsu' σ j)) ?_ 8 _ _ ⟨0, by omega, rfl, rfl⟩
  rintro q _ _ ⟨j, hj, rfl, rfl⟩ K hK
  unfold wb_X7_shelvesInUse_4 wp_X7_shelvesInUse_26
  by_cases e : (8 : Int32) ≤ nI j
  · have := (nI_leI (a := 8) (by decide) (by omega)).mp e
    have : j = 8 := by omega
    rw [q_pos e, this]; exact h
  · have e' : ¬ 8 ≤ j := fun z => e ((nI_leI (a := 8) (by decide) (by omega)).mpr z)
    have vj : vp_in (nI j) 8 := q_in (by omega) (by omega)
    have S1 := S.2 j (by omega)
    have a3 := S1.2.1
    have h12 := S.1
    have eq : ((sh j).1 0 = (-1 : Int32)) = (σ j 0 = 0) := by
      have t3 : σ j 0 = 0 ∨ σ j 0 = 1 ∨ σ j 0 = 2 := by omega
      rcases t3 with z | z | z
      · rw [S1.2.2.1 z, z]; simp
      · obtain ⟨d1, d2, -⟩ := S1.2.2.2.1 z
        rw [d1, z]
        exact propext ⟨fun c => absurd c (q_not1 (by omega)), fun c => by omega⟩
      · obtain ⟨d1, d2, -⟩ := S1.2.2.2.2 z
        rw [d2, z]
        exact propext ⟨fun c => absurd c (q_not1 (by omega)), fun c => by omega⟩
    simp only [q_neg e, vj, true_and, forall_eq, q_clamp (n := j) (by omega), eq, q_succ]
    refine ⟨fun c => hK (q - 1) _ _ (by omega) ⟨j + 1, by omega, rfl, ?_⟩, fun c => hK (q - 1) _ _ (by omega) ⟨j + 1, by omega, rfl, ?_⟩⟩
    · show _ = nI (qsu' σ j + (if σ j 0 = 0 then 0 else 1)); rw [if_pos c, Nat.add_zero]
    · show _ = nI (qsu' σ j + (if σ j 0 = 0 then 0 else 1)); rw [if_neg c]
theorem a8_used {n : Nat} (S : qS sh m n σ) (p : Int32) {post : Int32 → Prop} (h : post (nI (qsu' σ 8))) : ∃ n : Nat, wp_X8_status_148 m p post n (0 : Int32) (0 : Int32) := by
  refine q_lp2 (B := wb_X8_status_148 m p post) (fun q a i => ∃ j, j + q = 8 ∧ i = nI j ∧ a = nI (qsu' σ j)) ?_ 8 _ _ ⟨0, by omega, rfl, rfl⟩
  rintro q _ _ ⟨j, hj, rfl, rfl⟩ K hK
  unfold wb_X8_status_148 wp_X8_status_169
  by_cases e : (8 : Int32) ≤ nI j
  · have := (nI_leI (a := 8) (by decide) (by omega)).mp e
    have : j = 8 := by omega
    rw [q_pos e, this]; exact h
  · have e' : ¬ 8 ≤ j := fun z => e ((nI_leI (a := 8) (by decide) (by omega)).mpr z)
    have vj : vp_in (nI j) 8 := q_in (by omega) (by omega)
    have S1 := S.2 j (by omega)
    have a3 := S1.2.1
    have z0 : nI (qsu' σ j) + (0 : Int32) = nI (qsu' σ j + 0) := nI_add _ 0
    simp only [q_neg e, vj, true_and, forall_eq, q_clamp (n := j) (by omega), S1.1, q_nz (a := σ j 0) (by omega), q_succ, z0]
    refine ⟨fun c => hK (q - 1) _ _ (by omega) ⟨j + 1, by omega, rfl, ?_⟩, fun c => hK (q - 1) _ _ (by omega) ⟨j + 1, by omega, rfl, ?_⟩⟩
    · show _ = nI (qsu' σ j + (if σ j 0 = 0 then 0 else 1)); rw [if_pos c]
    · show _ = nI (qsu' σ j + (if σ j 0 = 0 then 0 else 1)); rw [if_neg c]
theorem s_status (R : qRm r ρ) (M : qMR m ρ) (W : qW ρ) (S : qS sh m (ρ.1 1) σ) (T : qTr u m) (Y : qTp y m) (F : qRf x m) (p : Int32) {post : Int32 → Int32 → Prop} (h : ∀ v, post v v) :
    wp_X7_status x sh u y r p (fun v => wp_X8_status m p (fun v' => post v v')) := by
  obtain ⟨n, bb, cc, ⟨t1, t2, t3, t4⟩, ⟨t5, t6, t7⟩, t8⟩ := T
  obtain ⟨nt, y1, y2, y3, y4⟩ := Y
  unfold wp_X7_status
  refine ⟨fun c => ?_, fun c => ?_, fun c => ?_, fun c => ?_, fun c => ?_, fun c => ?_, fun c => ?_, fun c => ?_, fun c => ?_, fun c => ?_, fun c => ?_, fun c => ?_, fun c0 c1 c2 c3 c4 c5 c6 c7 c8 c9 c10 c11 => ?_⟩
  · subst c; exact ⟨fun _ => (by rw [R.1.1 0 (by decide), M.1.1]; exact h _), fun c => absurd c (by decide), fun c => absurd c (by decide), fun c => absurd c (by decide), fun c => absurd c (by decide), fun c => absurd c (by decide), fun c => absurd c (by decide), fun c => absurd c (by decide), fun c => absurd c (by decide), fun c => absurd c (by decide), fun c => absurd c (by decide), fun c => absurd c (by decide), fun c0 c1 c2 c3 c4 c5 c6 c7 c8 c9 c10 c11 => absurd rfl c0⟩
  · subst c; exact ⟨fun c => absurd c (by decide), fun _ => (by rw [R.1.1 1 (by decide), M.1.2.1]; exact h _), fun c => absurd c (by decide), fun c => absurd c (by decide), fun c => absurd c (by decide), fun c => absurd c (by decide), fun c => absurd c (by decide), fun c => absurd c (by decide), fun c => absurd c (by decide), fun c => absurd c (by decide), fun c => absurd c (by decide), fun c => absurd c (by decide), fun c0 c1 c2 c3 c4 c5 c6 c7 c8 c9 c10 c11 => absurd rfl c1⟩
  · subst c; exact a1_pairs R W ⟨fun c => absurd c (by decide), fun c => absurd c (by decide), fun _ => a8_pairs M W _ (h _), fun c => absurd c (by decide), fun c => absurd c (by decide), fun c => absurd c (by decide), fun c => absurd c (by decide), fun c => absurd c (by decide), fun c => absurd c (by decide), fun c => absurd c (by decide), fun c => absurd c (by decide), fun c => absurd c (by decide), fun c0 c1 c2 c3 c4 c5 c6 c7 c8 c9 c10 c11 => absurd rfl c2⟩
  · subst c; exact ⟨fun c => absurd c (by decide), fun c => absurd c (by decide), fun c => absurd c (by decide), fun _ => (by rw [R.1.1 2 (by decide), M.1.2.2.1]; exact h _), fun c => absurd c (by decide), fun c => absurd c (by decide), fun c => absurd c (by decide), fun c => absurd c (by decide), fun c => absurd c (by decide), fun c => absurd c (by decide), fun c => absurd c (by decide), fun c => absurd c (by decide), fun c0 c1 c2 c3 c4 c5 c6 c7 c8 c9 c10 c11 => absurd rfl c3⟩
  · subst c; exact ⟨fun c => absurd c (by decide), fun c => absurd c (by decide), fun c => absurd c (by decide), fun c => absurd c (by decide), fun _ => (by rw [R.1.1 3 (by decide), M.1.2.2.2.1]; exact h _), fun c => absurd c (by decide), fun c => absurd c (by decide), fun c => absurd c (by decide), fun c => absurd c (by decide), fun c => absurd c (by decide), fun c => absurd c (by decide), fun c => absurd c (by decide), fun c0 c1 c2 c3 c4 c5 c6 c7 c8 c9 c10 c11 => absurd rfl c4⟩
  · subst c; exact ⟨fun c => absurd c (by decide), fun c => absurd c (by decide), fun c => absurd c (by decide), fun c => absurd c (by decide), fun c => absurd c (by decide), fun _ => (by rw [R.1.1 4 (by decide), M.1.2.2.2.2]; exact h _), fun c => absurd c (by decide), fun c => absurd c (by decide), fun c => absurd c (by decide), fun c => absurd c (by decide), fun c => absurd c (by decide), fun c => absurd c (by decide), fun c0 c1 c2 c3 c4 c5 c6 c7 c8 c9 c10 c11 => absurd rfl c5⟩
  · subst c; exact ⟨fun c => absurd c (by decide), fun c => absurd c (by decide), fun c => absurd c (by decide), fun c => absurd c (by decide), fun c => absurd c (by decide), fun c => absurd c (by decide), fun _ => (by rw [t1]; exact h _), fun c => absurd c (by decide), fun c => absurd c (by decide), fun c => absurd c (by decide), fun c => absurd c (by decide), fun c => absurd c (by decide), fun c0 c1 c2 c3 c4 c5 c6 c7 c8 c9 c10 c11 => absurd rfl c6⟩
  · subst c; exact ⟨fun c => absurd c (by decide), fun c => absurd c (by decide), fun c => absurd c (by decide), fun c => absurd c (by decide), fun c => absurd c (by decide), fun c => absurd c (by decide), fun c => absurd c (by decide), fun _ => (by rw [t3]; exact h _), fun c => absurd c (by decide), fun c => absurd c (by decide), fun c => absurd c (by decide), fun c => absurd c (by decide), fun c0 c1 c2 c3 c4 c5 c6 c7 c8 c9 c10 c11 => absurd rfl c7⟩
  · subst c; exact ⟨fun c => absurd c (by decide), fun c => absurd c (by decide), fun c => absurd c (by decide), fun c => absurd c (by decide), fun c => absurd c (by decide), fun c => absurd c (by decide), fun c => absurd c (by decide), fun c => absurd c (by decide), fun _ => (by rw [t4]; exact h _), fun c => absurd c (by decide), fun c => absurd c (by decide), fun c => absurd c (by decide), fun c0 c1 c2 c3 c4 c5 c6 c7 c8 c9 c10 c11 => absurd rfl c8⟩
  · subst c; exact ⟨fun c => absurd c (by decide), fun c => absurd c (by decide), fun c => absurd c (by decide), fun c => absurd c (by decide), fun c => absurd c (by decide), fun c => absurd c (by decide), fun c => absurd c (by decide), fun c => absurd c (by decide), fun c => absurd c (by decide), fun _ => (by rw [y2, y3]; exact h _), fun c => absurd c (by decide), fun c => absurd c (by decide), fun c0 c1 c2 c3 c4 c5 c6 c7 c8 c9 c10 c11 => absurd rfl c9⟩
  · subst c; exact ⟨fun c => absurd c (by decide), fun c => absurd c (by decide), fun c => absurd c (by decide), fun c => absurd c (by decide), fun c => absurd c (by decide), fun c => absurd c (by decide), fun c => absurd c (by decide), fun c => absurd c (by decide), fun c => absurd c (by decide), fun c => absurd c (by decide), fun _ => (by rw [t2]; exact h _), fun c => absurd c (by decide), fun c0 c1 c2 c3 c4 c5 c6 c7 c8 c9 c10 c11 => absurd rfl c10⟩
  · subst c; exact a7_used S ⟨fun c => absurd c (by decide), fun c => absurd c (by decide), fun c => absurd c (by decide), fun c => absurd c (by decide), fun c => absurd c (by decide), fun c => absurd c (by decide), fun c => absurd c (by decide), fun c => absurd c (by decide), fun c => absurd c (by decide), fun c => absurd c (by decide), fun c => absurd c (by decide), fun _ => a8_used S _ (h _), fun c0 c1 c2 c3 c4 c5 c6 c7 c8 c9 c10 c11 => absurd rfl c11⟩
  · have m8 : ∀ (P : Int32 → Prop), (qI 12 16 p = true → vp_in (p - (10 : Int32)) 8 ∧ P (m.2.1 8 (p - (10 : Int32)).toNatClampNeg)) → (qI 12 16 p = false → P (-1)) → wp_X8_status m p P := by
      intro P h1 h0
      refine ⟨fun c => absurd c c0, fun c => absurd c c1, fun c => absurd c c2, fun c => absurd c c3, fun c => absurd c c4, fun c => absurd c c5, fun c => absurd c c6, fun c => absurd c c7, fun c => absurd c c8, fun c => absurd c c9, fun c => absurd c c10, fun c => absurd c c11, fun _ _ _ _ _ _ _ _ _ _ _ _ => ?_⟩
      rw [e8_inI (lo := 12) (hi := 16) (a := 12) (b := 16) rfl rfl]
      exact q_br h1 h0
    have sub12 : ∀ k, k < 5 → nI (12 + k) - (12 : Int32) = nI k ∧ nI (12 + k) - (10 : Int32) = nI (k + 2) := by decide +kernel
    unfold wp_X7_refusalsOf
    cases c : qI 12 16 p
    · have c' := qI_f.mp c
      have no : post (-1) (-1) := h _
      have m8' := m8 (fun v' => post (-1) v') (fun c2 => by rw [c] at c2; cases c2) (fun _ => no)
      refine ⟨fun _ => m8', fun d => ⟨fun _ => m8', fun e => ?_⟩⟩
      exfalso
      rw [q_ltI, q_zero] at d
      rw [q_leI] at e
      have e : ¬ (5 : Int) ≤ (p - 12).toInt := e
      have hb : (p - 12).toInt = (p.toInt - 12).bmod (2 ^ 32) := Int32.toInt_sub p 12
      have p1 := p.toInt_lt
      have p2 := Int32.le_toInt p
      rw [hb] at d e
      rw [Int.bmod_def] at d e
      omega
    · have c' := qI_t.mp c
      obtain ⟨k, hk, rfl⟩ := qI_n (by decide) c
      obtain ⟨k, rfl⟩ : ∃ k', k = 12 + k' := ⟨k - 12, by omega⟩
      have hk5 : k < 5 := by omega
      obtain ⟨s1, s2⟩ := sub12 k hk5
      have d1 : ¬ nI k < 0 := by rw [q_ltI, q_zero, nI_toInt (by omega)]; omega
      have d2 : ¬ (5 : Int32) ≤ nI k := fun z => by have := (nI_leI (a := 5) (by decide) (by omega)).mp z; omega
      rw [s1, q_neg d1, q_neg d2, q_clamp (by omega), F k hk5]
      refine ⟨q_in hk5 (by omega), m8 _ (fun _ => ?_) (fun c2 => by rw [c] at c2; cases c2)⟩
      rw [s2, q_clamp (by omega)]
      exact ⟨q_in (by omega) (by omega), h _⟩
end QSAY
