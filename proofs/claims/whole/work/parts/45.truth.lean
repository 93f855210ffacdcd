/-! the tape; what happened in truth -/
/-- the tapes hold the same -/
def qTp (y m : zS) : Prop := ∃ n : Nat, n ≤ 250 ∧ y.1 0 = nI n ∧ m.1 7 = nI n ∧ ∀ i, i < n → ∃ b : Nat, b < 256 ∧ y.2.1 1 i = nI b ∧ m.2.1 6 i = nI b
theorem qTp_fr {y m m' : zS} {a b : Nat} (T : qTp y m) (F : qFr a b m m') (h : b ≤ 6 ∨ 8 ≤ a) : qTp y m' := by
  obtain ⟨n, h1, h2, h3, h4⟩ := T
  refine ⟨n, h1, h2, by rw [(F 7 (by omega)).1]; exact h3, fun i hi => ?_⟩
  rw [(F 6 (by omega)).2.1]; exact h4 i hi
theorem s_feed {x y m : zS} (T : qTp y m) (v : Int32) {post : Int32 → zS → zS → Int32 → zS → Prop}
    (h : ∀ v y' m', qTp y' m' → qFr 6 8 m m' → post v x y' v m')
    (hr : ∀ v k, k < 5 → post v (zA x 12 k (x.2.1 12 k + 1)) y v (zA m 8 (k + 2) (m.2.1 8 (k + 2) + 1))) :
    wp_X7_feed x y v (fun v1 x' y' => wp_X8_feed m v (fun v' m' => post v1 x' y' v' m')) := by
  obtain ⟨n, hn, hy, hm, hb⟩ := T
  have bad : qI 0 255 v = false → wp_X7_feed_11 v (fun v1 x' y' => wp_X8_feed m v (fun v' m' => post v1 x' y' v' m')) x y := fun c => by
    simp only [wp_X7_feed_11, wp_X8_feed, e8_inI (lo := 0) (hi := 255) (a := 0) (b := 255) rfl rfl, e7_r2, e8_r2, c, q_f]
    exact hr _ 0 (by decide)
  unfold wp_X7_feed
  refine ⟨fun c => bad (qI_f.mpr (by rw [q_ltI, q_zero] at c; omega)), fun c => ⟨fun d => ?_, fun d => bad (qI_f.mpr (fun e => d (by rw [q_leI]; exact e.2)))⟩⟩
  have h1 : qI 0 255 v = true := qI_t.mpr ⟨by rw [q_ltI, q_zero] at c; omega, by rw [q_leI] at d; exact d⟩
  obtain ⟨b, hb1, rfl⟩ := qI_n (by decide) h1
  unfold wp_X3_add
  have c1 : ¬ nI n < 0 := by rw [q_ltI, nI_toInt (by omega), q_zero]; omega
  simp only [wp_X8_feed, e8_inI (lo := 0) (hi := 255) (a := 0) (b := 255) rfl rfl, h1, q_t, hy, hm, q_neg c1, e7_r6, e8_r6, forall_eq, q_succ]
  by_cases e : nI n < (250 : Int32)
  · have e' := (nI_ltI (b := 250) (by omega) (by decide)).mp e
    have e2 : ¬ nI n = (250 : Int32) := fun z => by rw [z] at e; exact absurd e (by decide)
    have hv : vp_in (nI n) 250 := q_in e' (by omega)
    have ey : (zA y 1 n (nI b)).1 0 = nI n := hy
    simp only [q_pos e, q_neg e2, hv, true_and, q_clamp (n := n) (by omega), ey, q_succ, q_1]
    refine h _ _ _ ⟨n + 1, e', rfl, rfl, fun i hi => ⟨if i = n then b else (if h : i < n then (hb i h).choose else 0), ?_⟩⟩ (qFr_A (qFr_I qFr_rf (by decide) _) (by decide) _ _)
    rw [z_A, z_Ia, z_A, z_Ia]
    by_cases g : i = n
    · rw [if_pos g, if_pos ⟨rfl, g⟩, if_pos ⟨rfl, g⟩]
      exact ⟨by omega, rfl, rfl⟩
    · have hi' : i < n := by omega
      rw [if_neg g, dif_pos hi', if_neg (by omega), if_neg (by omega)]
      exact (hb i hi').choose_spec
  · have e' : n = 250 := by
      have : ¬ n < 250 := fun z => e ((nI_ltI (b := 250) (by omega) (by decide)).mpr z)
      omega
    have e2 : nI n = (250 : Int32) := by rw [e']; rfl
    simp only [q_neg e, q_pos e2, q_0, q_Tr]
    exact hr _ 4 (by decide)
theorem s_wipe {x y m : zS} (T : qTp y m) {post : Int32 → zS → Int32 → zS → Prop}
    (h : ∀ v y' m', qTp y' m' → qFr 6 8 m m' → post v y' v m') :
    wp_X7_wipe x y (fun v1 y' => wp_X8_wipe m (fun v' m' => post v1 y' v' m')) := by
  obtain ⟨n, hn, hy, hm, hb⟩ := T
  unfold wp_X7_wipe wp_X8_wipe
  simp only [forall_eq, hy, hm]
  exact h _ _ _ ⟨0, by omega, rfl, rfl, fun i hi => absurd hi (by omega)⟩ (qFr_I qFr_rf (by decide) _)
/-- what happened in truth: the same on both sides -/
def qT (u m : zS) (n : Nat) (b : Nat → Nat) (c : Nat → Bool) : Prop :=
  (u.1 0 = m.1 18 ∧ u.1 1 = m.1 25 ∧ u.1 2 = m.1 19 ∧ u.1 3 = m.1 20) ∧ (n ≤ 16 ∧ u.1 4 = nI n ∧ m.1 21 = nI n) ∧
  ∀ i, i < n → u.2.1 5 i = m.2.1 22 i ∧ (u.2.1 6 i = nI (b i) ∧ m.2.1 23 i = nI (b i) ∧ b i < 2 ^ 12) ∧ u.2.1 7 i = qz (c i) ∧ m.2.1 24 i = qz (c i)
def qTr (u m : zS) : Prop := ∃ n b c, qT u m n b c
theorem qTr_fr {u m m' : zS} {a b : Nat} (T : qTr u m) (F : qFr a b m m') (h : b ≤ 18 ∨ 26 ≤ a) : qTr u m' := by
  obtain ⟨n, f, g, ⟨h1, h2, h3, h4⟩, ⟨h5, h6, h7⟩, h8⟩ := T
  refine ⟨n, f, g, ⟨?_, ?_, ?_, ?_⟩, ⟨h5, h6, ?_⟩, fun i hi => ?_⟩
  · rw [(F 18 (by omega)).1]; exact h1
  · rw [(F 25 (by omega)).1]; exact h2
  · rw [(F 19 (by omega)).1]; exact h3
  · rw [(F 20 (by omega)).1]; exact h4
  · rw [(F 21 (by omega)).1]; exact h7
  · rw [(F 22 (by omega)).2.1, (F 23 (by omega)).2.1, (F 24 (by omega)).2.1]; exact h8 i hi
theorem s_waits {x u m : zS} (T : qTr u m) (n : Int32) {post : Int32 → zS → zS → Int32 → zS → Prop}
    (h : ∀ v u' m', qTr u' m' → qFr 18 26 m m' → post v x u' v m')
    (hr : ∀ v k, k < 5 → post v (zA x 12 k (x.2.1 12 k + 1)) u v (zA m 8 (k + 2) (m.2.1 8 (k + 2) + 1))) :
    wp_X7_waits x u n (fun v1 x' y' => wp_X8_waits m n (fun v' m' => post v1 x' y' v' m')) := by
  obtain ⟨k, b, c, ⟨h1, h2, h3, h4⟩, h5, h6⟩ := T
  have bad : qI 1 999 n = false → wp_X7_waits_12 n (fun v1 x' y' => wp_X8_waits m n (fun v' m' => post v1 x' y' v' m')) x u := fun c => by
    simp only [wp_X7_waits_12, wp_X8_waits, e8_inI (lo := 1) (hi := 999) (a := 1) (b := 999) rfl rfl, e7_r2, e8_r2, c, q_f]
    exact hr _ 0 (by decide)
  unfold wp_X7_waits
  refine ⟨fun c => bad (qI_f.mpr (fun e => ?_)), fun c => ⟨fun d => ?_, fun d => bad (qI_f.mpr (fun e => d (by rw [q_leI]; exact e.2)))⟩⟩
  · rw [q_ltI] at c; have c : n.toInt < 1 := c; omega
  have q1 : qI 1 999 n = true := qI_t.mpr ⟨by rw [q_ltI] at c; have c : ¬ n.toInt < 1 := c; omega, by rw [q_leI] at d; exact d⟩
  simp only [wp_X8_waits, e8_inI (lo := 1) (hi := 999) (a := 1) (b := 999) rfl rfl, q1, q_t, forall_eq]
  have e : (zI u 0 (u.1 0 + n)).1 0 = (zI m 18 (m.1 18 + n)).1 18 := by rw [z_I, z_I, if_pos rfl, if_pos rfl, h1]
  rw [e]
  exact h _ _ _ ⟨k, b, _, ⟨e, h2, h3, h4⟩, h5, h6⟩ (qFr_I qFr_rf (by decide) _)
theorem s_seed {x u m : zS} (T : qTr u m) (n : Int32) {post : Int32 → zS → Int32 → zS → Prop}
    (h : ∀ v u' m', qTr u' m' → qFr 18 26 m m' → post v u' v m') :
    wp_X7_seed x u n (fun v1 y' => wp_X8_seed m n (fun v' m' => post v1 y' v' m')) := by
  obtain ⟨k, b, c, ⟨h1, h2, h3, h4⟩, h5, h6⟩ := T
  unfold wp_X7_seed wp_X8_seed
  simp only [forall_eq, h2]
  exact h _ _ _ ⟨k, b, c, ⟨h1, rfl, h3, h4⟩, h5, h6⟩ (qFr_I qFr_rf (by decide) _)
theorem e4_has {u : zS} {n : Nat} (hn : n ≤ 16) (hu : u.1 4 = nI n) {p : Int32} {post : Int32 → Prop} : wp_X4_hasNote u p post = post (qz (qI 0 ((n : Int) - 1) p)) := by
  unfold wp_X4_hasNote qI
  rw [q_ltI, q_leI, q_leI, hu, nI_toInt (by omega), q_zero]
  by_cases c : p.toInt < 0
  · rw [q_pos c, decide_eq_false (by omega)]; rfl
  · rw [q_neg c]
    by_cases d : (n : Int) ≤ p.toInt
    · rw [q_pos d, decide_eq_false (by omega)]; rfl
    · have : ¬ (16 : Int32).toInt ≤ p.toInt := by show ¬ (16 : Int) ≤ p.toInt; omega
      rw [q_neg d, q_neg this, decide_eq_true (by omega)]; rfl
theorem s_note {x u m : zS} (T : qTr u m) (p : Int32) {post : Int32 → zS → Int32 → zS → Prop}
    (h : ∀ v, post v x v m)
    (hr : ∀ v k, k < 5 → post v (zA x 12 k (x.2.1 12 k + 1)) v (zA m 8 (k + 2) (m.2.1 8 (k + 2) + 1))) :
    wp_X7_note x u p (fun v1 x' => wp_X8_note m p (fun v' m' => post v1 x' v' m')) := by
  obtain ⟨n, b, c, h1, ⟨h2, h3, h4⟩, h5⟩ := T
  simp only [wp_X7_note, wp_X8_note, wp_X4_allOf, e4_has h2 h3, e7_r2, e8_r2, e7_r5, e8_r5, h3, h4]
  have m1 : (-1 : Int32).toInt = -1 := rfl
  by_cases g : (-1 : Int32) ≤ p
  · simp only [q_pos g]
    rw [q_leI, m1] at g
    by_cases e : p = (-1 : Int32)
    · have l : p < nI n := by rw [e, q_ltI, nI_toInt (by omega), m1]; omega
      simp only [q_pos e, q_pos l]; exact h _
    · simp only [q_neg e]
      have e' : p.toInt ≠ -1 := fun z => e (Int32.toInt_inj.mp (z.trans m1.symm))
      cases k : qI 0 ((n : Int) - 1) p
      · have := qI_f.mp k
        have l : ¬ p < nI n := by rw [q_ltI, nI_toInt (by omega)]; omega
        simp only [q_f, q_neg l]; exact hr _ 3 (by decide)
      · have := qI_t.mp k
        have l : p < nI n := by rw [q_ltI, nI_toInt (by omega)]; omega
        obtain ⟨i, hi, rfl⟩ := qI_n (by decide) k
        have hv : vp_in (nI i) 16 := q_in (by omega) (by omega)
        simp only [q_t, q_pos l, hv, true_and, q_clamp (n := i) (by omega), (h5 i (by omega)).1]
        exact h _
  · simp only [q_neg g]; exact hr _ 0 (by decide)
theorem s_came {x u m : zS} (T : qTr u m) (p : Int32) {post : Int32 → zS → Int32 → zS → Prop}
    (h : ∀ v, post v x v m)
    (hr : ∀ v k, k < 5 → post v (zA x 12 k (x.2.1 12 k + 1)) v (zA m 8 (k + 2) (m.2.1 8 (k + 2) + 1))) :
    wp_X7_came x u p (fun v1 x' => wp_X8_came m p (fun v' m' => post v1 x' v' m')) := by
  obtain ⟨n, b, c, h1, ⟨h2, h3, h4⟩, h5⟩ := T
  simp only [wp_X7_came, wp_X8_came, wp_X4_hasCome, e4_has h2 h3, e7_r2, e8_r2, e7_r5, e8_r5, h3, h4]
  by_cases g : 0 ≤ p
  · simp only [q_pos g]
    rw [q_leI, q_zero] at g
    cases k : qI 0 ((n : Int) - 1) p
    · have := qI_f.mp k
      have l : nI n ≤ p := by rw [q_leI, nI_toInt (by omega)]; omega
      simp only [q_f, q_pos l]; exact hr _ 3 (by decide)
    · have := qI_t.mp k
      have l : ¬ nI n ≤ p := by rw [q_leI, nI_toInt (by omega)]; omega
      obtain ⟨i, hi, rfl⟩ := qI_n (by decide) k
      have hv : vp_in (nI i) 16 := q_in (by omega) (by omega)
      have hc := h5 i (by omega)
      simp only [q_t, q_neg l, hv, true_and, q_clamp (n := i) (by omega), hc.2.2.1, hc.2.2.2]
      cases c i
      · simp only [q_neg (p := qz false = (1 : Int32)) (by decide), q_Tr, q_0]; exact h _
      · simp only [q_pos (p := qz true = (1 : Int32)) (by decide), q_Fa, q_1]; exact h _
  · simp only [q_neg g]; exact hr _ 0 (by decide)
/-- in how many lost notes one was; whether he was in one that came -/
def qln (b : Nat → Nat) (c : Nat → Bool) (p : Nat) : Nat → Nat
  | 0 => 0
  | i + 1 => qln b c p i + (if (b i).testBit p && !c i then 1 else 0)
def qlc (b : Nat → Nat) (c : Nat → Bool) (p : Nat) : Nat → Bool
  | 0 => false
  | i + 1 => qlc b c p i || ((b i).testBit p && c i)
theorem qln_s (b : Nat → Nat) (c : Nat → Bool) (p i : Nat) : qln b c p (i + 1) = qln b c p i + (if (b i).testBit p && !c i then 1 else 0) := rfl
theorem qlc_s (b : Nat → Nat) (c : Nat → Bool) (p i : Nat) : qlc b c p (i + 1) = (qlc b c p i || ((b i).testBit p && c i)) := rfl
theorem qlc_mono {b : Nat → Nat} {c : Nat → Bool} {p i : Nat} (h : qlc b c p i = true) : ∀ j, i ≤ j → qlc b c p j = true := by
  intro j hj
  induction j with
  | zero => have : i = 0 := by omega
            subst this; exact h
  | succ j ih =>
    by_cases e : i = j + 1
    · rw [← e]; exact h
    · rw [qlc_s, ih (by omega)]; rfl
theorem qln_le (b : Nat → Nat) (c : Nat → Bool) (p i : Nat) : qln b c p i ≤ i := by
  induction i with
  | zero => exact Nat.le_refl 0
  | succ i ih => unfold qln; split <;> omega
theorem a4_lostBy {u m : zS} {n : Nat} {b : Nat → Nat} {c : Nat → Bool} (T : qT u m n b c) {p : Nat} (hp : p < 12) {post : Int32 → Prop}
    (h : post (nI (if qlc b c p n then 0 else qln b c p n))) : wp_X4_lostBy u (nI p) post := by
  obtain ⟨h1, ⟨h2, h3, h4⟩, h5⟩ := T
  refine q_lp2 (B := wb_X4_lostBy_4 u (nI p) post) (fun k a i => ∃ j, j + k = n ∧ i = nI j ∧ a = nI (qln b c p j) ∧ qlc b c p j = false) ?_ n 0 0 ⟨0, by omega, rfl, rfl, rfl⟩
  rintro k _ _ ⟨j, hj, rfl, rfl, hc⟩ K hK
  unfold wb_X4_lostBy_4 wp_X4_lostBy_46
  rw [h3]
  by_cases e : nI n ≤ nI j
  · have := (q_leN (by omega) (by omega)).mp e
    have : j = n := by omega
    subst this
    rw [q_pos e]
    rw [hc, if_neg (by decide)] at h; exact h
  · have e' : ¬ n ≤ j := fun z => e ((q_leN (by omega) (by omega)).mpr z)
    have e2 : ¬ (16 : Int32) ≤ nI j := fun z => by have := (nI_leI (a := 16) (by decide) (by omega)).mp z; omega
    have hv : vp_in (nI j) 16 := q_in (by omega) (by omega)
    obtain ⟨-, ⟨b1, b2, b3⟩, c1, c2⟩ := h5 j (by omega)
    rw [q_neg e, q_neg e2]
    simp only [hv, true_and, q_clamp (n := j) (by omega), b1, c1, forall_eq, q_bit0 (a := b j) (q := p) (Nat.lt_of_lt_of_le b3 (by decide)) (by omega), q_succ]
    have step : ∀ a, a = qln b c p (j + 1) → qlc b c p (j + 1) = false → K (nI a) (nI (j + 1)) := fun a ea hc' => hK (k - 1) _ _ (by omega) ⟨j + 1, by omega, rfl, by rw [ea], hc'⟩
    cases t : (b j).testBit p
    · rw [q_pos rfl]
      exact step _ (by rw [qln_s, t]; rfl) (by rw [qlc_s, t, hc]; rfl)
    · rw [q_neg (by decide)]
      cases d : c j
      · rw [q_neg (by decide)]
        exact step _ (by rw [qln_s, t, d]; rfl) (by rw [qlc_s, d, hc, t]; rfl)
      · rw [q_pos (by decide)]
        have : qlc b c p n = true := qlc_mono (i := j + 1) (by rw [qlc_s, t, d]; simp) n (by omega)
        rw [this] at h; exact h
/-- whom one suspects of the first i, and how many he lost -/
def qsu (n : Nat) (b : Nat → Nat) (c : Nat → Bool) : Nat → Int32 × Nat
  | 0 => (-1, 0)
  | i + 1 => if (if qlc b c i n then 0 else qln b c i n) ≤ (qsu n b c i).2 then qsu n b c i else (nI i, if qlc b c i n then 0 else qln b c i n)
theorem qsu_s (n : Nat) (b : Nat → Nat) (c : Nat → Bool) (i : Nat) : qsu n b c (i + 1) = if (if qlc b c i n then 0 else qln b c i n) ≤ (qsu n b c i).2 then qsu n b c i else (nI i, if qlc b c i n then 0 else qln b c i n) := rfl
theorem qsu_le (n : Nat) (b : Nat → Nat) (c : Nat → Bool) (i : Nat) : (qsu n b c i).2 ≤ n := by
  induction i with
  | zero => exact Nat.zero_le n
  | succ i ih =>
    rw [qsu_s]
    by_cases g : (if qlc b c i n = true then 0 else qln b c i n) ≤ (qsu n b c i).2
    · rw [if_pos g]; exact ih
    · rw [if_neg g]
      have := qln_le b c i n
      show (if qlc b c i n = true then 0 else qln b c i n) ≤ n
      split <;> omega
theorem a7_suspect {x r u m : zS} {ρ : (Nat → Nat) × (Nat → Nat → Nat)} (R : qRm r ρ) {n : Nat} {b : Nat → Nat} {c : Nat → Bool} (T : qT u m n b c) {post : Int32 → Prop}
    (h : post (qsu n b c (ρ.1 1)).1) : wp_X7_suspect x r u post := by
  have hc := R.1.2.2
  have hn := T.2.1.1
  refine q_lp3 (B := wb_X7_suspect_6 x r u post) (fun k a w i => ∃ j, j + k = ρ.1 1 ∧ i = nI j ∧ a = (qsu n b c j).1 ∧ w = nI (qsu n b c j).2) ?_ (ρ.1 1) _ _ _ ⟨0, by omega, rfl, rfl, rfl⟩
  rintro k _ _ _ ⟨j, hj, rfl, rfl, rfl⟩ K hK
  unfold wb_X7_suspect_6 wp_X7_suspect_38
  rw [R.1.1 1 (by decide)]
  by_cases e : nI (ρ.1 1) ≤ nI j
  · have := (q_leN (by omega) (by omega)).mp e
    have : j = ρ.1 1 := by omega
    rw [q_pos e, this]; exact h
  · have e' : ¬ ρ.1 1 ≤ j := fun z => e ((q_leN (by omega) (by omega)).mpr z)
    rw [q_neg e]
    refine a4_lostBy T (by omega) ?_
    have l1 := qsu_le n b c j
    have l2 : (if qlc b c j n = true then 0 else qln b c j n) ≤ n := by have := qln_le b c j n; split <;> omega
    simp only [forall_eq, q_succ]
    have step : ∀ a w, (qsu n b c (j + 1)) = (a, w) → K a (nI w) (nI (j + 1)) := fun a w ea => hK (k - 1) _ _ _ (by omega) ⟨j + 1, by omega, rfl, by rw [ea], by rw [ea]⟩
    by_cases g : (if qlc b c j n = true then 0 else qln b c j n) ≤ (qsu n b c j).2
    · rw [q_pos ((q_leN (by omega) (by omega)).mpr g)]
      exact step _ _ (by rw [qsu_s, if_pos g])
    · rw [q_neg (fun z => g ((q_leN (by omega) (by omega)).mp z))]
      exact step _ _ (by rw [qsu_s, if_neg g])
theorem a8_suspect {u m : zS} {ρ : (Nat → Nat) × (Nat → Nat → Nat)} (M : qMR m ρ) {n : Nat} {b : Nat → Nat} {c : Nat → Bool} (T : qT u m n b c) {post : Int32 → Prop}
    (h : post (qsu n b c (ρ.1 1)).1) : wp_X8_suspect m post := by
  have hc := M.2.2
  obtain ⟨h1, ⟨h2, h3, h4⟩, h5⟩ := T
  refine q_lp3 (B := wb_X8_suspect_6 m post) (fun k a w i => ∃ j, j + k = ρ.1 1 ∧ i = nI j ∧ a = (qsu n b c j).1 ∧ w = nI (qsu n b c j).2) ?_ (ρ.1 1) _ _ _ ⟨0, by omega, rfl, rfl, rfl⟩
  rintro k _ _ _ ⟨j, hj, rfl, rfl, rfl⟩ K hK
  unfold wb_X8_suspect_6
  rw [M.1.2.1]
  by_cases e : nI (ρ.1 1) ≤ nI j
  · have := (q_leN (by omega) (by omega)).mp e
    have : j = ρ.1 1 := by omega
    rw [q_pos e, this]; exact h
  · have e' : ¬ ρ.1 1 ≤ j := fun z => e ((q_leN (by omega) (by omega)).mpr z)
    rw [q_neg e]
    have step : ∀ a w, (qsu n b c (j + 1)) = (a, w) → wp_X8_suspect_118 m post K a (nI w) (nI j) := fun a w ea v hv => by
      rw [hv, q_succ]
      exact hK (k - 1) _ _ _ (by omega) ⟨j + 1, by omega, rfl, by rw [ea], by rw [ea]⟩
    refine q_lp6 (B := wb_X8_suspect_23 m post K) (fun k1 a w i l g t => ∃ j1, j1 + k1 = n ∧ t = nI j1 ∧ l = nI (qln b c j j1) ∧ g = qz (qlc b c j j1) ∧ i = nI j ∧ a = (qsu n b c j).1 ∧ w = nI (qsu n b c j).2) ?_ n _ _ _ _ _ _ ⟨0, by omega, rfl, rfl, rfl, rfl, rfl, rfl⟩
    rintro k1 _ _ _ _ _ _ ⟨j1, hj1, rfl, rfl, rfl, rfl, rfl, rfl⟩ K1 hK1
    unfold wb_X8_suspect_23
    rw [h4]
    have l1 := qsu_le n b c j
    have l2 := qln_le b c j n
    by_cases e1 : nI n ≤ nI j1
    · have := (q_leN (by omega) (by omega)).mp e1
      have : j1 = n := by omega
      subst this
      rw [q_pos e1]
      cases d : qlc b c j j1
      · rw [q_pos qz_f]
        by_cases g : qln b c j j1 ≤ (qsu j1 b c j).2
        · rw [q_pos ((q_leN (by omega) (by omega)).mpr g)]
          exact step _ _ (by rw [qsu_s, d]; exact if_pos g)
        · rw [q_neg (fun z => g ((q_leN (by omega) (by omega)).mp z))]
          exact step _ _ (by rw [qsu_s, d]; exact if_neg g)
      · rw [q_neg (by decide)]
        exact step _ _ (by rw [qsu_s, d]; exact if_pos (Nat.zero_le _))
    · have e1' : ¬ n ≤ j1 := fun z => e1 ((q_leN (by omega) (by omega)).mpr z)
      have hv : vp_in (nI j1) 16 := q_in (by omega) (by omega)
      obtain ⟨-, ⟨b1, b2, b3⟩, c1, c2⟩ := h5 j1 (by omega)
      rw [q_neg e1]
      simp only [hv, true_and, q_clamp (n := j1) (by omega), b2, c2]
      have stp : ∀ l g, l = qln b c j (j1 + 1) → g = qlc b c j (j1 + 1) → K1 (qsu n b c j).1 (nI (qsu n b c j).2) (nI j) (nI l) (qz g) (nI (j1 + 1)) := fun l g el eg => hK1 (k1 - 1) _ _ _ _ _ _ (by omega) ⟨j1 + 1, by omega, rfl, by rw [el], by rw [eg], rfl, rfl, rfl⟩
      have o0 : ∀ g : Bool, qz g ||| (0 : Int32) = qz g := by decide
      have o1 : ∀ g : Bool, qz g ||| (1 : Int32) = qz true := by decide
      refine q8_has (Nat.lt_of_lt_of_le b3 (by decide)) (by omega) (fun t => ?_) (fun t => ?_)
      · rw [q_1]
        cases d : c j1
        · rw [q_pos qz_f]
          simp only [wp_X8_suspect_67, wp_X8_suspect_92, wp_X8_suspect_93, q_neg (p := (1 : Int32) = 0) (by decide), hv, true_and, q_clamp (n := j1) (by omega), c2, d, q_neg (p := qz false = (1 : Int32)) (by decide), forall_eq, q_succ, o0]
          exact stp _ _ (by rw [qln_s, t, d]; rfl) (by rw [qlc_s, t, d]; simp)
        · rw [q_neg (by decide)]
          simp only [wp_X8_suspect_66, wp_X8_suspect_67, wp_X8_suspect_92, wp_X8_suspect_93, q_neg (p := (1 : Int32) = 0) (by decide), hv, true_and, q_clamp (n := j1) (by omega), c2, d, q_pos (p := qz true = (1 : Int32)) (by decide), forall_eq, q_succ, o1]
          have z0 : nI (qln b c j j1) + (0 : Int32) = nI (qln b c j j1 + 0) := nI_add _ 0
          rw [z0]
          exact stp _ _ (by rw [qln_s, t, d]; rfl) (by rw [qlc_s, t, d]; simp)
      · rw [q_0]
        simp only [wp_X8_suspect_66, wp_X8_suspect_67, wp_X8_suspect_92, wp_X8_suspect_93, q_pos (p := (0 : Int32) = 0) rfl, q_Tr, forall_eq, q_succ, o0]
        have z0 : nI (qln b c j j1) + (0 : Int32) = nI (qln b c j j1 + 0) := nI_add _ 0
        rw [z0]
        refine stp (qln b c j j1 + 0) (qlc b c j j1) ?_ ?_
        · rw [qln_s, t]; rfl
        · rw [qlc_s, t]; simp
