/-! shelves -/
theorem z_L {r : zS} {k j k' j' : Nat} {x : Int64} : (zL r k j x).2.2 k' j' = if k' = k ∧ j' = j then x else r.2.2 k' j' := by
  show va_up r.2.2 k (vp_updL (r.2.2 k) j x) k' j' = _
  unfold va_up vp_updL
  by_cases h : k' = k
  · subst h; by_cases g : j' = j <;> simp [g]
  · simp [h]
theorem z_L1 {r : zS} {k j : Nat} {x : Int64} : (zL r k j x).1 = r.1 := rfl
theorem z_L2 {r : zS} {k j : Nat} {x : Int64} : (zL r k j x).2.1 = r.2.1 := rfl
theorem z_up {α : Type} {f : Nat → α} {k j : Nat} {x : α} : va_up f k x j = if j = k then x else f j := rfl
/-- one shelf: σ has what it holds (0 nothing, 1 a row, 2 a pupil), sort, size, pupil -/
def qS1 (h m : zS) (s n : Nat) (σ : Nat → Nat) : Prop :=
  m.2.1 0 s = nI (σ 0) ∧ σ 0 < 3 ∧ (σ 0 = 0 → h.1 0 = (-1 : Int32)) ∧
  (σ 0 = 1 → h.1 0 = nI (σ 1) ∧ σ 1 < 5 ∧ h.1 1 = nI (σ 2) ∧ σ 2 ≤ 40 ∧ m.2.1 1 s = nI (σ 1) ∧ m.2.1 2 s = nI (σ 2) ∧ ∀ i, i < σ 2 → h.2.2 2 i = m.2.2 (100 + s) i) ∧
  (σ 0 = 2 → σ 3 < n ∧ h.1 0 = nI (10 + σ 3) ∧ m.2.1 5 s = nI (σ 3))
def qS (sh : Nat → zS) (m : zS) (n : Nat) (σ : Nat → Nat → Nat) : Prop := n ≤ 12 ∧ ∀ s, s < 8 → qS1 (sh s) m s n (σ s)
theorem qS1_fr {h m m' : zS} {s n : Nat} {σ : Nat → Nat} (S : qS1 h m s n σ) (h0 : m'.2.1 0 s = m.2.1 0 s) (h1 : m'.2.1 1 s = m.2.1 1 s) (h2 : m'.2.1 2 s = m.2.1 2 s) (h5 : m'.2.1 5 s = m.2.1 5 s) (hl : ∀ i, m'.2.2 (100 + s) i = m.2.2 (100 + s) i) : qS1 h m' s n σ := by
  obtain ⟨a, b, c, d, e⟩ := S
  refine ⟨by rw [h0]; exact a, b, c, fun z => ?_, fun z => ?_⟩
  · obtain ⟨d1, d2, d3, d4, d5, d6, d7⟩ := d z
    exact ⟨d1, d2, d3, d4, by rw [h1]; exact d5, by rw [h2]; exact d6, fun i hi => by rw [hl]; exact d7 i hi⟩
  · obtain ⟨e1, e2, e3⟩ := e z
    exact ⟨e1, e2, by rw [h5]; exact e3⟩
theorem qS_fr {sh : Nat → zS} {m m' : zS} {n : Nat} {σ : Nat → Nat → Nat} {a b : Nat} (S : qS sh m n σ) (F : qFr a b m m') (ha : 6 ≤ a) (hb : b ≤ 100) : qS sh m' n σ :=
  ⟨S.1, fun s hs => qS1_fr (S.2 s hs) (by rw [(F 0 (by omega)).2.1]) (by rw [(F 1 (by omega)).2.1]) (by rw [(F 2 (by omega)).2.1]) (by rw [(F 5 (by omega)).2.1]) (fun i => by rw [(F (100 + s) (by omega)).2.2])⟩
theorem qS_n {sh : Nat → zS} {m : zS} {n n' : Nat} {σ : Nat → Nat → Nat} (S : qS sh m n σ) (h : n ≤ n') (h' : n' ≤ 12) : qS sh m n' σ :=
  ⟨h', fun s hs => ⟨(S.2 s hs).1, (S.2 s hs).2.1, (S.2 s hs).2.2.1, (S.2 s hs).2.2.2.1, fun z => ⟨Nat.lt_of_lt_of_le ((S.2 s hs).2.2.2.2 z).1 h, ((S.2 s hs).2.2.2.2 z).2⟩⟩⟩
/-- the reference has changed its shelves alone -/
def qFs (m m' : zS) : Prop := m'.1 = m.1 ∧ ∀ k, 6 ≤ k → m'.2.1 k = m.2.1 k
theorem qFs_rf {m : zS} : qFs m m := ⟨rfl, fun _ _ => rfl⟩
theorem qFs_tr {m m' m'' : zS} (h : qFs m m') (h' : qFs m' m'') : qFs m m'' := ⟨h'.1.trans h.1, fun k hk => (h'.2 k hk).trans (h.2 k hk)⟩
theorem qFs_L {m m' : zS} (h : qFs m m') (k j : Nat) (x : Int64) : qFs m (zL m' k j x) := ⟨h.1, h.2⟩
theorem qFs_A {m m' : zS} (h : qFs m m') {k : Nat} (hk : k < 6) (j : Nat) (x : Int32) : qFs m (zA m' k j x) := ⟨h.1, fun i hi => by
  rw [← h.2 i hi]; funext t; rw [z_A, if_neg (by omega)]⟩
theorem e2_row {h m : zS} {s n : Nat} {σ : Nat → Nat} (S : qS1 h m s n σ) (hn : n ≤ 12) {post : Int32 → Prop} : wp_X2_holdsRow h post = post (qz (decide (σ 0 = 1))) := by
  have e : wp_X2_holdsRow h post = post (qz (qI 0 4 (h.1 0))) := e_rng rfl rfl
  rw [e]
  congr 2
  have h3 := S.2.1
  have : σ 0 = 0 ∨ σ 0 = 1 ∨ σ 0 = 2 := by omega
  rcases this with z | z | z
  · rw [S.2.2.1 z, z]; decide
  · obtain ⟨d1, d2, -⟩ := S.2.2.2.1 z
    rw [d1, z, qI_t.mpr (by rw [nI_toInt (by omega)]; omega)]; rfl
  · obtain ⟨d1, d2, -⟩ := S.2.2.2.2 z
    rw [d2, z, qI_f.mpr (by rw [nI_toInt (by omega)]; omega)]; rfl
theorem e2_pup {h m : zS} {s n : Nat} {σ : Nat → Nat} (S : qS1 h m s n σ) (hn : n ≤ 12) {post : Int32 → Prop} : wp_X2_holdsPupil h post = post (qz (decide (σ 0 = 2))) := by
  unfold wp_X2_holdsPupil
  have h3 := S.2.1
  have : σ 0 = 0 ∨ σ 0 = 1 ∨ σ 0 = 2 := by omega
  have h10 : (10 : Int32) = nI 10 := rfl
  rcases this with z | z | z
  · rw [S.2.2.1 z, z, q_pos (by decide)]; rfl
  · obtain ⟨d1, d2, -⟩ := S.2.2.2.1 z
    rw [d1, z, h10, q_pos ((nI_ltI (by omega) (by omega)).mpr (by omega))]; rfl
  · obtain ⟨d1, d2, -⟩ := S.2.2.2.2 z
    rw [d2, z, h10, q_neg (fun c => by have := (nI_ltI (by omega) (by omega)).mp c; omega)]; rfl
theorem e2_held {h m : zS} {s n : Nat} {σ : Nat → Nat} (S : qS1 h m s n σ) (hn : n ≤ 12) (z : σ 0 = 2) {post : Int32 → Prop} : wp_X2_heldPupil h post = post (nI (σ 3)) := by
  unfold wp_X2_heldPupil
  obtain ⟨d1, d2, -⟩ := S.2.2.2.2 z
  have k : ∀ p, p < 12 → nI (10 + p) - (10 : Int32) = nI p := by decide +kernel
  rw [e2_pup S hn, z, show decide (2 = 2) = true from rfl, q_t, d2, k _ (by omega)]
/-- what is put into a row of a sort -/
def qft (k : Nat) (v : Int64) : Int64 := if k = 0 then v.toInt32.toInt8.toInt32.toInt64 else if k = 1 then v.toInt32.toInt16.toInt32.toInt64 else if k = 2 then v.toInt32.toInt64 else if k = 3 then v else if lg_cmp v 0 = 0 then 0 else 1
theorem e8_fit {k : Nat} (hk : k < 5) {v : Int64} {post : Int64 → Prop} : wp_X8_fit (nI k) v post = post (qft k v) := by
  unfold wp_X8_fit
  rw [q_nz (by omega), nI_k1 (by omega), nI_k2 (by omega), nI_k3 (by omega)]
  have : k = 0 ∨ k = 1 ∨ k = 2 ∨ k = 3 ∨ k = 4 := by omega
  rcases this with z | z | z | z | z <;> subst z <;> simp [qft]
  by_cases c : lg_cmp v 0 = 0
  · rw [q_pos c, if_pos c]
  · rw [q_neg c, if_neg c]
theorem e2_nar {h : zS} {k : Nat} (hk : k < 5) (e : h.1 0 = nI k) {v : Int64} {post : Int64 → Prop} : wp_X2_narrowed h v post = post (qft k v) := by
  unfold wp_X2_narrowed
  rw [e, q_nz (by omega), nI_k1 (by omega), nI_k2 (by omega), nI_k3 (by omega), nI_k4 (by omega)]
  have : k = 0 ∨ k = 1 ∨ k = 2 ∨ k = 3 ∨ k = 4 := by omega
  rcases this with z | z | z | z | z <;> subst z <;> simp [qft]
  by_cases c : lg_cmp v 0 = 0
  · rw [q_pos c, if_pos c]
  · rw [q_neg c, if_neg c]
/-- why two shelves aren't both rows -/
def qrf (a b : Nat) : Int32 := if a = 2 ∨ b = 2 then -3 else if a = 0 ∨ b = 0 then -4 else 0
theorem e7_rowsFault {x m : zS} {sh : Nat → zS} {n : Nat} {σ : Nat → Nat → Nat} (S : qS sh m n σ) {s t : Nat} (hs : s < 8) (ht : t < 8) {post : Int32 → Prop} : wp_X7_rowsFault x sh (nI s) (nI t) post = post (qrf (σ s 0) (σ t 0)) := by
  have vs : vp_in (nI s) 8 := q_in hs (by omega)
  have vt : vp_in (nI t) 8 := q_in ht (by omega)
  have is : qI 0 7 (nI s) = true := qI_t.mpr (by rw [nI_toInt (by omega)]; omega)
  have it : qI 0 7 (nI t) = true := qI_t.mpr (by rw [nI_toInt (by omega)]; omega)
  have S1 := S.2 s hs
  have S2 := S.2 t ht
  simp only [wp_X7_rowsFault, e7_isShelf, is, it, q_t, vs, vt, true_and, forall_eq, q_clamp (n := s) (by omega), q_clamp (n := t) (by omega), e2_row S1 S.1, e2_row S2 S.1, e2_pup S1 S.1, e2_pup S2 S.1]
  have a3 := S1.2.1
  have b3 := S2.2.1
  have : σ s 0 = 0 ∨ σ s 0 = 1 ∨ σ s 0 = 2 := by omega
  have : σ t 0 = 0 ∨ σ t 0 = 1 ∨ σ t 0 = 2 := by omega
  unfold qrf
  rcases ‹σ s 0 = 0 ∨ σ s 0 = 1 ∨ σ s 0 = 2› with z | z | z <;> rcases this with y | y | y <;> rw [z, y] <;> simp [q_t, q_f]
theorem qI07 {p : Int32} (h : qI 0 7 p = true) : ∃ s, s < 8 ∧ p = nI s := by
  obtain ⟨k, hk, e⟩ := qI_n (by decide) h
  exact ⟨k, by omega, e⟩
theorem e8_size {z : Nat} (hz : z ≤ 40) : ((nI z - (1 : Int32)).toInt64).toInt = (z : Int) - 1 := by
  have k : ∀ n, n < 41 → (nI n - (1 : Int32)).toInt = (n : Int) - 1 := by decide +kernel
  rw [q_64, k z (by omega)]
theorem s_row {x m : zS} {sh : Nat → zS} {n : Nat} {σ : Nat → Nat → Nat} (S : qS sh m n σ) (s k z : Int32) {post : Int32 → zS → (Nat → zS) → Int32 → zS → Prop}
    (h : ∀ v sh' m' σ', qS sh' m' n σ' → qFs m m' → post v x sh' v m')
    (hr : ∀ v k, k < 5 → post v (zA x 12 k (x.2.1 12 k + 1)) sh v (zA m 8 (k + 2) (m.2.1 8 (k + 2) + 1))) :
    wp_X7_row x sh s k z (fun v x' sh' => wp_X8_row m s k z (fun v' m' => post v x' sh' v' m')) := by
  have rb : ((qI 0 7 s && qI 0 4 k) && qI 0 40 z) = false → wp_X8_row m s k z (fun v' m' => post (-2) (zA x 12 0 (x.2.1 12 0 + 1)) sh v' m') := fun c => by
    simp only [wp_X8_row, wp_X8_row_36, e8_inI (lo := 0) (hi := 7) (a := 0) (b := 7) rfl rfl, e8_inI (lo := 0) (hi := 4) (a := 0) (b := 4) rfl rfl, e8_inI (lo := 0) (hi := 40) (a := 0) (b := 40) rfl rfl, e8_r2]
    cases a : qI 0 7 s
    · simp only [q_f]; exact hr _ 0 (by decide)
    cases b : qI 0 4 k
    · simp only [q_f, q_t]; exact hr _ 0 (by decide)
    cases d : qI 0 40 z
    · simp only [q_f, q_t]; exact hr _ 0 (by decide)
    rw [a, b, d] at c; exact absurd c (by decide)
  have bad : ((qI 0 7 s && qI 0 4 k) && qI 0 40 z) = false → wp_X7_row_26 s k z (fun v x' sh' => wp_X8_row m s k z (fun v' m' => post v x' sh' v' m')) x sh := fun c => by
    simp only [wp_X7_row_26, e7_r2]
    exact rb c
  unfold wp_X7_row
  rw [e7_isShelf]
  refine q_br (fun a => ?_) (fun a => bad (by rw [a]; rfl))
  rw [e_rngA (lo := 0) (hi := 4) (a := 0) (b := 4) rfl rfl]
  refine q_br (fun b => ?_) (fun b => bad (by rw [b]; cases qI 0 7 s <;> rfl))
  refine ⟨fun d => bad ?_, fun d => ⟨fun e => ?_, fun e => bad ?_⟩⟩
  · have e40 : qI 0 40 z = false := qI_f.mpr (fun c => by rw [q_ltI, q_zero] at d; omega)
    rw [e40, Bool.and_false]
  · have hz : qI 0 40 z = true := qI_t.mpr ⟨by rw [q_ltI, q_zero] at d; omega, by rw [q_leI] at e; exact e⟩
    obtain ⟨s, hs, rfl⟩ := qI07 a
    obtain ⟨k, hk, rfl⟩ := qI_n (by decide) b
    obtain ⟨z, hz1, rfl⟩ := qI_n (by decide) hz
    have vs : vp_in (nI s) 8 := q_in hs (by omega)
    simp only [vs, true_and, forall_eq, q_clamp (n := s) (by omega), wp_X2_holdRow]
    have c1 : ¬ nI z < 0 := d
    have c2 : ¬ (40 : Int32) < nI z := fun c => by have := (nI_ltI (a := 40) (by decide) (by omega)).mp c; omega
    rw [q_neg c1, q_neg c2]
    unfold wp_X2_holdRow_21
    -- the class's loop
    have fin : ∀ h' : zS, h'.1 0 = nI k → h'.1 1 = nI z → (∀ i, i < 40 → h'.2.2 2 i = 0) → wp_X8_row m (nI s) (nI k) (nI z) (fun v' m' => post 1 x (va_up sh s h') v' m') := by
      intro h' e1 e2 e3
      simp only [wp_X8_row, e8_inI (lo := 0) (hi := 7) (a := 0) (b := 7) rfl rfl, e8_inI (lo := 0) (hi := 4) (a := 0) (b := 4) rfl rfl, e8_inI (lo := 0) (hi := 40) (a := 0) (b := 40) rfl rfl, a, b, hz, q_t, vs, true_and, forall_eq, q_clamp (n := s) (by omega)]
      refine q_lp2 (B := wb_X8_row_67 (nI s) (nI k) (nI z) _) (fun t m' i => ∃ j, j + t = 40 ∧ i = nI j ∧ m'.1 = m.1 ∧ m'.2.1 = (zA (zA (zA m 0 s 1) 1 s (nI k)) 2 s (nI z)).2.1 ∧ (∀ q, q ≠ 100 + s → m'.2.2 q = m.2.2 q) ∧ ∀ i, i < j → m'.2.2 (100 + s) i = 0) ?_ 40 _ _ ⟨0, by omega, rfl, rfl, rfl, fun _ _ => rfl, fun i hi => absurd hi (by omega)⟩
      rintro t m' _ ⟨j, hj, rfl, f1, f2, f3, f4⟩ K hK
      unfold wb_X8_row_67
      by_cases e : (40 : Int32) ≤ nI j
      · have := (nI_leI (a := 40) (by decide) (by omega)).mp e
        have : j = 40 := by omega
        subst this
        rw [q_pos e]
        refine h _ _ _ (fun s' => if s' = s then (fun f => if f = 0 then 1 else if f = 1 then k else z) else σ s') ⟨S.1, fun s' hs' => ?_⟩ ⟨f1, fun q hq => by rw [f2]; funext t'; rw [z_A, z_A, z_A, if_neg (by omega), if_neg (by omega), if_neg (by omega)]⟩
        by_cases g : s' = s
        · subst g
          rw [z_up, if_pos rfl]
          refine ⟨?_, by simp, by simp, fun _ => ?_, by simp⟩
          · rw [f2]; simp [z_A, nI]
          · simp only [if_pos, if_neg, f2]
            refine ⟨by simpa using e1, by simp; omega, by simpa using e2, by simp; omega, by simp [z_A], by simp [z_A], fun i hi => ?_⟩
            have hi : i < z := by simpa using hi
            rw [e3 i (by omega), f4 i (by omega)]
        · rw [z_up, if_neg g]
          simp only [if_neg g]
          refine qS1_fr (S.2 s' hs') ?_ ?_ ?_ ?_ (fun i => by rw [f3 _ (by omega)]) <;> rw [f2] <;> simp [z_A, g]
      · have e' : ¬ 40 ≤ j := fun c => e ((nI_leI (a := 40) (by decide) (by omega)).mpr c)
        have vj : vp_in (nI j) 40 := q_in (by omega) (by omega)
        simp only [q_neg e, vs, vj, true_and, forall_eq, q_clamp (n := s) (by omega), q_clamp (n := j) (by omega), q_succ]
        refine hK (t - 1) _ _ (by omega) ⟨j + 1, by omega, rfl, f1, f2, fun q hq => ?_, fun i hi => ?_⟩
        · funext i; rw [z_L, if_neg (by omega), f3 q hq]
        · rw [z_L]
          by_cases c : i = j
          · rw [if_pos ⟨rfl, c⟩]
          · rw [if_neg (by omega)]; exact f4 i (by omega)
    refine q_lp2 (B := wb_X2_holdRow_26 (nI k) (nI z) _) (fun t h' i => ∃ j, j + t = 40 ∧ i = nI j ∧ h'.1 0 = nI k ∧ h'.1 1 = nI z ∧ ∀ i, i < j → h'.2.2 2 i = 0) ?_ 40 _ _ ⟨0, by omega, rfl, rfl, rfl, fun i hi => absurd hi (by omega)⟩
    rintro t h' _ ⟨j, hj, rfl, f1, f2, f3⟩ K hK
    unfold wb_X2_holdRow_26
    by_cases e : (40 : Int32) ≤ nI j
    · have := (nI_leI (a := 40) (by decide) (by omega)).mp e
      have : j = 40 := by omega
      subst this
      rw [q_pos e]
      exact fin h' f1 f2 f3
    · have e' : ¬ 40 ≤ j := fun c => e ((nI_leI (a := 40) (by decide) (by omega)).mpr c)
      have vj : vp_in (nI j) 40 := q_in (by omega) (by omega)
      simp only [q_neg e, vj, true_and, forall_eq, q_clamp (n := j) (by omega), q_succ]
      refine hK (t - 1) _ _ (by omega) ⟨j + 1, by omega, rfl, f1, f2, fun i hi => ?_⟩
      rw [z_L]
      by_cases c : i = j
      · rw [if_pos ⟨rfl, c⟩]
      · rw [if_neg (by omega)]; exact f3 i (by omega)
  · have e40 : qI 0 40 z = false := qI_f.mpr (fun c => e (by rw [q_leI]; exact c.2))
    rw [e40, Bool.and_false]
theorem e8_noRow {m : zS} {sh : Nat → zS} {n : Nat} {σ : Nat → Nat → Nat} (S : qS sh m n σ) {s : Nat} (hs : s < 8) {post : Int32 → zS → Prop} (h0 : σ s 0 = 1 → post 0 m) (h2 : σ s 0 = 2 → post (-3) (zA m 8 3 (m.2.1 8 3 + 1))) (h1 : σ s 0 = 0 → post (-4) (zA m 8 4 (m.2.1 8 4 + 1))) : wp_X8_noRow m (nI s) post := by
  have vs : vp_in (nI s) 8 := q_in hs (by omega)
  have is : qI 0 7 (nI s) = true := qI_t.mpr (by rw [nI_toInt (by omega)]; omega)
  have S1 := S.2 s hs
  have a3 := S1.2.1
  simp only [wp_X8_noRow, e8_inI (lo := 0) (hi := 7) (a := 0) (b := 7) rfl rfl, is, q_t, vs, true_and, q_clamp (n := s) (by omega), S1.1, nI_k2 (a := σ s 0) (by omega), q_nz (a := σ s 0) (by omega), e8_r3, e8_r4]
  exact ⟨h2, fun c => ⟨h1, fun d => h0 (by omega)⟩⟩
theorem s_set {x m : zS} {sh : Nat → zS} {n : Nat} {σ : Nat → Nat → Nat} (S : qS sh m n σ) (s i : Int32) (v : Int64) {post : Int32 → zS → (Nat → zS) → Int32 → zS → Prop}
    (h : ∀ v sh' m' σ', qS sh' m' n σ' → qFs m m' → post v x sh' v m')
    (hr : ∀ v k, k < 5 → post v (zA x 12 k (x.2.1 12 k + 1)) sh v (zA m 8 (k + 2) (m.2.1 8 (k + 2) + 1))) :
    wp_X7_set x sh s i v (fun v1 x' sh' => wp_X8_set m s i v (fun v' m' => post v1 x' sh' v' m')) := by
  unfold wp_X7_set wp_X7_rowFault
  rw [e7_isShelf, e7_r2]
  refine q_br (fun a => ?_) (fun a => ?_)
  rotate_left
  · simp only [wp_X8_set, wp_X8_noRow, e8_inI (lo := 0) (hi := 7) (a := 0) (b := 7) rfl rfl, a, q_f, e8_r2, q_neg (p := (-2 : Int32) = 0) (by decide)]
    exact hr _ 0 (by decide)
  obtain ⟨s, hs, rfl⟩ := qI07 a
  have vs : vp_in (nI s) 8 := q_in hs (by omega)
  have S1 := S.2 s hs
  have a3 := S1.2.1
  rw [e7_rowsFault S hs hs]
  unfold qrf
  have t3 : σ s 0 = 0 ∨ σ s 0 = 1 ∨ σ s 0 = 2 := by omega
  rcases t3 with z | z | z
  · rw [if_neg (by omega), if_pos (by omega)]
    dsimp only
    rw [q_neg (by decide), e7_r4]
    unfold wp_X8_set
    refine e8_noRow S hs (fun c => by omega) (fun c => by omega) (fun _ => ?_)
    rw [q_neg (by decide)]
    exact hr _ 2 (by decide)
  · rw [if_neg (by omega), if_neg (by omega)]
    dsimp only
    rw [q_pos rfl]
    obtain ⟨d1, d2, d3, d4, d5, d6, d7⟩ := S1.2.2.2.1 z
    have bad : qI 0 ((σ s 2 : Int) - 1) i = false → wp_X7_set_50 (nI s) i v (fun v1 x' sh' => wp_X8_set m (nI s) i v (fun v' m' => post v1 x' sh' v' m')) x sh := fun c => by
      simp only [wp_X7_set_50, e7_r2]
      unfold wp_X8_set
      refine e8_noRow S hs (fun _ => ?_) (fun c => by omega) (fun c => by omega)
      rw [q_pos rfl]
      refine ⟨vs, ?_⟩
      rw [q_clamp (by omega), d6, e8_inI (a := 0) rfl (e8_size d4), c, q_f, e8_r2]
      exact hr _ 0 (by decide)
    refine ⟨fun c => bad (qI_f.mpr (fun e => by rw [q_ltI, q_zero] at c; omega)), fun c => ⟨vs, fun k8 hk8 => ?_⟩⟩
    rw [q_clamp (by omega)] at hk8
    subst hk8
    rw [d3]
    refine ⟨fun e => ⟨vs, fun k10 hk10 => ?_⟩, fun e => bad (qI_f.mpr (fun g => e (by rw [q_ltI, nI_toInt (by omega)]; omega)))⟩
    rw [q_clamp (by omega)] at hk10
    subst hk10
    have c' : ¬ i.toInt < 0 := by rw [q_ltI, q_zero] at c; exact c
    have hi : qI 0 ((σ k10 2 : Int) - 1) i = true := qI_t.mpr (by rw [q_ltI, nI_toInt (by omega)] at e; omega)
    obtain ⟨i, hi1, rfl⟩ := qI_n (by decide) hi
    have vi : vp_in (nI i) 40 := q_in (by omega) (by omega)
    unfold wp_X2_put
    have e' : ¬ nI (σ k10 2) ≤ nI i := fun g => by have := (q_leN (by omega) (by omega)).mp g; omega
    rw [q_neg c, d3, q_neg e', e2_nar d2 d1]
    simp only [vi, true_and, forall_eq, q_clamp (n := i) (by omega)]
    unfold wp_X8_set
    refine e8_noRow S hs (fun _ => ?_) (fun c => by omega) (fun c => by omega)
    rw [q_pos rfl]
    refine ⟨vs, ?_⟩
    rw [q_clamp (by omega), d6, e8_inI (a := 0) rfl (e8_size d4), hi, q_t]
    simp only [vs, vi, true_and, forall_eq, q_clamp (n := k10) (by omega), d5, e8_fit d2, q_clamp (n := i) (by omega)]
    refine h _ _ _ σ ⟨S.1, fun s' hs' => ?_⟩ (qFs_L qFs_rf _ _ _)
    by_cases g : s' = k10
    · subst g
      rw [z_up, if_pos rfl]
      refine ⟨S1.1, S1.2.1, S1.2.2.1, fun _ => ⟨d1, d2, d3, d4, d5, d6, fun j hj => ?_⟩, S1.2.2.2.2⟩
      rw [z_L, z_L]
      by_cases g : j = i
      · rw [if_pos ⟨rfl, g⟩, if_pos ⟨rfl, g⟩]
      · rw [if_neg (by omega), if_neg (by omega)]; exact d7 j hj
    · rw [z_up, if_neg g]
      exact qS1_fr (S.2 s' hs') rfl rfl rfl rfl (fun j => by rw [z_L, if_neg (by omega)])
  · rw [if_pos (by omega)]
    dsimp only
    rw [q_neg (by decide), e7_r3]
    unfold wp_X8_set
    refine e8_noRow S hs (fun c => by omega) (fun _ => ?_) (fun c => by omega)
    rw [q_neg (by decide)]
    exact hr _ 1 (by decide)
theorem s_element {x m : zS} {sh : Nat → zS} {n : Nat} {σ : Nat → Nat → Nat} (S : qS sh m n σ) (s i : Int32) {post : Int64 → Int64 → Prop} (h : ∀ v, post v v) :
    wp_X7_element x sh s i (fun v => wp_X8_element m s i (fun v' => post v v')) := by
  simp only [wp_X7_element, wp_X8_element, e7_isShelf, e8_inI (lo := 0) (hi := 7) (a := 0) (b := 7) rfl rfl]
  cases a : qI 0 7 s
  · simp only [q_f]; exact h _
  obtain ⟨s, hs, rfl⟩ := qI07 a
  have vs : vp_in (nI s) 8 := q_in hs (by omega)
  have S1 := S.2 s hs
  have a3 := S1.2.1
  simp only [q_t, vs, true_and, forall_eq, q_clamp (n := s) (by omega), e2_row S1 S.1, S1.1, nI_k1 (a := σ s 0) (by omega)]
  by_cases z : σ s 0 = 1
  · obtain ⟨d1, d2, d3, d4, d5, d6, d7⟩ := S1.2.2.2.1 z
    simp only [decide_eq_true z, q_t, q_pos z, d6, e8_inI (lo := 0) (a := 0) rfl (e8_size d4), wp_X2_cell, d3]
    cases b : qI 0 ((σ s 2 : Int) - 1) i
    · simp only [q_f]
      have b' := qI_f.mp b
      refine ⟨fun _ => h _, fun c => ⟨fun _ => h _, fun e => ?_⟩⟩
      rw [q_ltI, q_zero] at c
      rw [q_leI, nI_toInt (by omega)] at e
      omega
    · obtain ⟨i, hi, rfl⟩ := qI_n (by decide) b
      have vi : vp_in (nI i) 40 := q_in (by omega) (by omega)
      have c1 : ¬ nI i < 0 := by rw [q_ltI, q_zero, nI_toInt (by omega)]; omega
      have c2 : ¬ nI (σ s 2) ≤ nI i := fun g => by have := (q_leN (by omega) (by omega)).mp g; omega
      simp only [q_t, q_neg c1, q_neg c2, vi, true_and, q_clamp (n := i) (by omega)]
      rw [d7 i (by omega)]; exact h _
  · simp only [decide_eq_false z, q_f, q_neg z]; exact h _
theorem s_holds {x m : zS} {sh : Nat → zS} {n : Nat} {σ : Nat → Nat → Nat} (S : qS sh m n σ) (s : Int32) {post : Int32 → Int32 → Prop} (h : ∀ v, post v v) :
    wp_X7_holds x sh s (fun v => wp_X8_holds m s (fun v' => post v v')) := by
  simp only [wp_X7_holds, wp_X8_holds, e7_isShelf, e8_inI (lo := 0) (hi := 7) (a := 0) (b := 7) rfl rfl]
  cases a : qI 0 7 s
  · simp only [q_f]; exact h _
  obtain ⟨s, hs, rfl⟩ := qI07 a
  have vs : vp_in (nI s) 8 := q_in hs (by omega)
  have S1 := S.2 s hs
  have a3 := S1.2.1
  simp only [q_t, vs, true_and, forall_eq, q_clamp (n := s) (by omega), S1.1, nI_k1 (a := σ s 0) (by omega), q_nz (a := σ s 0) (by omega)]
  have t3 : σ s 0 = 0 ∨ σ s 0 = 1 ∨ σ s 0 = 2 := by omega
  rcases t3 with z | z | z
  · rw [q_pos z, S1.2.2.1 z]; exact h _
  · obtain ⟨d1, d2, d3, d4, d5, d6, d7⟩ := S1.2.2.2.1 z
    rw [q_neg (by omega), q_pos z, d1, d5]; exact h _
  · obtain ⟨d1, d2, d3⟩ := S1.2.2.2.2 z
    rw [q_neg (by omega), q_neg (by omega), d2, d3]
    have : (10 : Int32) + nI (σ s 3) = nI (10 + σ s 3) := nI_add 10 _
    rw [this]; exact h _
theorem s_show {x r m : zS} {ρ : (Nat → Nat) × (Nat → Nat → Nat)} (R : qRm r ρ) (M : qMR m ρ) {sh : Nat → zS} {σ : Nat → Nat → Nat} (S : qS sh m (ρ.1 1) σ) (s p : Int32) {post : Int32 → zS → (Nat → zS) → Int32 → zS → Prop}
    (h : ∀ v sh' m' σ', qS sh' m' (ρ.1 1) σ' → qFs m m' → post v x sh' v m')
    (hr : ∀ v k, k < 5 → post v (zA x 12 k (x.2.1 12 k + 1)) sh v (zA m 8 (k + 2) (m.2.1 8 (k + 2) + 1))) :
    wp_X7_show x sh r s p (fun v x' sh' => wp_X8_show m s p (fun v' m' => post v x' sh' v' m')) := by
  have hc := R.1.2.2
  simp only [wp_X7_show, wp_X7_show_23, wp_X8_show, wp_X8_show_26, e7_isShelf, e8_inI (lo := 0) (hi := 7) (a := 0) (b := 7) rfl rfl, e7_r2, e8_r2, e1_has R.1, e8_isPupil M]
  cases a : qI 0 7 s
  · simp only [q_f]; exact hr _ 0 (by decide)
  obtain ⟨s, hs, rfl⟩ := qI07 a
  have vs : vp_in (nI s) 8 := q_in hs (by omega)
  have S1 := S.2 s hs
  simp only [q_t, wp_X7_show_30, wp_X8_show_33, wp_X8_show_48, wp_X2_holdPupil, wp_X2_holdPupil_13, vs, true_and, forall_eq, q_clamp (n := s) (by omega)]
  have oth : ∀ (h' : zS) (y y' : Int32) (f : Nat → Nat) (s' : Nat), s' < 8 → s' ≠ s → qS1 (va_up sh s h' s') (zA (zA m 0 s y) 5 s y') s' (ρ.1 1) (if s' = s then f else σ s') := by
    intro h' y y' f s' hs' g
    rw [z_up, if_neg g, if_neg g]
    exact qS1_fr (S.2 s' hs') (by simp [z_A, g]) (by simp [z_A]) (by simp [z_A]) (by simp [z_A, g]) (fun _ => rfl)
  by_cases c : p = (-1 : Int32)
  · subst c
    have c0 : ¬ 0 ≤ (-1 : Int32) := by decide
    simp only [q_pos (p := (-1 : Int32) = -1) rfl, q_neg c0, q_Tr, q_Fa]
    refine h _ _ _ (fun s' => if s' = s then (fun _ => 0) else σ s') ⟨hc, fun s' hs' => ?_⟩ (qFs_A (k := 5) (qFs_A (k := 0) qFs_rf (by decide) _ _) (by decide) _ _)
    by_cases g : s' = s
    · subst g
      simp only [z_up, if_pos]
      refine ⟨by simp [z_A, nI], by simp, fun _ => rfl, fun z => absurd z (by simp), fun z => absurd z (by simp)⟩
    · exact oth _ _ _ _ s' hs' g
  · simp only [q_neg c]
    cases b : qP ρ p
    · simp only [q_f]; exact hr _ 0 (by decide)
    obtain ⟨p, hp, rfl⟩ := qP_t b
    have c0 : 0 ≤ nI p := by rw [q_leI, q_zero, nI_toInt (by omega)]; omega
    have e10 : (10 : Int32) + nI p = nI (10 + p) := nI_add 10 p
    simp only [q_t, q_pos c0, e10]
    refine h _ _ _ (fun s' => if s' = s then (fun f => if f = 0 then 2 else p) else σ s') ⟨hc, fun s' hs' => ?_⟩ (qFs_A (k := 5) (qFs_A (k := 0) qFs_rf (by decide) _ _) (by decide) _ _)
    by_cases g : s' = s
    · subst g
      simp only [z_up, if_pos]
      refine ⟨by simp [z_A, nI], by simp, fun z => absurd z (by simp), fun z => absurd z (by simp), fun _ => ⟨by simpa using hp, rfl, by simp [z_A]⟩⟩
    · exact oth _ _ _ _ s' hs' g
