/-! a note in truth -/
section QSEND
variable {x r y k m u : zS} {ρ : (Nat → Nat) × (Nat → Nat → Nat)}
/-- a draw below 1000 -/
def qdr (e : Int32) : Int32 := (e.toUInt32 >>> (((16 : Int32)).toUInt32 &&& Int32.toUInt32 31)).toInt32 - (e.toUInt32 >>> (((16 : Int32)).toUInt32 &&& Int32.toUInt32 31)).toInt32 / (1000 : Int32) * (1000 : Int32)
/-- second, seed, whether it is lost, behind the first i hands -/
def qps (ρ : (Nat → Nat) × (Nat → Nat → Nat)) (B : List Nat) (s e : Int32) : Nat → Int32 × Int32 × Bool
  | 0 => (s, e, false)
  | i + 1 => if (qps ρ B s e i).2.2 then qps ρ B s e i else
      ((qps ρ B s e i).1 + nI (qtk ρ (qat B i)), (qps ρ B s e i).2.1 * (1103515245 : Int32) + (12345 : Int32), !(decide (nI (qla ρ (qat B (i + 1)) (decide (i + 1 = B.length - 1)) (qps ρ B s e i).1) ≤ qdr ((qps ρ B s e i).2.1 * (1103515245 : Int32) + (12345 : Int32)))))
theorem qps_s (B : List Nat) (s e : Int32) (i : Nat) : qps ρ B s e (i + 1) = if (qps ρ B s e i).2.2 then qps ρ B s e i else
      ((qps ρ B s e i).1 + nI (qtk ρ (qat B i)), (qps ρ B s e i).2.1 * (1103515245 : Int32) + (12345 : Int32), !(decide (nI (qla ρ (qat B (i + 1)) (decide (i + 1 = B.length - 1)) (qps ρ B s e i).1) ≤ qdr ((qps ρ B s e i).2.1 * (1103515245 : Int32) + (12345 : Int32))))) := rfl
theorem qps_stay {B : List Nat} {s e : Int32} {i : Nat} (h : (qps ρ B s e i).2.2 = true) : ∀ j, i ≤ j → qps ρ B s e j = qps ρ B s e i := by
  intro j hj
  induction j with
  | zero => have : i = 0 := by omega
            rw [this]
  | succ j ih =>
    by_cases c : i = j + 1
    · rw [c]
    · have := ih (by omega)
      rw [qps_s, this, if_pos h]
/-- one more is kept, the oldest is forgotten -/
def qn1 (n : Nat) : Nat := if n < 16 then n + 1 else 16
def qof (n : Nat) : Nat := if n < 16 then 0 else 1
def qKp (n : Nat) (f f' : Nat → Int32) (p : Int32) : Prop := ∀ i, i < qn1 n → f' i = if i + 1 = qn1 n then p else f (i + qof n)
theorem a4_keep {n : Nat} (hn : n ≤ 16) (hu : u.1 4 = nI n) (p1 p2 p3 : Int32) {post : zS → Prop} (h : ∀ u', (∀ j, j ≠ 4 → u'.1 j = u.1 j) → u'.1 4 = nI (qn1 n) → qKp n (u.2.1 5) (u'.2.1 5) p1 → qKp n (u.2.1 6) (u'.2.1 6) p2 → qKp n (u.2.1 7) (u'.2.1 7) p3 → post u') : wp_X4_keep u p1 p2 p3 post := by
  have fin : ∀ (u0 : zS) (j : Nat), j < 16 → u0.1 4 = nI j → (∀ u', u' = zI (zA (zA (zA u0 5 j p1) 6 j p2) 7 j p3) 4 (nI (j + 1)) → post u') → wp_X4_keep_60 p1 p2 p3 post u0 := by
    intro u0 j hj h4 hp
    have c1 : ¬ nI j < 0 := by rw [q_ltI, q_zero, nI_toInt (by omega)]; omega
    have hv : vp_in (nI j) 16 := q_in hj (by omega)
    unfold wp_X4_keep_60
    simp only [z_Ai, h4, q_neg c1, hv, true_and, forall_eq, q_clamp (n := j) (by omega), q_succ]
    exact hp _ rfl
  unfold wp_X4_keep
  rw [hu]
  by_cases c : n < 16
  · have c' : nI n < (16 : Int32) := (nI_ltI (b := 16) (by omega) (by decide)).mpr c
    have e1 : qn1 n = n + 1 := if_pos c
    have e2 : qof n = 0 := if_pos c
    rw [q_pos c']
    refine fin u n c hu (fun u' hu' => ?_)
    subst hu'
    refine h _ (fun j hj => ?_) ?_ (fun i hi => ?_) (fun i hi => ?_) (fun i hi => ?_)
    · rw [z_I, if_neg hj]; rfl
    · rw [z_I, if_pos rfl, e1]
    · rw [e1] at hi ⊢; rw [e2]; simp [z_Ia, z_A]
    · rw [e1] at hi ⊢; rw [e2]; simp [z_Ia, z_A]
    · rw [e1] at hi ⊢; rw [e2]; simp [z_Ia, z_A]
  · have hn16 : n = 16 := by omega
    have c' : ¬ nI n < (16 : Int32) := fun z => c ((nI_ltI (b := 16) (by omega) (by decide)).mp z)
    have e1 : qn1 n = 16 := if_neg c
    have e2 : qof n = 1 := if_neg c
    have hA : ((¬ (1 : Int32) < 0 ∧ ¬ (0 : Int32) < 0 ∧ ¬ (15 : Int32) < 0) ∧ (1 : Int32).toNatClampNeg + (15 : Int32).toNatClampNeg ≤ 16 ∧ (0 : Int32).toNatClampNeg + (15 : Int32).toNatClampNeg ≤ 16) := by decide
    have z0 : (0 : Int32).toNatClampNeg = 0 := rfl
    have z1 : (1 : Int32).toNatClampNeg = 1 := rfl
    have z15 : (15 : Int32).toNatClampNeg = 15 := rfl
    have cp : ∀ (f : Nat → Int32) i, i < 15 → va_cpy f f 1 0 15 i = f (i + 1) := fun f i hi => by
      rw [pk_cpy_in (by omega) (by omega)]; congr 1; omega
    rw [q_neg c']
    refine ⟨hA, fun g7 h7 => ⟨hA, fun g8 h8 => ⟨hA, fun g9 h9 => ?_⟩⟩⟩
    rw [z0, z1, z15] at h7 h8 h9
    refine fin _ 15 (by decide) rfl (fun u' hu' => ?_)
    subst hu'
    refine h _ (fun j hj => ?_) ?_ (fun i hi => ?_) (fun i hi => ?_) (fun i hi => ?_)
    · rw [z_I, if_neg hj]
      show (if j = 4 then _ else u.1 j) = _
      rw [if_neg hj]
    · rw [z_I, if_pos rfl, e1]
    · rw [e1] at hi ⊢
      rw [e2]
      simp only [z_Ia, z_A, z_G]
      by_cases g : i = 15
      · simp [g]
      · have g' : ¬ i + 1 = 16 := by omega
        rw [if_neg (by omega), if_neg (by omega), if_neg (by omega), if_neg g', if_neg (by omega), if_neg (by omega), if_pos trivial, h7, cp _ _ (by omega)]
    · rw [e1] at hi ⊢
      rw [e2]
      simp only [z_Ia, z_A, z_G]
      by_cases g : i = 15
      · simp [g]
      · have g' : ¬ i + 1 = 16 := by omega
        rw [if_neg (by omega), if_neg (by omega), if_neg (by omega), if_neg g', if_neg (by omega), if_pos trivial, h8, cp _ _ (by omega)]
        rfl
    · rw [e1] at hi ⊢
      rw [e2]
      simp only [z_Ia, z_A, z_G]
      by_cases g : i = 15
      · simp [g]
      · have g' : ¬ i + 1 = 16 := by omega
        rw [if_neg (by omega), if_neg (by omega), if_neg (by omega), if_neg g', if_pos trivial, h9, cp _ _ (by omega)]
        rfl
theorem a8_keep {n : Nat} (hn : n ≤ 16) (hm : m.1 21 = nI n) (p1 p2 p3 : Int32) {post : zS → Prop} (h : ∀ m', (∀ j, j ≠ 21 → m'.1 j = m.1 j) → m'.1 21 = nI (qn1 n) → qKp n (m.2.1 22) (m'.2.1 22) p1 → qKp n (m.2.1 23) (m'.2.1 23) p2 → qKp n (m.2.1 24) (m'.2.1 24) p3 → qFr 21 25 m m' → post m') : wp_X8_keepNote m p1 p2 p3 post := by
  have fin : ∀ (u0 : zS) (j : Nat), j < 16 → u0.1 21 = nI j → (∀ u', u' = zI (zA (zA (zA u0 22 j p1) 23 j p2) 24 j p3) 21 (nI (j + 1)) → post u') → wp_X8_keepNote_83 p1 p2 p3 post u0 := by
    intro u0 j hj h4 hp
    have hv : vp_in (nI j) 16 := q_in hj (by omega)
    unfold wp_X8_keepNote_83
    simp only [z_Ai, h4, hv, true_and, forall_eq, q_clamp (n := j) (by omega), q_succ]
    exact hp _ rfl
  have fr : ∀ (u0 : zS) (j : Nat), qFr 21 25 m u0 → qFr 21 25 m (zI (zA (zA (zA u0 22 j p1) 23 j p2) 24 j p3) 21 (nI (j + 1))) := fun u0 j f => qFr_I (k := 21) (qFr_A (k := 24) (qFr_A (k := 23) (qFr_A (k := 22) f (by decide) _ _) (by decide) _ _) (by decide) _ _) (by decide) _
  unfold wp_X8_keepNote
  rw [hm]
  by_cases c : n < 16
  · have c' : ¬ nI n = (16 : Int32) := fun z => by have := (nI_eq (b := 16) (by omega) (by decide)).mp z; omega
    have e1 : qn1 n = n + 1 := if_pos c
    have e2 : qof n = 0 := if_pos c
    rw [q_neg c']
    refine fin m n c hm (fun u' hu' => ?_)
    subst hu'
    refine h _ (fun j hj => ?_) ?_ (fun i hi => ?_) (fun i hi => ?_) (fun i hi => ?_) (fr m n qFr_rf)
    · rw [z_I, if_neg hj]; rfl
    · rw [z_I, if_pos rfl, e1]
    · rw [e1] at hi ⊢; rw [e2]; simp [z_Ia, z_A]
    · rw [e1] at hi ⊢; rw [e2]; simp [z_Ia, z_A]
    · rw [e1] at hi ⊢; rw [e2]; simp [z_Ia, z_A]
  · have hn16 : n = 16 := by omega
    have c' : nI n = (16 : Int32) := by rw [hn16]; rfl
    have e1 : qn1 n = 16 := if_neg c
    have e2 : qof n = 1 := if_neg c
    rw [q_pos c']
    refine q_lp2 (B := wb_X8_keepNote_12 p1 p2 p3 post) (fun q m' x4 => ∃ i, i + q = 15 ∧ x4 = nI (i + 1) ∧ m'.1 = m.1 ∧ qFr 21 25 m m' ∧ (∀ j, j < 16 → m'.2.1 22 j = if j < i then m.2.1 22 (j + 1) else m.2.1 22 j) ∧ (∀ j, j < 16 → m'.2.1 23 j = if j < i then m.2.1 23 (j + 1) else m.2.1 23 j) ∧ (∀ j, j < 16 → m'.2.1 24 j = if j < i then m.2.1 24 (j + 1) else m.2.1 24 j)) ?_ 15 _ _ ⟨0, by omega, rfl, rfl, qFr_rf, fun j _ => by rw [if_neg (by omega)], fun j _ => by rw [if_neg (by omega)], fun j _ => by rw [if_neg (by omega)]⟩
    rintro q m' _ ⟨i, hi, rfl, g1, gf, g2, g3, g4⟩ K hK
    unfold wb_X8_keepNote_12
    by_cases e : (16 : Int32) ≤ nI (i + 1)
    · have := (nI_leI (a := 16) (by decide) (by omega)).mp e
      have : i = 15 := by omega
      subst this
      have s15 : m'.1 21 - (1 : Int32) = nI 15 := by rw [g1, hm, hn16]; rfl
      rw [q_pos e, q_all, s15]
      refine fin _ 15 (by decide) rfl (fun u' hu' => ?_)
      subst hu'
      refine h _ (fun j hj => ?_) ?_ (fun i hi => ?_) (fun i hi => ?_) (fun i hi => ?_) (fr _ 15 (qFr_I (k := 21) gf (by decide) _))
      · rw [z_I, if_neg hj]
        show (if j = 21 then _ else m'.1 j) = _
        rw [if_neg hj, g1]
      · rw [z_I, if_pos rfl, e1]
      · rw [e1] at hi ⊢
        rw [e2]
        simp only [z_Ia, z_A]
        by_cases g : i = 15
        · simp [g]
        · rw [if_neg (by omega), if_neg (by omega), if_neg (by omega), if_neg (by omega), g2 i hi, if_pos (by omega)]
      · rw [e1] at hi ⊢
        rw [e2]
        simp only [z_Ia, z_A]
        by_cases g : i = 15
        · simp [g]
        · rw [if_neg (by omega), if_neg (by omega), if_neg (by omega), if_neg (by omega), g3 i hi, if_pos (by omega)]
      · rw [e1] at hi ⊢
        rw [e2]
        simp only [z_Ia, z_A]
        by_cases g : i = 15
        · simp [g]
        · rw [if_neg (by omega), if_neg (by omega), if_neg (by omega), if_neg (by omega), g4 i hi, if_pos (by omega)]
    · have e' : ¬ 16 ≤ i + 1 := fun z => e ((nI_leI (a := 16) (by decide) (by omega)).mpr z)
      have v1 : vp_in (nI (i + 1)) 16 := q_in (by omega) (by omega)
      have v0 : vp_in (nI i) 16 := q_in (by omega) (by omega)
      have s1 : nI (i + 1) - (1 : Int32) = nI i := pk_sub (b := 1) (by omega)
      rw [q_neg e, s1]
      simp only [v1, v0, true_and, forall_eq, q_clamp (n := i + 1) (by omega), q_clamp (n := i) (by omega), q_succ]
      refine hK (q - 1) _ _ (by omega) ⟨i + 1, by omega, rfl, g1, qFr_A (k := 24) (qFr_A (k := 23) (qFr_A (k := 22) gf (by decide) _ _) (by decide) _ _) (by decide) _ _, fun j hj => ?_, fun j hj => ?_, fun j hj => ?_⟩
      · refine Eq.trans (b := if j = i then m'.2.1 22 (i + 1) else m'.2.1 22 j) (by simp [z_A]) ?_
        by_cases g : j = i
        · rw [if_pos g, if_pos (by omega), g2 (i + 1) (by omega), if_neg (by omega), g]
        · rw [if_neg g, g2 j hj]
          by_cases w : j < i
          · rw [if_pos w, if_pos (by omega)]
          · rw [if_neg w, if_neg (by omega)]
      · refine Eq.trans (b := if j = i then m'.2.1 23 (i + 1) else m'.2.1 23 j) (by simp [z_A]) ?_
        by_cases g : j = i
        · rw [if_pos g, if_pos (by omega), g3 (i + 1) (by omega), if_neg (by omega), g]
        · rw [if_neg g, g3 j hj]
          by_cases w : j < i
          · rw [if_pos w, if_pos (by omega)]
          · rw [if_neg w, if_neg (by omega)]
      · refine Eq.trans (b := if j = i then m'.2.1 24 (i + 1) else m'.2.1 24 j) (by simp [z_A]) ?_
        by_cases g : j = i
        · rw [if_pos g, if_pos (by omega), g4 (i + 1) (by omega), if_neg (by omega), g]
        · rw [if_neg g, g4 j hj]
          by_cases w : j < i
          · rw [if_pos w, if_pos (by omega)]
          · rw [if_neg w, if_neg (by omega)]
/-- what a note leaves behind: its slots from a base on -/
def qNt (ρ : (Nat → Nat) × (Nat → Nat → Nat)) (a b : Nat) (B : List Nat) (n : Nat) (s0 e0 t0 r0 : Int32) (f1 f2 f3 : Nat → Int32) (s e t r w : Int32) (g1 g2 g3 : Nat → Int32) : Prop :=
  s = (qps ρ B s0 e0 (B.length - 1)).1 ∧ e = (qps ρ B s0 e0 (B.length - 1)).2.1 ∧ t = t0 + 1 ∧ r = (if (qps ρ B s0 e0 (B.length - 1)).2.2 then r0 else r0 + 1) ∧ w = nI (qn1 n) ∧
  qKp n f1 g1 (nI (qmk B)) ∧ qKp n f2 g2 (nI (qcl a b (qmk B))) ∧ qKp n f3 g3 (qz (!(qps ρ B s0 e0 (B.length - 1)).2.2))
theorem a4_pass {L : List (List Nat)} (R : qRm r ρ) (W : qW ρ) (Y : qY y L) {a b : Nat} (G : qGo ρ a b L) {w : Nat} (hw : w < L.length) {n : Nat} (hn : n ≤ 16) (hu : u.1 4 = nI n) {post : Int32 → zS → Prop}
    (h : ∀ u', qNt ρ a b (L.getD w []) n (u.1 0) (u.1 1) (u.1 2) (u.1 3) (u.2.1 5) (u.2.1 6) (u.2.1 7) (u'.1 0) (u'.1 1) (u'.1 2) (u'.1 3) (u'.1 4) (u'.2.1 5) (u'.2.1 6) (u'.2.1 7) → post (qz (!(qps ρ (L.getD w []) (u.1 0) (u.1 1) ((L.getD w []).length - 1)).2.2)) u') : wp_X4_pass u r y (nI w) post := by
  have hc := R.1.2.2
  have hl := q_lb G hw
  obtain ⟨⟨gw1, gw2, gw3, gw4⟩, -⟩ := G _ (q_getD_mem L hw)
  obtain ⟨mid, em, hmn, hmr, -⟩ := q_mid G hw
  have hcl : qmk mid = qcl a b (qmk (L.getD w [])) := by
    rw [em] at gw2 gw4 ⊢
    exact qcl_mid gw2 (fun q hq => by have := gw4 q hq; omega)
  have hon : ∀ i, i < (L.getD w []).length → ∀ {P : Int32 → Prop}, wp_X6_pupilOn y (nI w) (nI i) P = P (nI (qat (L.getD w []) i)) := fun i hi {P} => e6_on Y hw hi
  have hsz : ∀ {P : Int32 → Prop}, wp_X6_sizeOf y (nI w) P = P (nI (L.getD w []).length) := fun {P} => e6_size Y hw
  have hall : ∀ {P : Int32 → Prop}, P (nI (qmk (L.getD w []))) → wp_X6_allOf y (nI w) P := fun {P} hP => a6_all Y hw (fun q hq => by have := gw4 q hq; omega) hP
  have hbet : ∀ {P : Int32 → Prop}, P (nI (qmk mid)) → wp_X6_betweenOf y (nI w) P := fun {P} hP => a6_between Y hw em (fun q hq => by have := hmr q hq; omega) hP
  generalize L.getD w [] = B at *
  have s1 : nI B.length - (1 : Int32) = nI (B.length - 1) := pk_sub (b := 1) (by omega)
  -- the end
  have fin : ∀ (u0 : zS) (st : Int32 × Int32 × Bool), st = qps ρ B (u.1 0) (u.1 1) (B.length - 1) → u0.1 0 = st.1 → u0.1 1 = st.2.1 → u0.1 2 = u.1 2 → u0.1 3 = u.1 3 → u0.1 4 = u.1 4 → u0.2 = u.2 → wp_X4_pass_105 r y (nI w) post u0 (qz st.2.2) := by
    intro u0 st hst k0 k1 k2 k3 k4 k5
    have last : ∀ (u1 : zS) (l : Bool), l = st.2.2 → u1.1 0 = st.1 → u1.1 1 = st.2.1 → u1.1 2 = u.1 2 + 1 → u1.1 3 = (if l then u.1 3 else u.1 3 + 1) → u1.1 4 = u.1 4 → u1.2 = u.2 → wp_X4_pass_130 r y (nI w) post u1 (qz l) := by
      intro u1 l hl' j0 j1 j2 j3 j4 j5
      unfold wp_X4_pass_130 wp_X4_pass_151
      refine hall (hbet ?_)
      have key : ∀ p3, p3 = qz (!l) → wp_X4_keep u1 (nI (qmk B)) (nI (qmk mid)) p3 (fun s10 => (qz l = 0 → post 1 s10) ∧ (¬ qz l = 0 → post 0 s10)) := by
        intro p3 hp3
        refine a4_keep hn (j4.trans hu) _ _ _ (fun u' t0 t4 t5 t6 t7 => ?_)
        have : post (qz (!l)) u' := by
          have := h u' ⟨?_, ?_, ?_, ?_, t4, ?_, ?_, ?_⟩
          · rw [← hst, ← hl'] at this; exact this
          · rw [t0 0 (by decide), j0, hst]
          · rw [t0 1 (by decide), j1, hst]
          · rw [t0 2 (by decide), j2]
          · rw [t0 3 (by decide), j3, hl', hst]
          · rw [j5] at t5; exact t5
          · rw [j5, hcl] at t6; exact t6
          · rw [j5, hp3, hl', hst] at t7; exact t7
        cases l
        · rw [q_f]; exact this
        · rw [q_t]; exact this
      cases l
      · rw [q_f]; exact key 1 rfl
      · rw [q_t]; exact key 0 rfl
    unfold wp_X4_pass_105
    rw [q_all]
    cases hs : st.2.2
    · rw [q_f, q_all]
      refine last _ false hs.symm k0 k1 ?_ ?_ k4 k5
      · show u0.1 2 + 1 = _; rw [k2]
      · show u0.1 3 + 1 = _; rw [k3]; rfl
    · rw [q_t]
      refine last _ true hs.symm k0 k1 ?_ k3 k4 k5
      show u0.1 2 + 1 = _; rw [k2]
  unfold wp_X4_pass
  rw [hsz, q_all, s1]
  refine q_lp4 (B := wb_X4_pass_15 r y (nI w) post) (fun q u0 x4 x5 x6 => ∃ i, i + q = B.length - 1 ∧ x4 = nI (B.length - 1) ∧ x6 = nI i ∧ x5 = qz (qps ρ B (u.1 0) (u.1 1) i).2.2 ∧ u0.1 0 = (qps ρ B (u.1 0) (u.1 1) i).1 ∧ u0.1 1 = (qps ρ B (u.1 0) (u.1 1) i).2.1 ∧ u0.1 2 = u.1 2 ∧ u0.1 3 = u.1 3 ∧ u0.1 4 = u.1 4 ∧ u0.2 = u.2) ?_ (B.length - 1) _ _ _ _ ⟨0, by omega, rfl, rfl, rfl, rfl, rfl, rfl, rfl, rfl, rfl⟩
  rintro q u0 _ _ _ ⟨i, hi, rfl, rfl, rfl, k0, k1, k2, k3, k4, k5⟩ K hK
  unfold wb_X4_pass_15
  by_cases e : nI (B.length - 1) ≤ nI i
  · have := (q_leN (by omega) (by omega)).mp e
    have : i = B.length - 1 := by omega
    rw [q_pos e]
    exact fin u0 (qps ρ B (u.1 0) (u.1 1) i) (by rw [this]) k0 k1 k2 k3 k4 k5
  · have e' : ¬ B.length - 1 ≤ i := fun z => e ((q_leN (by omega) (by omega)).mpr z)
    rw [q_neg e]
    cases hs : (qps ρ B (u.1 0) (u.1 1) i).2.2
    · rw [q_f, q_succ, hon (i + 1) (by omega)]
      have hq : qat B (i + 1) < ρ.1 1 := gw4 _ (qat_mem (by omega))
      have hp : qat B i < ρ.1 1 := gw4 _ (qat_mem (by omega))
      have es : nI (B.length - 1) - (1 : Int32) = nI (B.length - 1 - 1) := pk_sub (b := 1) (by omega)
      have el : (nI i = nI (B.length - 1) - (1 : Int32)) = (i + 1 = B.length - 1) := by
        rw [es, nI_eq (by omega) (by omega)]
        exact propext ⟨fun z => by omega, fun z => by omega⟩
      rw [el]
      have go : ∀ l : Bool, l = decide (i + 1 = B.length - 1) → wp_X4_pass_51 r y (nI w) post K u0 (nI (B.length - 1)) (nI i) (qz l) (nI (qat B (i + 1))) := by
        intro l hl'
        unfold wp_X4_pass_51
        refine a1_loss R W hq l _ ?_
        unfold wp_X4_draw
        rw [q_all, q_pos (show (1 : Int32) ≤ 1000 by decide)]
        refine ⟨by decide, ?_⟩
        have ed : (zI u0 1 (u0.1 1 * 1103515245 + 12345)).1 1 = (qps ρ B (u.1 0) (u.1 1) i).2.1 * 1103515245 + 12345 := by rw [z_I, if_pos rfl, k1]
        rw [ed, k0]
        have nx : ∀ lo : Bool, lo = !(decide (nI (qla ρ (qat B (i + 1)) l (qps ρ B (u.1 0) (u.1 1) i).1) ≤ qdr ((qps ρ B (u.1 0) (u.1 1) i).2.1 * 1103515245 + 12345))) → wp_X4_pass_77 r y (nI w) post K (zI u0 1 (u0.1 1 * 1103515245 + 12345)) (nI (B.length - 1)) (nI i) (qz lo) := by
          intro lo hlo
          unfold wp_X4_pass_77
          rw [hon i (by omega)]
          refine a1_hand R W hp ?_
          rw [q_all, q_all, q_succ]
          have st : qps ρ B (u.1 0) (u.1 1) (i + 1) = ((qps ρ B (u.1 0) (u.1 1) i).1 + nI (qtk ρ (qat B i)), (qps ρ B (u.1 0) (u.1 1) i).2.1 * 1103515245 + 12345, lo) := by
            rw [qps_s, hs, if_neg (by decide), hlo, hl']
          refine hK (q - 1) _ _ _ _ (by omega) ⟨i + 1, by omega, rfl, rfl, by rw [st], ?_, ?_, k2, k3, k4, k5⟩
          · rw [st]
            show u0.1 0 + _ = _
            rw [k0]
          · rw [st]
            show u0.1 1 * _ + _ = _
            rw [k1]
        refine ⟨fun c => nx false ?_, fun c => nx true ?_⟩
        · show false = !(decide (nI (qla ρ (qat B (i + 1)) l (qps ρ B (u.1 0) (u.1 1) i).1) ≤ qdr _))
          rw [decide_eq_true (show _ ≤ qdr _ from c)]; rfl
        · show true = !(decide (nI (qla ρ (qat B (i + 1)) l (qps ρ B (u.1 0) (u.1 1) i).1) ≤ qdr _))
          rw [decide_eq_false (show ¬ _ ≤ qdr _ from c)]; rfl
      exact ⟨fun c => go true (by rw [decide_eq_true c]), fun c => go false (by rw [decide_eq_false c])⟩
    · rw [q_t]
      exact hs ▸ fin u0 (qps ρ B (u.1 0) (u.1 1) i) (qps_stay hs _ (by omega)).symm k0 k1 k2 k3 k4 k5
end QSEND
