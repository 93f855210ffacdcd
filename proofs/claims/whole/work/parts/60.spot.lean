/-! spot -/
section QSPOT
variable {x r y k m : zS} {ρ : (Nat → Nat) × (Nat → Nat → Nat)}
/-- somebody sits at a desk -/
def qoc (ρ : (Nat → Nat) × (Nat → Nat → Nat)) (d : Nat) : Bool := decide (∃ q, q < ρ.1 1 ∧ ρ.2 6 q = d)
theorem qoc_t {d : Nat} : qoc ρ d = true ↔ ∃ q, q < ρ.1 1 ∧ ρ.2 6 q = d := by unfold qoc; exact decide_eq_true_iff
theorem qoc_f {d : Nat} : qoc ρ d = false ↔ ∀ q, q < ρ.1 1 → ρ.2 6 q ≠ d := by
  unfold qoc
  rw [decide_eq_false_iff_not]
  constructor
  · intro h q hq e; exact h ⟨q, hq, e⟩
  · rintro h ⟨q, hq, e⟩; exact h q hq e
/-- the best desk of the first, and the chance -/
def qsp (ρ : (Nat → Nat) × (Nat → Nat → Nat)) (kd mk a b : Nat) : Nat → Option (Nat × Int32)
  | 0 => none
  | d + 1 => if qoc ρ d then qsp ρ kd mk a b d else match qsp ρ kd mk a b d with
    | none => some (d, qcv (qSt ρ kd d mk) a b 0)
    | some (e, v) => if qcv (qSt ρ kd d mk) a b 0 ≤ v then some (e, v) else some (d, qcv (qSt ρ kd d mk) a b 0)
theorem qsp_s (kd mk a b d : Nat) : qsp ρ kd mk a b (d + 1) = if qoc ρ d then qsp ρ kd mk a b d else match qsp ρ kd mk a b d with
    | none => some (d, qcv (qSt ρ kd d mk) a b 0)
    | some (e, v) => if qcv (qSt ρ kd d mk) a b 0 ≤ v then some (e, v) else some (d, qcv (qSt ρ kd d mk) a b 0) := rfl
theorem qsp_lt (kd mk a b : Nat) : ∀ d e v, qsp ρ kd mk a b d = some (e, v) → e < d := by
  intro d
  induction d with
  | zero => intro e v h; cases h
  | succ d ih =>
    intro e v h
    rw [qsp_s] at h
    split at h
    · have := ih e v h; omega
    · split at h
      · cases h; omega
      · next e' v' hs =>
        split at h
        · cases h; have := ih _ _ hs; omega
        · cases h; omega
theorem qsp_none (kd mk a b : Nat) : ∀ d, qsp ρ kd mk a b d = none ↔ ∀ e, e < d → qoc ρ e = true := by
  intro d
  induction d with
  | zero => exact ⟨fun _ e he => by omega, fun _ => rfl⟩
  | succ d ih =>
    rw [qsp_s]
    cases c : qoc ρ d
    · rw [if_neg (by decide)]
      constructor
      · intro h
        split at h
        · cases h
        · split at h <;> cases h
      · intro h; have := h d (by omega); rw [c] at this; cases this
    · rw [if_pos rfl, ih]
      constructor
      · intro h e he
        by_cases z : e = d
        · rw [z]; exact c
        · exact h e (by omega)
      · intro h e he; exact h e (by omega)
/-- no desk is free just if there are as many pupils -/
theorem q_full (W : qW ρ) : (∀ e, e < 4 * ρ.1 0 → qoc ρ e = true) ↔ ρ.1 1 = 4 * ρ.1 0 := by
  have one : ∀ n, qsum (fun _ => 1) n = n := by
    intro n
    induction n with
    | zero => rfl
    | succ n ih => show qsum (fun _ => 1) n + 1 = n + 1; rw [ih]
  have le := qsum_inj (D := ρ.2 6) (m := 4 * ρ.1 0) (ρ.1 1) (fun _ => 1) (fun q hq => (W.2.1 q hq).2.1) W.2.2.1
  rw [one, one] at le
  constructor
  · intro h
    by_cases c : ρ.1 1 = 4 * ρ.1 0
    · exact c
    · obtain ⟨e, he, hne⟩ := q_free (m := 4 * ρ.1 0) (ρ.1 1) (ρ.2 6) (by omega) (fun q hq => (W.2.1 q hq).2.1)
      have := h e he
      rw [qoc_f.mpr hne] at this; cases this
  · intro h e he
    cases c : qoc ρ e with
    | true => rfl
    | false =>
      have hne := qoc_f.mp c
      have := qsum_inj (D := fun q => if q = ρ.1 1 then e else ρ.2 6 q) (m := 4 * ρ.1 0) (ρ.1 1 + 1) (fun _ => 1) (fun q hq => by
        show (if q = ρ.1 1 then e else ρ.2 6 q) < _
        split
        · exact he
        · exact (W.2.1 q (by omega)).2.1) (fun p q hp hq z => by
        have z : (if p = ρ.1 1 then e else ρ.2 6 p) = (if q = ρ.1 1 then e else ρ.2 6 q) := z
        by_cases cp : p = ρ.1 1 <;> by_cases cq : q = ρ.1 1
        · omega
        · rw [if_pos cp, if_neg cq] at z; exact absurd z.symm (hne q (by omega))
        · rw [if_neg cp, if_pos cq] at z; exact absurd z (hne p (by omega))
        · rw [if_neg cp, if_neg cq] at z; exact W.2.2.1 p q (by omega) (by omega) z)
      rw [one, one] at this
      omega
theorem e1_holder (R : qR0 r ρ) (W : qW ρ) {d : Nat} (hd : d < 16) {post : Int32 → Prop} (h1 : qoc ρ d = true → ∀ q, q < 12 → post (nI q)) (h0 : qoc ρ d = false → post (-1)) : wp_X1_holderOf r (nI d) post := by
  have hc := R.2.2
  have dk : ∀ q, q < ρ.1 1 → ρ.2 6 q < 16 := fun q hq => by have := (W.2.1 q hq).2.1; have := W.1.2.1; omega
  refine q1_holderOf R (fun q hq e => h1 (qoc_t.mpr ⟨q, hq, ?_⟩) q (by omega)) (fun hn => h0 (qoc_f.mpr (fun q hq e => hn q hq (by rw [e]))))
  have := dk q hq
  exact ((nI_eq (by omega) (by omega)).mp e).symm
theorem e8_holder (M : qMR m ρ) (W : qW ρ) {d : Nat} (hd : d < 16) {post : Int32 → Prop} (h1 : qoc ρ d = true → ∀ q, q < 12 → post (nI q)) (h0 : qoc ρ d = false → post (-1)) : wp_X8_sitting m (nI d) post := by
  have hc := M.2.2
  have dk : ∀ q, q < ρ.1 1 → ρ.2 6 q < 16 := fun q hq => by have := (W.2.1 q hq).2.1; have := W.1.2.1; omega
  refine q8_sitting M (fun q hq e => h1 (qoc_t.mpr ⟨q, hq, ?_⟩) q (by omega)) (fun hn => h0 (qoc_f.mpr (fun q hq e => hn q hq (by rw [e]))))
  have := dk q hq
  exact ((nI_eq (by omega) (by omega)).mp e).symm
/-- a state of the search and its two numbers: z is the number that stands for the chance of none -/
def qsI (o : Option (Nat × Int32)) (z x5 x6 : Int32) : Prop := (o = none ∧ x5 = -1 ∧ x6 = z) ∨ (∃ e v, o = some (e, v) ∧ e < 16 ∧ x5 = nI e ∧ x6 = v)
theorem a8_spotG (M : qMR m ρ) (W : qW ρ) {kd mk a b : Nat} (hk : kd < 6) (hmk : mk < 10) (ha : a < ρ.1 1) (hb : b < ρ.1 1) (hab : a ≠ b) (hn : ρ.1 1 < 12) (P : Int32 → zS → zS → Prop)
    (hP : ∀ x5 x6 m1, qsI (qsp ρ kd mk a b (4 * ρ.1 0)) 0 x5 x6 → P x5 m m1) :
    ∀ d, d ≤ 4 * ρ.1 0 → ∀ m1 x5 x6, qsI (qsp ρ kd mk a b d) 0 x5 x6 → ∃ n, wp_X8_spot_G_86 (nI kd) (nI mk) (nI a) (nI b) P n m m1 x5 x6 (nI d) := by
  intro d hd m1 x5 x6 hI
  have h4 := W.1.2.1
  have f4 : ∀ n, n < 5 → (4 : Int32) * nI n = nI (4 * n) := by decide +kernel
  refine q_lp5 (B := wb_X8_spot_G_86 (nI kd) (nI mk) (nI a) (nI b) P) (fun q m' m1 x5 x6 x7 => ∃ d, d + q = 4 * ρ.1 0 ∧ m = m' ∧ x7 = nI d ∧ qsI (qsp ρ kd mk a b d) 0 x5 x6) ?_ (4 * ρ.1 0 - d) _ _ _ _ _ ⟨d, by omega, rfl, rfl, hI⟩
  rintro q _ m1 x5 x6 _ ⟨d, hd, rfl, rfl, hI⟩ K hK
  unfold wb_X8_spot_G_86 wp_X8_spot_G_111 wp_X8_spot_G_146 wp_X8_spot_G_154
  rw [M.1.1, f4 _ (by omega)]
  by_cases e : nI (4 * ρ.1 0) ≤ nI d
  · have := (q_leN (by omega) (by omega)).mp e
    have : d = 4 * ρ.1 0 := by omega
    subst this
    rw [q_pos e]; exact hP _ _ _ hI
  · have e' : ¬ 4 * ρ.1 0 ≤ d := fun z => e ((q_leN (by omega) (by omega)).mpr z)
    rw [q_neg e]
    have n1 : ∀ n, n < 16 → ¬ nI n = (-1 : Int32) := by decide +kernel
    simp only [forall_eq, q_succ]
    refine e8_holder M W (by omega) (fun hoc c hc => ?_) (fun hoc => ?_)
    · rw [q_neg (n1 c (by omega))]
      refine hK (q - 1) _ _ _ _ _ (by omega) ⟨d + 1, by omega, rfl, rfl, ?_⟩
      rw [qsp_s, hoc, if_pos rfl]; exact hI
    · rw [q_pos rfl]
      have W' := qSt_W (k := kd) (d := d) (a := mk) W hk (by omega) hmk hn (qoc_f.mp hoc)
      have ha' : a < (qSt ρ kd d mk).1 1 := Nat.lt_succ_of_lt ha
      have hb' : b < (qSt ρ kd d mk).1 1 := Nat.lt_succ_of_lt hb
      refine a8_take M (fun m2 M2 _ _ => a8_add M2 hn (fun m3 M3 _ => a8_chance M3 W' ha' hb' hab 0 (fun m4 _ _ => ?_)))
      have nx : ∀ u v, qsI (qsp ρ kd mk a b (d + 1)) 0 u v → K m m4 u v (nI (d + 1)) := fun u v hv => hK (q - 1) _ _ _ _ _ (by omega) ⟨d + 1, by omega, rfl, rfl, hv⟩
      have sp := qsp_s (ρ := ρ) kd mk a b d
      rw [hoc, if_neg (by decide)] at sp
      rcases hI with ⟨h1, rfl, rfl⟩ | ⟨e1, v, h1, h2, rfl, rfl⟩
      · rw [h1] at sp
        rw [q_pos rfl]
        exact nx _ _ (by rw [sp]; exact Or.inr ⟨_, _, rfl, by omega, rfl, rfl⟩)
      · rw [h1] at sp
        have sp : qsp ρ kd mk a b (d + 1) = if qcv (qSt ρ kd d mk) a b 0 ≤ x6 then some (e1, x6) else some (d, qcv (qSt ρ kd d mk) a b 0) := sp
        rw [q_neg (n1 e1 (by omega))]
        refine ⟨fun c => nx _ _ ?_, fun c => nx _ _ ?_⟩
        · rw [sp, if_pos c]; exact Or.inr ⟨_, _, rfl, h2, rfl, rfl⟩
        · rw [sp, if_neg c]; exact Or.inr ⟨_, _, rfl, by omega, rfl, rfl⟩
theorem a8_spotS (M : qMR m ρ) (W : qW ρ) {kd mk a b : Nat} (hk : kd < 6) (hmk : mk < 10) (ha : a < ρ.1 1) (hb : b < ρ.1 1) (hab : a ≠ b) (hn : ρ.1 1 < 12) (P : Int32 → zS → zS → Prop)
    (hP : ∀ x5 x6 m1, qsI (qsp ρ kd mk a b (4 * ρ.1 0)) 0 x5 x6 → P x5 m m1) (m1 : zS) :
    ∃ n, wp_X8_spot_S_86 (nI kd) (nI mk) (nI a) (nI b) P n m m1 (-1) 0 0 :=
  a8_spotG M W hk hmk ha hb hab hn P hP 0 (Nat.zero_le _) m1 (-1) 0 (Or.inl ⟨rfl, rfl, rfl⟩)
theorem a8_spotN (M : qMR m ρ) (W : qW ρ) {kd mk a b : Nat} (hk : kd < 6) (hmk : mk < 10) (ha : a < ρ.1 1) (hb : b < ρ.1 1) (hab : a ≠ b) (hn : ρ.1 1 < 12) (P : Int32 → zS → wO → Prop)
    (hP : ∀ x5 x6 o, qsI (qsp ρ kd mk a b (4 * ρ.1 0)) 0 x5 x6 → (o = none ∨ ∃ Q A LA m1, o = some (Q, A, (fun _ => none), LA, m1)) → P x5 m o) :
    ∃ n, wp_X8_spot_N_86 (nI kd) (nI mk) (nI a) (nI b) P n m (-1) 0 0 := by
  have h4 := W.1.2.1
  have f4 : ∀ n, n < 5 → (4 : Int32) * nI n = nI (4 * n) := by decide +kernel
  refine q_lp4 (B := wb_X8_spot_N_86 (nI kd) (nI mk) (nI a) (nI b) P) (fun q m' x5 x6 x7 => ∃ d, d + q = 4 * ρ.1 0 ∧ m = m' ∧ x7 = nI d ∧ x5 = -1 ∧ x6 = 0 ∧ qsp ρ kd mk a b d = none) ?_ (4 * ρ.1 0) _ _ _ _ ⟨0, by omega, rfl, rfl, rfl, rfl, rfl⟩
  rintro q _ _ _ _ ⟨d, hd, rfl, rfl, rfl, rfl, hI⟩ K hK
  unfold wb_X8_spot_N_86
  rw [M.1.1, f4 _ (by omega)]
  by_cases e : nI (4 * ρ.1 0) ≤ nI d
  · have := (q_leN (by omega) (by omega)).mp e
    have : d = 4 * ρ.1 0 := by omega
    subst this
    rw [q_pos e]; exact hP _ 0 _ (Or.inl ⟨hI, rfl, rfl⟩) (Or.inl rfl)
  · have e' : ¬ 4 * ρ.1 0 ≤ d := fun z => e ((q_leN (by omega) (by omega)).mpr z)
    rw [q_neg e]
    have n1 : ∀ n, n < 16 → ¬ nI n = (-1 : Int32) := by decide +kernel
    refine e8_holder M W (by omega) (fun hoc c hc => ?_) (fun hoc => ?_)
    · rw [q_neg (n1 c (by omega)), q_all, q_succ]
      refine hK (q - 1) _ _ _ _ (by omega) ⟨d + 1, by omega, rfl, rfl, rfl, rfl, ?_⟩
      rw [qsp_s, hoc, if_pos rfl]; exact hI
    · rw [q_pos rfl]
      have W' := qSt_W (k := kd) (d := d) (a := mk) W hk (by omega) hmk hn (qoc_f.mp hoc)
      have ha' : a < (qSt ρ kd d mk).1 1 := Nat.lt_succ_of_lt ha
      have hb' : b < (qSt ρ kd d mk).1 1 := Nat.lt_succ_of_lt hb
      refine a8_take M (fun m2 M2 _ _ Q A LA => ?_)
      unfold wp_X8_spot_G_111 wp_X8_spot_G_146 wp_X8_spot_G_154
      refine a8_add M2 hn (fun m3 M3 _ => a8_chance M3 W' ha' hb' hab 0 (fun m4 _ _ => ?_))
      simp only [q_pos (p := (-1 : Int32) = -1) rfl, forall_eq, q_succ, q_Tr]
      refine a8_spotG M W hk hmk ha hb hab hn (fun v s0 s1 => P v s0 (some (Q, A, (fun _ => none), LA, s1))) (fun x5 x6 m1 h => hP x5 x6 _ h (Or.inr ⟨_, _, _, _, rfl⟩)) (d + 1) (by omega) m4 _ _ ?_
      have sp := qsp_s (ρ := ρ) kd mk a b d
      rw [hoc, if_neg (by decide), hI] at sp
      rw [sp]
      exact Or.inr ⟨_, _, rfl, by omega, rfl, rfl⟩
theorem e1_full (R : qR0 r ρ) {post : Int32 → Prop} : wp_X1_isFull r post = post (qz (!(decide (ρ.1 1 < 12)))) := by
  have hc := R.2.2
  unfold wp_X1_isFull
  rw [R.1 1 (by decide)]
  by_cases c : ρ.1 1 < 12
  · have c' : nI (ρ.1 1) < (12 : Int32) := (nI_ltI (b := 12) (by omega) (by decide)).mpr c
    rw [q_pos c', decide_eq_true c]; rfl
  · have c' : ¬ nI (ρ.1 1) < (12 : Int32) := fun z => c ((nI_ltI (b := 12) (by omega) (by decide)).mp z)
    rw [q_neg c', decide_eq_false c]; rfl
/-- the class's side, with a reference that has the same guards -/
theorem a7_spot {t : zS} (R : qRm r ρ) (W : qW ρ) (kd mk a b : Int32) (P : Int32 → zS → zS → zS → zS → Prop)
    (hbad : (((qI 0 5 kd && qI 0 9 mk) && qP2 ρ a b) = false) → P (-2) (zA x 12 0 (x.2.1 12 0 + 1)) t y k)
    (hfull : (((qI 0 5 kd && qI 0 9 mk) && qP2 ρ a b) = true) → ρ.1 1 = 12 → P (-6) (zA x 12 4 (x.2.1 12 4 + 1)) t y k)
    (hstuck : (((qI 0 5 kd && qI 0 9 mk) && qP2 ρ a b) = true) → ρ.1 1 < 12 → ρ.1 1 = 4 * ρ.1 0 → ∀ t' y' k', P (-5) (zA x 12 3 (x.2.1 12 3 + 1)) t' y' k')
    (hok : ∀ kd' mk' a' b' e v, kd = nI kd' → mk = nI mk' → a = nI a' → b = nI b' → kd' < 6 → mk' < 10 → a' < ρ.1 1 → b' < ρ.1 1 → a' ≠ b' → ρ.1 1 < 12 → ρ.1 1 ≠ 4 * ρ.1 0 → qsp ρ kd' mk' a' b' (4 * ρ.1 0) = some (e, v) → ∀ t' y' k', P (nI e) x t' y' k') :
    wp_X7_spot x r t y k kd mk a b (fun v x' t' y' k' => P v x' t' y' k') := by
  have hc := R.1.2.2
  have h4 := W.1.2.1
  unfold wp_X7_spot wp_X7_spot_24
  rw [e7_isKind, e7_r2]
  refine q_br (fun c1 => ?_) (fun c1 => hbad (by rw [c1]; rfl))
  rw [e7_isMark]
  refine q_br (fun c2 => ?_) (fun c2 => hbad (by rw [c1, c2]; rfl))
  rw [e7_isPair R.1]
  refine q_br (fun c3 => ?_) (fun c3 => hbad (by rw [c1, c2, c3]; rfl))
  have call : ((qI 0 5 kd && qI 0 9 mk) && qP2 ρ a b) = true := by rw [c1, c2, c3]; rfl
  obtain ⟨kd, hkd, rfl⟩ := qI_n (by decide) c1
  obtain ⟨mk, hmk, rfl⟩ := qI_n (by decide) c2
  obtain ⟨a, b, ha, hb, hab, rfl, rfl⟩ := qP2_t c3
  rw [e1_full R.1, e7_r6]
  by_cases c : ρ.1 1 < 12
  · have hn := c
    rw [decide_eq_true c]
    show (qz false = 0 → _) ∧ (¬ qz false = 0 → _)
    rw [q_f]
    have f4 : ∀ n, n < 5 → nI n * (4 : Int32) = nI (4 * n) := by decide +kernel
    refine q_lp7 (B := wb_X7_spot_57 r (nI kd) (nI mk) (nI a) (nI b) _) (fun q x' t1 y1 k1 x5 x6 x7 => ∃ d, d + q = 4 * ρ.1 0 ∧ x = x' ∧ x7 = nI d ∧ qsI (qsp ρ kd mk a b d) (-1) x5 x6) ?_ (4 * ρ.1 0) _ _ _ _ _ _ _ ⟨0, by omega, rfl, rfl, Or.inl ⟨rfl, rfl, rfl⟩⟩
    rintro q _ t1 y1 k1 x5 x6 _ ⟨d, hd, rfl, rfl, hI⟩ K hK
    unfold wb_X7_spot_57 wp_X7_spot_132 wp_X7_spot_140
    have n1 : ∀ n, n < 16 → ¬ nI n = (-1 : Int32) := by decide +kernel
    unfold wp_X1_deskCount
    rw [R.1.1 0 (by decide), f4 _ (by omega), e7_r5]
    dsimp only
    by_cases e : nI (4 * ρ.1 0) ≤ nI d
    · have := (q_leN (by omega) (by omega)).mp e
      have : d = 4 * ρ.1 0 := by omega
      subst this
      rw [q_pos e]
      rcases hI with ⟨h1, rfl, rfl⟩ | ⟨e1, v, h1, h2, rfl, rfl⟩
      · rw [q_pos rfl]
        exact hstuck call hn ((q_full W).mp ((qsp_none kd mk a b _).mp h1)) _ _ _
      · rw [q_neg (n1 e1 (by omega))]
        refine hok kd mk a b e1 x6 rfl rfl rfl rfl (by omega) (by omega) ha hb hab hn (fun z => ?_) h1 _ _ _
        have := (qsp_none (ρ := ρ) kd mk a b _).mpr ((q_full W).mpr z)
        rw [this] at h1; cases h1
    · have e' : ¬ 4 * ρ.1 0 ≤ d := fun z => e ((q_leN (by omega) (by omega)).mpr z)
      rw [q_neg e]
      simp only [forall_eq, q_succ]
      refine e1_holder R.1 W (by omega) (fun hoc c hc => ?_) (fun hoc => ?_)
      · rw [q_neg (n1 c (by omega))]
        refine hK (q - 1) _ _ _ _ _ _ _ (by omega) ⟨d + 1, by omega, rfl, rfl, ?_⟩
        rw [qsp_s, hoc, if_pos rfl]; exact hI
      · rw [q_pos rfl]
        have W' := qSt_W (k := kd) (d := d) (a := mk) W (by omega) (by omega) (by omega) hn (qoc_f.mp hoc)
        have ha' : a < (qSt ρ kd d mk).1 1 := Nat.lt_succ_of_lt ha
        have hb' : b < (qSt ρ kd d mk).1 1 := Nat.lt_succ_of_lt hb
        refine a1_take R (fun t2 R2 => a1_seat R2 hn W' (fun t3 R3 => a7_chance R3 W' ha' hb' hab 0 (fun y2 k2 _ => ?_)))
        have nx : ∀ u v, qsI (qsp ρ kd mk a b (d + 1)) (-1) u v → K x t3 y2 k2 u v (nI (d + 1)) := fun u v hv => hK (q - 1) _ _ _ _ _ _ _ (by omega) ⟨d + 1, by omega, rfl, rfl, hv⟩
        have sp := qsp_s (ρ := ρ) kd mk a b d
        rw [hoc, if_neg (by decide)] at sp
        rcases hI with ⟨h1, rfl, rfl⟩ | ⟨e1, v, h1, h2, rfl, rfl⟩
        · rw [h1] at sp
          rw [q_pos rfl]
          exact nx _ _ (by rw [sp]; exact Or.inr ⟨_, _, rfl, by omega, rfl, rfl⟩)
        · rw [h1] at sp
          have sp : qsp ρ kd mk a b (d + 1) = if qcv (qSt ρ kd d mk) a b 0 ≤ x6 then some (e1, x6) else some (d, qcv (qSt ρ kd d mk) a b 0) := sp
          rw [q_neg (n1 e1 (by omega))]
          refine ⟨fun c => nx _ _ ?_, fun c => nx _ _ ?_⟩
          · rw [sp, if_pos c]; exact Or.inr ⟨_, _, rfl, h2, rfl, rfl⟩
          · rw [sp, if_neg c]; exact Or.inr ⟨_, _, rfl, by omega, rfl, rfl⟩
  · rw [decide_eq_false c]
    show (qz true = 0 → _) ∧ (¬ qz true = 0 → _)
    rw [q_t]
    exact hfull call (by omega)
end QSPOT
