/-! calls: bar, master; the tape; what happened in truth -/
/-- a mask without one place -/
def qclr (a q : Nat) : Nat := a &&& ((2 ^ 32 - 1) ^^^ 2 ^ q)
theorem qclr_bit {a q i : Nat} (ha : a < 2 ^ 12) : (qclr a q).testBit i = (a.testBit i && !decide (i = q)) := by
  unfold qclr
  rw [Nat.testBit_and, Nat.testBit_xor, Nat.testBit_two_pow_sub_one, Nat.testBit_two_pow]
  by_cases h : i < 12
  · have h32 : i < 32 := by omega
    by_cases e : q = i
    · subst e; simp [h32]
    · have e' : ¬ i = q := fun z => e z.symm
      simp [h32, e, e']
  · have : a.testBit i = false := Nat.testBit_lt_two_pow (Nat.lt_of_lt_of_le ha (Nat.pow_le_pow_right (by decide) (by omega)))
    rw [this]; rfl
theorem qclr_lt {a q : Nat} (ha : a < 2 ^ 12) : qclr a q < 2 ^ 12 := Nat.lt_of_le_of_lt Nat.and_le_left ha
theorem q_clr {a q : Nat} (hq : q < 31) : nI a &&& (((1 : Int32) <<< (nI q &&& 31)) ^^^ (-1 : Int32)) = nI (qclr a q) := by
  rw [q_shl1 q hq]
  have e : nI (2 ^ q) ^^^ (-1 : Int32) = nI ((2 ^ 32 - 1) ^^^ 2 ^ q) := by
    apply Int32.toBitVec_inj.mp
    show BitVec.ofNat 32 (2 ^ q) ^^^ BitVec.ofNat 32 (2 ^ 32 - 1) = BitVec.ofNat 32 ((2 ^ 32 - 1) ^^^ 2 ^ q)
    rw [BitVec.ofNat_xor, BitVec.xor_comm]
  rw [e, q_and]; rfl
theorem q_orb {a q : Nat} (hq : q < 31) : nI a ||| ((1 : Int32) <<< (nI q &&& 31)) = nI (a ||| 2 ^ q) := by rw [q_shl1 q hq, q_or]
/-- a mask with one place in or out -/
def qbt (a q : Nat) (is : Bool) : Nat := if is then a ||| 2 ^ q else qclr a q
theorem qbt_bit {a q i : Nat} {is : Bool} (ha : a < 2 ^ 12) : (qbt a q is).testBit i = if i = q then is else a.testBit i := by
  unfold qbt
  cases is with
  | true =>
    simp only [if_true, Nat.testBit_or, Nat.testBit_two_pow]
    by_cases e : i = q
    · simp [e]
    · have : ¬ q = i := fun z => e z.symm
      simp [e, this]
  | false =>
    rw [if_neg (by decide), qclr_bit ha]
    by_cases e : i = q <;> simp [e]
theorem qbt_lt {a q : Nat} {is : Bool} (ha : a < 2 ^ 12) (hq : q < 12) : qbt a q is < 2 ^ 12 := by
  unfold qbt
  split
  · exact Nat.or_lt_two_pow ha (Nat.pow_lt_pow_right (by decide) hq)
  · exact qclr_lt ha
def qSb (ρ : (Nat → Nat) × (Nat → Nat → Nat)) (p q : Nat) (is : Bool) : (Nat → Nat) × (Nat → Nat → Nat) := qSa (qSa ρ 8 p (qbt (ρ.2 8 p) q is)) 8 q (qbt (ρ.2 8 q) p is)
theorem qSb_2 {ρ : (Nat → Nat) × (Nat → Nat → Nat)} {p q : Nat} {is : Bool} (j i : Nat) : (qSb ρ p q is).2 j i = if j = 8 ∧ i = q then qbt (ρ.2 8 q) p is else if j = 8 ∧ i = p then qbt (ρ.2 8 p) q is else ρ.2 j i := rfl
theorem qSb_W {ρ : (Nat → Nat) × (Nat → Nat → Nat)} (W : qW ρ) {p q : Nat} {is : Bool} (hp : p < ρ.1 1) (hq : q < ρ.1 1) (hne : p ≠ q) : qW (qSb ρ p q is) := by
  obtain ⟨w1, w2, w3, w4⟩ := W
  have h12 := w1.2.2.1
  have e1 : (qSb ρ p q is).1 = ρ.1 := rfl
  have n8 : ∀ j i, j ≠ 8 → (qSb ρ p q is).2 j i = ρ.2 j i := fun j i hj => by rw [qSb_2, if_neg (by omega), if_neg (by omega)]
  have b8 : ∀ a, a < ρ.1 1 → ∀ i, ((qSb ρ p q is).2 8 a).testBit i = if a = q ∧ i = p ∨ a = p ∧ i = q then is else (ρ.2 8 a).testBit i := by
    intro a ha i
    rw [qSb_2]
    by_cases c : a = q
    · subst c
      rw [if_pos ⟨rfl, rfl⟩, qbt_bit (w2 a ha).2.2.2]
      by_cases d : i = p
      · rw [if_pos d, if_pos (Or.inl ⟨rfl, d⟩)]
      · rw [if_neg d, if_neg (by omega)]
    · rw [if_neg (by omega)]
      by_cases d : a = p
      · subst d
        rw [if_pos ⟨rfl, rfl⟩, qbt_bit (w2 a ha).2.2.2]
        by_cases e : i = q
        · rw [if_pos e, if_pos (Or.inr ⟨rfl, e⟩)]
        · rw [if_neg e, if_neg (by omega)]
      · rw [if_neg (by omega), if_neg (by omega)]
  refine ⟨w1, fun a ha => ?_, fun a b ha hb e => ?_, fun a b ha hb => ?_⟩
  · have ha : a < ρ.1 1 := ha
    rw [n8 5 a (by decide), n8 6 a (by decide), n8 7 a (by decide), qSb_2]
    refine ⟨(w2 a ha).1, (w2 a ha).2.1, (w2 a ha).2.2.1, ?_⟩
    split
    · exact qbt_lt (w2 q hq).2.2.2 (by omega)
    · split
      · exact qbt_lt (w2 p hp).2.2.2 (by omega)
      · exact (w2 a ha).2.2.2
  · rw [n8 6 a (by decide), n8 6 b (by decide)] at e; exact w3 a b ha hb e
  · have ha : a < ρ.1 1 := ha
    rw [b8 a ha] at hb
    show b < ρ.1 1 ∧ _
    by_cases c : a = q ∧ b = p ∨ a = p ∧ b = q
    · rw [if_pos c] at hb
      have hb' : b < ρ.1 1 := by omega
      refine ⟨hb', by omega, ?_⟩
      rw [b8 b hb', if_pos (by omega)]; exact hb
    · rw [if_neg c] at hb
      obtain ⟨b1, b2, b3⟩ := w4 a b ha hb
      refine ⟨b1, b2, ?_⟩
      rw [b8 b b1, if_neg (by omega)]; exact b3
theorem qSb_same {ρ : (Nat → Nat) × (Nat → Nat → Nat)} (W : qW ρ) {p q : Nat} {is : Bool} (hp : p < ρ.1 1) (hq : q < ρ.1 1) (hs : (ρ.2 8 p).testBit q = is) : qSb ρ p q is = ρ := by
  have hs' : (ρ.2 8 q).testBit p = is := by
    cases is with
    | true => exact (W.2.2.2 p q hp hs).2.2
    | false =>
      cases e : (ρ.2 8 q).testBit p with
      | false => rfl
      | true => have := (W.2.2.2 q p hq e).2.2; rw [hs] at this; exact absurd this (by decide)
  have key : ∀ a b, a < ρ.1 1 → (ρ.2 8 a).testBit b = is → qbt (ρ.2 8 a) b is = ρ.2 8 a := by
    intro a b ha h
    refine Nat.eq_of_testBit_eq (fun i => ?_)
    rw [qbt_bit (W.2.1 a ha).2.2.2]
    split
    · next c => rw [c, h]
    · rfl
  refine Prod.ext rfl (funext fun j => funext fun i => ?_)
  rw [qSb_2, key q p hq hs', key p q hp hs]
  split
  · next c => rw [c.1, c.2]
  · split
    · next c => rw [c.1, c.2]
    · rfl
theorem a1_bars {r : zS} {ρ : (Nat → Nat) × (Nat → Nat → Nat)} (R : qRm r ρ) (W : qW ρ) {p q : Nat} {is : Bool} (hp : p < ρ.1 1) (hq : q < ρ.1 1) (hne : p ≠ q) {post : zS → Prop}
    (h : ∀ r', qRm r' (qSb ρ p q is) → post r') : wp_X1_setBarred r (nI p) (nI q) (qz is) post := by
  have hc := R.1.2.2
  have hv : vp_in (nI p) 12 := q_in (by omega) (by omega)
  have hv' : vp_in (nI q) 12 := q_in (by omega) (by omega)
  have e : ∀ y, (zA r 8 p y).2.1 8 q = nI (ρ.2 8 q) := fun y => by rw [z_A, if_neg (by omega)]; exact R.1.2.1 8 (by decide) q hq
  unfold wp_X1_setBarred wp_X1_setBarred_50 wp_X1_setBarred_85
  rw [e1_has R.1, qP_n hc hp, q_t, e1_has R.1, qP_n hc hq, q_t]
  simp only [hv, hv', true_and, forall_eq, q_clamp (n := p) (by omega), q_clamp (n := q) (by omega), e, R.1.2.1 8 (by decide) p hp, q_clr (q := q) (by omega), q_clr (q := p) (by omega), q_orb (q := q) (by omega), q_orb (q := p) (by omega)]
  have fin := q1_link (qR0_A (qR0_A R.1 8 p (qbt (ρ.2 8 p) q is)) 8 q (qbt (ρ.2 8 q) p is)) (qW_L (qSb_W (is := is) W hp hq hne)) h
  cases is with
  | true => rw [qz_t, q_1, q_1]; exact fin
  | false => rw [qz_f, q_0, q_0]; exact fin
theorem a8_bars {m : zS} {ρ : (Nat → Nat) × (Nat → Nat → Nat)} (M : qMR m ρ) {p q : Nat} {is : Bool} (hp : p < ρ.1 1) (hq : q < ρ.1 1) (hne : p ≠ q) {post : zS → Prop}
    (h : ∀ m', qMR m' (qSb ρ p q is) → qFr 9 18 m m' → post m') : wp_X8_bars m (nI p) (nI q) (qz is) post := by
  have hc := M.2.2
  have hv : vp_in (nI p) 12 := q_in (by omega) (by omega)
  have hv' : vp_in (nI q) 12 := q_in (by omega) (by omega)
  have e : ∀ y, (zA m 14 p y).2.1 14 q = nI (ρ.2 8 q) := fun y => by rw [z_A, if_neg (by omega)]; exact (M.2.1 q hq).2.2.2
  unfold wp_X8_bars wp_X8_bars_34 wp_X8_bars_69
  simp only [hv, hv', true_and, forall_eq, q_clamp (n := p) (by omega), q_clamp (n := q) (by omega), e, (M.2.1 p hp).2.2.2, q_clr (q := q) (by omega), q_clr (q := p) (by omega), q_orb (q := q) (by omega), q_orb (q := p) (by omega)]
  have fin := h _ (qMR_A (k := 8) (qMR_A (k := 8) M (by decide) p (qbt (ρ.2 8 p) q is)) (by decide) q (qbt (ρ.2 8 q) p is)) (qFr_A (qFr_A qFr_rf (by decide) _ _) (by decide) _ _)
  cases is with
  | true => rw [qz_t, q_1, q_1]; exact fin
  | false => rw [qz_f, q_0, q_0]; exact fin
theorem qz_inj {a b : Bool} : qz a = qz b ↔ a = b := by cases a <;> cases b <;> decide
theorem s_bar {x r m : zS} {ρ : (Nat → Nat) × (Nat → Nat → Nat)} (R : qRm r ρ) (M : qMR m ρ) (W : qW ρ) (p q : Int32) (is : Bool) {post : Int32 → zS → zS → Int32 → zS → Prop}
    (h : ∀ v r' m' ρ', qRm r' ρ' → qMR m' ρ' → qW ρ' → ρ'.1 1 = ρ.1 1 → qFr 9 18 m m' → post v x r' v m')
    (hr : ∀ v k, k < 5 → post v (zA x 12 k (x.2.1 12 k + 1)) r v (zA m 8 (k + 2) (m.2.1 8 (k + 2) + 1))) :
    wp_X7_bar x r p q (qz is) (fun v x' r' => wp_X8_bar m p q (qz is) (fun v' m' => post v x' r' v' m')) := by
  have hc := R.1.2.2
  simp only [wp_X7_bar, wp_X8_bar, e7_isPair R.1, e8_areTwo M, e7_r2, e8_r2]
  cases h1 : qP2 ρ p q
  · simp only [q_f]; exact hr _ 0 (by decide)
  simp only [q_t]
  obtain ⟨p, q, hp, hq, hne, rfl, rfl⟩ := qP2_t h1
  have hv : vp_in (nI p) 12 := q_in (by omega) (by omega)
  have hb := (W.2.1 p hp).2.2.2
  have hb' : ρ.2 8 p < 2 ^ 31 := Nat.lt_of_lt_of_le hb (by decide)
  have m8 : ∀ {P : Int32 → Prop}, P (qz ((ρ.2 8 p).testBit q)) → wp_X8_has (m.2.1 14 (nI p).toNatClampNeg) (nI q) P := fun hP => by
    rw [q_clamp (by omega), (M.2.1 p hp).2.2.2]
    exact q8_has hb' (by omega) (fun c => by rw [c] at hP; exact hP) (fun c => by rw [c] at hP; exact hP)
  unfold wp_X1_areBarred
  refine q1_barredOf R (fun a ha e => ?_) (fun hn => absurd rfl (hn p hp))
  have := (nI_eq (by omega) (by omega)).mp e
  subst this
  rw [q_bit0 hb' (by omega)]
  have fin : ∀ v, v = qz ((ρ.2 8 p).testBit q) → (v = qz is → vp_in (nI p) 12 ∧ wp_X8_has (m.2.1 14 (nI p).toNatClampNeg) (nI q) (fun v3 => wp_X8_bars m (nI p) (nI q) (qz is) (fun s5 => (v3 = qz is → post 0 x r 0 s5) ∧ (¬ v3 = qz is → post 0 x r 1 s5)))) ∧ (¬ v = qz is → wp_X1_setBarred r (nI p) (nI q) (qz is) (fun s6 => vp_in (nI p) 12 ∧ wp_X8_has (m.2.1 14 (nI p).toNatClampNeg) (nI q) (fun v3 => wp_X8_bars m (nI p) (nI q) (qz is) (fun s5 => (v3 = qz is → post 1 x s6 0 s5) ∧ (¬ v3 = qz is → post 1 x s6 1 s5))))) := by
    intro v hv'
    subst hv'
    rw [qz_inj]
    refine ⟨fun c => ⟨hv, m8 (a8_bars M hp hq hne (fun m' M' F => ?_))⟩, fun c => a1_bars R W hp hq hne (fun r' R' => ⟨hv, m8 (a8_bars M hp hq hne (fun m' M' F => ?_))⟩)⟩
    · rw [qSb_same W hp hq c] at M'
      rw [qz_inj, q_pos c]
      exact h _ _ _ _ R M' W rfl F
    · rw [qz_inj, q_neg c]
      exact h _ _ _ _ R' M' (qSb_W W hp hq hne) rfl F
  refine ⟨fun c => fin 0 (by rw [c]; rfl), fun c => fin 1 ?_⟩
  cases e : (ρ.2 8 p).testBit q with
  | false => exact absurd e c
  | true => rfl
theorem e_rngA {p lo hi : Int32} {a b : Int} {A C : Prop} (ha : lo.toInt = a) (hb : hi.toInt = b) :
    ((p < lo → A) ∧ (¬ p < lo → (hi < p → A) ∧ (¬ hi < p → C))) = ((qz (qI a b p) = 0 → A) ∧ (¬ qz (qI a b p) = 0 → C)) := by
  rw [q_ltI, q_ltI, ha, hb]
  cases e : qI a b p
  · rw [q_f]
    have := qI_f.mp e
    by_cases c : p.toInt < a
    · rw [q_pos c]
    · rw [q_neg c, q_pos (by omega)]
  · rw [q_t]
    have := qI_t.mp e
    rw [q_neg (by omega), q_neg (by omega)]
theorem s_master {x r m : zS} {ρ : (Nat → Nat) × (Nat → Nat → Nat)} (R : qRm r ρ) (M : qMR m ρ) (W : qW ρ) (w v : Int32) {post : Int32 → zS → zS → Int32 → zS → Prop}
    (h : ∀ v r' m' ρ', qRm r' ρ' → qMR m' ρ' → qW ρ' → ρ'.1 1 = ρ.1 1 → qFr 9 18 m m' → post v x r' v m')
    (hr : ∀ v k, k < 5 → post v (zA x 12 k (x.2.1 12 k + 1)) r v (zA m 8 (k + 2) (m.2.1 8 (k + 2) + 1))) :
    wp_X7_master x r w v (fun v1 x' r' => wp_X8_master m w v (fun v' m' => post v1 x' r' v' m')) := by
  have hw := W.1
  have t1 : (r.1 2).toInt = (ρ.1 2 : Int) := by rw [R.1.1 2 (by decide), nI_toInt (by omega)]
  have t8 : (m.1 15).toInt64.toInt = (ρ.1 2 : Int) := by rw [q_64, M.1.2.2.1, nI_toInt (by omega)]
  have k01 : ¬ (0 : Int32) = 1 := by decide
  have k02 : ¬ (0 : Int32) = 2 := by decide
  have k10 : ¬ (1 : Int32) = 0 := by decide
  have k12 : ¬ (1 : Int32) = 2 := by decide
  have k20 : ¬ (2 : Int32) = 0 := by decide
  have k21 : ¬ (2 : Int32) = 1 := by decide
  simp only [wp_X7_master, wp_X7_master_52, wp_X7_master_91, wp_X7_master_126, wp_X8_master, wp_X8_master_27, wp_X8_master_51, wp_X8_master_77, wp_X8_master_101, e_rngA (lo := 1) (hi := 20) (a := 1) (b := 20) rfl rfl, e_rngA (lo := 0) (hi := 1000) (a := 0) (b := 1000) rfl rfl, e_rngA (lo := 0) (a := 0) rfl t1, e8_inI (lo := 1) (hi := 20) (a := 1) (b := 20) rfl rfl, e8_inI (lo := 0) (hi := 1000) (a := 0) (b := 1000) rfl rfl, e8_inI (lo := 0) (a := 0) rfl t8, e7_r2, e8_r2, forall_eq]
  by_cases c0 : w = 0
  · subst c0
    simp only [q_pos (p := (0 : Int32) = 0) rfl, q_neg k01, q_neg k02, q_Tr, q_Fa]
    cases h1 : qI 1 20 v
    · simp only [q_f, q_Tr, q_Fa]; exact hr _ 0 (by decide)
    simp only [q_t, q_Tr, q_Fa]
    obtain ⟨k, hk, rfl⟩ := qI_n (by decide) h1
    have e3 : (zI r 2 (nI k)).1 3 = nI (ρ.1 3) := R.1.1 3 (by decide)
    have e16 : (zI m 15 (nI k)).1 16 = nI (ρ.1 3) := M.1.2.2.2.1
    unfold wp_X8_becomeTerm wp_X8_becomeTerm_22
    rw [R.1.1 2 (by decide), e3, M.1.2.2.1, e16]
    have e2 : ∀ a b : Nat, (qSi (qSi ρ 2 a) 3 b).1 = fun j => if j = 3 then b else if j = 2 then a else ρ.1 j := fun _ _ => rfl
    by_cases c : nI k ≤ nI (ρ.1 3)
    · have c' := (q_leN (by omega) (by omega)).mp c
      have e : (if nI k < nI (ρ.1 3) then nI k else nI (ρ.1 3)) = nI k := by
        split
        · rfl
        · next d =>
          have : ¬ k < ρ.1 3 := fun z => d ((nI_ltI (by omega) (by omega)).mpr z)
          rw [show ρ.1 3 = k by omega]
      rw [e, q_pos c]
      refine h _ _ _ (qSi (qSi ρ 2 k) 3 k) (qRm_I (qRm_I R (by decide) k) (by decide) k) ⟨⟨M.1.1, M.1.2.1, rfl, rfl, M.1.2.2.2.2⟩, M.2.1, M.2.2⟩ ?_ rfl (qFr_I (k := 16) (qFr_I (k := 15) (a := 9) (b := 18) qFr_rf (by decide) _) (by decide) _)
      refine ⟨⟨hw.1, hw.2.1, hw.2.2.1, by show 1 ≤ k; omega, by show k ≤ 20; omega, Nat.le_refl k, hw.2.2.2.2.2.2⟩, W.2.1, W.2.2.1, W.2.2.2⟩
    · have c' : ¬ k ≤ ρ.1 3 := fun z => c ((q_leN (by omega) (by omega)).mpr z)
      have e : (if nI k < nI (ρ.1 3) then nI k else nI (ρ.1 3)) = nI (ρ.1 3) := if_neg (fun d => by have := (nI_ltI (by omega) (by omega)).mp d; omega)
      rw [e, q_neg c]
      refine h _ _ _ (qSi (qSi ρ 2 k) 3 (ρ.1 3)) (qRm_I (qRm_I R (by decide) k) (by decide) (ρ.1 3)) ⟨⟨M.1.1, M.1.2.1, rfl, rfl, M.1.2.2.2.2⟩, M.2.1, M.2.2⟩ ?_ rfl (qFr_I (k := 16) (qFr_I (k := 15) (a := 9) (b := 18) qFr_rf (by decide) _) (by decide) _)
      refine ⟨⟨hw.1, hw.2.1, hw.2.2.1, by show 1 ≤ k; omega, by show k ≤ 20; omega, by show ρ.1 3 ≤ k; omega, hw.2.2.2.2.2.2⟩, W.2.1, W.2.2.1, W.2.2.2⟩
  by_cases c1 : w = 1
  · subst c1
    simp only [q_pos (p := (1 : Int32) = 1) rfl, q_neg k10, q_neg k12, q_Tr, q_Fa]
    cases h1 : qI 0 (ρ.1 2) v
    · simp only [q_f, q_Tr, q_Fa]; exact hr _ 0 (by decide)
    simp only [q_t, q_Tr, q_Fa]
    obtain ⟨k, hk, rfl⟩ := qI_n (by decide) h1
    rw [R.1.1 3 (by decide), M.1.2.2.2.1]
    refine h _ _ _ (qSi ρ 3 k) (qRm_I R (by decide) k) ⟨⟨M.1.1, M.1.2.1, M.1.2.2.1, rfl, M.1.2.2.2.2⟩, M.2.1, M.2.2⟩ ?_ rfl (qFr_I qFr_rf (by decide) _)
    exact ⟨⟨hw.1, hw.2.1, hw.2.2.1, hw.2.2.2.1, hw.2.2.2.2.1, by show k ≤ ρ.1 2; omega, hw.2.2.2.2.2.2⟩, W.2.1, W.2.2.1, W.2.2.2⟩
  by_cases c2 : w = 2
  · subst c2
    simp only [q_pos (p := (2 : Int32) = 2) rfl, q_neg k20, q_neg k21, q_Tr, q_Fa]
    cases h1 : qI 0 1000 v
    · simp only [q_f, q_Tr, q_Fa]; exact hr _ 0 (by decide)
    simp only [q_t, q_Tr, q_Fa]
    obtain ⟨k, hk, rfl⟩ := qI_n (by decide) h1
    rw [R.1.1 4 (by decide), M.1.2.2.2.2]
    refine h _ _ _ (qSi ρ 4 k) (qRm_I R (by decide) k) ⟨⟨M.1.1, M.1.2.1, M.1.2.2.1, M.1.2.2.2.1, rfl⟩, M.2.1, M.2.2⟩ ?_ rfl (qFr_I qFr_rf (by decide) _)
    exact ⟨⟨hw.1, hw.2.1, hw.2.2.1, hw.2.2.2.1, hw.2.2.2.2.1, hw.2.2.2.2.2.1, by show k ≤ 1000; omega⟩, W.2.1, W.2.2.1, W.2.2.2⟩
  simp only [q_neg c0, q_neg c1, q_neg c2, q_Tr, q_Fa]
  exact hr _ 0 (by decide)
