/-! one room taken over by another; change -/
section QTAKE
variable {x r y k m : zS} {ρ : (Nat → Nat) × (Nat → Nat → Nat)}
theorem q_cpy0 {f g : Nat → Int32} {n i : Nat} (h : i < n) : va_cpy f g 0 0 n i = f i := by
  rw [pk_cpy_in (by omega) (by omega), Nat.zero_add, Nat.sub_zero]
theorem a1_take {r0 : zS} (R : qRm r ρ) {post : zS → Prop} (h : ∀ r', qRm r' ρ → post r') : wp_X1_takeOver r0 r post := by
  have hA : ((¬ (0 : Int32) < 0 ∧ ¬ (0 : Int32) < 0 ∧ ¬ (12 : Int32) < 0) ∧ (0 : Int32).toNatClampNeg + (12 : Int32).toNatClampNeg ≤ 12 ∧ (0 : Int32).toNatClampNeg + (12 : Int32).toNatClampNeg ≤ 12) := by decide
  have z0 : (0 : Int32).toNatClampNeg = 0 := rfl
  have z12 : (12 : Int32).toNatClampNeg = 12 := rfl
  have hc := R.1.2.2
  unfold wp_X1_takeOver
  intro v1 e1 v2 e2 v3 e3 v4 e4 v5 e5
  refine ⟨hA, fun g6 h6 => ⟨hA, fun g7 h7 => ⟨hA, fun g8 h8 => ⟨hA, fun g9 h9 => ⟨hA, fun g10 h10 => ?_⟩⟩⟩⟩⟩
  rw [z0, z12] at h6 h7 h8 h9 h10
  refine h _ ⟨⟨fun j hj => ?_, fun j hj p hp => ?_, hc⟩, fun p hp => ?_⟩
  · have : j = 0 ∨ j = 1 ∨ j = 2 ∨ j = 3 ∨ j = 4 := by omega
    rcases this with z | z | z | z | z <;> subst z
    · show v1 = _; rw [e1]; exact R.1.1 0 hj
    · show v2 = _; rw [e2]; exact R.1.1 1 hj
    · show v3 = _; rw [e3]; exact R.1.1 2 hj
    · show v4 = _; rw [e4]; exact R.1.1 3 hj
    · show v5 = _; rw [e5]; exact R.1.1 4 hj
  · have : j = 5 ∨ j = 6 ∨ j = 7 ∨ j = 8 := by omega
    rcases this with z | z | z | z <;> subst z
    · show g6 p = _; rw [h6, q_cpy0 (by omega)]; exact R.1.2.1 5 hj p hp
    · show g7 p = _; rw [h7, q_cpy0 (by omega)]; exact R.1.2.1 6 hj p hp
    · show g8 p = _; rw [h8, q_cpy0 (by omega)]; exact R.1.2.1 7 hj p hp
    · show g9 p = _; rw [h9, q_cpy0 (by omega)]; exact R.1.2.1 8 hj p hp
  · show g10 p = _; rw [h10, q_cpy0 (by omega)]; exact R.2 p hp
theorem a4_take {u0 u : zS} {post : zS → Prop} (h : ∀ u', (∀ m, qTr u m → qTr u' m) → post u') : wp_X4_takeOver u0 u post := by
  have hA : ((¬ (0 : Int32) < 0 ∧ ¬ (0 : Int32) < 0 ∧ ¬ (16 : Int32) < 0) ∧ (0 : Int32).toNatClampNeg + (16 : Int32).toNatClampNeg ≤ 16 ∧ (0 : Int32).toNatClampNeg + (16 : Int32).toNatClampNeg ≤ 16) := by decide
  have z0 : (0 : Int32).toNatClampNeg = 0 := rfl
  have z16 : (16 : Int32).toNatClampNeg = 16 := rfl
  unfold wp_X4_takeOver
  intro v1 e1 v2 e2 v3 e3 v4 e4 v5 e5
  refine ⟨hA, fun g6 h6 => ⟨hA, fun g7 h7 => ⟨hA, fun g8 h8 => ?_⟩⟩⟩
  rw [z0, z16] at h6 h7 h8
  refine h _ ?_
  rintro m ⟨n, b, c, ⟨t1, t2, t3, t4⟩, ⟨t5, t6, t7⟩, t8⟩
  refine ⟨n, b, c, ⟨?_, ?_, ?_, ?_⟩, ⟨t5, ?_, t7⟩, fun i hi => ?_⟩
  · show v1 = _; rw [e1]; exact t1
  · show v2 = _; rw [e2]; exact t2
  · show v3 = _; rw [e3]; exact t3
  · show v4 = _; rw [e4]; exact t4
  · show v5 = _; rw [e5]; exact t6
  · have := t8 i hi
    refine ⟨?_, ⟨?_, this.2.1.2.1, this.2.1.2.2⟩, ?_, this.2.2.2⟩
    · show g6 i = _; rw [h6, q_cpy0 (by omega)]; exact this.1
    · show g7 i = _; rw [h7, q_cpy0 (by omega)]; exact this.2.1.1
    · show g8 i = _; rw [h8, q_cpy0 (by omega)]; exact this.2.2.1
theorem a8_take {m0 : zS} (M : qMR m ρ) {post : zS → Prop} (h : ∀ m', qMR m' ρ → (∀ u, qTr u m → qTr u m') → qFr 9 26 m0 m' → post m') : wp_X8_takeFrom m0 m post := by
  have hc := M.2.2
  unfold wp_X8_takeFrom
  intro v1 e1 v2 e2
  refine a8_copied (Nat.le_refl _) (by decide) (fun s4 h4 _ => a8_copied (Nat.le_refl _) (by decide) (fun s6 h6 _ => a8_copied (Nat.le_refl _) (by decide) (fun s8 h8 _ => a8_copied (Nat.le_refl _) (by decide) (fun s10 h10 _ => ?_))))
  intro v11 e11 v12 e12 v13 e13 v14 e14 v15 e15 v16 e16 v17 e17
  refine a8_copied (Nat.le_refl _) (by decide) (fun s19 h19 _ => a8_copied (Nat.le_refl _) (by decide) (fun s21 h21 _ => a8_copied (Nat.le_refl _) (by decide) (fun s23 h23 _ => ?_)))
  intro v24 e24
  refine h _ ⟨⟨?_, ?_, ?_, ?_, ?_⟩, fun p hp => ⟨?_, ?_, ?_, ?_⟩, hc⟩ ?_ ?_
  · show v1 = _; rw [e1]; exact M.1.1
  · show v2 = _; rw [e2]; exact M.1.2.1
  · show v11 = _; rw [e11]; exact M.1.2.2.1
  · show v12 = _; rw [e12]; exact M.1.2.2.2.1
  · show v13 = _; rw [e13]; exact M.1.2.2.2.2
  · show s4 p = _; rw [h4 p (by omega)]; exact (M.2.1 p hp).1
  · show s6 p = _; rw [h6 p (by omega)]; exact (M.2.1 p hp).2.1
  · show s8 p = _; rw [h8 p (by omega)]; exact (M.2.1 p hp).2.2.1
  · show s10 p = _; rw [h10 p (by omega)]; exact (M.2.1 p hp).2.2.2
  · rintro u ⟨n, b, c, ⟨t1, t2, t3, t4⟩, ⟨t5, t6, t7⟩, t8⟩
    refine ⟨n, b, c, ⟨?_, ?_, ?_, ?_⟩, ⟨t5, t6, ?_⟩, fun i hi => ?_⟩
    · show _ = v14; rw [e14]; exact t1
    · show _ = v24; rw [e24]; exact t2
    · show _ = v15; rw [e15]; exact t3
    · show _ = v16; rw [e16]; exact t4
    · show v17 = _; rw [e17]; exact t7
    · have := t8 i hi
      refine ⟨?_, ⟨this.2.1.1, ?_, this.2.1.2.2⟩, this.2.2.1, ?_⟩
      · show _ = s19 i; rw [h19 i (by omega)]; exact this.1
      · show s21 i = _; rw [h21 i (by omega)]; exact this.2.1.2.1
      · show s23 i = _; rw [h23 i (by omega)]; exact this.2.2.2
  · exact qFr_I (k := 25) (qFr_G (k := 24) (qFr_G (k := 23) (qFr_G (k := 22) (qFr_I (k := 21) (qFr_I (k := 20) (qFr_I (k := 19) (qFr_I (k := 18) (qFr_I (k := 17) (qFr_I (k := 16) (qFr_I (k := 15) (qFr_G (k := 14) (qFr_G (k := 13) (qFr_G (k := 12) (qFr_G (k := 11) (qFr_I (k := 10) (qFr_I (k := 9) qFr_rf (by decide) _) (by decide) _) (by decide) _) (by decide) _) (by decide) _) (by decide) _) (by decide) _) (by decide) _) (by decide) _) (by decide) _) (by decide) _) (by decide) _) (by decide) _) (by decide) _) (by decide) _) (by decide) _) (by decide) _
theorem qSx_sx {p q : Nat} : qSx (qSx ρ p q) p q = ρ := by
  refine Prod.ext rfl (funext fun j => funext fun i => ?_)
  have e2 : ∀ (σ : (Nat → Nat) × (Nat → Nat → Nat)) j i, (qSx σ p q).2 j i = if j = 6 ∧ i = q then σ.2 6 p else if j = 6 ∧ i = p then σ.2 6 q else σ.2 j i := fun _ _ _ => rfl
  rw [e2, e2, e2, e2]
  by_cases h6 : j = 6
  · subst h6
    by_cases c : i = q <;> by_cases d : i = p <;> by_cases e : p = q <;> simp_all
  · simp [h6]
/-- the two whose change is best, and the chance: the next two from p on -/
def qci (ρ : (Nat → Nat) × (Nat → Nat → Nat)) (a b : Nat) (s : Int32) (p : Nat) (st : Int32 × Int32) : Nat → Int32 × Int32
  | 0 => st
  | j + 1 => if p ≠ a ∧ p ≠ b ∧ p + 1 + j ≠ a ∧ p + 1 + j ≠ b then (if qcv (qSx ρ p (p + 1 + j)) a b s ≤ (qci ρ a b s p st j).2 then qci ρ a b s p st j else ((100 : Int32) * nI p + nI (p + 1 + j), qcv (qSx ρ p (p + 1 + j)) a b s)) else qci ρ a b s p st j
def qco (ρ : (Nat → Nat) × (Nat → Nat → Nat)) (a b : Nat) (s : Int32) : Nat → Int32 × Int32
  | 0 => (-1, qcv ρ a b s)
  | i + 1 => qci ρ a b s i (qco ρ a b s i) (ρ.1 1 - (i + 1))
theorem qci_s (a b : Nat) (s : Int32) (p : Nat) (st : Int32 × Int32) (j : Nat) : qci ρ a b s p st (j + 1) = if p ≠ a ∧ p ≠ b ∧ p + 1 + j ≠ a ∧ p + 1 + j ≠ b then (if qcv (qSx ρ p (p + 1 + j)) a b s ≤ (qci ρ a b s p st j).2 then qci ρ a b s p st j else ((100 : Int32) * nI p + nI (p + 1 + j), qcv (qSx ρ p (p + 1 + j)) a b s)) else qci ρ a b s p st j := rfl
theorem qco_s (a b : Nat) (s : Int32) (i : Nat) : qco ρ a b s (i + 1) = qci ρ a b s i (qco ρ a b s i) (ρ.1 1 - (i + 1)) := rfl
theorem s_change {t : zS} (R : qRm r ρ) (M : qMR m ρ) (W : qW ρ) (a b s : Int32) {post : Int32 → zS → zS → zS → zS → Int32 → zS → Prop}
    (h : ∀ v y' k' t' m', qFr 9 50 m m' → qMR m' ρ → (∀ u, qTr u m → qTr u m') → post v x y' k' t' v m')
    (hr : ∀ v j, j < 5 → post v (zA x 12 j (x.2.1 12 j + 1)) y k t v (zA m 8 (j + 2) (m.2.1 8 (j + 2) + 1))) :
    wp_X7_change x r y k t a b s (fun v x' y' k' t' => wp_X8_change m a b s (fun v' m' => post v x' y' k' t' v' m')) := by
  have hc := R.1.2.2
  simp only [wp_X7_change, wp_X8_change, wp_X7_change_16, wp_X8_change_21, e7_isPair R.1, e8_areTwo M, e7_isSecond, e8_inI (lo := 0) (hi := 9999) (a := 0) (b := 9999) rfl rfl, e7_r2, e8_r2]
  cases h1 : qP2 ρ a b
  · simp only [q_f]; exact hr _ 0 (by decide)
  cases h3 : qI 0 9999 s
  · simp only [q_t, q_f]; exact hr _ 0 (by decide)
  simp only [q_t]
  obtain ⟨a, b, ha, hb, hab, rfl, rfl⟩ := qP2_t h1
  -- what the reference keeps
  have keep : ∀ m' m'', (qFr 9 50 m m' ∧ qMR m' ρ ∧ (∀ u, qTr u m → qTr u m')) → qFr 9 18 m' m'' → ∀ ρ', qMR m'' ρ' → (qFr 9 50 m m'' ∧ qMR m'' ρ' ∧ (∀ u, qTr u m → qTr u m'')) := fun m' m'' H F ρ' M'' => ⟨qFr_tr H.1 (qFr_wk F (by decide) (by decide)), M'', fun u hu => qTr_fr (H.2.2 u hu) F (Or.inl (by decide))⟩
  have keep2 : ∀ ρ' m' m'', (qFr 9 50 m m' ∧ qMR m' ρ' ∧ (∀ u, qTr u m → qTr u m')) → qFr 35 50 m' m'' → (qFr 9 50 m m'' ∧ qMR m'' ρ' ∧ (∀ u, qTr u m → qTr u m'')) := fun ρ' m' m'' H F => ⟨qFr_tr H.1 (qFr_wk F (by decide) (by decide)), qMR_fr H.2.1 F (Or.inr (by decide)), fun u hu => qTr_fr (H.2.2 u hu) F (Or.inr (by decide))⟩
  have m8 : ∀ (P : Int32 → zS → Prop), (∀ m', (qFr 9 50 m m' ∧ qMR m' ρ ∧ (∀ u, qTr u m → qTr u m')) → P (qco ρ a b s (ρ.1 1)).1 m') → wp_X8_chanceNow m (nI a) (nI b) s (fun v7 s8 => ∃ n : Nat, wp_X8_change_43 (nI a) (nI b) s P n s8 v7 (-1 : Int32) (0 : Int32)) := by
    intro P hP
    refine a8_chance M W ha hb hab s (fun m1 f1 _ => ?_)
    refine q_lp4 (B := wb_X8_change_43 (nI a) (nI b) s P) (fun q m' x4 x5 x6 => ∃ i, i + q = ρ.1 1 ∧ (qFr 9 50 m m' ∧ qMR m' ρ ∧ (∀ u, qTr u m → qTr u m')) ∧ x6 = nI i ∧ x5 = (qco ρ a b s i).1 ∧ x4 = (qco ρ a b s i).2) ?_ (ρ.1 1) _ _ _ _ ⟨0, by omega, keep2 ρ m m1 ⟨qFr_rf, M, fun _ hu => hu⟩ f1, rfl, rfl, rfl⟩
    rintro q m' _ _ _ ⟨i, hi, H, rfl, rfl, rfl⟩ K hK
    unfold wb_X8_change_43
    rw [H.2.1.1.2.1]
    by_cases e : nI (ρ.1 1) ≤ nI i
    · have := (q_leN (by omega) (by omega)).mp e
      have : i = ρ.1 1 := by omega
      rw [q_pos e, this]; exact hP m' H
    · have e' : ¬ ρ.1 1 ≤ i := fun z => e ((q_leN (by omega) (by omega)).mpr z)
      have hin : i < ρ.1 1 := by omega
      rw [q_neg e, q_all, q_succ]
      refine q_lp5 (B := wb_X8_change_58 (nI a) (nI b) s P K) (fun q2 m'' x4 x5 x6 x7 => ∃ j, i + 1 + j + q2 = ρ.1 1 ∧ (qFr 9 50 m m'' ∧ qMR m'' ρ ∧ (∀ u, qTr u m → qTr u m'')) ∧ x6 = nI i ∧ x7 = nI (i + 1 + j) ∧ x5 = (qci ρ a b s i (qco ρ a b s i) j).1 ∧ x4 = (qci ρ a b s i (qco ρ a b s i) j).2) ?_ (ρ.1 1 - (i + 1)) _ _ _ _ _ ⟨0, by omega, H, rfl, rfl, rfl, rfl⟩
      rintro q2 m'' _ _ _ _ ⟨j, hj, H2, rfl, rfl, rfl, rfl⟩ K2 hK2
      unfold wb_X8_change_58 wp_X8_change_137
      rw [H2.2.1.1.2.1]
      by_cases e2 : nI (ρ.1 1) ≤ nI (i + 1 + j)
      · have := (q_leN (by omega) (by omega)).mp e2
        have : j = ρ.1 1 - (i + 1) := by omega
        rw [q_pos e2, q_all, q_succ]
        exact hK (q - 1) _ _ _ _ (by omega) ⟨i + 1, by omega, H2, rfl, by rw [qco_s, this], by rw [qco_s, this]⟩
      · have e2' : ¬ ρ.1 1 ≤ i + 1 + j := fun z => e2 ((q_leN (by omega) (by omega)).mpr z)
        have hjn : i + 1 + j < ρ.1 1 := by omega
        rw [q_neg e2]
        simp only [nI_eq (a := i) (b := a) (by omega) (by omega), nI_eq (a := i) (b := b) (by omega) (by omega), nI_eq (a := i + 1 + j) (b := a) (by omega) (by omega), nI_eq (a := i + 1 + j) (b := b) (by omega) (by omega), forall_eq, q_succ]
        have nx : ∀ m3, (qFr 9 50 m m3 ∧ qMR m3 ρ ∧ (∀ u, qTr u m → qTr u m3)) → ∀ u v, qci ρ a b s i (qco ρ a b s i) (j + 1) = (u, v) → K2 m3 v u (nI i) (nI (i + 1 + j + 1)) := fun m3 H3 u v hv => hK2 (q2 - 1) _ _ _ _ _ (by omega) ⟨j + 1, by omega, H3, rfl, rfl, by rw [hv], by rw [hv]⟩
        have sk : ¬ (i ≠ a ∧ i ≠ b ∧ i + 1 + j ≠ a ∧ i + 1 + j ≠ b) → K2 m'' (qci ρ a b s i (qco ρ a b s i) j).2 (qci ρ a b s i (qco ρ a b s i) j).1 (nI i) (nI (i + 1 + j + 1)) := fun c => nx m'' H2 _ _ (by rw [qci_s, if_neg c])
        refine ⟨fun c => sk (by omega), fun c1 => ⟨fun c => sk (by omega), fun c2 => ⟨fun c => sk (by omega), fun c3 => ⟨fun c => sk (by omega), fun c4 => ?_⟩⟩⟩⟩
        refine a8_exch H2.2.1 hin hjn (fun m3 M3 F3 => ?_)
        have H3 := keep m'' m3 H2 F3 _ M3
        refine a8_chance M3 (qSx_W W hin hjn) ha hb hab s (fun m4 F4 _ => ?_)
        have H4 := keep2 _ m3 m4 H3 F4
        refine a8_exch H4.2.1 hin hjn (fun m5 M5 F5 => ?_)
        rw [qSx_sx] at M5
        have H5 : (qFr 9 50 m m5 ∧ qMR m5 ρ ∧ (∀ u, qTr u m → qTr u m5)) := ⟨qFr_tr H4.1 (qFr_wk F5 (by decide) (by decide)), M5, fun u hu => qTr_fr (H4.2.2 u hu) F5 (Or.inl (by decide))⟩
        refine ⟨fun c => nx m5 H5 _ _ (by rw [qci_s, if_pos ⟨c1, c2, c3, c4⟩, if_pos c]), fun c => nx m5 H5 _ _ (by rw [qci_s, if_pos ⟨c1, c2, c3, c4⟩, if_neg c])⟩
  refine a7_chance R W ha hb hab s (fun y' k' _ => ?_)
  refine q_lp7 (B := wb_X7_change_42 r (nI a) (nI b) s _) (fun q x' y1 k1 t1 x4 x5 x6 => ∃ i, i + q = ρ.1 1 ∧ x = x' ∧ x6 = nI i ∧ x4 = (qco ρ a b s i).1 ∧ x5 = (qco ρ a b s i).2) ?_ (ρ.1 1) _ _ _ _ _ _ _ ⟨0, by omega, rfl, rfl, rfl, rfl⟩
  rintro q _ y1 k1 t1 _ _ _ ⟨i, hi, rfl, rfl, rfl, rfl⟩ K hK
  unfold wb_X7_change_42
  rw [R.1.1 1 (by decide)]
  by_cases e : nI (ρ.1 1) ≤ nI i
  · have := (q_leN (by omega) (by omega)).mp e
    have : i = ρ.1 1 := by omega
    rw [q_pos e, this]
    exact m8 _ (fun m' H => h _ _ _ _ _ H.1 H.2.1 H.2.2)
  · have e' : ¬ ρ.1 1 ≤ i := fun z => e ((q_leN (by omega) (by omega)).mpr z)
    have hin : i < ρ.1 1 := by omega
    rw [q_neg e, q_all, q_succ]
    refine q_lp8 (B := wb_X7_change_60 r (nI a) (nI b) s _ K) (fun q2 x' y2 k2 t2 x4 x5 x6 x7 => ∃ j, i + 1 + j + q2 = ρ.1 1 ∧ x = x' ∧ x6 = nI i ∧ x7 = nI (i + 1 + j) ∧ x4 = (qci ρ a b s i (qco ρ a b s i) j).1 ∧ x5 = (qci ρ a b s i (qco ρ a b s i) j).2) ?_ (ρ.1 1 - (i + 1)) _ _ _ _ _ _ _ _ ⟨0, by omega, rfl, rfl, rfl, rfl, rfl⟩
    rintro q2 _ y2 k2 t2 _ _ _ _ ⟨j, hj, rfl, rfl, rfl, rfl, rfl⟩ K2 hK2
    unfold wb_X7_change_60 wp_X7_change_152
    rw [R.1.1 1 (by decide)]
    by_cases e2 : nI (ρ.1 1) ≤ nI (i + 1 + j)
    · have := (q_leN (by omega) (by omega)).mp e2
      have : j = ρ.1 1 - (i + 1) := by omega
      rw [q_pos e2, q_all, q_succ]
      exact hK (q - 1) _ _ _ _ _ _ _ (by omega) ⟨i + 1, by omega, rfl, rfl, by rw [qco_s, this], by rw [qco_s, this]⟩
    · have e2' : ¬ ρ.1 1 ≤ i + 1 + j := fun z => e2 ((q_leN (by omega) (by omega)).mpr z)
      have hjn : i + 1 + j < ρ.1 1 := by omega
      rw [q_neg e2]
      simp only [nI_eq (a := i) (b := a) (by omega) (by omega), nI_eq (a := i) (b := b) (by omega) (by omega), nI_eq (a := i + 1 + j) (b := a) (by omega) (by omega), nI_eq (a := i + 1 + j) (b := b) (by omega) (by omega), forall_eq, q_succ]
      have nx : ∀ y3 k3 t3 u v, qci ρ a b s i (qco ρ a b s i) (j + 1) = (u, v) → K2 x y3 k3 t3 u v (nI i) (nI (i + 1 + j + 1)) := fun y3 k3 t3 u v hv => hK2 (q2 - 1) _ _ _ _ _ _ _ _ (by omega) ⟨j + 1, by omega, rfl, rfl, rfl, by rw [hv], by rw [hv]⟩
      have sk : ¬ (i ≠ a ∧ i ≠ b ∧ i + 1 + j ≠ a ∧ i + 1 + j ≠ b) → K2 x y2 k2 t2 (qci ρ a b s i (qco ρ a b s i) j).1 (qci ρ a b s i (qco ρ a b s i) j).2 (nI i) (nI (i + 1 + j + 1)) := fun c => nx _ _ _ _ _ (by rw [qci_s, if_neg c])
      refine ⟨fun c => sk (by omega), fun c1 => ⟨fun c => sk (by omega), fun c2 => ⟨fun c => sk (by omega), fun c3 => ⟨fun c => sk (by omega), fun c4 => ?_⟩⟩⟩⟩
      refine a1_take R (fun t3 R3 => a1_exch R3 W hin hjn (fun t4 R4 => a7_chance R4 (qSx_W W hin hjn) ha hb hab s (fun y4 k4 _ => ?_)))
      refine ⟨fun c => nx _ _ _ _ _ (by rw [qci_s, if_pos ⟨c1, c2, c3, c4⟩, if_pos c]), fun c => nx _ _ _ _ _ (by rw [qci_s, if_pos ⟨c1, c2, c3, c4⟩, if_neg c])⟩
end QTAKE
