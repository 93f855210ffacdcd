/-! the class's walk along a way of the list -/
section QWALK
variable {r : zS} {ρ : (Nat → Nat) × (Nat → Nat → Nat)}
theorem q_drop {π : List Nat} {h : Nat} (hh : h + 1 < π.length) : π.drop (π.length - 1 - (h + 1)) = qat π (h + 1) :: π.drop (π.length - 1 - h) := by
  have hlt : π.length - 1 - (h + 1) < π.length := by omega
  rw [List.drop_eq_getElem_cons hlt]
  have e1 : qat π (h + 1) = π[π.length - 1 - (h + 1)] := by
    unfold qat
    rw [List.getD_eq_getElem?_getD, List.getElem?_eq_getElem hlt]; rfl
  rw [e1, show π.length - 1 - (h + 1) + 1 = π.length - 1 - h by omega]
theorem q_drop0 {π : List Nat} (h : 1 ≤ π.length) : π.drop (π.length - 1) = [qat π 0] := by
  have hlt : π.length - 1 < π.length := by omega
  rw [List.drop_eq_getElem_cons hlt, show π.length - 1 + 1 = π.length by omega, List.drop_length]
  congr 1
  unfold qat
  rw [Nat.sub_zero, List.getD_eq_getElem?_getD, List.getElem?_eq_getElem hlt]; rfl
theorem q_drop_cons {π : List Nat} {h : Nat} (hh : h < π.length) : ∃ t, π.drop (π.length - 1 - h) = qat π h :: t := by
  cases h with
  | zero => exact ⟨[], q_drop0 (by omega)⟩
  | succ h => exact ⟨_, q_drop hh⟩
/-- the last pupil is the target, and none is there twice -/
theorem q_last {π : List Nat} {b : Nat} (hh : π.head? = some b) (hn : π.Nodup) {i : Nat} (hi : i < π.length) : qat π i = b ↔ i = π.length - 1 := by
  have hlt : π.length - 1 - i < π.length := by omega
  have e1 : qat π i = π[π.length - 1 - i] := by
    unfold qat
    rw [List.getD_eq_getElem?_getD, List.getElem?_eq_getElem hlt]; rfl
  have e0 : π[0]'(by omega) = b := by
    rw [List.head?_eq_getElem?, List.getElem?_eq_getElem (by omega)] at hh
    exact Option.some.inj hh
  rw [e1, ← e0]
  by_cases c : i = π.length - 1
  · refine ⟨fun _ => c, fun _ => ?_⟩
    subst c
    congr 1
    omega
  · refine ⟨fun z => ?_, fun z => absurd z c⟩
    exact absurd z.symm ((List.pairwise_iff_getElem.mp hn) 0 (π.length - 1 - i) (by omega) hlt (by omega))
theorem a5_take {k y : zS} {L : List (List Nat)} (R : qRm r ρ) (W : qW ρ) (Y : qY y L) {w : Nat} (hw : w < L.length) {b : Nat} (hh : (L.getD w []).head? = some b) (hn : (L.getD w []).Nodup) (hr : ∀ q ∈ L.getD w [], q < ρ.1 1) (s : Int32) {post : zS → Prop}
    (h : ∀ k', k'.1 0 = nI w → k'.1 1 = nI (qch ρ b s (L.getD w [])) → k'.1 2 = nI (qsec ρ (L.getD w [])) → k'.1 3 = qz (qse ρ s (L.getD w [])) → post k') : wp_X5_take k r y (nI w) s post := by
  have hL := Y.2.1
  have hl9 := (Y.2.2 w hw).2.1
  generalize hπ : L.getD w [] = π at *
  have hl1 : 1 ≤ π.length := by
    cases π with
    | nil => cases hh
    | cons a t => rw [List.length_cons]; omega
  have p1 : ∀ n, 1 ≤ n → n < 10 → nI n - (1 : Int32) = nI (n - 1) := fun n hn1 hn2 => pk_sub (b := 1) hn1
  have d1000 : (1000 : Int32) = nI 1000 := rfl
  unfold wp_X5_take
  rw [e6_size Y hw, hπ, q_all, p1 _ hl1 (by omega)]
  refine q_lp3 (B := wb_X5_take_33 r y (nI w) s post) (fun m k' x5 x6 => ∃ h, h + m = π.length - 1 ∧ x6 = nI h ∧ x5 = nI (π.length - 1) ∧ k'.1 0 = nI w ∧ k'.1 1 = nI (qch ρ b s (π.drop (π.length - 1 - h))) ∧ k'.1 2 = nI (qsec ρ (π.drop (π.length - 1 - h))) ∧ k'.1 3 = qz (qse ρ s (π.drop (π.length - 1 - h)))) ?_ (π.length - 1) _ _ _ ⟨0, by omega, rfl, rfl, rfl, ?_, ?_, ?_⟩
  · rintro m k' _ _ ⟨i, hi, rfl, rfl, f0, f1, f2, f3⟩ K hK
    unfold wb_X5_take_33
    by_cases e : nI (π.length - 1) ≤ nI i
    · have := (q_leN (by omega) (by omega)).mp e
      have : i = π.length - 1 := by omega
      subst this
      rw [Nat.sub_self, List.drop_zero] at f1 f2 f3
      rw [q_pos e]
      exact h k' f0 f1 f2 f3
    · have e' : ¬ π.length - 1 ≤ i := fun z => e ((q_leN (by omega) (by omega)).mpr z)
      have hq : qat π (i + 1) < ρ.1 1 := hr _ (qat_mem (by omega))
      have hp : qat π i < ρ.1 1 := hr _ (qat_mem (by omega))
      obtain ⟨t, ht⟩ := q_drop_cons (π := π) (h := i) (by omega)
      have hd := q_drop (π := π) (h := i) (by omega)
      rw [ht] at f1 f2 f3 hd
      have hc1 := qch_le (ρ := ρ) b s (qat π i :: t)
      rw [q_neg e, q_all, q_succ, e6_on Y hw (by rw [hπ]; omega), hπ, f2]
      have last : (nI i = nI (π.length - 1) - (1 : Int32)) = (qat π (i + 1) = b) := by
        have : nI (π.length - 1) - (1 : Int32) = nI (π.length - 1 - 1) := p1 _ (by omega) (by omega)
        rw [this, nI_eq (by omega) (by omega), q_last hh hn (by omega)]
        exact propext ⟨fun z => by omega, fun z => by omega⟩
      rw [last]
      -- one hand
      have go : ∀ l : Bool, l = decide (qat π (i + 1) = b) → wp_X5_take_73 r y (nI w) s post K k' (nI (π.length - 1)) (nI i) (s + nI (qsec ρ (qat π i :: t))) (qz l) (nI (qat π (i + 1))) := by
        intro l hl
        unfold wp_X5_take_73
        refine a1_loss R W hq l _ ?_
        have hla := qla_le ρ (qat π (i + 1)) l (s + nI (qsec ρ (qat π i :: t)))
        have hm : qch ρ b s (qat π i :: t) * (1000 - qla ρ (qat π (i + 1)) l (s + nI (qsec ρ (qat π i :: t)))) ≤ 1000000 * 1000 := Nat.mul_le_mul hc1 (by omega)
        have ech : qch ρ b s (π.drop (π.length - 1 - (i + 1))) = qch ρ b s (qat π i :: t) * (1000 - qla ρ (qat π (i + 1)) l (s + nI (qsec ρ (qat π i :: t)))) / 1000 := by
          rw [hd, hl]; rfl
        rw [q_all, f1, d1000, pk_sub (by omega), pk_mul, pk_div (by omega) (by decide) (by decide), ← ech]
        -- seen
        have e3 : (zI k' 1 (nI (qch ρ b s (π.drop (π.length - 1 - (i + 1)))))).1 3 = qz (qse ρ s (qat π i :: t)) := f3
        have fin : ∀ sn : Bool, sn = qse ρ s (π.drop (π.length - 1 - (i + 1))) → wp_X5_take_121 r y (nI w) s post K (zI k' 1 (nI (qch ρ b s (π.drop (π.length - 1 - (i + 1)))))) (nI (π.length - 1)) (nI i) (qz sn) := by
          intro sn hsn
          unfold wp_X5_take_121
          rw [e6_on Y hw (by rw [hπ]; omega), hπ]
          refine ⟨⟨by cases sn <;> rfl, by cases sn <;> rfl⟩, a1_hand R W hp ?_⟩
          have e2 : (zI (zI k' 1 (nI (qch ρ b s (π.drop (π.length - 1 - (i + 1)))))) 3 (qz sn)).1 2 = nI (qsec ρ (qat π i :: t)) := f2
          rw [q_all, q_all, e2, nI_add, q_succ]
          refine hK (m - 1) _ _ _ (by omega) ⟨i + 1, by omega, rfl, rfl, f0, rfl, ?_, ?_⟩
          · rw [hd]; rfl
          · show qz sn = _
            rw [hsn]
        rw [e3]
        cases g : qse ρ s (qat π i :: t)
        · rw [q_pos qz_f, e1_looks R.1 W]
          refine q_br (fun g2 => ?_) (fun g2 => ?_)
          · exact fin true (by rw [hd]; show true = (qse ρ s (qat π i :: t) || qlk ρ (s + nI (qsec ρ (qat π i :: t)))); rw [g2, Bool.or_true])
          · exact fin false (by rw [hd]; show false = (qse ρ s (qat π i :: t) || qlk ρ (s + nI (qsec ρ (qat π i :: t)))); rw [g, g2]; rfl)
        · rw [q_neg (by decide)]
          exact fin true (by rw [hd]; show true = (qse ρ s (qat π i :: t) || qlk ρ (s + nI (qsec ρ (qat π i :: t)))); rw [g]; rfl)
      exact ⟨fun c => go true (by rw [decide_eq_true c]), fun c => go false (by rw [decide_eq_false c])⟩
  · show nI 1000000 = _
    rw [Nat.sub_zero, q_drop0 hl1]; rfl
  · rw [Nat.sub_zero, q_drop0 hl1]; rfl
  · rw [Nat.sub_zero, q_drop0 hl1]; rfl
/-- a walk on no way -/
theorem a5_take_no {k y : zS} {L : List (List Nat)} (Y : qY y L) (s : Int32) {post : zS → Prop} (h : ∀ k', post k') : wp_X5_take k r y (-1) s post := by
  unfold wp_X5_take
  rw [e6_size_no Y, q_all]
  refine ⟨1, ?_⟩
  show wb_X5_take_33 r y (-1) s post _ _ _ _
  unfold wb_X5_take_33
  rw [q_pos (by decide)]
  exact h _
/-- every way of a list goes to b -/
def qGo (ρ : (Nat → Nat) × (Nat → Nat → Nat)) (a b : Nat) (L : List (List Nat)) : Prop := ∀ π ∈ L, qWay ρ b π ∧ ∃ mid, π = b :: (mid ++ [a])
theorem qAll_go {a b : Nat} (ha : a < ρ.1 1) (hab : a ≠ b) : qGo ρ a b (qAll ρ a b) := by
  intro π hπ
  obtain ⟨h1, pre, h2⟩ := qx_way 10 [a] (List.nodup_cons.mpr ⟨List.not_mem_nil, List.nodup_nil⟩) (show 1 ≤ 9 by decide) (fun q hq => by rw [List.mem_singleton.mp hq]; exact ha) π hπ
  refine ⟨h1, ?_⟩
  cases pre with
  | nil =>
    rw [h2] at h1
    exact absurd (Option.some.inj h1.1) hab
  | cons c t =>
    have : c = b := by rw [h2] at h1; exact Option.some.inj h1.1
    exact ⟨t, by rw [h2, this]; rfl⟩
/-- those between -/
def qbtw (π : List Nat) : List Nat := π.tail.dropLast
theorem a6_between {y : zS} {L : List (List Nat)} (Y : qY y L) {w : Nat} (hw : w < L.length) {a b : Nat} {mid : List Nat} (hm : L.getD w [] = b :: (mid ++ [a])) (hr : ∀ q ∈ mid, q < 12) {post : Int32 → Prop} (h : post (nI (qmk mid))) : wp_X6_betweenOf y (nI w) post := by
  have hL := Y.2.1
  have hl9 := (Y.2.2 w hw).2.1
  have len : (L.getD w []).length = mid.length + 2 := by rw [hm, List.length_cons, List.length_append]; rfl
  have qa : ∀ i, i < mid.length → qat (L.getD w []) (i + 1) = qat mid i := by
    intro i hi
    rw [hm]
    rw [qat_cons_lt _ _ (by rw [List.length_append]; show i + 1 < mid.length + 1; omega)]
    unfold qat
    rw [show (mid ++ [a]).length - 1 - (i + 1) = mid.length - 1 - i by rw [List.length_append]; show mid.length + 1 - 1 - (i + 1) = _; omega]
    rw [List.getD_eq_getElem?_getD, List.getElem?_append_left (by omega), List.getD_eq_getElem?_getD]
  refine q_lp2 (B := wb_X6_betweenOf_4 y (nI w) post) (fun m acc x => ∃ j, j + m = mid.length ∧ x = nI (j + 1) ∧ acc = nI (qmk (mid.drop (mid.length - j)))) ?_ mid.length _ _ ⟨0, by omega, rfl, by rw [Nat.sub_zero, List.drop_length]; rfl⟩
  rintro m _ _ ⟨j, hj, rfl, rfl⟩ K hK
  unfold wb_X6_betweenOf_4
  rw [e6_size Y hw, len]
  have s1 : nI (mid.length + 2) - (1 : Int32) = nI (mid.length + 1) := pk_sub (b := 1) (by omega)
  rw [s1]
  by_cases e : nI (mid.length + 1) ≤ nI (j + 1)
  · have := (q_leN (by omega) (by omega)).mp e
    have : j = mid.length := by omega
    subst this
    rw [Nat.sub_self, List.drop_zero, q_pos e]; exact h
  · have e' : ¬ mid.length + 1 ≤ j + 1 := fun z => e ((q_leN (by omega) (by omega)).mpr z)
    have hq : qat mid j < 12 := hr _ (qat_mem (by omega))
    rw [q_neg e, e6_on Y hw (by omega), qa j (by omega), q_all, q_all, q_succ, q_orb (by omega)]
    refine hK (m - 1) _ _ (by omega) ⟨j + 1, by omega, rfl, ?_⟩
    have : mid.drop (mid.length - (j + 1)) = qat mid j :: mid.drop (mid.length - j) := by
      have hlt : mid.length - (j + 1) < mid.length := by omega
      rw [List.drop_eq_getElem_cons hlt, show mid.length - (j + 1) + 1 = mid.length - j by omega]
      congr 1
      unfold qat
      rw [show mid.length - 1 - j = mid.length - (j + 1) by omega, List.getD_eq_getElem?_getD, List.getElem?_eq_getElem hlt]; rfl
    rw [this]; rfl
theorem a6_all {y : zS} {L : List (List Nat)} (Y : qY y L) {w : Nat} (hw : w < L.length) (hr : ∀ q ∈ L.getD w [], q < 12) {post : Int32 → Prop} (h : post (nI (qmk (L.getD w [])))) : wp_X6_allOf y (nI w) post := by
  have hL := Y.2.1
  have hl9 := (Y.2.2 w hw).2.1
  generalize hπ : L.getD w [] = π at *
  refine q_lp2 (B := wb_X6_allOf_4 y (nI w) post) (fun m acc x => ∃ j, j + m = π.length ∧ x = nI j ∧ acc = nI (qmk (π.drop (π.length - j)))) ?_ π.length _ _ ⟨0, by omega, rfl, by rw [Nat.sub_zero, List.drop_length]; rfl⟩
  rintro m _ _ ⟨j, hj, rfl, rfl⟩ K hK
  unfold wb_X6_allOf_4
  rw [e6_size Y hw, hπ]
  by_cases e : nI π.length ≤ nI j
  · have := (q_leN (by omega) (by omega)).mp e
    have : j = π.length := by omega
    subst this
    rw [Nat.sub_self, List.drop_zero, q_pos e]; exact h
  · have e' : ¬ π.length ≤ j := fun z => e ((q_leN (by omega) (by omega)).mpr z)
    have hq : qat π j < 12 := hr _ (qat_mem (by omega))
    rw [q_neg e, e6_on Y hw (by rw [hπ]; omega), hπ, q_all, q_all, q_succ, q_orb (by omega)]
    refine hK (m - 1) _ _ (by omega) ⟨j + 1, by omega, rfl, ?_⟩
    have : π.drop (π.length - (j + 1)) = qat π j :: π.drop (π.length - j) := by
      have hlt : π.length - (j + 1) < π.length := by omega
      rw [List.drop_eq_getElem_cons hlt, show π.length - (j + 1) + 1 = π.length - j by omega]
      congr 1
      unfold qat
      rw [show π.length - 1 - j = π.length - (j + 1) by omega, List.getD_eq_getElem?_getD, List.getElem?_eq_getElem hlt]; rfl
    rw [this]; rfl
/-- the readers of a mask -/
def qrm (ρ : (Nat → Nat) × (Nat → Nat → Nat)) (a : Nat) : Nat := qmask (ρ.1 1) (fun i => a.testBit i && qrd ρ i)
theorem a1_readers (R : qRm r ρ) (W : qW ρ) {a : Nat} (ha : a < 2 ^ 31) {post : Int32 → Prop} (h : post (nI (qrm ρ a))) : wp_X1_readersAmong r (nI a) post := by
  have hc := R.1.2.2
  refine q_lp2 (B := wb_X1_readersAmong_4 r (nI a) post) (fun m acc x => ∃ j, j + m = ρ.1 1 ∧ x = nI j ∧ acc = nI (qmask j (fun i => a.testBit i && qrd ρ i))) ?_ (ρ.1 1) _ _ ⟨0, by omega, rfl, rfl⟩
  rintro m _ _ ⟨j, hj, rfl, rfl⟩ K hK
  unfold wb_X1_readersAmong_4 wp_X1_readersAmong_37
  rw [R.1.1 1 (by decide)]
  by_cases e : nI (ρ.1 1) ≤ nI j
  · have := (q_leN (by omega) (by omega)).mp e
    have : j = ρ.1 1 := by omega
    subst this
    rw [q_pos e]; exact h
  · have e' : ¬ ρ.1 1 ≤ j := fun z => e ((q_leN (by omega) (by omega)).mpr z)
    rw [q_neg e, q_bit0 ha (by omega)]
    simp only [forall_eq, q_succ, q_orb (q := j) (by omega)]
    have step : ∀ z, z = qmask (j + 1) (fun i => a.testBit i && qrd ρ i) → K (nI z) (nI (j + 1)) := fun z hz => hK (m - 1) _ _ (by omega) ⟨j + 1, by omega, rfl, by rw [hz]⟩
    refine ⟨fun c => step _ (qmask_f (by rw [c]; rfl)).symm, fun c => ?_⟩
    have c' : a.testBit j = true := by
      cases z : a.testBit j with
      | true => rfl
      | false => exact absurd z c
    refine q1_kindAt R (by omega) ?_
    rw [e_reads (W.2.1 j (by omega)).1]
    refine q_br (fun d => step _ (qmask_t (by rw [c']; exact d)).symm) (fun d => step _ (qmask_f (by rw [c']; exact d)).symm)
end QWALK
