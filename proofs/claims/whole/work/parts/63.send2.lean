/-! send -/
section QSEND2
variable {x r y k m u : zS} {ρ : (Nat → Nat) × (Nat → Nat → Nat)}
theorem a8_sendB (W : qW ρ) {a b : Nat} (ha : a < ρ.1 1) (hb : b < ρ.1 1) {B : List Nat} {m4 : zS} (M4 : qMR m4 ρ) (hl : 2 ≤ B.length ∧ B.length ≤ 9) (hr : ∀ q ∈ B, q < ρ.1 1)
    (h43 : m4.1 43 = nI (B.length - 1)) (h45 : ∀ i, i < B.length → m4.2.1 45 i = nI (qat B i)) {n : Nat} (hn : n ≤ 16) (hm : m4.1 21 = nI n) {post : Int32 → zS → Prop}
    (h : ∀ m', qNt ρ a b B n (m4.1 18) (m4.1 25) (m4.1 19) (m4.1 20) (m4.2.1 22) (m4.2.1 23) (m4.2.1 24) (m'.1 18) (m'.1 25) (m'.1 19) (m'.1 20) (m'.1 21) (m'.2.1 22) (m'.2.1 23) (m'.2.1 24) → qFr 18 26 m4 m' → post (qz (!(qps ρ B (m4.1 18) (m4.1 25) (B.length - 1)).2.2)) m') :
    ∃ n : Nat, wp_X8_send_46 (nI a) (nI b) post n m4 (0 : Int32) (0 : Int32) := by
  have hc := M4.2.2
  -- the end
  have fin : ∀ (m5 : zS) (st : Int32 × Int32 × Bool), st = qps ρ B (m4.1 18) (m4.1 25) (B.length - 1) → m5.1 18 = st.1 → m5.1 25 = st.2.1 → (∀ j, j ≠ 18 → j ≠ 25 → m5.1 j = m4.1 j) → m5.2 = m4.2 → wp_X8_send_168 (nI a) (nI b) post m5 (nI (qmk B)) (qz (!st.2.2)) := by
    intro m5 st hst k0 k1 k2 k3
    unfold wp_X8_send_168
    rw [q_shl1 a (by omega), q_shl1 b (by omega), q_or, q_not]
    refine a8_keep hn ((k2 21 (by decide) (by decide)).trans hm) _ _ _ (fun m6 t0 t4 t5 t6 t7 t8 => ?_)
    rw [q_all, q_all]
    have f5 : qFr 18 26 m4 m5 := fun j hj => ⟨k2 j (by omega) (by omega), by rw [k3], by rw [k3]⟩
    have := h (zI (zI m6 19 (m6.1 19 + 1)) 20 ((zI m6 19 (m6.1 19 + 1)).1 20 + qz (!st.2.2))) ⟨?_, ?_, ?_, ?_, ?_, ?_, ?_, ?_⟩ (qFr_I (k := 20) (qFr_I (k := 19) (qFr_tr f5 (qFr_wk t8 (by decide) (by decide))) (by decide) _) (by decide) _)
    · rw [← hst] at this; exact this
    · show m6.1 18 = _; rw [t0 18 (by decide), k0, hst]
    · show m6.1 25 = _; rw [t0 25 (by decide), k1, hst]
    · show m6.1 19 + 1 = _; rw [t0 19 (by decide), k2 19 (by decide) (by decide)]
    · show m6.1 20 + _ = _
      rw [t0 20 (by decide), k2 20 (by decide) (by decide), ← hst]
      cases st.2.2
      · rfl
      · exact Int32.add_zero _
    · show m6.1 21 = _; exact t4
    · rw [k3] at t5; exact t5
    · rw [k3] at t6; exact t6
    · rw [k3, hst] at t7; exact t7
  refine q_lp3 (B := wb_X8_send_46 (nI a) (nI b) post) (fun q m5 x3 x4 => ∃ i, i + q = B.length ∧ m4 = m5 ∧ x4 = nI i ∧ x3 = nI (qmk (B.drop (B.length - i)))) ?_ B.length _ _ _ ⟨0, by omega, rfl, rfl, by rw [Nat.sub_zero, List.drop_length]; rfl⟩
  rintro q _ _ _ ⟨i, hi, rfl, rfl, rfl⟩ K hK
  unfold wb_X8_send_46
  rw [h43]
  by_cases e : nI (B.length - 1) < nI i
  · have := (nI_ltI (by omega) (by omega)).mp e
    have : i = B.length := by omega
    subst this
    rw [Nat.sub_self, List.drop_zero, q_pos e]
    -- hand by hand
    refine q_lp4 (B := wb_X8_send_79 (nI a) (nI b) post) (fun q m5 x3 x4 x5 => ∃ i, i + q = B.length - 1 ∧ x3 = nI (qmk B) ∧ x5 = nI (i + 1) ∧ x4 = qz (!(qps ρ B (m4.1 18) (m4.1 25) i).2.2) ∧ m5.1 18 = (qps ρ B (m4.1 18) (m4.1 25) i).1 ∧ m5.1 25 = (qps ρ B (m4.1 18) (m4.1 25) i).2.1 ∧ (∀ j, j ≠ 18 → j ≠ 25 → m5.1 j = m4.1 j) ∧ m5.2 = m4.2) ?_ (B.length - 1) _ _ _ _ ⟨0, by omega, rfl, rfl, rfl, rfl, rfl, fun _ _ _ => rfl, rfl⟩
    rintro q2 m5 _ _ _ ⟨i, hi, rfl, rfl, rfl, k0, k1, k2, k3⟩ K2 hK2
    unfold wb_X8_send_79
    rw [k2 43 (by decide) (by decide), h43]
    by_cases e2 : nI (B.length - 1) < nI (i + 1)
    · have := (nI_ltI (by omega) (by omega)).mp e2
      have : i = B.length - 1 := by omega
      rw [q_pos e2]
      exact fin m5 (qps ρ B (m4.1 18) (m4.1 25) i) (by rw [this]) k0 k1 k2 k3
    · have e2' : ¬ B.length - 1 < i + 1 := fun z => e2 ((nI_ltI (by omega) (by omega)).mpr z)
      have hq : qat B (i + 1) < ρ.1 1 := hr _ (qat_mem (by omega))
      have hp : qat B i < ρ.1 1 := hr _ (qat_mem (by omega))
      have f5 : qFr 18 26 m4 m5 := fun j hj => ⟨k2 j (by omega) (by omega), by rw [k3], by rw [k3]⟩
      rw [q_neg e2]
      cases hs : (qps ρ B (m4.1 18) (m4.1 25) i).2.2
      · rw [q_pos (show qz (!false) = (1 : Int32) from rfl)]
        unfold wp_X8_below
        rw [q_all]
        refine ⟨by decide, q_in (by omega) (by omega), ?_⟩
        have ed : (zI m5 25 (m5.1 25 * 1103515245 + 12345)).1 25 = (qps ρ B (m4.1 18) (m4.1 25) i).2.1 * 1103515245 + 12345 := by rw [z_I, if_pos rfl, k1]
        have e43 : (zI m5 25 (m5.1 25 * 1103515245 + 12345)).1 43 = nI (B.length - 1) := by rw [z_I, if_neg (by decide), k2 43 (by decide) (by decide), h43]
        have e18 : (zI m5 25 (m5.1 25 * 1103515245 + 12345)).1 18 = (qps ρ B (m4.1 18) (m4.1 25) i).1 := by rw [z_I, if_neg (by decide), k0]
        have e45 : ∀ j, j < B.length → (zI m5 25 (m5.1 25 * 1103515245 + 12345)).2.1 45 j = nI (qat B j) := fun j hj => by rw [z_Ia, k3]; exact h45 j hj
        have M6 : qMR (zI m5 25 (m5.1 25 * 1103515245 + 12345)) ρ := qMR_fr (a := 18) (b := 26) M4 (qFr_I (k := 25) f5 (by decide) _) (Or.inr (by decide))
        have k2' : ∀ j, j ≠ 18 → j ≠ 25 → (zI m5 25 (m5.1 25 * 1103515245 + 12345)).1 j = m4.1 j := fun j j1 j2 => by rw [z_I, if_neg j2]; exact k2 j j1 j2
        have k3' : (zI m5 25 (m5.1 25 * 1103515245 + 12345)).2 = m4.2 := k3
        rw [ed, e43, e18, q_clamp (by omega), e45 (i + 1) (by omega)]
        generalize zI m5 25 (m5.1 25 * 1103515245 + 12345) = m6 at *
        have el : (nI (i + 1) = nI (B.length - 1)) = (i + 1 = B.length - 1) := propext (nI_eq (by omega) (by omega))
        rw [el]
        have go : ∀ l : Bool, l = decide (i + 1 = B.length - 1) → wp_X8_send_127 (nI a) (nI b) post K2 m6 (nI (qmk B)) (nI (i + 1)) (qz l) (qps ρ B (m4.1 18) (m4.1 25) i).1 (nI (qat B (i + 1))) (qdr ((qps ρ B (m4.1 18) (m4.1 25) i).2.1 * 1103515245 + 12345)) := by
          intro l hl'
          unfold wp_X8_send_127
          refine a8_loss M6 W hq l _ ?_
          have nx : ∀ lo : Bool, lo = !(decide (nI (qla ρ (qat B (i + 1)) l (qps ρ B (m4.1 18) (m4.1 25) i).1) ≤ qdr ((qps ρ B (m4.1 18) (m4.1 25) i).2.1 * 1103515245 + 12345))) → wp_X8_send_138 (nI a) (nI b) post K2 m6 (nI (qmk B)) (nI (i + 1)) (qz (!lo)) := by
            intro lo hlo
            have s1 : nI (i + 1) - (1 : Int32) = nI i := pk_sub (b := 1) (by omega)
            unfold wp_X8_send_138
            rw [s1, q_clamp (by omega), e45 i (by omega)]
            refine ⟨q_in (by omega) (by omega), a8_hand M6 W hp ?_⟩
            rw [q_all, q_all, q_succ]
            have st : qps ρ B (m4.1 18) (m4.1 25) (i + 1) = ((qps ρ B (m4.1 18) (m4.1 25) i).1 + nI (qtk ρ (qat B i)), (qps ρ B (m4.1 18) (m4.1 25) i).2.1 * 1103515245 + 12345, lo) := by
              rw [qps_s, hs, if_neg (by decide), hlo, hl']
            refine hK2 (q2 - 1) _ _ _ _ (by omega) ⟨i + 1, by omega, rfl, rfl, by rw [st], ?_, ?_, fun j j1 j2 => ?_, k3'⟩
            · rw [st, z_I, if_pos rfl, e18]
            · rw [st, z_I, if_neg (by decide), ed]
            · rw [z_I, if_neg j1]; exact k2' j j1 j2
          refine ⟨fun c => nx false ?_, fun c => nx true ?_⟩
          · rw [decide_eq_true c]; rfl
          · rw [decide_eq_false c]; rfl
        exact ⟨fun c => go true (by rw [decide_eq_true c]), fun c => go false (by rw [decide_eq_false c])⟩
      · rw [q_neg (show ¬ qz (!true) = (1 : Int32) from by decide)]
        exact hs ▸ fin m5 (qps ρ B (m4.1 18) (m4.1 25) i) (qps_stay hs _ (by omega)).symm k0 k1 k2 k3
  · have e' : ¬ B.length - 1 < i := fun z => e ((nI_ltI (by omega) (by omega)).mpr z)
    have hq : qat B i < 12 := by have := hr _ (qat_mem (π := B) (i := i) (by omega)); omega
    rw [q_neg e, q_clamp (by omega), h45 i (by omega)]
    refine ⟨q_in (by omega) (by omega), ?_⟩
    rw [q_all, q_all, q_succ, q_orb (by omega)]
    refine hK (q - 1) _ _ _ (by omega) ⟨i + 1, by omega, rfl, rfl, ?_⟩
    have : B.drop (B.length - (i + 1)) = qat B i :: B.drop (B.length - i) := by
      have hlt : B.length - (i + 1) < B.length := by omega
      rw [List.drop_eq_getElem_cons hlt, show B.length - (i + 1) + 1 = B.length - i by omega]
      congr 1
      unfold qat
      rw [show B.length - 1 - i = B.length - (i + 1) by omega, List.getD_eq_getElem?_getD, List.getElem?_eq_getElem hlt]; rfl
    rw [this]; rfl
theorem s_send (R : qRm r ρ) (M : qMR m ρ) (W : qW ρ) (T : qTr u m) (a b : Int32) {post : Int32 → zS → zS → zS → zS → Int32 → zS → Prop}
    (h : ∀ v y' u' k' m', qTr u' m' → qFr 18 50 m m' → qMR m' ρ → post v x y' u' k' v m')
    (hr : ∀ v j, j < 5 → ∀ y' k' m', qFr 35 50 m m' → post v (zA x 12 j (x.2.1 12 j + 1)) y' u k' v (zA m' 8 (j + 2) (m'.2.1 8 (j + 2) + 1))) :
    wp_X7_send x r y u k a b (fun v x' y' u' k' => wp_X8_send m a b (fun v' m' => post v x' y' u' k' v' m')) := by
  have hc := R.1.2.2
  obtain ⟨n, bb, cc, ⟨t1, t2, t3, t4⟩, ⟨t5, t6, t7⟩, t8⟩ := T
  simp only [wp_X7_send, wp_X8_send, e7_isPair R.1, e8_areTwo M, e7_r2, e8_r2, e7_r5, e8_r5]
  cases h1 : qP2 ρ a b
  · simp only [q_f]; exact hr _ 0 (by decide) y k m qFr_rf
  simp only [q_t]
  obtain ⟨a, b, ha, hb, hab, rfl, rfl⟩ := qP2_t h1
  have hB := q_many W ha hb hab
  have G := qAll_go (b := b) ha hab
  have m8 : ∀ (P : zS → Prop), (∀ m', qF m' ρ b (u.1 0) (qAll ρ a b) → qFr 35 50 m m' → P m') → wp_X8_findWays m (nI a) (nI b) (m.1 18) 0 P := fun P hP => a8_find (o := 0) M W ha hb hB (m.1 18) (by decide) (fun m' F f => by rw [q_filt0, ← t1] at F; exact hP m' F (qFr_wk f (by decide) (by decide)))
  refine a6_find R ha hb hB (fun y' Y => ?_)
  refine a5_surest (o := 0) R W Y G (u.1 0) (by decide) (fun hn k' => ?_) (fun B w k' hs hw hwB g0 g1 g2 => ?_)
  · rw [q_0]
    rw [q_filt0] at hn
    refine m8 _ (fun m' F f => ?_)
    rw [qF_len0 F (by omega), q_pos (qfo_none.mp hn)]
    exact hr _ 3 (by decide) _ _ _ f
  · rw [q_1, g0]
    rw [q_filt0] at hs
    have hl := q_lb G hw
    rw [hwB] at hl
    refine a4_pass R W Y G hw t5 t6 (fun u' hN => ?_)
    rw [hwB] at hN ⊢
    -- the reference, whatever the class has answered
    have fin : ∀ v : Int32, v = qz (!(qps ρ B (u.1 0) (u.1 1) (B.length - 1)).2.2) → wp_X8_findWays m (nI a) (nI b) (m.1 18) 0 (fun s4 => (s4.1 38 = 0 → post v x y' u' k' (-5) (zA s4 8 5 (s4.2.1 8 5 + 1))) ∧ (¬ s4.1 38 = 0 → ∃ n, wp_X8_send_46 (nI a) (nI b) (fun v' m' => post v x y' u' k' v' m') n s4 0 0)) := by
      intro v hv
      refine m8 _ (fun m4 F f => ?_)
      rw [qF_len0 F (by omega), q_neg (fun z => by rw [z] at hs; cases hs)]
      obtain ⟨b1, b2, b3, b4, b5⟩ := F.2.2.2.2.2 B hs
      have hBm := G B (qbest_mem B hs)
      refine a8_sendB W ha hb (qMR_fr M f (Or.inr (by decide))) hl hBm.1.2.2.2 b2 b5 t5 (by rw [(f 21 (by decide)).1]; exact t7) (fun m5 hN5 f5 => ?_)
      rw [(f 18 (by decide)).1, (f 25 (by decide)).1, ← t1, ← t2] at hN5 ⊢
      rw [← hv]
      obtain ⟨n1, n2, n3, n4, n5, n6, n7, n8⟩ := hN
      obtain ⟨q1, q2, q3, q4, q5, q6, q7, q8⟩ := hN5
      rw [(f 19 (by decide)).1, ← t3] at q3
      rw [(f 20 (by decide)).1, ← t4] at q4
      rw [(f 22 (by decide)).2.1] at q6
      rw [(f 23 (by decide)).2.1] at q7
      rw [(f 24 (by decide)).2.1] at q8
      have off : ∀ i, i < qn1 n → ¬ i + 1 = qn1 n → i + qof n < n := by
        intro i hi hi'
        by_cases c : n < 16
        · have e1 : qn1 n = n + 1 := if_pos c
          have e2 : qof n = 0 := if_pos c
          omega
        · have e1 : qn1 n = 16 := if_neg c
          have e2 : qof n = 1 := if_neg c
          omega
      have qn16 : qn1 n ≤ 16 := by unfold qn1; split <;> omega
      refine h v y' u' k' m5 ⟨qn1 n, (fun i => if i + 1 = qn1 n then qcl a b (qmk B) else bb (i + qof n)), (fun i => if i + 1 = qn1 n then !(qps ρ B (u.1 0) (u.1 1) (B.length - 1)).2.2 else cc (i + qof n)), ⟨by rw [n1, q1], by rw [n2, q2], by rw [n3, q3], by rw [n4, q4]⟩, ⟨qn16, n5, q5⟩, fun i hi => ?_⟩ ?_ ?_
      · rw [n6 i hi, q6 i hi, n7 i hi, q7 i hi, n8 i hi, q8 i hi]
        by_cases c : i + 1 = qn1 n
        · simp only [if_pos c]
          refine ⟨trivial, ⟨trivial, trivial, ?_⟩, trivial, trivial⟩
          exact Nat.lt_of_le_of_lt Nat.and_le_left (qmk_lt (fun q hq => by have := hBm.1.2.2.2 q hq; omega))
        · simp only [if_neg c]
          exact t8 _ (off i hi c)
      · exact qFr_tr (qFr_wk f (by decide) (by decide)) (qFr_wk f5 (by decide) (by decide))
      · exact qMR_fr (qMR_fr M f (Or.inr (by decide))) f5 (Or.inr (by decide))
    cases hl' : (qps ρ B (u.1 0) (u.1 1) (B.length - 1)).2.2
    · rw [hl'] at fin
      show (qz true = 0 → _) ∧ (¬ qz true = 0 → _)
      rw [q_t]; exact fin 1 rfl
    · rw [hl'] at fin
      show (qz false = 0 → _) ∧ (¬ qz false = 0 → _)
      rw [q_f]; exact fin 0 rfl
end QSEND2
