/-! the class's list of ways -/
theorem z_G {r : zS} {k k' : Nat} {g : Nat → Int32} : (zG r k g).2.1 k' = if k' = k then g else r.2.1 k' := rfl
theorem z_G1 {r : zS} {k : Nat} {g : Nat → Int32} : (zG r k g).1 = r.1 := rfl
theorem q_getD_l (L : List (List Nat)) (π : List Nat) {w : Nat} (h : w < L.length) : (L ++ [π]).getD w [] = L.getD w [] := by
  rw [List.getD_eq_getElem?_getD, List.getElem?_append_left h, List.getD_eq_getElem?_getD]
theorem q_getD_r (L : List (List Nat)) (π : List Nat) : (L ++ [π]).getD L.length [] = π := by
  rw [List.getD_eq_getElem?_getD, List.getElem?_append_right (Nat.le_refl _), Nat.sub_self]; rfl
def qY (y : zS) (L : List (List Nat)) : Prop :=
  y.1 0 = nI L.length ∧ L.length ≤ 48 ∧ ∀ w, w < L.length → y.2.1 2 w = nI (L.getD w []).length ∧ (L.getD w []).length ≤ 9 ∧ ∀ i, i < (L.getD w []).length → y.2.1 1 (w * 9 + i) = nI (qat (L.getD w []) i)
theorem qY_A {y : zS} {L : List (List Nat)} (Y : qY y L) {k : Nat} (hk : k ≠ 1 ∧ k ≠ 2) (j : Nat) (x : Int32) : qY (zA y k j x) L := by
  refine ⟨Y.1, Y.2.1, fun w hw => ?_⟩
  obtain ⟨h1, h2, h3⟩ := Y.2.2 w hw
  refine ⟨by rw [z_A, if_neg (by omega)]; exact h1, h2, fun i hi => by rw [z_A, if_neg (by omega)]; exact h3 i hi⟩
theorem a6_keep {y : zS} {L : List (List Nat)} (Y : qY y L) {π : List Nat} (hl : 1 ≤ π.length ∧ π.length ≤ 9) (ht : ∀ i, i < π.length → y.2.1 4 i = nI (qat π i)) (hb : L.length < 48) {post : zS → Prop}
    (h : ∀ y', qY y' (L ++ [π]) → y'.2.1 4 = y.2.1 4 → post y') : wp_X6_keep y (nI π.length) post := by
  have m9 : ∀ n, n < 48 → nI n * (9 : Int32) = nI (n * 9) := by decide +kernel
  have c1 : ¬ nI L.length < 0 := by rw [q_ltI, q_zero, nI_toInt (by omega)]; omega
  have c2 : ¬ (48 : Int32) ≤ nI L.length := fun c => by have := (nI_leI (a := 48) (by decide) (by omega)).mp c; omega
  have c3 : ¬ nI π.length < (1 : Int32) := fun c => by have := (nI_ltI (b := 1) (by omega) (by decide)).mp c; omega
  have c4 : ¬ (9 : Int32) < nI π.length := fun c => by have := (nI_ltI (a := 9) (by decide) (by omega)).mp c; omega
  have c5 : ¬ nI (L.length * 9) < 0 := by rw [q_ltI, q_zero, nI_toInt (by omega)]; omega
  have c6 : ¬ nI π.length < 0 := by rw [q_ltI, q_zero, nI_toInt (by omega)]; omega
  have z0 : (0 : Int32).toNatClampNeg = 0 := rfl
  have hv : vp_in (nI L.length) 48 := q_in hb (by omega)
  unfold wp_X6_keep
  rw [Y.1, q_neg c1, q_neg c2, q_neg c3, q_neg c4, m9 _ hb, z0, q_clamp (n := L.length * 9) (by omega), q_clamp (n := π.length) (by omega)]
  refine ⟨⟨⟨by decide, c5, c6⟩, by omega, by omega⟩, fun g hg => ?_⟩
  rw [z_G1, Y.1]
  refine ⟨hv, fun j hj v hv' => ?_⟩
  rw [q_clamp (by omega)] at hj
  subst hj
  rw [z_Ai, z_G1, Y.1, q_succ] at hv'
  subst hv'
  refine h _ ⟨?_, ?_, fun w hw => ?_⟩ ?_
  · rw [z_I, if_pos rfl, List.length_append]; rfl
  · rw [List.length_append]; exact hb
  · rw [List.length_append] at hw
    have hw : w < L.length + 1 := hw
    simp only [z_Ia, z_A, z_G]
    by_cases e : w = L.length
    · subst e
      rw [q_getD_r]
      refine ⟨by simp, hl.2, fun i hi => ?_⟩
      rw [if_neg (by omega), if_pos trivial, hg, pk_cpy_in (by omega) (by omega), Nat.zero_add, show L.length * 9 + i - L.length * 9 = i by omega]
      exact ht i hi
    · rw [q_getD_l L π (by omega)]
      obtain ⟨h1, h2, h3⟩ := Y.2.2 w (by omega)
      refine ⟨by rw [if_neg (by omega), if_neg (by omega)]; exact h1, h2, fun i hi => ?_⟩
      rw [if_neg (by omega), if_pos trivial, hg, pk_cpy_out (by omega)]
      exact h3 i hi
  · funext i
    rw [z_Ia, z_A, if_neg (by omega), z_G, if_neg (by decide)]
theorem qfl_len {g : Nat → List (List Nat)} {n : Nat} : ∀ j, j ≤ n → (qfl g j).length ≤ (qfl g n).length := by
  induction n with
  | zero => intro j hj; have : j = 0 := by omega
            subst this; exact Nat.le_refl _
  | succ n ih =>
    intro j hj
    by_cases e : j = n + 1
    · rw [e]; exact Nat.le_refl _
    · have := ih j (by omega)
      show (qfl g j).length ≤ (qfl g n ++ g n).length
      rw [List.length_append]; omega
theorem q_not {a u : Nat} : nI a &&& (nI u ^^^ (-1 : Int32)) = nI (a &&& ((2 ^ 32 - 1) ^^^ u)) := by
  have e : nI u ^^^ (-1 : Int32) = nI ((2 ^ 32 - 1) ^^^ u) := by
    apply Int32.toBitVec_inj.mp
    show BitVec.ofNat 32 u ^^^ BitVec.ofNat 32 (2 ^ 32 - 1) = BitVec.ofNat 32 ((2 ^ 32 - 1) ^^^ u)
    rw [BitVec.ofNat_xor, BitVec.xor_comm]
  rw [e, q_and]
theorem q_not_bit {a u i : Nat} (hi : i < 32) : (a &&& ((2 ^ 32 - 1) ^^^ u)).testBit i = (a.testBit i && !u.testBit i) := by
  rw [Nat.testBit_and, Nat.testBit_xor, Nat.testBit_two_pow_sub_one, decide_eq_true hi]
  cases u.testBit i <;> rfl
theorem qN_bit {ρ : (Nat → Nat) × (Nat → Nat → Nat)} (p q : Nat) : (qN ρ p).testBit q = (decide (q < ρ.1 1) && qnb ρ p q) := qmask_bit _ _ _
theorem a6_extend {r : zS} {ρ : (Nat → Nat) × (Nat → Nat → Nat)} (R : qRm r ρ) {to : Nat} (hto : to < ρ.1 1) : ∀ (d : Nat) (π : List Nat) (L : List (List Nat)) (y : zS) (post : zS → Prop), 10 ≤ d + π.length → 1 ≤ π.length → π.length ≤ 9 → (∀ q ∈ π, q < ρ.1 1) → qY y L → (∀ i, i < π.length → y.2.1 4 i = nI (qat π i)) → L.length + (qx ρ to d π).length ≤ 48 →
    (∀ y', qY y' (L ++ qx ρ to d π) → (∀ i, i < π.length → y'.2.1 4 i = y.2.1 4 i) → post y') → wp_X6_extend d y r (nI to) (nI π.length) (nI (qmk π)) post := by
  have hc := R.1.2.2
  intro d
  induction d with
  | zero => intro π L y post h10 h1 h9; omega
  | succ d ih =>
    intro π L y post h10 h1 h9 hr Y ht hb h
    cases π with
    | nil => exact absurd h1 (by decide)
    | cons p π =>
      have hp : p < ρ.1 1 := hr p List.mem_cons_self
      have hq12 : qmk (p :: π) < 2 ^ 12 := qmk_lt (fun q hq => by have := hr q hq; omega)
      have c1 : ¬ nI (p :: π).length < (1 : Int32) := fun c => by have := (nI_ltI (b := 1) (by omega) (by decide)).mp c; omega
      have c2 : nI (p :: π).length ≤ (9 : Int32) := (nI_leI (b := 9) (by omega) (by decide)).mpr h9
      have s1 : nI (p :: π).length - (1 : Int32) = nI π.length := by
        have k : ∀ n, n < 10 → nI (n + 1) - (1 : Int32) = nI n := by decide +kernel
        exact k _ (by rw [List.length_cons] at h9; omega)
      have lc : (p :: π).length = π.length + 1 := rfl
      rw [wu_X6_extend]
      unfold wb_X6_extend
      rw [q_neg c1, q_pos c2, s1, q_clamp (by omega)]
      have tp : y.2.1 4 π.length = nI p := by rw [ht π.length (by rw [lc]; omega), qat_cons_eq]
      refine ⟨q_in (by omega) (by omega), ?_⟩
      rw [q_all, tp]
      unfold qx at hb h
      by_cases e : p = to
      · subst e
        rw [if_pos rfl] at hb h
        rw [q_pos rfl]
        have hb : L.length + 1 ≤ 48 := hb
        exact a6_keep Y ⟨h1, h9⟩ ht (by omega) (fun y' Y' e' => h y' Y' (fun i _ => by rw [e']))
      · rw [if_neg e] at hb h
        rw [q_neg (fun c => e ((nI_eq (by omega) (by omega)).mp c))]
        by_cases g : 9 ≤ (p :: π).length
        · rw [if_pos g, List.append_nil] at h
          have : (p :: π).length = 9 := by omega
          rw [q_pos (by rw [this]; rfl)]
          exact h y Y (fun _ _ => rfl)
        · rw [if_neg g] at hb h
          rw [q_neg (fun c => by have := (nI_eq (b := 9) (by omega) (by decide)).mp c; omega)]
          refine q1_nearAt R hp ?_
          rw [q_all, q_not]
          generalize hG : (fun q => if (qnb ρ p q && !decide (q ∈ p :: π)) = true then qx ρ to d (q :: p :: π) else []) = G at hb h
          have hGq : ∀ q, G q = if (qnb ρ p q && !decide (q ∈ p :: π)) = true then qx ρ to d (q :: p :: π) else [] := fun q => by rw [← hG]
          refine q_lp3 (B := wb_X6_extend_57 r (nI to) (nI (p :: π).length) (nI (qmk (p :: π))) (wp_X6_extend d) post) (fun m y' a i => ∃ j, j + m = ρ.1 1 ∧ i = nI j ∧ a = nI (qN ρ p &&& ((2 ^ 32 - 1) ^^^ qmk (p :: π))) ∧ qY y' (L ++ qfl G j) ∧ ∀ i, i < (p :: π).length → y'.2.1 4 i = y.2.1 4 i) ?_ (ρ.1 1) _ _ _ ⟨0, by omega, rfl, rfl, by rw [show qfl G 0 = [] from rfl, List.append_nil]; exact Y, fun _ _ => rfl⟩
          rintro m y' _ _ ⟨j, hj, rfl, rfl, Y', t'⟩ K hK
          unfold wb_X6_extend_57
          rw [R.1.1 1 (by decide)]
          by_cases e1 : nI (ρ.1 1) ≤ nI j
          · have := (q_leN (by omega) (by omega)).mp e1
            have : j = ρ.1 1 := by omega
            subst this
            rw [q_pos e1]
            exact h y' Y' t'
          · have e1' : ¬ ρ.1 1 ≤ j := fun z => e1 ((q_leN (by omega) (by omega)).mpr z)
            have hlt : (qN ρ p &&& ((2 ^ 32 - 1) ^^^ qmk (p :: π))) < 2 ^ 31 := Nat.lt_of_le_of_lt Nat.and_le_left (Nat.lt_of_lt_of_le (qN_lt hc p) (by decide))
            rw [q_neg e1, q_bit0 hlt (by omega), q_not_bit (by omega), qN_bit, decide_eq_true (show j < ρ.1 1 by omega), Bool.true_and, qmk_bit]
            have nx : ∀ y'', qY y'' (L ++ qfl G (j + 1)) → (∀ i, i < (p :: π).length → y''.2.1 4 i = y.2.1 4 i) → wp_X6_extend_100 r (nI to) (nI (p :: π).length) (nI (qmk (p :: π))) (wp_X6_extend d) post K y'' (nI (qN ρ p &&& ((2 ^ 32 - 1) ^^^ qmk (p :: π)))) (nI j) := by
              intro y'' Y'' t'' v hv
              rw [hv, q_succ]
              exact hK (m - 1) _ _ _ (by omega) ⟨j + 1, by omega, rfl, rfl, Y'', t''⟩
            refine ⟨fun c => ?_, fun c => ?_⟩
            · refine nx y' ?_ t'
              have : G j = [] := by rw [hGq, c, if_neg (by decide)]
              rw [show qfl G (j + 1) = qfl G j ++ G j from rfl, this, List.append_nil]; exact Y'
            · have c' : (qnb ρ p j && !decide (j ∈ p :: π)) = true := by
                cases z : (qnb ρ p j && !decide (j ∈ p :: π)) with
                | true => rfl
                | false => exact absurd z c
              have eG : G j = qx ρ to d (j :: p :: π) := by rw [hGq, if_pos c']
              refine ⟨q_in (by omega) (by omega), fun j11 hj11 => ?_⟩
              rw [q_clamp (by omega)] at hj11
              subst hj11
              rw [q_succ, q_orb (by omega)]
              have eL : (qfl G (j + 1)).length ≤ (qfl G (ρ.1 1)).length := qfl_len (j + 1) (by omega)
              rw [show qfl G (j + 1) = qfl G j ++ G j from rfl, List.length_append, eG] at eL
              refine ih (j :: p :: π) (L ++ qfl G j) (zA y' 4 (p :: π).length (nI j)) _ (by rw [List.length_cons]; omega) (by rw [List.length_cons]; omega) (by rw [List.length_cons]; omega) (fun q hq => ?_) (qY_A Y' (by decide) _ _) (fun i hi => ?_) (by rw [List.length_append]; omega) (fun y'' Y'' t'' => ?_)
              · rcases List.mem_cons.mp hq with rfl | hq
                · omega
                · exact hr q hq
              · rw [z_A]
                by_cases z : i = (p :: π).length
                · rw [if_pos ⟨rfl, z⟩, z, qat_cons_eq]
                · have hi : i < (p :: π).length + 1 := hi
                  rw [if_neg (by omega), t' i (by omega), ht i (by omega), qat_cons_lt j (p :: π) (by omega)]
              · refine nx y'' ?_ (fun i hi => ?_)
                · rw [show qfl G (j + 1) = qfl G j ++ G j from rfl, eG, ← List.append_assoc]; exact Y''
                · rw [t'' i (by rw [List.length_cons (a := j)]; omega), z_A, if_neg (by omega)]; exact t' i hi
/-- all ways from one to another -/
def qAll (ρ : (Nat → Nat) × (Nat → Nat → Nat)) (a b : Nat) : List (List Nat) := qx ρ b 10 [a]
theorem a6_find {y r : zS} {ρ : (Nat → Nat) × (Nat → Nat → Nat)} (R : qRm r ρ) {a b : Nat} (ha : a < ρ.1 1) (hb : b < ρ.1 1) (hB : (qAll ρ a b).length ≤ 48) {post : zS → Prop}
    (h : ∀ y', qY y' (qAll ρ a b) → post y') : wp_X6_find y r (nI a) (nI b) post := by
  have hc := R.1.2.2
  unfold wp_X6_find
  rw [e1_has R.1, qP_n hc ha, q_t, e1_has R.1, qP_n hc hb, q_t]
  refine ⟨q_in (n := 0) (by decide) (by decide), fun j hj => ?_⟩
  have hj : j = 0 := hj
  subst hj
  rw [q_shl1 a (by omega)]
  have e : (2 : Nat) ^ a = qmk [a] := by simp [qmk]
  rw [e]
  refine a6_extend R hb 10 [a] [] _ post (Nat.le_add_right _ _) (Nat.le_refl 1) (show 1 ≤ 9 by decide) (fun q hq => ?_) ?_ (fun i hi => ?_) (by simpa [qAll] using hB) (fun y' Y' _ => h y' Y')
  · rw [List.mem_singleton.mp hq]; exact ha
  · exact ⟨rfl, by decide, fun w hw => absurd hw (by simp)⟩
  · have hi : i < 1 := hi
    have : i = 0 := by omega
    subst this
    rw [z_A, if_pos ⟨rfl, rfl⟩]; rfl
/-! reading the list -/
theorem e6_has {y : zS} {L : List (List Nat)} (Y : qY y L) {p : Int32} {post : Int32 → Prop} : wp_X6_has y p post = post (qz (qI 0 ((L.length : Int) - 1) p)) := by
  have hn := Y.2.1
  unfold wp_X6_has qI
  rw [q_ltI, q_leI, q_leI, Y.1, nI_toInt (by omega), q_zero]
  by_cases c : p.toInt < 0
  · rw [q_pos c, decide_eq_false (by omega)]; rfl
  · rw [q_neg c]
    by_cases d : (L.length : Int) ≤ p.toInt
    · rw [q_pos d, decide_eq_false (by omega)]; rfl
    · have : ¬ (48 : Int32).toInt ≤ p.toInt := by show ¬ (48 : Int) ≤ p.toInt; omega
      rw [q_neg d, q_neg this, decide_eq_true (by omega)]; rfl
theorem e6_size {y : zS} {L : List (List Nat)} (Y : qY y L) {w : Nat} (hw : w < L.length) {post : Int32 → Prop} : wp_X6_sizeOf y (nI w) post = post (nI (L.getD w []).length) := by
  have hn := Y.2.1
  unfold wp_X6_sizeOf
  rw [e6_has Y, qI_t.mpr (by rw [nI_toInt (by omega)]; omega), q_t, q_clamp (by omega), (Y.2.2 w hw).1]
  exact q_and_t (q_in (by omega) (by omega))
theorem e6_size_no {y : zS} {L : List (List Nat)} (Y : qY y L) {post : Int32 → Prop} : wp_X6_sizeOf y (-1) post = post 0 := by
  unfold wp_X6_sizeOf
  rw [e6_has Y, qI_f.mpr (fun c => by have : (0 : Int) ≤ -1 := c.1; omega), q_f]
theorem e6_on {y : zS} {L : List (List Nat)} (Y : qY y L) {w i : Nat} (hw : w < L.length) (hi : i < (L.getD w []).length) {post : Int32 → Prop} : wp_X6_pupilOn y (nI w) (nI i) post = post (nI (qat (L.getD w []) i)) := by
  have hn := Y.2.1
  obtain ⟨h1, h2, h3⟩ := Y.2.2 w hw
  have m9 : ∀ n, n < 48 → nI n * (9 : Int32) = nI (n * 9) := by decide +kernel
  have c1 : ¬ nI i < 0 := by rw [q_ltI, q_zero, nI_toInt (by omega)]; omega
  have c2 : ¬ nI (L.getD w []).length ≤ nI i := fun c => by have := (q_leN (by omega) (by omega)).mp c; omega
  unfold wp_X6_pupilOn
  rw [q_neg c1, e6_size Y hw, q_neg c2, m9 w (by omega), nI_add, q_clamp (by omega), h3 i hi]
  exact q_and_t (q_in (by omega) (by omega))
