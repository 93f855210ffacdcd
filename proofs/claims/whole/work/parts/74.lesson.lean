/-! the reference's statements of a lesson -/
section QLES
variable {l y m : zS} {z : Nat} {b : Nat → Nat} {ρ : (Nat → Nat) × (Nat → Nat → Nat)}
/-- what a lesson doesn't touch of the reference -/
def qSf (m m' : zS) : Prop := ∀ k, (k < 9 ∨ (18 ≤ k ∧ k < 28) ∨ 34 ≤ k) → m'.1 k = m.1 k ∧ m'.2.1 k = m.2.1 k ∧ m'.2.2 k = m.2.2 k
theorem qSf_rf : qSf m m := fun _ _ => ⟨rfl, rfl, rfl⟩
theorem qSf_tr {m' m'' : zS} (h : qSf m m') (h' : qSf m' m'') : qSf m m'' := fun k hk =>
  ⟨(h' k hk).1.trans (h k hk).1, (h' k hk).2.1.trans (h k hk).2.1, (h' k hk).2.2.trans (h k hk).2.2⟩
theorem qSf_fr {m' : zS} {a c : Nat} (F : qFr a c m m') (h : (9 ≤ a ∧ c ≤ 18) ∨ (28 ≤ a ∧ c ≤ 34)) : qSf m m' := fun k hk => F k (by omega)
theorem qTz_Sf {m' : zS} (T : qTz y m z b) (F : qSf m m') : qTz y m' z b := qTz_fr T (F 7 (by omega)).1 (F 6 (by omega)).2.1
theorem qLk_fr {m' : zS} {p : Nat} (L : qLk m z b p) (F : qFr 9 18 m m') : qLk m' z b p :=
  ⟨by rw [(F 28 (by omega)).1]; exact L.1, by rw [(F 29 (by omega)).1]; exact L.2.1, by rw [(F 30 (by omega)).1]; exact L.2.2.1, fun h => by rw [(F 31 (by omega)).1]; exact L.2.2.2 h⟩
theorem qwo_ne {p i j : Nat} (hi : i < 5) (hj : j < 5) (hne : i ≠ j) (h : qwo z b p i = true) : qwo z b p j = false := by
  refine decide_eq_false (fun g => ?_)
  have h := of_decide_eq_true h
  have e : zLen.getD i 0 = zLen.getD j 0 := h.2.1.symm.trans g.2.1
  have c0 : zLen.getD i 0 = zLen.getD j 0 → i = j ∨ (zCh i 0 ≠ zCh j 0 ∧ 0 < zLen.getD i 0) := by
    have a : i = 0 ∨ i = 1 ∨ i = 2 ∨ i = 3 ∨ i = 4 := by omega
    have c : j = 0 ∨ j = 1 ∨ j = 2 ∨ j = 3 ∨ j = 4 := by omega
    rcases a with a | a | a | a | a <;> rcases c with c | c | c | c | c <;> subst a <;> subst c <;> decide
  rcases c0 e with c | ⟨c, c2⟩
  · exact hne c
  · exact c ((h.2.2 0 c2).symm.trans (g.2.2 0 (by omega)))
theorem qnk_v {p : Nat} {lo hi : Int} (h : qnk z b p lo hi = true) : lo ≤ (qval z b p : Int) ∧ (qval z b p : Int) ≤ hi := (of_decide_eq_true h).2
theorem q_nm1 {v : Nat} (h : v < 2 ^ 31) : ¬ nI v = (-1 : Int32) := fun c => by
  have e : (nI v).toInt = (-1 : Int32).toInt := by rw [c]
  rw [nI_toInt h] at e
  have : (-1 : Int32).toInt = -1 := rfl
  omega
theorem a8_tells (T : qTz y m z b) {p : Nat} (hp : p ≤ z) (L : qLk m z b p) {lo hi : Int32} {P : Int32 → zS → Prop}
    (h1 : qnk z b (qen0 z b p) lo.toInt hi.toInt = true → ∀ m', qLk m' z b (qen0 z b (qen0 z b p)) → m'.2.1 33 0 = nI (qval z b (qen0 z b p)) → qFr 28 34 m m' → P 1 m')
    (h0 : qnk z b (qen0 z b p) lo.toInt hi.toInt = false → ∀ m', m'.1 32 = nI (qst0 z b (qen0 z b p)) → qFr 28 34 m m' → P 0 m') : wp_X8_tells m lo hi P := by
  have he := qen0_in (b := b) hp
  unfold wp_X8_tells
  refine a8_look T he.2.1 L.1 (fun m1 L1 F1 => ?_)
  have F1' := qFr_wk F1 (a' := 28) (b' := 34) (by decide) (by decide)
  exact a8_number (j := 0) (qTz_Fr T F1 (by decide)) he.2.1 L1 (by decide) (fun c m' L' e _ F' => ⟨rfl, h1 c m' L' e (qFr_tr F1' F')⟩) (fun c m' e F' => ⟨rfl, h0 c m' e (qFr_tr F1' F')⟩)
theorem q_4m : ∀ n, n < 5 → ((4 : Int32) * nI n - (1 : Int32)).toInt = 4 * (n : Int) - 1 := by decide +kernel
theorem a8_freeD (T : qTz y m z b) (M : qMR m ρ) (W : qW ρ) {p : Nat} (hp : p ≤ z) (L : qLk m z b p) {P : Int32 → zS → Prop}
    (h1 : qnk z b p 0 (4 * (ρ.1 0 : Int) - 1) = true → qoc ρ (qval z b p) = false → ∀ m', qLk m' z b (qen0 z b p) → m'.2.1 33 1 = nI (qval z b p) → m'.2.1 33 0 = m.2.1 33 0 → qFr 28 34 m m' → P 1 m')
    (h0 : (qnk z b p 0 (4 * (ρ.1 0 : Int) - 1) = false ∨ qoc ρ (qval z b p) = true) → ∀ m', m'.1 32 = nI (qst0 z b p) → qFr 28 34 m m' → P 0 m') : wp_X8_freeDesk m 1 P := by
  have ht := qtk0_le (z := z) (b := b) p
  have hw := W.1
  have hi : ((4 : Int32) * m.1 9 - (1 : Int32)).toInt = 4 * (ρ.1 0 : Int) - 1 := by rw [M.1.1, q_4m _ (by omega)]
  have z0 : (0 : Int32).toInt = 0 := rfl
  have num : (qnk z b p 0 (4 * (ρ.1 0 : Int) - 1) = true → qoc ρ (qval z b p) = false) → wp_X8_freeDesk_36 1 P m := by
    intro c
    unfold wp_X8_freeDesk_36
    refine a8_number (j := 1) T hp L (by decide) (fun g m' L' e eo F => ?_) (fun g m' e F => ?_)
    · rw [hi, z0] at g
      exact ⟨rfl, h1 g (c g) m' L' e (eo 0 (by decide)) F⟩
    · rw [hi, z0] at g
      exact ⟨rfl, h0 (Or.inl g) m' e F⟩
  unfold wp_X8_freeDesk
  rw [L.2.1, nI_k2 (by omega)]
  refine ⟨fun t2 => ?_, fun t2 => num (fun g => absurd (of_decide_eq_true g).1 t2)⟩
  have hv := qval_le (b := b) hp t2
  rw [L.2.2.2 t2, e8_isDesk M hw.2.1]
  refine q_br (fun c => ?_) (fun c => num (fun g => ?_))
  · have c := qI_t.mp c
    rw [nI_toInt (by omega)] at c
    refine e8_holder M W (by omega) (fun o q hq => ?_) (fun o => ?_)
    · rw [q_neg (q_nm1 (by omega))]
      unfold wp_X8_wrong
      rw [q_all, L.2.2.1]
      exact ⟨rfl, h0 (Or.inr o) _ rfl (qFr_I (k := 32) qFr_rf (by decide) _)⟩
    · rw [q_pos rfl]; exact num (fun _ => o)
  · have c := qI_f.mp c
    rw [nI_toInt (by omega)] at c
    exact absurd (qnk_v g) c
theorem a8_to46 (T : qTz y m z b) (M : qMR m ρ) (W : qW ρ) {p : Nat} (hp : p ≤ z) (L : qLk m z b p) {P : Int32 → zS → Prop} (h : qwo z b p 0 = false ∨ ρ.1 1 ≠ 0) (k : wp_X8_statement_46 P m) : wp_X8_statement m P := by
  have hc := M.2.2
  unfold wp_X8_statement
  refine a8_word T hp L (q_br (fun c => ?_) (fun _ => k))
  rw [M.1.2.1, q_nz (by omega)]
  refine ⟨fun c0 => ?_, fun _ => k⟩
  rcases h with h | h
  · rw [h] at c; cases c
  · exact absurd c0 h
theorem a8_to118 (T : qTz y m z b) (M : qMR m ρ) (W : qW ρ) {p : Nat} (hp : p ≤ z) (L : qLk m z b p) {P : Int32 → zS → Prop} (h0 : qwo z b p 0 = false ∨ ρ.1 1 ≠ 0) (h : qwo z b p 1 = false ∨ 12 ≤ ρ.1 1) (k : wp_X8_statement_118 P m) : wp_X8_statement m P := by
  have hc := M.2.2
  refine a8_to46 T M W hp L h0 ?_
  unfold wp_X8_statement_46
  refine a8_word T hp L (q_br (fun c => ?_) (fun _ => k))
  have c12 : ((12 : Int32) ≤ m.1 10) = (12 ≤ ρ.1 1) := by rw [M.1.2.1]; exact propext (nI_leI (a := 12) (by decide) (by omega))
  rw [c12]
  refine ⟨fun _ => k, fun c0 => ?_⟩
  rcases h with h | h
  · rw [h] at c; cases c
  · exact absurd h c0
theorem a8_none (T : qTz y m z b) (M : qMR m ρ) (W : qW ρ) {p : Nat} (hp : p ≤ z) (L : qLk m z b p) {P : Int32 → zS → Prop} (h0 : qwo z b p 0 = false ∨ ρ.1 1 ≠ 0) (h1 : qwo z b p 1 = false ∨ 12 ≤ ρ.1 1) (h2 : qwo z b p 2 = false) (h3 : qwo z b p 3 = false) (h4 : qwo z b p 4 = false)
    (hN : ∀ m', m'.1 32 = nI (qst0 z b p) → qSf m m' → P 0 m') : wp_X8_statement m P := by
  refine a8_to118 T M W hp L h0 h1 ?_
  unfold wp_X8_statement_118
  refine a8_word T hp L ?_
  rw [h2, q_f]
  refine a8_word T hp L ?_
  rw [h3, q_f]
  refine a8_word T hp L ?_
  rw [h4, q_f]
  unfold wp_X8_wrong
  rw [q_all, L.2.2.1]
  exact ⟨rfl, hN _ rfl (qSf_fr (a := 28) (c := 34) (qFr_I (k := 32) qFr_rf (by decide) _) (by decide))⟩
theorem a8_stRows (T : qTz y m z b) (M : qMR m ρ) (W : qW ρ) {p : Nat} (hp : p ≤ z) (L : qLk m z b p) {P : Int32 → zS → Prop} (h0 : qwo z b p 0 = true) (c0 : ρ.1 1 = 0)
    (hY : qnk z b (qen0 z b p) 2 4 = true → ∀ m', qLk m' z b (qen0 z b (qen0 z b p)) → qMR m' (qSi ρ 0 (qval z b (qen0 z b p))) → qSf m m' → P 1 m')
    (hN : qnk z b (qen0 z b p) 2 4 = false → ∀ m', m'.1 32 = nI (qst0 z b (qen0 z b p)) → qSf m m' → P 0 m') : wp_X8_statement m P := by
  have hc := M.2.2
  have v0 : vp_in (0 : Int32) 3 := q_in (n := 0) (by decide) (by decide)
  unfold wp_X8_statement
  refine a8_word T hp L ?_
  rw [h0, q_t, M.1.2.1, q_pos (show nI (ρ.1 1) = 0 by rw [c0]; rfl)]
  refine a8_tells T hp L (fun c m' L' e F => ?_) (fun c m' e F => ?_)
  · rw [q_1]
    have z0 : (0 : Int32).toNatClampNeg = 0 := rfl
    unfold wp_X8_statement_41
    rw [z0, e]
    have M' := qMR_fr M F (Or.inr (by decide))
    have F9 : qFr 9 18 m' (zI m' 9 (nI (qval z b (qen0 z b p)))) := qFr_I (k := 9) qFr_rf (by decide) _
    exact ⟨v0, rfl, hY c _ (qLk_fr L' F9) ⟨⟨rfl, M'.1.2.1, M'.1.2.2.1, M'.1.2.2.2.1, M'.1.2.2.2.2⟩, M'.2.1, M'.2.2⟩ (qSf_tr (qSf_fr F (by decide)) (qSf_fr F9 (by decide)))⟩
  · rw [q_0]
    unfold wp_X8_statement_41
    have F9 : qFr 9 18 m' (zI m' 9 (m'.1 9)) := qFr_I (k := 9) qFr_rf (by decide) _
    exact ⟨rfl, hN c _ e (qSf_tr (qSf_fr F (by decide)) (qSf_fr F9 (by decide)))⟩
theorem a8_stPupil (T : qTz y m z b) (M : qMR m ρ) (W : qW ρ) {p : Nat} (hp : p ≤ z) (L : qLk m z b p) {P : Int32 → zS → Prop} (h0 : qwo z b p 0 = false) (h1 : qwo z b p 1 = true) (hn : ρ.1 1 < 12)
    (hY : qnk z b (qen0 z b p) 0 5 = true → qnk z b (qen0 z b (qen0 z b p)) 0 (4 * (ρ.1 0 : Int) - 1) = true → qoc ρ (qval z b (qen0 z b (qen0 z b p))) = false → qnk z b (qen0 z b (qen0 z b (qen0 z b p))) 0 9 = true →
      ∀ m', qLk m' z b (qen0 z b (qen0 z b (qen0 z b (qen0 z b p)))) → qMR m' (qSt ρ (qval z b (qen0 z b p)) (qval z b (qen0 z b (qen0 z b p))) (qval z b (qen0 z b (qen0 z b (qen0 z b p))))) → qSf m m' → P 1 m')
    (hN : qnk z b (qen0 z b p) 0 5 = false → ∀ m', m'.1 32 = nI (qst0 z b (qen0 z b p)) → qSf m m' → P 0 m')
    (hN1 : qnk z b (qen0 z b p) 0 5 = true → (qnk z b (qen0 z b (qen0 z b p)) 0 (4 * (ρ.1 0 : Int) - 1) = false ∨ qoc ρ (qval z b (qen0 z b (qen0 z b p))) = true) → ∀ m', m'.1 32 = nI (qst0 z b (qen0 z b (qen0 z b p))) → qSf m m' → P 0 m')
    (hN2 : qnk z b (qen0 z b p) 0 5 = true → qnk z b (qen0 z b (qen0 z b p)) 0 (4 * (ρ.1 0 : Int) - 1) = true → qoc ρ (qval z b (qen0 z b (qen0 z b p))) = false → qnk z b (qen0 z b (qen0 z b (qen0 z b p))) 0 9 = false → ∀ m', m'.1 32 = nI (qst0 z b (qen0 z b (qen0 z b (qen0 z b p)))) → qSf m m' → P 0 m') : wp_X8_statement m P := by
  have hc := M.2.2
  have e0 := (qen0_in (b := b) hp).2.1
  have e1 := (qen0_in (b := b) e0).2.1
  have e2 := (qen0_in (b := b) e1).2.1
  have v0 : vp_in (0 : Int32) 3 := q_in (n := 0) (by decide) (by decide)
  have v1 : vp_in (1 : Int32) 3 := q_in (n := 1) (by decide) (by decide)
  have v2 : vp_in (2 : Int32) 3 := q_in (n := 2) (by decide) (by decide)
  have z0 : (0 : Int32).toNatClampNeg = 0 := rfl
  have z1 : (1 : Int32).toNatClampNeg = 1 := rfl
  have z2 : (2 : Int32).toNatClampNeg = 2 := rfl
  refine a8_to46 T M W hp L (Or.inl h0) ?_
  unfold wp_X8_statement_46
  refine a8_word T hp L ?_
  have c12 : ((12 : Int32) ≤ m.1 10) = (12 ≤ ρ.1 1) := by rw [M.1.2.1]; exact propext (nI_leI (a := 12) (by decide) (by omega))
  rw [h1, q_t, c12, q_neg (by omega)]
  refine a8_tells T hp L (fun c m' L' e F => ?_) (fun c m' e F => ?_)
  · rw [q_1]
    have M' := qMR_fr M F (Or.inr (by decide))
    have T' := qTz_Fr T F (by decide)
    refine a8_freeD T' M' W e1 L' (fun c1 o m1 L1 e' eo F1 => ?_) (fun c1 m1 e' F1 => ?_)
    · rw [q_1]
      have M1 := qMR_fr M' F1 (Or.inr (by decide))
      have T1 := qTz_Fr T' F1 (by decide)
      refine a8_number (j := 2) T1 e2 L1 (by decide) (fun c2 m2 L2 e'' eo2 F2 => ?_) (fun c2 m2 e'' F2 => ?_)
      · have M2 := qMR_fr M1 F2 (Or.inr (by decide))
        rw [q_1, z0, z1, z2, e'', eo2 0 (by decide), eo2 1 (by decide), e', eo, e]
        refine ⟨v0, v1, v2, a8_add M2 hn (fun m3 M3 F3 => ?_)⟩
        exact hY c c1 o c2 m3 (qLk_fr L2 F3) M3 (qSf_tr (qSf_fr F (by decide)) (qSf_tr (qSf_fr F1 (by decide)) (qSf_tr (qSf_fr F2 (by decide)) (qSf_fr F3 (by decide)))))
      · rw [q_0]
        exact hN2 c c1 o c2 m2 e'' (qSf_tr (qSf_fr F (by decide)) (qSf_tr (qSf_fr F1 (by decide)) (qSf_fr F2 (by decide))))
    · rw [q_0]
      exact hN1 c c1 m1 e' (qSf_tr (qSf_fr F (by decide)) (qSf_fr F1 (by decide)))
  · rw [q_0]
    exact hN c m' e (qSf_fr F (by decide))
theorem a8_stBar (T : qTz y m z b) (M : qMR m ρ) (W : qW ρ) {p : Nat} (hp : p ≤ z) (L : qLk m z b p) {P : Int32 → zS → Prop} (h0 : qwo z b p 0 = false) (h1 : qwo z b p 1 = false) (h2 : qwo z b p 2 = true)
    (hY : qnk z b (qen0 z b p) 0 ((ρ.1 1 : Int) - 1) = true → qnk z b (qen0 z b (qen0 z b p)) 0 ((ρ.1 1 : Int) - 1) = true → qval z b (qen0 z b (qen0 z b p)) ≠ qval z b (qen0 z b p) →
      ∀ m', qLk m' z b (qen0 z b (qen0 z b (qen0 z b p))) → qMR m' (qSb ρ (qval z b (qen0 z b p)) (qval z b (qen0 z b (qen0 z b p))) true) → qSf m m' → P 1 m')
    (hN : qnk z b (qen0 z b p) 0 ((ρ.1 1 : Int) - 1) = false → ∀ m', m'.1 32 = nI (qst0 z b (qen0 z b p)) → qSf m m' → P 0 m')
    (hN1 : qnk z b (qen0 z b p) 0 ((ρ.1 1 : Int) - 1) = true → (qnk z b (qen0 z b (qen0 z b p)) 0 ((ρ.1 1 : Int) - 1) = false ∨ qval z b (qen0 z b (qen0 z b p)) = qval z b (qen0 z b p)) → ∀ m', m'.1 32 = nI (qst0 z b (qen0 z b (qen0 z b p))) → qSf m m' → P 0 m') : wp_X8_statement m P := by
  have hc := M.2.2
  have e0 := (qen0_in (b := b) hp).2.1
  have e1 := (qen0_in (b := b) e0).2.1
  have v0 : vp_in (0 : Int32) 3 := q_in (n := 0) (by decide) (by decide)
  have v1 : vp_in (1 : Int32) 3 := q_in (n := 1) (by decide) (by decide)
  have z0 : (0 : Int32).toNatClampNeg = 0 := rfl
  have z1 : (1 : Int32).toNatClampNeg = 1 := rfl
  have i0 : (0 : Int32).toInt = 0 := rfl
  have hi : (m.1 10 - (1 : Int32)).toInt = (ρ.1 1 : Int) - 1 := by rw [M.1.2.1, q_sub1 _ (by omega)]
  have ht := qtk0_le (z := z) (b := b) (qen0 z b (qen0 z b p))
  refine a8_to118 T M W hp L (Or.inl h0) (Or.inl h1) ?_
  unfold wp_X8_statement_118
  refine a8_word T hp L ?_
  rw [h2, q_t]
  refine a8_tells T hp L (fun c m' L' e F => ?_) (fun c m' e F => ?_)
  · rw [q_1]
    rw [hi, i0] at c
    have c' := qnk_v c
    have M' := qMR_fr M F (Or.inr (by decide))
    have T' := qTz_Fr T F (by decide)
    have hi' : (m'.1 10 - (1 : Int32)).toInt = (ρ.1 1 : Int) - 1 := by rw [M'.1.2.1, q_sub1 _ (by omega)]
    have num : (qnk z b (qen0 z b (qen0 z b p)) 0 ((ρ.1 1 : Int) - 1) = true → qval z b (qen0 z b (qen0 z b p)) ≠ qval z b (qen0 z b p)) → wp_X8_statement_169 P m' := by
      intro ne
      unfold wp_X8_statement_169
      refine a8_number (j := 1) T' e1 L' (by decide) (fun c1 m1 L1 e' eo F1 => ?_) (fun c1 m1 e' F1 => ?_)
      · rw [hi', i0] at c1
        have c1' := qnk_v c1
        have M1 := qMR_fr M' F1 (Or.inr (by decide))
        rw [q_1, z0, z1, e', eo 0 (by decide), e]
        refine ⟨v0, v1, a8_bars (is := true) M1 (by omega) (by omega) (fun g => ne c1 g.symm) (fun m2 M2 F2 => ?_)⟩
        exact hY c c1 (ne c1) m2 (qLk_fr L1 F2) M2 (qSf_tr (qSf_fr F (by decide)) (qSf_tr (qSf_fr F1 (by decide)) (qSf_fr F2 (by decide))))
      · rw [hi', i0] at c1
        rw [q_0]
        exact hN1 c (Or.inl c1) m1 e' (qSf_tr (qSf_fr F (by decide)) (qSf_fr F1 (by decide)))
    rw [L'.2.1, nI_k2 (by omega)]
    refine ⟨fun t2 => ?_, fun t2 => num (fun g => absurd (of_decide_eq_true g).1 t2)⟩
    have hv := qval_le (b := b) e1 t2
    rw [L'.2.2.2 t2, z0, e, nI_eq (by omega) (by omega)]
    refine ⟨v0, fun d => ?_, fun d => num (fun _ => d)⟩
    unfold wp_X8_wrong
    rw [q_all, L'.2.2.1]
    exact ⟨rfl, hN1 c (Or.inr d) _ rfl (qSf_tr (qSf_fr F (by decide)) (qSf_fr (a := 28) (c := 34) (qFr_I (k := 32) qFr_rf (by decide) _) (by decide)))⟩
  · rw [q_0]
    rw [hi, i0] at c
    exact hN c m' e (qSf_fr F (by decide))
theorem a8_stMove (T : qTz y m z b) (M : qMR m ρ) (W : qW ρ) {p : Nat} (hp : p ≤ z) (L : qLk m z b p) {P : Int32 → zS → Prop} (h0 : qwo z b p 0 = false) (h1 : qwo z b p 1 = false) (h2 : qwo z b p 2 = false) (h3 : qwo z b p 3 = true)
    (hY : qnk z b (qen0 z b p) 0 ((ρ.1 1 : Int) - 1) = true → qnk z b (qen0 z b (qen0 z b p)) 0 (4 * (ρ.1 0 : Int) - 1) = true → qoc ρ (qval z b (qen0 z b (qen0 z b p))) = false →
      ∀ m', qLk m' z b (qen0 z b (qen0 z b (qen0 z b p))) → qMR m' (qSa ρ 6 (qval z b (qen0 z b p)) (qval z b (qen0 z b (qen0 z b p)))) → qSf m m' → P 1 m')
    (hN : qnk z b (qen0 z b p) 0 ((ρ.1 1 : Int) - 1) = false → ∀ m', m'.1 32 = nI (qst0 z b (qen0 z b p)) → qSf m m' → P 0 m')
    (hN1 : qnk z b (qen0 z b p) 0 ((ρ.1 1 : Int) - 1) = true → (qnk z b (qen0 z b (qen0 z b p)) 0 (4 * (ρ.1 0 : Int) - 1) = false ∨ qoc ρ (qval z b (qen0 z b (qen0 z b p))) = true) → ∀ m', m'.1 32 = nI (qst0 z b (qen0 z b (qen0 z b p))) → qSf m m' → P 0 m') : wp_X8_statement m P := by
  have hc := M.2.2
  have e0 := (qen0_in (b := b) hp).2.1
  have e1 := (qen0_in (b := b) e0).2.1
  have v0 : vp_in (0 : Int32) 3 := q_in (n := 0) (by decide) (by decide)
  have v1 : vp_in (1 : Int32) 3 := q_in (n := 1) (by decide) (by decide)
  have z0 : (0 : Int32).toNatClampNeg = 0 := rfl
  have z1 : (1 : Int32).toNatClampNeg = 1 := rfl
  have i0 : (0 : Int32).toInt = 0 := rfl
  have hi : (m.1 10 - (1 : Int32)).toInt = (ρ.1 1 : Int) - 1 := by rw [M.1.2.1, q_sub1 _ (by omega)]
  refine a8_to118 T M W hp L (Or.inl h0) (Or.inl h1) ?_
  unfold wp_X8_statement_118
  refine a8_word T hp L ?_
  rw [h2, q_f]
  refine a8_word T hp L ?_
  rw [h3, q_t]
  refine a8_tells T hp L (fun c m' L' e F => ?_) (fun c m' e F => ?_)
  · rw [q_1]
    rw [hi, i0] at c
    have c' := qnk_v c
    have M' := qMR_fr M F (Or.inr (by decide))
    have T' := qTz_Fr T F (by decide)
    refine a8_freeD T' M' W e1 L' (fun c1 o m1 L1 e' eo F1 => ?_) (fun c1 m1 e' F1 => ?_)
    · have M1 := qMR_fr M' F1 (Or.inr (by decide))
      rw [q_1, z0, z1, e', eo, e]
      refine ⟨v0, v1, ?_⟩
      rw [q_all, q_clamp (by omega)]
      refine ⟨q_in (by omega) (by omega), fun j hj => ?_⟩
      subst hj
      have F3 : qFr 9 18 m1 (zA m1 12 (qval z b (qen0 z b p)) (nI (qval z b (qen0 z b (qen0 z b p))))) := qFr_A (k := 12) qFr_rf (by decide) _ _
      exact hY c c1 o _ (qLk_fr L1 F3) (qMR_A M1 (k := 6) (by decide) _ _) (qSf_tr (qSf_fr F (by decide)) (qSf_tr (qSf_fr F1 (by decide)) (qSf_fr F3 (by decide))))
    · rw [q_0]
      exact hN1 c c1 m1 e' (qSf_tr (qSf_fr F (by decide)) (qSf_fr F1 (by decide)))
  · rw [q_0]
    rw [hi, i0] at c
    exact hN c m' e (qSf_fr F (by decide))
theorem a8_stMaster (T : qTz y m z b) (M : qMR m ρ) (W : qW ρ) {p : Nat} (hp : p ≤ z) (L : qLk m z b p) {P : Int32 → zS → Prop} (h0 : qwo z b p 0 = false) (h1 : qwo z b p 1 = false) (h2 : qwo z b p 2 = false) (h3 : qwo z b p 3 = false) (h4 : qwo z b p 4 = true)
    (hY : qnk z b (qen0 z b p) 1 20 = true → qnk z b (qen0 z b (qen0 z b p)) 0 (qval z b (qen0 z b p) : Int) = true → qnk z b (qen0 z b (qen0 z b (qen0 z b p))) 0 1000 = true →
      ∀ m', qLk m' z b (qen0 z b (qen0 z b (qen0 z b (qen0 z b p)))) → qMR m' (qSi (qSi (qSi ρ 2 (qval z b (qen0 z b p))) 3 (qval z b (qen0 z b (qen0 z b p)))) 4 (qval z b (qen0 z b (qen0 z b (qen0 z b p))))) → qSf m m' → P 1 m')
    (hN : qnk z b (qen0 z b p) 1 20 = false → ∀ m', m'.1 32 = nI (qst0 z b (qen0 z b p)) → qSf m m' → P 0 m')
    (hN1 : qnk z b (qen0 z b p) 1 20 = true → qnk z b (qen0 z b (qen0 z b p)) 0 (qval z b (qen0 z b p) : Int) = false → ∀ m', m'.1 32 = nI (qst0 z b (qen0 z b (qen0 z b p))) → qSf m m' → P 0 m')
    (hN2 : qnk z b (qen0 z b p) 1 20 = true → qnk z b (qen0 z b (qen0 z b p)) 0 (qval z b (qen0 z b p) : Int) = true → qnk z b (qen0 z b (qen0 z b (qen0 z b p))) 0 1000 = false → ∀ m', m'.1 32 = nI (qst0 z b (qen0 z b (qen0 z b (qen0 z b p)))) → qSf m m' → P 0 m') : wp_X8_statement m P := by
  have hc := M.2.2
  have e0 := (qen0_in (b := b) hp).2.1
  have e1 := (qen0_in (b := b) e0).2.1
  have e2 := (qen0_in (b := b) e1).2.1
  have v0 : vp_in (0 : Int32) 3 := q_in (n := 0) (by decide) (by decide)
  have v1 : vp_in (1 : Int32) 3 := q_in (n := 1) (by decide) (by decide)
  have v2 : vp_in (2 : Int32) 3 := q_in (n := 2) (by decide) (by decide)
  have z0 : (0 : Int32).toNatClampNeg = 0 := rfl
  have z1 : (1 : Int32).toNatClampNeg = 1 := rfl
  have z2 : (2 : Int32).toNatClampNeg = 2 := rfl
  have i0 : (0 : Int32).toInt = 0 := rfl
  refine a8_to118 T M W hp L (Or.inl h0) (Or.inl h1) ?_
  unfold wp_X8_statement_118
  refine a8_word T hp L ?_
  rw [h2, q_f]
  refine a8_word T hp L ?_
  rw [h3, q_f]
  refine a8_word T hp L ?_
  rw [h4, q_t]
  refine a8_tells T hp L (fun c m' L' e F => ?_) (fun c m' e F => ?_)
  · have c' : (1 : Int) ≤ (qval z b (qen0 z b p) : Int) ∧ (qval z b (qen0 z b p) : Int) ≤ 20 := qnk_v c
    rw [q_1, z0, e]
    refine ⟨v0, ?_⟩
    have hi : (nI (qval z b (qen0 z b p))).toInt = (qval z b (qen0 z b p) : Int) := nI_toInt (by omega)
    have M' := qMR_fr M F (Or.inr (by decide))
    have T' := qTz_Fr T F (by decide)
    refine a8_number (j := 1) T' e1 L' (by decide) (fun c1 m1 L1 e' eo F1 => ?_) (fun c1 m1 e' F1 => ?_)
    · rw [hi, i0] at c1
      rw [q_1]
      have M1 := qMR_fr M' F1 (Or.inr (by decide))
      have T1 := qTz_Fr T' F1 (by decide)
      refine a8_number (j := 2) T1 e2 L1 (by decide) (fun c2 m2 L2 e'' eo2 F2 => ?_) (fun c2 m2 e'' F2 => ?_)
      · have M2 := qMR_fr M1 F2 (Or.inr (by decide))
        rw [q_1]
        refine ⟨v0, fun w0 hw0 => ⟨v1, fun w1 hw1 => ⟨v2, fun w2 hw2 => ?_⟩⟩⟩
        have x0 : w0 = nI (qval z b (qen0 z b p)) := by rw [hw0]; show m2.2.1 33 0 = _; rw [eo2 0 (by decide), eo 0 (by decide), e]
        have x1 : w1 = nI (qval z b (qen0 z b (qen0 z b p))) := by rw [hw1]; show m2.2.1 33 1 = _; rw [eo2 1 (by decide), e']
        have x2 : w2 = nI (qval z b (qen0 z b (qen0 z b (qen0 z b p)))) := by rw [hw2]; show m2.2.1 33 2 = _; rw [e'']
        rw [x0, x1, x2]
        have F3 : qFr 9 18 m2 (zI (zI (zI m2 15 (nI (qval z b (qen0 z b p)))) 16 (nI (qval z b (qen0 z b (qen0 z b p))))) 17 (nI (qval z b (qen0 z b (qen0 z b (qen0 z b p)))))) := qFr_I (k := 17) (qFr_I (k := 16) (qFr_I (k := 15) qFr_rf (by decide) _) (by decide) _) (by decide) _
        exact hY c c1 c2 _ (qLk_fr L2 F3) ⟨⟨M2.1.1, M2.1.2.1, rfl, rfl, rfl⟩, M2.2.1, M2.2.2⟩ (qSf_tr (qSf_fr F (by decide)) (qSf_tr (qSf_fr F1 (by decide)) (qSf_tr (qSf_fr F2 (by decide)) (qSf_fr F3 (by decide)))))
      · rw [q_0]
        exact hN2 c c1 c2 m2 e'' (qSf_tr (qSf_fr F (by decide)) (qSf_tr (qSf_fr F1 (by decide)) (qSf_fr F2 (by decide))))
    · rw [hi, i0] at c1
      rw [q_0]
      exact hN1 c c1 m1 e' (qSf_tr (qSf_fr F (by decide)) (qSf_fr F1 (by decide)))
  · rw [q_0]
    exact hN c m' e (qSf_fr F (by decide))
end QLES
