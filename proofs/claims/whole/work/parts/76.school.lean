/-! a lesson, and school -/
section QSCH
variable {l y t r m x : zS} {z : Nat} {b : Nat → Nat} {ρ : (Nat → Nat) × (Nat → Nat → Nat)}
/-- what a lesson with its count doesn't touch of the reference -/
def qSg (m m' : zS) : Prop := ∀ k, (k < 9 ∨ (18 ≤ k ∧ k < 28) ∨ 35 ≤ k) → m'.1 k = m.1 k ∧ m'.2.1 k = m.2.1 k ∧ m'.2.2 k = m.2.2 k
theorem qSg_rf : qSg m m := fun _ _ => ⟨rfl, rfl, rfl⟩
theorem qSg_tr {m' m'' : zS} (h : qSg m m') (h' : qSg m' m'') : qSg m m'' := fun k hk =>
  ⟨(h' k hk).1.trans (h k hk).1, (h' k hk).2.1.trans (h k hk).2.1, (h' k hk).2.2.trans (h k hk).2.2⟩
theorem qSg_f {m' : zS} (F : qSf m m') : qSg m m' := fun k hk => F k (by omega)
theorem qSg_fr {m' : zS} {a c : Nat} (F : qFr a c m m') (h : (9 ≤ a ∧ c ≤ 18) ∨ (28 ≤ a ∧ c ≤ 35)) : qSg m m' := fun k hk => F k (by omega)
theorem qTz_Sg {m' : zS} (T : qTz y m z b) (F : qSg m m') : qTz y m' z b := qTz_fr T (F 7 (by omega)).1 (F 6 (by omega)).2.1
theorem qLk_34 {m' : zS} {p : Nat} (L : qLk m z b p) (F : qFr 34 35 m m') : qLk m' z b p :=
  ⟨by rw [(F 28 (by omega)).1]; exact L.1, by rw [(F 29 (by omega)).1]; exact L.2.1, by rw [(F 30 (by omega)).1]; exact L.2.2.1, fun h => by rw [(F 31 (by omega)).1]; exact L.2.2.2 h⟩
theorem s_lesson (T : qTz y m z b) (R : qRm t ρ) (M : qMR m ρ) (W : qW ρ) {post : Int32 → zS → zS → Prop}
    (h1 : ∀ l' t' ρ' d, qRm t' ρ' → qW ρ' → ρ.1 1 ≤ ρ'.1 1 → d < 251 → (∀ P : Int32 → zS → Prop, (∀ m', qMR m' ρ' → m'.1 34 = nI d → qSg m m' → P 1 m') → wp_X8_readAll m P) → post (nI d) l' t')
    (h0 : ∀ l' t' s, l'.1 2 = nI s → (∀ P : Int32 → zS → Prop, (∀ m', m'.1 32 = nI s → qSg m m' → P 0 m') → wp_X8_readAll m P) → post (-1) l' t') :
    wp_X0_read l y t post := by
  have hz := T.1
  refine q_lp3 (B := wb_X0_read_7 y post) (fun q l' t' x1 => ∃ (d e : Nat) (ρ' : (Nat → Nat) × (Nat → Nat → Nat)) (v : Int32) (inc : zS → zS) (f : Nat), e + q = z ∧ x1 = nI d ∧ 1 ≤ d ∧ 2 * (d - 1) ≤ e ∧ l'.1 3 = nI e ∧ qRm t' ρ' ∧ qW ρ' ∧ ρ.1 1 ≤ ρ'.1 1 ∧ (∀ s, s.1 34 = v → (inc s).1 34 = nI d) ∧ (∀ s, qFr 34 35 s (inc s)) ∧ q < f ∧
    ∀ P : Int32 → zS → Prop, (∀ m', qMR m' ρ' → m'.1 28 = nI e → m'.1 34 = v → qSg m m' → ∀ Q : Int32 → zS → Prop, (∀ s, P 0 s → Q 0 s) → (∀ s, wp_X8_readAll_23 P f (inc s) → Q 1 s) → wp_X8_look m' (fun s9 => wp_X8_statement s9 Q)) → wp_X8_readAll m P) ?_ z _ _ _ ⟨1, 0, ρ, 1, id, z + 1, by omega, rfl, by omega, by omega, rfl, R, W, Nat.le_refl _, fun s hs => hs, fun s => qFr_rf, by omega, ?_⟩
  rotate_left
  · intro P H
    unfold wp_X8_readAll
    refine H _ ?_ rfl rfl (qSg_fr (a := 28) (c := 35) (qFr_I (k := 28) (qFr_I (k := 34) qFr_rf (by decide) _) (by decide) _) (by decide)) _ (fun s k => ?_) (fun s k => ?_)
    · exact qMR_fr M (a := 28) (b := 35) (qFr_I (k := 28) (qFr_I (k := 34) qFr_rf (by decide) _) (by decide) _) (Or.inr (by decide))
    · rw [q_0]; exact k
    · rw [q_1]; exact ⟨z + 1, k⟩
  rintro q l' t' _ ⟨d, e, ρ', v, inc, f, he, rfl, hd1, hd2, l3, R', W', hn, hinc, hincF, hf, C⟩ K hK
  unfold wb_X0_read_7
  have hle : e ≤ z := by omega
  rw [q_neg (fun c => by have := (nI_ltI (a := 250) (by decide) (by omega)).mp c; omega)]
  refine a0_next T hle l3 (fun l1 f2 f3 f4 => ?_)
  refine s_stmt T R' W' hle f2 f3 f4 (fun l2 t2 ρ2 e2 he2 hlt l3' R2 W2 hn2 run => ?_) (fun l2 t2 s hl run => ?_)
  rotate_left
  · rw [q_0]
    refine h0 l2 t2 s hl (fun P k => C P (fun m' M' m28 m34 S Q Q0 Q1 => ?_))
    refine a8_look (qTz_Sg T S) hle m28 (fun m1 L1 F1 => ?_)
    have S1 := qSg_tr S (qSg_fr F1 (by decide))
    exact run m1 (qTz_Sg T S1) (qMR_fr M' F1 (Or.inr (by decide))) L1 _ (fun m2 e2 S2 => Q0 _ (k m2 e2 (qSg_tr S1 (qSg_f S2))))
  rw [q_1]
  refine a0_next T he2 l3' (fun l4 g2 g3 g4 => ?_)
  obtain ⟨f', rfl⟩ : ∃ f', f = f' + 1 := ⟨f - 1, by omega⟩
  have ge := qen0_in (b := b) he2
  have gs := qst0_in (b := b) he2
  have gt := qtk0_le (z := z) (b := b) e2
  -- the reference behind the statement
  have go : ∀ P : Int32 → zS → Prop, (∀ m3, qMR m3 ρ2 → qLk m3 z b e2 → m3.1 34 = nI d → qSg m m3 → wb_X8_readAll_23 P (wp_X8_readAll_23 P f') m3) → wp_X8_readAll m P := by
    intro P H
    refine C P (fun m' M' m28 m34 S Q Q0 Q1 => ?_)
    refine a8_look (qTz_Sg T S) hle m28 (fun m1 L1 F1 => ?_)
    have S1 := qSg_tr S (qSg_fr F1 (by decide))
    refine run m1 (qTz_Sg T S1) (qMR_fr M' F1 (Or.inr (by decide))) L1 _ (fun m2 L2 M2 S2 => Q1 _ ?_)
    have e34 : m2.1 34 = v := by rw [(S2 34 (by omega)).1, (F1 34 (by omega)).1]; exact m34
    exact H (inc m2) (qMR_fr M2 (hincF m2) (Or.inr (by decide))) (qLk_34 L2 (hincF m2)) (hinc m2 e34) (qSg_tr S1 (qSg_tr (qSg_f S2) (qSg_fr (hincF m2) (by decide))))
  rw [g4, q_nz (by omega), nI_k3 (by omega)]
  refine ⟨fun c0 => ?_, fun c0 => ⟨fun c3 w hw => ?_, fun c3 => ?_⟩⟩
  · refine h1 _ _ ρ2 d R2 W2 (by omega) (by omega) (fun P k => go P (fun m3 M3 L3 e34 S3 => ?_))
    unfold wb_X8_readAll_23
    rw [L3.2.1, q_pos (show nI (qtk0 z b e2) = 0 by rw [c0]; rfl)]
    exact k m3 M3 e34 S3
  · rw [hw, q_succ]
    have lt := ge.2.2 (by omega)
    refine hK (z - qen0 z b e2) _ _ _ (by omega) ⟨d + 1, qen0 z b e2, ρ2, nI d, fun s => zI s 34 (s.1 34 + (1 : Int32)), f', by omega, rfl, by omega, by omega, g3, R2, W2, by omega, fun s hs => ?_, fun s => qFr_I (k := 34) qFr_rf (by decide) _, by omega, fun P H => go P (fun m3 M3 L3 e34 S3 => ?_)⟩
    · show s.1 34 + (1 : Int32) = _
      rw [hs, q_succ]
    · unfold wb_X8_readAll_23
      rw [L3.2.1, q_neg (show ¬ nI (qtk0 z b e2) = 0 by rw [c3]; decide), q_pos (show nI (qtk0 z b e2) = 3 by rw [c3]; rfl)]
      exact H m3 M3 L3.1 e34 S3 _ (fun s k => by rw [q_0]; exact k) (fun s k => by rw [q_1, q_all]; exact k)
  · refine h0 _ _ _ g2 (fun P k => go P (fun m3 M3 L3 e34 S3 => ?_))
    unfold wb_X8_readAll_23 wp_X8_wrong
    rw [L3.2.1, q_neg (show ¬ nI (qtk0 z b e2) = 0 from fun g => c0 ((q_nz (by omega)).mp g)), q_neg (show ¬ nI (qtk0 z b e2) = 3 from fun g => c3 ((nI_k3 (by omega)).mp g)), q_all, L3.2.2.1]
    exact ⟨rfl, k _ rfl (qSg_tr S3 (qSg_fr (a := 28) (c := 34) (qFr_I (k := 32) qFr_rf (by decide) _) (by decide)))⟩
end QSCH
