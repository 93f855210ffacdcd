/-! calls about ways: answer, together, halves */ -/
section QLP78
variable {α β γ δ ε ζ η θ : Type}
theorem q_lp7 {B : (α → β → γ → δ → ε → ζ → η → Prop) → α → β → γ → δ → ε → ζ → η → Prop} (I : Nat → α → β → γ → δ → ε → ζ → η → Prop) (h : ∀ m x y z u v w o, I m x y z u v w o → ∀ k : α → β → γ → δ → ε → ζ → η → Prop, (∀ m' x' y' z' u' v' w' o', m' < m → I m' x' y' z' u' v' w' o' → k x' y' z' u' v' w' o') → B k x y z u v w o) (m : Nat) (x : α) (y : β) (z : γ) (u : δ) (v : ε) (w : ζ) (o : η) (i : I m x y z u v w o) :
    ∃ n : Nat, (Nat.rec (motive := fun _ => α → β → γ → δ → ε → ζ → η → Prop) (fun _ _ _ _ _ _ _ => False) (fun _ ih => B ih) n : α → β → γ → δ → ε → ζ → η → Prop) x y z u v w o := by
  have key : ∀ n m x y z u v w o, m < n → I m x y z u v w o → (Nat.rec (motive := fun _ => α → β → γ → δ → ε → ζ → η → Prop) (fun _ _ _ _ _ _ _ => False) (fun _ ih => B ih) n : α → β → γ → δ → ε → ζ → η → Prop) x y z u v w o := by
    intro n
    induction n with
    | zero => intro m x y z u v w o hm; omega
    | succ n ih => intro m x y z u v w o hm i; exact h m x y z u v w o i _ (fun m' x' y' z' u' v' w' o' hm' i' => ih m' x' y' z' u' v' w' o' (by omega) i')
  exact ⟨m + 1, key (m + 1) m x y z u v w o (by omega) i⟩
theorem q_lp8 {B : (α → β → γ → δ → ε → ζ → η → θ → Prop) → α → β → γ → δ → ε → ζ → η → θ → Prop} (I : Nat → α → β → γ → δ → ε → ζ → η → θ → Prop) (h : ∀ m x y z u v w o p, I m x y z u v w o p → ∀ k : α → β → γ → δ → ε → ζ → η → θ → Prop, (∀ m' x' y' z' u' v' w' o' p', m' < m → I m' x' y' z' u' v' w' o' p' → k x' y' z' u' v' w' o' p') → B k x y z u v w o p) (m : Nat) (x : α) (y : β) (z : γ) (u : δ) (v : ε) (w : ζ) (o : η) (p : θ) (i : I m x y z u v w o p) :
    ∃ n : Nat, (Nat.rec (motive := fun _ => α → β → γ → δ → ε → ζ → η → θ → Prop) (fun _ _ _ _ _ _ _ _ => False) (fun _ ih => B ih) n : α → β → γ → δ → ε → ζ → η → θ → Prop) x y z u v w o p := by
  have key : ∀ n m x y z u v w o p, m < n → I m x y z u v w o p → (Nat.rec (motive := fun _ => α → β → γ → δ → ε → ζ → η → θ → Prop) (fun _ _ _ _ _ _ _ _ => False) (fun _ ih => B ih) n : α → β → γ → δ → ε → ζ → η → θ → Prop) x y z u v w o p := by
    intro n
    induction n with
    | zero => intro m x y z u v w o p hm; omega
    | succ n ih => intro m x y z u v w o p hm i; exact h m x y z u v w o p i _ (fun m' x' y' z' u' v' w' o' p' hm' i' => ih m' x' y' z' u' v' w' o' p' (by omega) i')
  exact ⟨m + 1, key (m + 1) m x y z u v w o p (by omega) i⟩
end QLP78
section QPAIR
variable {x r y k m : zS} {ρ : (Nat → Nat) × (Nat → Nat → Nat)}
theorem e7_both {c d : Nat} (hc : c ≤ 1000000) (hd : d ≤ 1000000) {post : Int32 → Prop} : wp_X7_both (nI c) (nI d) post = post (nI (c * d / 1000000)) := by
  unfold wp_X7_both
  have hm : c * d ≤ 1000000 * 1000000 := Nat.mul_le_mul hc hd
  have l6 : (1000000 : Int64) = lN 1000000 := rfl
  rw [nI_l (by omega), nI_l (by omega), lN_mul, l6, pk_lDiv (by omega) (by decide) (by decide), lN_i]
theorem e8_both {c d : Nat} (hc : c ≤ 1000000) (hd : d ≤ 1000000) {post : Int32 → Prop} : wp_X8_both (nI c) (nI d) post = post (nI (c * d / 1000000)) := e7_both hc hd
theorem q_both_le {c d : Nat} (hc : c ≤ 1000000) (hd : d ≤ 1000000) : c * d / 1000000 ≤ 1000000 := by
  have hm : c * d ≤ 1000000 * 1000000 := Nat.mul_le_mul hc hd
  omega
/-- each is the neighbour of the one ahead -/
def qchn (ρ : (Nat → Nat) × (Nat → Nat → Nat)) (w : List Nat) : Prop := ∀ i, i + 1 < w.length → qnb ρ (w.getD (i + 1) 0) (w.getD i 0) = true
theorem qchn_cons {q p : Nat} {t : List Nat} : qchn ρ (q :: p :: t) ↔ qnb ρ p q = true ∧ qchn ρ (p :: t) := by
  constructor
  · intro h
    refine ⟨h 0 (by rw [List.length_cons, List.length_cons]; omega), fun i hi => h (i + 1) ?_⟩
    rw [List.length_cons (a := q)]; omega
  · rintro ⟨h1, h2⟩ i hi
    cases i with
    | zero => exact h1
    | succ i => exact h2 i (by rw [List.length_cons (a := q)] at hi; omega)
theorem qx_chain {to : Nat} : ∀ (d : Nat) (π : List Nat), qchn ρ π → ∀ w ∈ qx ρ to d π, qchn ρ w := by
  intro d
  induction d with
  | zero => intro π _ w hw; exact absurd hw List.not_mem_nil
  | succ d ih =>
    intro π hc w hw
    cases π with
    | nil => exact absurd hw List.not_mem_nil
    | cons p π =>
      rw [qx_succ] at hw
      by_cases e : p = to
      · rw [if_pos e] at hw
        rw [List.mem_singleton.mp hw]; exact hc
      · rw [if_neg e] at hw
        by_cases g : 9 ≤ (p :: π).length
        · rw [if_pos g] at hw; exact absurd hw List.not_mem_nil
        · rw [if_neg g] at hw
          obtain ⟨q, hq, hw⟩ := qfl_mem.mp hw
          by_cases c : (qnb ρ p q && !decide (q ∈ p :: π)) = true
          · rw [if_pos c] at hw
            rw [Bool.and_eq_true] at c
            exact ih (q :: p :: π) (qchn_cons.mpr ⟨c.1, hc⟩) w hw
          · rw [if_neg c] at hw; exact absurd hw List.not_mem_nil
/-- what is a way is listed -/
theorem qx_has {to : Nat} : ∀ (n : Nat) (pre : List Nat) (d : Nat) (π : List Nat), pre.length = n → π ≠ [] → (pre ++ π).Nodup → (pre ++ π).head? = some to → (pre ++ π).length ≤ 9 → (∀ q ∈ pre ++ π, q < ρ.1 1) → qchn ρ (pre ++ π) → n < d → pre ++ π ∈ qx ρ to d π := by
  intro n
  induction n with
  | zero =>
    intro pre d π hp hne hn hh hl hr hc hd
    have := List.eq_nil_of_length_eq_zero hp
    subst this
    cases π with
    | nil => exact absurd rfl hne
    | cons p π =>
      obtain ⟨d, rfl⟩ : ∃ d', d = d' + 1 := ⟨d - 1, by omega⟩
      rw [qx_succ, if_pos (Option.some.inj hh)]
      exact List.mem_singleton.mpr rfl
  | succ n ih =>
    intro pre d π hp hne hn hh hl hr hc hd
    rcases List.eq_nil_or_concat pre with e | ⟨pre', q, e⟩
    · rw [e] at hp; cases hp
    · rw [List.concat_eq_append] at e
      subst e
      rw [List.length_append] at hp
      have hp : pre'.length = n := by
        have : pre'.length + 1 = n + 1 := hp
        omega
      cases π with
      | nil => exact absurd rfl hne
      | cons p π =>
        obtain ⟨d, rfl⟩ : ∃ d', d = d' + 1 := ⟨d - 1, by omega⟩
        have eq : pre' ++ [q] ++ p :: π = pre' ++ q :: p :: π := by rw [List.append_assoc]; rfl
        rw [eq] at hn hh hl hr hc ⊢
        have hlen : (pre' ++ q :: p :: π).length = pre'.length + ((p :: π).length + 1) := by rw [List.length_append]; rfl
        have hpne : p ≠ to := by
          intro z
          subst z
          have nd := List.nodup_append.mp hn
          cases pre' with
          | nil =>
            have : q = p := Option.some.inj hh
            subst this
            exact (List.nodup_cons.mp nd.2.1).1 List.mem_cons_self
          | cons c t =>
            have : c = p := Option.some.inj hh
            subst this
            exact nd.2.2 c List.mem_cons_self c (List.mem_cons_of_mem _ List.mem_cons_self) rfl
        have nd := List.nodup_append.mp hn
        have hqn := (List.nodup_cons.mp nd.2.1).1
        have hqp : qnb ρ p q = true := by
          have := hc pre'.length (by rw [hlen]; have : 1 ≤ (p :: π).length := Nat.le_add_left 1 _; omega)
          rw [List.getD_eq_getElem?_getD, List.getElem?_append_right (by omega), List.getD_eq_getElem?_getD, List.getElem?_append_right (by omega)] at this
          rw [show pre'.length + 1 - pre'.length = 1 by omega, Nat.sub_self] at this
          exact this
        rw [qx_succ, if_neg hpne, if_neg (by rw [hlen] at hl; omega)]
        refine qfl_mem.mpr ⟨q, hr q (List.mem_append_right _ List.mem_cons_self), ?_⟩
        rw [if_pos (by rw [hqp, decide_eq_false hqn]; rfl)]
        exact ih pre' d (q :: p :: π) hp (by simp) hn hh hl hr hc (by omega)
theorem qbs_symm (a b : Nat) : qbs a b = qbs b a := by
  unfold qbs
  refine decide_eq_decide.mpr ?_
  omega
theorem qnb_symm (W : qW ρ) {p q : Nat} (hp : p < ρ.1 1) (hq : q < ρ.1 1) : qnb ρ p q = qnb ρ q p := by
  unfold qnb
  rw [qbs_symm]
  congr 2
  cases e : (ρ.2 8 p).testBit q with
  | true => rw [(W.2.2.2 p q hp e).2.2]
  | false =>
    cases g : (ρ.2 8 q).testBit p with
    | false => rfl
    | true => have := (W.2.2.2 q p hq g).2.2; rw [e] at this; exact absurd this (by decide)
theorem q_back (W : qW ρ) {a b : Nat} (ha : a < ρ.1 1) (hab : a ≠ b) {w : List Nat} (hw : w ∈ qAll ρ a b) : w.reverse ∈ qAll ρ b a := by
  obtain ⟨⟨g1, g2, g3, g4⟩, mid, e⟩ := qAll_go ha hab w hw
  have hc : qchn ρ w := qx_chain 10 [a] (fun i hi => by
    have hi : i + 1 < 1 := hi
    omega) w hw
  have er : w.reverse = (a :: mid.reverse) ++ [b] := by
    rw [e, List.reverse_cons, List.reverse_append]; rfl
  have hlr : w.reverse.length ≤ 9 := by rw [List.length_reverse]; exact g3
  unfold qAll
  have hch : qchn ρ w.reverse := by
    intro i hi
    rw [List.length_reverse] at hi
    have g : ∀ j, j < w.length → w.reverse.getD j 0 = w.getD (w.length - 1 - j) 0 := fun j hj => by
      rw [List.getD_eq_getElem?_getD, List.getElem?_reverse hj, List.getD_eq_getElem?_getD]
    rw [g (i + 1) hi, g i (by omega)]
    have lt : ∀ j, j < w.length → w.getD j 0 < ρ.1 1 := fun j hj => by
      rw [List.getD_eq_getElem?_getD, List.getElem?_eq_getElem hj]
      exact g4 _ (List.getElem_mem hj)
    rw [qnb_symm W (lt _ (by omega)) (lt _ (by omega))]
    have := hc (w.length - 1 - (i + 1)) (by omega)
    rw [show w.length - 1 - (i + 1) + 1 = w.length - 1 - i by omega] at this
    exact this
  rw [er] at hch hlr ⊢
  refine qx_has (mid.reverse.length + 1) (a :: mid.reverse) 10 [b] (by rw [List.length_cons]) (by simp) ?_ rfl hlr (fun q hq => ?_) hch ?_
  · rw [← er]
    exact List.pairwise_reverse.mpr (List.Pairwise.imp (fun h => Ne.symm h) g2)
  · rw [← er] at hq
    exact g4 q (List.mem_reverse.mp hq)
  · rw [List.length_append, List.length_cons] at hlr
    have : mid.reverse.length + 1 + 1 ≤ 9 := hlr
    omega
theorem s_answer (R : qRm r ρ) (M : qMR m ρ) (W : qW ρ) (a b s : Int32) {post : Int32 → zS → zS → zS → Int32 → zS → Prop}
    (h : ∀ v y' k' m', qFr 35 50 m m' → post v x y' k' v m')
    (hr : ∀ v j, j < 5 → ∀ y' k' m', qFr 35 50 m m' → post v (zA x 12 j (x.2.1 12 j + 1)) y' k' v (zA m' 8 (j + 2) (m'.2.1 8 (j + 2) + 1))) :
    wp_X7_answer x r y k a b s (fun v x' y' k' => wp_X8_answer m a b s (fun v' m' => post v x' y' k' v' m')) := by
  simp only [wp_X7_answer, wp_X8_answer, wp_X7_answer_16, wp_X8_answer_21, e7_isPair R.1, e8_areTwo M, e7_isSecond, e8_inI (lo := 0) (hi := 9999) (a := 0) (b := 9999) rfl rfl, e7_r2, e8_r2, e7_r5, e8_r5]
  cases h1 : qP2 ρ a b
  · simp only [q_f]; exact hr _ 0 (by decide) y k m qFr_rf
  cases h2 : qI 0 9999 s
  · simp only [q_t, q_f]; exact hr _ 0 (by decide) y k m qFr_rf
  simp only [q_t]
  obtain ⟨a, b, ha, hb, hab, rfl, rfl⟩ := qP2_t h1
  refine a7_chance R W ha hb hab s (fun y' k' hsec => ?_)
  rcases qcv_cases ρ a b s with ⟨n1, e1⟩ | ⟨B, n1, e1⟩
  · rw [e1, q_pos rfl]
    refine a8_chance M W ha hb hab s (fun m' f _ => ?_)
    rw [e1, q_pos rfl]
    exact hr _ 3 (by decide) _ _ _ f
  · have hqc := qch_le (ρ := ρ) b s B
    rw [e1, q_neg (q_not1 hqc), hsec B n1]
    have hBm := qbest_mem B n1
    have hback := q_back W ha hab hBm
    refine a7_chance R W hb ha (Ne.symm hab) _ (fun y'' k'' _ => ?_)
    rcases qcv_cases ρ b a (s + nI (qsec ρ B)) with ⟨n2, e2⟩ | ⟨C, n2, e2⟩
    · have := qfo_none.mp n2
      rw [this] at hback; exact absurd hback List.not_mem_nil
    · have hqc2 := qch_le (ρ := ρ) a (s + nI (qsec ρ B)) C
      rw [e2, q_neg (q_not1 hqc2), e7_both hqc hqc2]
      refine a8_chance M W ha hb hab s (fun m' f hs8 => ?_)
      rw [e1, q_neg (q_not1 hqc), hs8 B n1]
      refine a8_chance (qMR_fr M f (Or.inr (by decide))) W hb ha (Ne.symm hab) _ (fun m'' f' _ => ?_)
      rw [e2, e8_both hqc hqc2]
      exact h _ _ _ _ (qFr_tr f f')
/-! the greatest of pairs, in any order -/
def qMx (S : Nat → Nat → Prop) (ok : Nat → Nat → Prop) (val : Nat → Nat → Nat) (t : Int32) : Prop :=
  (∀ i j, S i j → ok i j → nI (val i j) ≤ t) ∧ (t = -1 ∨ ∃ i j, S i j ∧ ok i j ∧ t = nI (val i j)) ∧ (-1 : Int32) ≤ t
theorem q_le_tr {a b c : Int32} (h : a ≤ b) (h' : b ≤ c) : a ≤ c := by rw [q_leI] at *; omega
theorem q_le_rf (a : Int32) : a ≤ a := by rw [q_leI]; omega
theorem q_lt_le {a b : Int32} (h : a < b) : a ≤ b := by rw [q_ltI] at h; rw [q_leI]; omega
theorem q_nlt {a b : Int32} (h : ¬ a < b) : b ≤ a := by rw [q_ltI] at h; rw [q_leI]; omega
theorem qMx_uniq {S ok : Nat → Nat → Prop} {val : Nat → Nat → Nat} {t u : Int32} (h : qMx S ok val t) (h' : qMx S ok val u) : t = u := by
  have key : ∀ {t u : Int32}, qMx S ok val t → qMx S ok val u → t ≤ u := by
    rintro t u ⟨a1, a2, a3⟩ ⟨b1, b2, b3⟩
    rcases a2 with e | ⟨i, j, c1, c2, c3⟩
    · rw [e]; exact b3
    · rw [c3]; exact b1 i j c1 c2
  have h1 := key h h'
  have h2 := key h' h
  rw [q_leI] at h1 h2
  exact Int32.toInt_inj.mp (by omega)
theorem qMx_congr {S S' ok ok' : Nat → Nat → Prop} {val val' : Nat → Nat → Nat} {t : Int32} (h : qMx S ok val t) (hS : ∀ i j, S' i j ↔ S i j) (ho : ∀ i j, S i j → (ok' i j ↔ ok i j)) (hv : ∀ i j, S i j → val' i j = val i j) : qMx S' ok' val' t := by
  obtain ⟨a1, a2, a3⟩ := h
  refine ⟨fun i j s o => ?_, ?_, a3⟩
  · have s' := (hS i j).mp s
    rw [hv i j s']; exact a1 i j s' ((ho i j s').mp o)
  · rcases a2 with e | ⟨i, j, c1, c2, c3⟩
    · exact Or.inl e
    · exact Or.inr ⟨i, j, (hS i j).mpr c1, (ho i j c1).mpr c2, by rw [hv i j c1]; exact c3⟩
theorem qMx_no {S S' ok : Nat → Nat → Prop} {val : Nat → Nat → Nat} {t : Int32} {i0 j0 : Nat} (h : qMx S ok val t) (hS : ∀ i j, S' i j ↔ (S i j ∨ (i = i0 ∧ j = j0))) (ho : ¬ ok i0 j0) : qMx S' ok val t := by
  obtain ⟨a1, a2, a3⟩ := h
  refine ⟨fun i j s o => ?_, ?_, a3⟩
  · rcases (hS i j).mp s with s' | ⟨rfl, rfl⟩
    · exact a1 i j s' o
    · exact absurd o ho
  · rcases a2 with e | ⟨i, j, c1, c2, c3⟩
    · exact Or.inl e
    · exact Or.inr ⟨i, j, (hS i j).mpr (Or.inl c1), c2, c3⟩
theorem qMx_yes {S S' ok : Nat → Nat → Prop} {val : Nat → Nat → Nat} {t : Int32} {i0 j0 : Nat} (h : qMx S ok val t) (hS : ∀ i j, S' i j ↔ (S i j ∨ (i = i0 ∧ j = j0))) (ho : ok i0 j0) (hv : val i0 j0 ≤ 1000000) : qMx S' ok val (if t < nI (val i0 j0) then nI (val i0 j0) else t) := by
  obtain ⟨a1, a2, a3⟩ := h
  by_cases c : t < nI (val i0 j0)
  · rw [if_pos c]
    refine ⟨fun i j s o => ?_, Or.inr ⟨i0, j0, (hS i0 j0).mpr (Or.inr ⟨rfl, rfl⟩), ho, rfl⟩, q_m1_le hv⟩
    rcases (hS i j).mp s with s' | ⟨rfl, rfl⟩
    · exact q_le_tr (a1 i j s' o) (q_lt_le c)
    · exact q_le_rf _
  · rw [if_neg c]
    refine ⟨fun i j s o => ?_, ?_, a3⟩
    · rcases (hS i j).mp s with s' | ⟨rfl, rfl⟩
      · exact a1 i j s' o
      · exact q_nlt c
    · rcases a2 with e | ⟨i, j, c1, c2, c3⟩
      · exact Or.inl e
      · exact Or.inr ⟨i, j, (hS i j).mpr (Or.inl c1), c2, c3⟩
theorem qMx_0 {S ok : Nat → Nat → Prop} {val : Nat → Nat → Nat} (h : ∀ i j, ¬ S i j) : qMx S ok val (-1) :=
  ⟨fun i j s _ => absurd s (h i j), Or.inl rfl, by decide⟩
end QPAIR
