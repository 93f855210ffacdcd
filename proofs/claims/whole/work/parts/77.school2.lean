/-! school -/
section QSC2
variable {l y t r m x k : zS} {ρ : (Nat → Nat) × (Nat → Nat → Nat)}
/-- what school doesn't touch of the reference but the tape's size -/
def qSh (m m' : zS) : Prop := (m'.1 7 = 0 ∧ m'.2.1 6 = m.2.1 6) ∧ ∀ k, (k < 6 ∨ k = 8 ∨ (26 ≤ k ∧ k < 28) ∨ 35 ≤ k) → m'.1 k = m.1 k ∧ m'.2.1 k = m.2.1 k ∧ m'.2.2 k = m.2.2 k
theorem qSh_g {m' : zS} (F : qSg m m') : qSh m (zI m' 7 (0 : Int32)) := by
  refine ⟨⟨rfl, (F 6 (by omega)).2.1⟩, fun k hk => ⟨?_, (F k (by omega)).2.1, (F k (by omega)).2.2⟩⟩
  rw [z_I, if_neg (by omega)]
  exact (F k (by omega)).1
theorem qSh_fr {m' m'' : zS} {a c : Nat} (H : qSh m m') (F : qFr a c m' m'') (h : 9 ≤ a ∧ c ≤ 26) : qSh m m'' :=
  ⟨⟨by rw [(F 7 (by omega)).1]; exact H.1.1, by rw [(F 6 (by omega)).2.1]; exact H.1.2⟩, fun k hk => ⟨by rw [(F k (by omega)).1]; exact (H.2 k hk).1, by rw [(F k (by omega)).2.1]; exact (H.2 k hk).2.1, by rw [(F k (by omega)).2.2]; exact (H.2 k hk).2.2⟩⟩
theorem a8_schoolG (M : qMR m ρ) (K : qMR k ρ) (KT : ∀ u, qTr u m → qTr u k) {P : Int32 → zS → zS → Prop} {d : Option Nat} {s : Nat} {ρ' : (Nat → Nat) × (Nat → Nat → Nat)}
    (run : ∀ Q : Int32 → zS → Prop, (match d with
      | some n => ∀ m', qMR m' ρ' → m'.1 34 = nI n → qSg m m' → Q 1 m'
      | none => ∀ m', m'.1 32 = nI s → qSg m m' → Q 0 m') → wp_X8_readAll m Q)
    (h : match d with
      | some n => ∀ m', qMR m' ρ' → (∀ u, qTr u m → qTr u m') → qSh m m' → P (nI n) m' k
      | none => ∀ m', qMR m' ρ → (∀ u, qTr u m → qTr u m') → qSh m m' → P ((-20 : Int32) - nI s) (zA m' 8 2 (m'.2.1 8 2 + 1)) k) : wp_X8_school_G_4 P m k := by
  have z7 : ∀ m', qSg m m' → ∀ u, qTr u m → qTr u (zI m' 7 (0 : Int32)) := fun m' F u hu => by
    obtain ⟨n, f, g, ⟨t1, t2, t3, t4⟩, ⟨t5, t6, t7⟩, t8⟩ := hu
    refine ⟨n, f, g, ⟨?_, ?_, ?_, ?_⟩, ⟨t5, t6, ?_⟩, fun i hi => ?_⟩
    · exact t1.trans (F 18 (by omega)).1.symm
    · exact t2.trans (F 25 (by omega)).1.symm
    · exact t3.trans (F 19 (by omega)).1.symm
    · exact t4.trans (F 20 (by omega)).1.symm
    · exact (F 21 (by omega)).1.trans t7
    · have e22 : (zI m' 7 (0 : Int32)).2.1 22 = m.2.1 22 := (F 22 (by omega)).2.1
      have e23 : (zI m' 7 (0 : Int32)).2.1 23 = m.2.1 23 := (F 23 (by omega)).2.1
      have e24 : (zI m' 7 (0 : Int32)).2.1 24 = m.2.1 24 := (F 24 (by omega)).2.1
      rw [e22, e23, e24]
      exact t8 i hi
  unfold wp_X8_school_G_4
  refine run _ ?_
  cases d with
  | some n =>
    intro m' M' e34 F
    have e : (zI m' 7 (0 : Int32)).1 34 = nI n := e34
    have h : ∀ m', qMR m' ρ' → (∀ u, qTr u m → qTr u m') → qSh m m' → P (nI n) m' k := h
    rw [q_1, e]
    exact h _ (qMR_fr M' (a := 7) (b := 8) (qFr_I (k := 7) qFr_rf (by decide) _) (Or.inl (by decide))) (z7 m' F) (qSh_g F)
  | none =>
    intro m' e32 F
    have h : ∀ m', qMR m' ρ → (∀ u, qTr u m → qTr u m') → qSh m m' → P ((-20 : Int32) - nI s) (zA m' 8 2 (m'.2.1 8 2 + 1)) k := h
    rw [q_0]
    refine a8_take K (fun m2 M2 T2 F2 => ?_)
    rw [e8_r2]
    have e : (zA m2 8 2 (m2.2.1 8 2 + 1)).1 32 = nI s := by
      show m2.1 32 = _
      rw [(F2 32 (by omega)).1]; exact e32
    rw [e]
    exact h m2 M2 (fun u hu => T2 u (KT u hu)) (qSh_fr (qSh_g F) F2 (by decide))
/-- the class, with what the reference answers after it -/
theorem a7_school {z : Nat} {b : Nat → Nat} (T : qTz y m z b) (R : qRm r ρ) (M : qMR m ρ) (W : qW ρ) {post : Int32 → zS → zS → zS → zS → zS → Prop}
    (h1 : ∀ t' r' l' ρ' n, qRm r' ρ' → qW ρ' → ρ.1 1 ≤ ρ'.1 1 → (∀ Q : Int32 → zS → Prop, (∀ m', qMR m' ρ' → m'.1 34 = nI n → qSg m m' → Q 1 m') → wp_X8_readAll m Q) → post (nI n) x t' r' l' (zI y 0 (0 : Int32)))
    (h0 : ∀ t' l' s, (∀ Q : Int32 → zS → Prop, (∀ m', m'.1 32 = nI s → qSg m m' → Q 0 m') → wp_X8_readAll m Q) → post ((-20 : Int32) - nI s) (zA x 12 0 (x.2.1 12 0 + 1)) t' r l' (zI y 0 (0 : Int32))) :
    wp_X7_school x t r l y post := by
  unfold wp_X7_school
  refine a1_take R (fun t2 R2 => ?_)
  refine s_lesson T R2 M W (fun l' t' ρ' d R' W' hn hd run => ?_) (fun l' t' s hl run => ?_)
  · rw [q_all, q_neg (q_nm1 (by omega))]
    exact a1_take R' (fun r' R'' => h1 _ _ _ ρ' d R'' W' hn run)
  · rw [q_all, q_pos rfl, hl, e7_r2]
    exact h0 _ _ s run
theorem s_school_S (T : qTp y m) (R : qRm r ρ) (M : qMR m ρ) (W : qW ρ) {post : Int32 → zS → zS → zS → zS → zS → Int32 → zS → zS → Prop}
    (h : ∀ v t' r' l' m' k' ρ', qRm r' ρ' → qMR m' ρ' → qW ρ' → ρ.1 1 ≤ ρ'.1 1 → (∀ u, qTr u m → qTr u m') → qSh m m' → post v x t' r' l' (zI y 0 (0 : Int32)) v m' k')
    (hr : ∀ v t' l' m' k', qMR m' ρ → (∀ u, qTr u m → qTr u m') → qSh m m' → post v (zA x 12 0 (x.2.1 12 0 + 1)) t' r l' (zI y 0 (0 : Int32)) v (zA m' 8 2 (m'.2.1 8 2 + 1)) k') :
    wp_X7_school x t r l y (fun v x' t' r' l' y' => wp_X8_school_S m k (fun v' m' k' => post v x' t' r' l' y' v' m' k')) := by
  obtain ⟨z, b, T⟩ := qTp_z T
  refine a7_school T R M W (fun t' r' l' ρ' n R' W' hn run => ?_) (fun t' l' s run => ?_)
  · unfold wp_X8_school_S wp_X8_fresh_S
    refine a8_take M (fun k' K KT _ => ?_)
    exact a8_schoolG (d := some n) (s := 0) (ρ' := ρ') M K KT run (fun m' M' TT F => h _ _ _ _ m' _ ρ' R' M' W' hn TT F)
  · unfold wp_X8_school_S wp_X8_fresh_S
    refine a8_take M (fun k' K KT _ => ?_)
    exact a8_schoolG (d := none) (s := s) (ρ' := ρ) M K KT run (fun m' M' TT F => hr _ _ _ m' _ M' TT F)
theorem s_school_N (T : qTp y m) (R : qRm r ρ) (M : qMR m ρ) (W : qW ρ) {post : Int32 → zS → zS → zS → zS → zS → Int32 → zS → wO → Prop}
    (h : ∀ v t' r' l' m' Q A LA k' ρ', qRm r' ρ' → qMR m' ρ' → qW ρ' → ρ.1 1 ≤ ρ'.1 1 → (∀ u, qTr u m → qTr u m') → qSh m m' → post v x t' r' l' (zI y 0 (0 : Int32)) v m' (some (Q, A, (fun _ => none), LA, k')))
    (hr : ∀ v t' l' m' Q A LA k', qMR m' ρ → (∀ u, qTr u m → qTr u m') → qSh m m' → post v (zA x 12 0 (x.2.1 12 0 + 1)) t' r l' (zI y 0 (0 : Int32)) v (zA m' 8 2 (m'.2.1 8 2 + 1)) (some (Q, A, (fun _ => none), LA, k'))) :
    wp_X7_school x t r l y (fun v x' t' r' l' y' => wp_X8_school_N m (fun v' m' o => post v x' t' r' l' y' v' m' o)) := by
  obtain ⟨z, b, T⟩ := qTp_z T
  refine a7_school T R M W (fun t' r' l' ρ' n R' W' hn run => ?_) (fun t' l' s run => ?_)
  · unfold wp_X8_school_N wp_X8_fresh_N
    refine a8_take M (fun k' K KT _ => fun Q A LA => ?_)
    exact a8_schoolG (d := some n) (s := 0) (ρ' := ρ') M K KT run (fun m' M' TT F => h _ _ _ _ m' _ _ _ _ ρ' R' M' W' hn TT F)
  · unfold wp_X8_school_N wp_X8_fresh_N
    refine a8_take M (fun k' K KT _ => fun Q A LA => ?_)
    exact a8_schoolG (d := none) (s := s) (ρ' := ρ) M K KT run (fun m' M' TT F => hr _ _ _ m' _ _ _ _ M' TT F)
end QSC2
