/-! what one gets lost with, the master, how long a hand takes -/
/-- one half of the reference's object is as it was: all but the slots from a to b -/
def qFr (a b : Nat) (m m' : zS) : Prop := ∀ k, (k < a ∨ b ≤ k) → m'.1 k = m.1 k ∧ m'.2.1 k = m.2.1 k ∧ m'.2.2 k = m.2.2 k
theorem qFr_rf {a b : Nat} {m : zS} : qFr a b m m := fun _ _ => ⟨rfl, rfl, rfl⟩
theorem qFr_tr {a b : Nat} {m m' m'' : zS} (h : qFr a b m m') (h' : qFr a b m' m'') : qFr a b m m'' := fun k hk =>
  ⟨(h' k hk).1.trans (h k hk).1, (h' k hk).2.1.trans (h k hk).2.1, (h' k hk).2.2.trans (h k hk).2.2⟩
theorem qFr_wk {a b a' b' : Nat} {m m' : zS} (h : qFr a b m m') (ha : a' ≤ a) (hb : b ≤ b') : qFr a' b' m m' := fun k hk => h k (by omega)
theorem qFr_I {a b k : Nat} {m m' : zS} (h : qFr a b m m') (hk : a ≤ k ∧ k < b) (x : Int32) : qFr a b m (zI m' k x) := fun j hj =>
  ⟨by rw [z_I, if_neg (by omega)]; exact (h j hj).1, (h j hj).2.1, (h j hj).2.2⟩
theorem qFr_A {a b k : Nat} {m m' : zS} (h : qFr a b m m') (hk : a ≤ k ∧ k < b) (i : Nat) (x : Int32) : qFr a b m (zA m' k i x) := fun j hj =>
  ⟨(h j hj).1, by
    have : (zA m' k i x).2.1 j = m'.2.1 j := by funext t; rw [z_A, if_neg (by omega)]
    rw [this]; exact (h j hj).2.1, (h j hj).2.2⟩
theorem qFr_G {a b k : Nat} {m m' : zS} (h : qFr a b m m') (hk : a ≤ k ∧ k < b) (g : Nat → Int32) : qFr a b m (zG m' k g) := fun j hj =>
  ⟨(h j hj).1, by
    have : (zG m' k g).2.1 j = m'.2.1 j := by
      show va_up m'.2.1 k g j = _
      unfold va_up; rw [if_neg (by omega)]
    rw [this]; exact (h j hj).2.1, (h j hj).2.2⟩
theorem qMR_fr {m m' : zS} {ρ : (Nat → Nat) × (Nat → Nat → Nat)} {a b : Nat} (M : qMR m ρ) (F : qFr a b m m') (h : b ≤ 9 ∨ 18 ≤ a) : qMR m' ρ := by
  obtain ⟨⟨h9, h10, h15, h16, h17⟩, hp, hc⟩ := M
  refine ⟨⟨?_, ?_, ?_, ?_, ?_⟩, fun p hp' => ⟨?_, ?_, ?_, ?_⟩, hc⟩
  · rw [(F 9 (by omega)).1]; exact h9
  · rw [(F 10 (by omega)).1]; exact h10
  · rw [(F 15 (by omega)).1]; exact h15
  · rw [(F 16 (by omega)).1]; exact h16
  · rw [(F 17 (by omega)).1]; exact h17
  · rw [(F 11 (by omega)).2.1]; exact (hp p hp').1
  · rw [(F 12 (by omega)).2.1]; exact (hp p hp').2.1
  · rw [(F 13 (by omega)).2.1]; exact (hp p hp').2.2.1
  · rw [(F 14 (by omega)).2.1]; exact (hp p hp').2.2.2
def qlk (ρ : (Nat → Nat) × (Nat → Nat → Nat)) (s : Int32) : Bool := !(decide ((s - s / nI (ρ.1 2) * nI (ρ.1 2)) < nI (ρ.1 3)))
def qlp (ρ : (Nat → Nat) × (Nat → Nat → Nat)) (p : Nat) : Nat := if ρ.2 5 p = 1 then 500 + 10 * ρ.2 7 p else if ρ.2 5 p = 4 then 100 * ρ.2 7 p else 10 * ρ.2 7 p
def qla (ρ : (Nat → Nat) × (Nat → Nat → Nat)) (p : Nat) (last : Bool) (s : Int32) : Nat := min 1000 ((if last then 0 else qlp ρ p) + (if qlk ρ s then ρ.1 4 else 0))
def qtk (ρ : (Nat → Nat) × (Nat → Nat → Nat)) (p : Nat) : Nat := if ρ.2 5 p = 5 then 2 else 1
def qrd (ρ : (Nat → Nat) × (Nat → Nat → Nat)) (p : Nat) : Bool := decide (ρ.2 5 p = 2 ∨ ρ.2 5 p = 3 ∨ ρ.2 5 p = 4)
theorem qlp_le {ρ : (Nat → Nat) × (Nat → Nat → Nat)} (W : qW ρ) {p : Nat} (hp : p < ρ.1 1) : qlp ρ p ≤ 900 := by
  have := (W.2.1 p hp).2.2.1
  unfold qlp
  split
  · omega
  · split <;> omega
theorem qla_le (ρ : (Nat → Nat) × (Nat → Nat → Nat)) (p : Nat) (last : Bool) (s : Int32) : qla ρ p last s ≤ 1000 := Nat.min_le_left _ _
theorem nI_k1 {a : Nat} (h : a < 2 ^ 31) : nI a = (1 : Int32) ↔ a = 1 := nI_eq (b := 1) h (by decide)
theorem nI_k2 {a : Nat} (h : a < 2 ^ 31) : nI a = (2 : Int32) ↔ a = 2 := nI_eq (b := 2) h (by decide)
theorem nI_k3 {a : Nat} (h : a < 2 ^ 31) : nI a = (3 : Int32) ↔ a = 3 := nI_eq (b := 3) h (by decide)
theorem nI_k4 {a : Nat} (h : a < 2 ^ 31) : nI a = (4 : Int32) ↔ a = 4 := nI_eq (b := 4) h (by decide)
theorem nI_k5 {a : Nat} (h : a < 2 ^ 31) : nI a = (5 : Int32) ↔ a = 5 := nI_eq (b := 5) h (by decide)
theorem q_mulk : ∀ a, a < 10 → ((500 : Int32) + (10 : Int32) * nI a = nI (500 + 10 * a)) ∧ ((100 : Int32) * nI a = nI (100 * a)) ∧ ((10 : Int32) * nI a = nI (10 * a)) := by decide +kernel
theorem a1_plain {r : zS} {ρ : (Nat → Nat) × (Nat → Nat → Nat)} (R : qRm r ρ) (W : qW ρ) {p : Nat} (hp : p < ρ.1 1) {post : Int32 → Prop}
    (h : post (nI (qlp ρ p))) : wp_X1_plainLossOf r (nI p) post := by
  have hc := R.1.2.2
  have hw := W.2.1 p hp
  have hm := q_mulk (ρ.2 7 p) hw.2.2.1
  have hv : vp_in (nI p) 12 := q_in (by omega) (by omega)
  unfold wp_X1_plainLossOf
  rw [e1_has R.1, qP_n hc hp, q_t, q_clamp (by omega), R.1.2.1 5 (by decide) p hp, R.1.2.1 7 (by decide) p hp, hm.1, hm.2.1, hm.2.2]
  simp only [hv, true_and, nI_k1 (a := ρ.2 5 p) (by omega), nI_k4 (a := ρ.2 5 p) (by omega)]
  unfold qlp at h
  refine ⟨fun c => ?_, fun c => ?_, fun c d => ?_⟩
  · rw [if_pos c] at h; exact h
  · rw [if_neg (by omega), if_pos c] at h; exact h
  · rw [if_neg c, if_neg d] at h; exact h
theorem a8_plain {m : zS} {ρ : (Nat → Nat) × (Nat → Nat → Nat)} (M : qMR m ρ) (W : qW ρ) {p : Nat} (hp : p < ρ.1 1) {post : Int32 → Prop}
    (h : post (nI (qlp ρ p))) : wp_X8_lossOf m (nI p) post := by
  have hc := M.2.2
  have hw := W.2.1 p hp
  have hm := q_mulk (ρ.2 7 p) hw.2.2.1
  have hv : vp_in (nI p) 12 := q_in (by omega) (by omega)
  unfold wp_X8_lossOf
  rw [q_clamp (by omega), (M.2.1 p hp).1, (M.2.1 p hp).2.2.1, hm.1, hm.2.1, hm.2.2]
  simp only [hv, true_and, nI_k1 (a := ρ.2 5 p) (by omega), nI_k4 (a := ρ.2 5 p) (by omega)]
  unfold qlp at h
  refine ⟨fun c => ?_, fun c => ⟨fun d => ?_, fun d => ?_⟩⟩
  · rw [if_pos c] at h; exact h
  · rw [if_neg c, if_pos d] at h; exact h
  · rw [if_neg c, if_neg d] at h; exact h
theorem e1_looks {r : zS} {ρ : (Nat → Nat) × (Nat → Nat → Nat)} (R : qR0 r ρ) (W : qW ρ) {s : Int32} {post : Int32 → Prop} : wp_X1_looks r s post = post (qz (qlk ρ s)) := by
  have hw := W.1
  unfold wp_X1_looks qlk
  rw [R.1 2 (by decide), R.1 3 (by decide)]
  have h1 : ¬ nI (ρ.1 2) < (1 : Int32) := by rw [q_ltI, nI_toInt (by omega)]; show ¬ (ρ.1 2 : Int) < 1; omega
  have h2 : ¬ nI (ρ.1 2) = 0 := by rw [q_nz (by omega)]; omega
  rw [q_neg h1, q_and_t h2]
  by_cases c : s - s / nI (ρ.1 2) * nI (ρ.1 2) < nI (ρ.1 3)
  · rw [q_pos c, decide_eq_true c]; rfl
  · rw [q_neg c, decide_eq_false c]; rfl
theorem e8_looks {m : zS} {ρ : (Nat → Nat) × (Nat → Nat → Nat)} (M : qMR m ρ) (W : qW ρ) {s : Int32} {post : Int32 → Prop} : wp_X8_looks m s post = post (qz (qlk ρ s)) := by
  have hw := W.1
  unfold wp_X8_looks qlk
  rw [M.1.2.2.1, M.1.2.2.2.1]
  have h2 : ¬ nI (ρ.1 2) = 0 := by rw [q_nz (by omega)]; omega
  rw [q_and_t h2]
  by_cases c : s - s / nI (ρ.1 2) * nI (ρ.1 2) < nI (ρ.1 3)
  · rw [q_pos c, decide_eq_true c]; rfl
  · rw [q_neg c, decide_eq_false c]; rfl
theorem a1_loss {r : zS} {ρ : (Nat → Nat) × (Nat → Nat → Nat)} (R : qRm r ρ) (W : qW ρ) {p : Nat} (hp : p < ρ.1 1) (last : Bool) (s : Int32) {post : Int32 → Prop}
    (h : post (nI (qla ρ p last s))) : wp_X1_lossOf r (nI p) (qz last) s post := by
  have hw := W.1
  have hl := qlp_le W hp
  have key : ∀ v, v ≤ 900 → v = (if last then 0 else qlp ρ p) → wp_X1_lossOf_13 r (nI p) (qz last) s post (nI v) := by
    intro v hv e
    unfold wp_X1_lossOf_13
    rw [e1_looks R.1 W, R.1.1 4 (by decide), nI_add]
    unfold qla at h
    rw [← e] at h
    refine q_br (fun c => ?_) (fun c => ?_)
    · rw [c, if_pos rfl] at h
      by_cases d : (1000 : Int32) < nI (v + ρ.1 4)
      · rw [if_pos d]
        have d' := (nI_ltI (a := 1000) (by omega) (by omega)).mp d
        rw [Nat.min_eq_left (by omega)] at h; exact h
      · rw [if_neg d]
        have d' : ¬ 1000 < v + ρ.1 4 := fun z => d ((nI_ltI (a := 1000) (by omega) (by omega)).mpr z)
        rw [Nat.min_eq_right (by omega)] at h; exact h
    · rw [c, if_neg (by decide), Nat.add_zero, Nat.min_eq_right (by omega)] at h; exact h
  unfold wp_X1_lossOf
  cases last with
  | true => rw [qz_t, q_1]; exact key 0 (by omega) rfl
  | false => rw [qz_f, q_0]; exact a1_plain R W hp (key _ hl rfl)
theorem a8_loss {m : zS} {ρ : (Nat → Nat) × (Nat → Nat → Nat)} (M : qMR m ρ) (W : qW ρ) {p : Nat} (hp : p < ρ.1 1) (last : Bool) (s : Int32) {post : Int32 → Prop}
    (h : post (nI (qla ρ p last s))) : wp_X8_lossAt m (nI p) s (qz last) post := by
  have hw := W.1
  have hl := qlp_le W hp
  have key : ∀ v, v ≤ 900 → v = (if last then 0 else qlp ρ p) → wp_X8_lossAt_13 m (nI p) s (qz last) post (nI v) := by
    intro v hv e
    have fin : ∀ w, w ≤ 1000 → w = (if qlk ρ s then ρ.1 4 else 0) → wp_X8_lossAt_29 m (nI p) s (qz last) post (nI w) (nI v) := by
      intro w hw' ew
      unfold wp_X8_lossAt_29
      rw [q_all, nI_add]
      unfold qla at h
      rw [← e, ← ew] at h
      by_cases d : (1000 : Int32) ≤ nI (v + w)
      · rw [q_pos d]
        have d' := (nI_leI (a := 1000) (by omega) (by omega)).mp d
        rw [Nat.min_eq_left (by omega)] at h; exact h
      · rw [q_neg d]
        have d' : ¬ 1000 ≤ v + w := fun z => d ((nI_leI (a := 1000) (by omega) (by omega)).mpr z)
        rw [Nat.min_eq_right (by omega)] at h; exact h
    unfold wp_X8_lossAt_13
    rw [e8_looks M W, M.1.2.2.2.2]
    refine q_br (fun c => ?_) (fun c => ?_)
    · exact fin _ (by omega) (by rw [c, if_pos rfl])
    · exact fin 0 (by omega) (by rw [c, if_neg (by decide)])
  unfold wp_X8_lossAt
  cases last with
  | true => rw [qz_t, q_1]; exact key 0 (by omega) rfl
  | false => rw [qz_f, q_0]; exact a8_plain M W hp (key _ hl rfl)
theorem a1_hand {r : zS} {ρ : (Nat → Nat) × (Nat → Nat → Nat)} (R : qRm r ρ) (W : qW ρ) {p : Nat} (hp : p < ρ.1 1) {post : Int32 → Prop}
    (h : post (nI (qtk ρ p))) : wp_X1_handOf r (nI p) post := by
  have hw := W.2.1 p hp
  unfold wp_X1_handOf
  refine q1_kindAt R hp ?_
  rw [nI_k5 (by omega)]
  unfold qtk at h
  refine ⟨fun c => ?_, fun c => ?_⟩
  · rw [if_pos c] at h; exact h
  · rw [if_neg c] at h; exact h
theorem a8_hand {m : zS} {ρ : (Nat → Nat) × (Nat → Nat → Nat)} (M : qMR m ρ) (W : qW ρ) {p : Nat} (hp : p < ρ.1 1) {post : Int32 → Prop}
    (h : post (nI (qtk ρ p))) : wp_X8_takes m (nI p) post := by
  have hc := M.2.2
  have hw := W.2.1 p hp
  unfold wp_X8_takes
  rw [q_clamp (by omega), (M.2.1 p hp).1, nI_k5 (by omega)]
  unfold qtk at h
  refine ⟨q_in (by omega) (by omega), fun c => ?_, fun c => ?_⟩
  · rw [if_pos c] at h; exact h
  · rw [if_neg c] at h; exact h
theorem e_reads {a : Nat} (ha : a < 6) {post : Int32 → Prop} : wp_X7_reads (nI a) post = post (qz (decide (a = 2 ∨ a = 3 ∨ a = 4))) := by
  unfold wp_X7_reads
  rw [nI_k2 (by omega), nI_k3 (by omega), nI_k4 (by omega)]
  by_cases c : a = 2
  · rw [q_pos c, decide_eq_true (by omega)]; rfl
  · rw [q_neg c]
    by_cases d : a = 3
    · rw [q_pos d, decide_eq_true (by omega)]; rfl
    · rw [q_neg d]
      by_cases e : a = 4
      · rw [q_pos e, decide_eq_true (by omega)]; rfl
      · rw [q_neg e, decide_eq_false (by omega)]; rfl
theorem e8_reads {a : Nat} (ha : a < 6) {post : Int32 → Prop} : wp_X8_reads (nI a) post = post (qz (decide (a = 2 ∨ a = 3 ∨ a = 4))) := e_reads ha
theorem qI_n {lo hi : Int} {p : Int32} (hl : 0 ≤ lo) (h : qI lo hi p = true) : ∃ k : Nat, (lo ≤ (k : Int) ∧ (k : Int) ≤ hi) ∧ p = nI k := by
  have := qI_t.mp h
  exact ⟨p.toInt.toNat, by omega, q_nat (by omega)⟩
/-! calls: loss, rows, pupil, move, swap, bar, master -/
theorem s_loss {x r m : zS} {ρ : (Nat → Nat) × (Nat → Nat → Nat)} (R : qRm r ρ) (M : qMR m ρ) (W : qW ρ) (p s : Int32) {post : Int32 → zS → Int32 → zS → Prop}
    (h : ∀ v, post v x v m) (hr : qRef x m 0 post) :
    wp_X7_loss x r p s (fun v x' => wp_X8_loss m p s (fun v' m' => post v x' v' m')) := by
  simp only [wp_X7_loss, wp_X7_loss_18, wp_X8_loss, wp_X8_loss_31, e1_has R.1, e7_isSecond, e8_isPupil M, e8_inI (lo := 0) (hi := 9999) (a := 0) (b := 9999) rfl rfl, e7_r2, e8_r2]
  cases h1 : qP ρ p
  · simp only [q_f]; exact hr
  cases h2 : qI 0 9999 s
  · simp only [q_f, q_t]; exact hr
  simp only [q_t]
  obtain ⟨q, hq, rfl⟩ := qP_t h1
  exact a1_loss R W hq false s (a8_loss M W hq false s (h _))
/-- a room with another number in it -/
def qSi (ρ : (Nat → Nat) × (Nat → Nat → Nat)) (k v : Nat) : (Nat → Nat) × (Nat → Nat → Nat) := (fun j => if j = k then v else ρ.1 j, ρ.2)
theorem qRm_I {r : zS} {ρ : (Nat → Nat) × (Nat → Nat → Nat)} (R : qRm r ρ) {k : Nat} (hk : k ≠ 1) (v : Nat) : qRm (zI r k (nI v)) (qSi ρ k v) := by
  have e1 : (qSi ρ k v).1 1 = ρ.1 1 := if_neg (Ne.symm hk)
  have eN : ∀ p, qN (qSi ρ k v) p = qN ρ p := fun p => by
    show qmask ((qSi ρ k v).1 1) _ = _
    rw [e1]; rfl
  refine ⟨⟨fun j hj => ?_, fun j hj p hp => ?_, ?_⟩, fun p hp => ?_⟩
  · rw [z_I]
    show _ = nI (if j = k then v else ρ.1 j)
    split
    · rfl
    · exact R.1.1 j hj
  · rw [e1] at hp; exact R.1.2.1 j hj p hp
  · rw [e1]; exact R.1.2.2
  · rw [e1] at hp; rw [eN]; exact R.2 p hp
theorem s_rows {x r m : zS} {ρ : (Nat → Nat) × (Nat → Nat → Nat)} (R : qRm r ρ) (M : qMR m ρ) (W : qW ρ) (n : Int32) {post : Int32 → zS → zS → Int32 → zS → Prop}
    (h : ∀ v r' m' ρ', qRm r' ρ' → qMR m' ρ' → qW ρ' → ρ'.1 1 = ρ.1 1 → qFr 9 18 m m' → post v x r' v m')
    (hr : ∀ v k, k < 5 → post v (zA x 12 k (x.2.1 12 k + 1)) r v (zA m 8 (k + 2) (m.2.1 8 (k + 2) + 1))) :
    wp_X7_rows x r n (fun v x' r' => wp_X8_rows m n (fun v' m' => post v x' r' v' m')) := by
  have hc := R.1.2.2
  simp only [wp_X7_rows, wp_X8_rows, e7_isRowCount, e8_inI (lo := 2) (hi := 4) (a := 2) (b := 4) rfl rfl, e7_r2, e8_r2, e7_r5, e8_r5, R.1.1 1 (by decide), M.1.2.1, forall_eq]
  cases h1 : qI 2 4 n
  · simp only [q_f]; exact hr _ 0 (by decide)
  simp only [q_t]
  by_cases c : nI (ρ.1 1) ≤ 0
  · rw [q_pos c, q_pos c]
    obtain ⟨k, hk, rfl⟩ := qI_n (by decide) h1
    have c0 : ρ.1 1 = 0 := by have := (nI_leI (b := 0) (by omega) (by decide)).mp c; omega
    rw [M.1.1, R.1.1 0 (by decide)]
    refine h _ _ _ (qSi ρ 0 k) (qRm_I R (by decide) k) ?_ ?_ rfl (qFr_I qFr_rf (by decide) _)
    · refine ⟨⟨rfl, M.1.2.1, M.1.2.2.1, M.1.2.2.2.1, M.1.2.2.2.2⟩, fun p hp => M.2.1 p hp, M.2.2⟩
    · refine ⟨⟨by show 2 ≤ k; omega, by show k ≤ 4; omega, W.1.2.2⟩, fun p hp => ?_, W.2.2.1, W.2.2.2⟩
      have hp : p < ρ.1 1 := hp
      omega
  · rw [q_neg c, q_neg c]; exact hr _ 3 (by decide)
