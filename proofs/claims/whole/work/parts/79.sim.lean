/-! the two sides' states, and a call each -/
section QSIM
variable {xs : Nat → zS} {sh : Nat → zS} {m : zS} {ok : wO}
def qKep (xs : Nat → zS) (ok : wO) : Prop := match ok with
  | none => (xs 0).1 5 = 0
  | some o => (xs 0).1 5 = 1 ∧ qIm (xs 3) (xs 5) o.2.2.2.2
/-- what holds between two calls -/
def qSim (xs : Nat → zS) (sh : Nat → zS) (m : zS) (ok : wO) : Prop := ∃ ρ σ, qRm (xs 1) ρ ∧ qMR m ρ ∧ qW ρ ∧ qTr (xs 4) m ∧ qTp (xs 6) m ∧ qS sh m (ρ.1 1) σ ∧ qRf (xs 0) m ∧ qKep xs ok
theorem qKep_up {xs' : Nat → zS} (K : qKep xs ok) (e0 : (xs' 0).1 5 = (xs 0).1 5) (e3 : xs' 3 = xs 3) (e5 : xs' 5 = xs 5) : qKep xs' ok := by
  cases ok with
  | none => exact e0.trans K
  | some o => exact ⟨e0.trans K.1, by rw [e3, e5]; exact K.2⟩
theorem qRf_fr {x m' : zS} {a b : Nat} (F : qRf x m) (f : qFr a b m m') (h : b ≤ 8 ∨ 9 ≤ a) : qRf x m' := fun k hk => by rw [(f 8 (by omega)).2.1]; exact F k hk
theorem qRf_rf {x : zS} {j : Nat} (F : qRf x m) : qRf (zA x 12 j (x.2.1 12 j + 1)) (zA m 8 (j + 2) (m.2.1 8 (j + 2) + 1)) := fun k hk => by
  rw [z_A, z_A]
  by_cases e : k = j
  · subst e; rw [if_pos ⟨rfl, rfl⟩, if_pos ⟨rfl, rfl⟩, F k hk]
  · rw [if_neg (fun z => e z.2), if_neg (fun z => e (by have := z.2; omega))]; exact F k hk
theorem qSim_fr (h : qSim xs sh m ok) {m' : zS} (f : qFr 35 50 m m') {xs' : Nat → zS} (e0 : xs' 0 = xs 0) (e1 : xs' 1 = xs 1) (e3 : xs' 3 = xs 3) (e4 : xs' 4 = xs 4) (e5 : xs' 5 = xs 5) (e6 : xs' 6 = xs 6) : qSim xs' sh m' ok := by
  obtain ⟨ρ, σ, R, M, W, U, T, S, F, K⟩ := h
  exact ⟨ρ, σ, by rw [e1]; exact R, qMR_fr M f (Or.inr (by decide)), W, by rw [e4]; exact qTr_fr U f (Or.inr (by decide)), by rw [e6]; exact qTp_fr T f (Or.inr (by decide)), qS_fr S f (by decide) (by decide), by rw [e0]; exact qRf_fr F f (Or.inr (by decide)), qKep_up K (by rw [e0]) e3 e5⟩
theorem qSim_rf (h : qSim xs sh m ok) {m' : zS} (f : qFr 35 50 m m') {j : Nat} {xs' : Nat → zS} (e0 : xs' 0 = zA (xs 0) 12 j ((xs 0).2.1 12 j + 1)) (e1 : xs' 1 = xs 1) (e3 : xs' 3 = xs 3) (e4 : xs' 4 = xs 4) (e5 : xs' 5 = xs 5) (e6 : xs' 6 = xs 6) : qSim xs' sh (zA m' 8 (j + 2) (m'.2.1 8 (j + 2) + 1)) ok := by
  obtain ⟨ρ, σ, R, M, W, U, T, S, F, K⟩ := h
  have f8 : qFr 8 9 m' (zA m' 8 (j + 2) (m'.2.1 8 (j + 2) + 1)) := qFr_A (k := 8) qFr_rf (by decide) _ _
  exact ⟨ρ, σ, by rw [e1]; exact R, qMR_fr (qMR_fr M f (Or.inr (by decide))) f8 (Or.inl (by decide)), W, by rw [e4]; exact qTr_fr (qTr_fr U f (Or.inr (by decide))) f8 (Or.inl (by decide)), by rw [e6]; exact qTp_fr (qTp_fr T f (Or.inr (by decide))) f8 (Or.inr (by decide)), qS_fr (qS_fr S f (by decide) (by decide)) f8 (by decide) (by decide), by rw [e0]; exact qRf_rf (qRf_fr F f (Or.inr (by decide))), qKep_up K (by rw [e0]; rfl) e3 e5⟩
theorem qSim_room (h : qSim xs sh m ok) {ρ' : (Nat → Nat) × (Nat → Nat → Nat)} {m' : zS} {xs' : Nat → zS} (R' : qRm (xs' 1) ρ') (M' : qMR m' ρ') (W' : qW ρ') (n : ∀ ρ, qMR m ρ → ρ.1 1 ≤ ρ'.1 1) (f : qFr 9 18 m m') (e0 : xs' 0 = xs 0) (e3 : xs' 3 = xs 3) (e4 : xs' 4 = xs 4) (e5 : xs' 5 = xs 5) (e6 : xs' 6 = xs 6) : qSim xs' sh m' ok := by
  obtain ⟨ρ, σ, R, M, W, U, T, S, F, K⟩ := h
  exact ⟨ρ', σ, R', M', W', by rw [e4]; exact qTr_fr U f (Or.inl (by decide)), by rw [e6]; exact qTp_fr T f (Or.inr (by decide)), qS_n (qS_fr S f (by decide) (by decide)) (n ρ M) M'.2.2, by rw [e0]; exact qRf_fr F f (Or.inr (by decide)), qKep_up K (by rw [e0]) e3 e5⟩
theorem q_cnt {ρ ρ' : (Nat → Nat) × (Nat → Nat → Nat)} (M : qMR m ρ) (M' : qMR m ρ') : ρ.1 1 = ρ'.1 1 := by
  have h1 := M.2.2
  have h2 := M'.2.2
  exact (nI_eq (by omega) (by omega)).mp (M.1.2.1.symm.trans M'.1.2.1)
theorem qSim_tr (h : qSim xs sh m ok) {m' : zS} {xs' : Nat → zS} (U' : qTr (xs' 4) m') (f : qFr 18 26 m m') (e0 : xs' 0 = xs 0) (e1 : xs' 1 = xs 1) (e3 : xs' 3 = xs 3) (e5 : xs' 5 = xs 5) (e6 : xs' 6 = xs 6) : qSim xs' sh m' ok := by
  obtain ⟨ρ, σ, R, M, W, U, T, S, F, K⟩ := h
  exact ⟨ρ, σ, by rw [e1]; exact R, qMR_fr M f (Or.inr (by decide)), W, U', by rw [e6]; exact qTp_fr T f (Or.inr (by decide)), qS_fr S f (by decide) (by decide), by rw [e0]; exact qRf_fr F f (Or.inr (by decide)), qKep_up K (by rw [e0]) e3 e5⟩
theorem qSim_tp (h : qSim xs sh m ok) {m' : zS} {xs' : Nat → zS} (T' : qTp (xs' 6) m') (f : qFr 6 8 m m') (e0 : xs' 0 = xs 0) (e1 : xs' 1 = xs 1) (e3 : xs' 3 = xs 3) (e4 : xs' 4 = xs 4) (e5 : xs' 5 = xs 5) : qSim xs' sh m' ok := by
  obtain ⟨ρ, σ, R, M, W, U, T, S, F, K⟩ := h
  exact ⟨ρ, σ, by rw [e1]; exact R, qMR_fr M f (Or.inl (by decide)), W, by rw [e4]; exact qTr_fr U f (Or.inl (by decide)), T', qS_fr S f (by decide) (by decide), by rw [e0]; exact qRf_fr F f (Or.inl (by decide)), qKep_up K (by rw [e0]) e3 e5⟩
theorem qSim_sh (h : qSim xs sh m ok) {m' : zS} {sh' : Nat → zS} {xs' : Nat → zS} (S' : ∀ ρ, qMR m ρ → ∃ σ', qS sh' m' (ρ.1 1) σ') (f : qFs m m') (e0 : xs' 0 = xs 0) (e1 : xs' 1 = xs 1) (e3 : xs' 3 = xs 3) (e4 : xs' 4 = xs 4) (e5 : xs' 5 = xs 5) (e6 : xs' 6 = xs 6) : qSim xs' sh' m' ok := by
  obtain ⟨ρ, σ, R, M, W, U, T, S, F, K⟩ := h
  obtain ⟨σ', S'⟩ := S' ρ M
  obtain ⟨f1, f2⟩ := f
  refine ⟨ρ, σ', by rw [e1]; exact R, ⟨by rw [f1]; exact M.1, fun p hp => ?_, M.2.2⟩, W, ?_, ?_, S', ?_, qKep_up K (by rw [e0]) e3 e5⟩
  · rw [f2 11 (by decide), f2 12 (by decide), f2 13 (by decide), f2 14 (by decide)]; exact M.2.1 p hp
  · rw [e4]
    obtain ⟨n, b, c, t1, t2, t3⟩ := U
    refine ⟨n, b, c, by rw [f1]; exact t1, by rw [f1]; exact t2, fun i hi => ?_⟩
    rw [f2 22 (by decide), f2 23 (by decide), f2 24 (by decide)]; exact t3 i hi
  · rw [e6]
    obtain ⟨n, h1, h2, h3, h4⟩ := T
    refine ⟨n, h1, h2, by rw [f1]; exact h3, fun i hi => ?_⟩
    rw [f2 6 (by decide)]; exact h4 i hi
  · rw [e0]
    intro k hk
    rw [f2 8 (by decide)]; exact F k hk
theorem L_at (h : qSim xs sh m ok) (p : Int32) : wp_X7_at (xs 0) (xs 1) p (fun v x' => wp_X8_at m p (fun v' m' => v' = v ∧ qSim (va_up xs 0 x') sh m' ok)) := by
  obtain ⟨ρ, σ, R, M, W, U, T, S, F, K⟩ := id h
  exact s_at R M W p (fun v => ⟨rfl, qSim_fr h qFr_rf rfl rfl rfl rfl rfl rfl⟩) ⟨rfl, qSim_rf h qFr_rf rfl rfl rfl rfl rfl rfl⟩
theorem L_pupilOf (h : qSim xs sh m ok) (p : Int32) (k : Int32) : wp_X7_pupilOf (xs 0) (xs 1) p k (fun v x' => wp_X8_pupilOf m p k (fun v' m' => v' = v ∧ qSim (va_up xs 0 x') sh m' ok)) := by
  obtain ⟨ρ, σ, R, M, W, U, T, S, F, K⟩ := id h
  exact s_pupilOf R M W p k (fun v => ⟨rfl, qSim_fr h qFr_rf rfl rfl rfl rfl rfl rfl⟩) ⟨rfl, qSim_rf h qFr_rf rfl rfl rfl rfl rfl rfl⟩
theorem L_inRow (h : qSim xs sh m ok) (p : Int32) : wp_X7_inRow (xs 0) (xs 1) p (fun v x' => wp_X8_inRow m p (fun v' m' => v' = v ∧ qSim (va_up xs 0 x') sh m' ok)) := by
  obtain ⟨ρ, σ, R, M, W, U, T, S, F, K⟩ := id h
  exact s_inRow R M W p (fun v => ⟨rfl, qSim_fr h qFr_rf rfl rfl rfl rfl rfl rfl⟩) ⟨rfl, qSim_rf h qFr_rf rfl rfl rfl rfl rfl rfl⟩
theorem L_loss (h : qSim xs sh m ok) (p : Int32) (s : Int32) : wp_X7_loss (xs 0) (xs 1) p s (fun v x' => wp_X8_loss m p s (fun v' m' => v' = v ∧ qSim (va_up xs 0 x') sh m' ok)) := by
  obtain ⟨ρ, σ, R, M, W, U, T, S, F, K⟩ := id h
  exact s_loss R M W p s (fun v => ⟨rfl, qSim_fr h qFr_rf rfl rfl rfl rfl rfl rfl⟩) ⟨rfl, qSim_rf h qFr_rf rfl rfl rfl rfl rfl rfl⟩
theorem L_crowd (h : qSim xs sh m ok) : wp_X7_crowd (xs 0) (xs 1)  (fun v x' => wp_X8_crowd m  (fun v' m' => v' = v ∧ qSim (va_up xs 0 x') sh m' ok)) := by
  obtain ⟨ρ, σ, R, M, W, U, T, S, F, K⟩ := id h
  exact s_crowd R M (qW_L W) (fun v => ⟨rfl, qSim_fr h qFr_rf rfl rfl rfl rfl rfl rfl⟩) ⟨rfl, qSim_rf h qFr_rf rfl rfl rfl rfl rfl rfl⟩
theorem L_reach (h : qSim xs sh m ok) (a : Int32) : wp_X7_reach (xs 0) (xs 1) a (fun v x' => wp_X8_reach m a (fun v' m' => v' = v ∧ qSim (va_up xs 0 x') sh m' ok)) := by
  obtain ⟨ρ, σ, R, M, W, U, T, S, F, K⟩ := id h
  exact s_reach R M W a (fun v => ⟨rfl, qSim_fr h qFr_rf rfl rfl rfl rfl rfl rfl⟩) (fun v j hj => ⟨rfl, qSim_rf h qFr_rf rfl rfl rfl rfl rfl rfl⟩)
theorem L_cut (h : qSim xs sh m ok) (a : Int32) (b : Int32) : wp_X7_cut (xs 0) (xs 1) a b (fun v x' => wp_X8_cut m a b (fun v' m' => v' = v ∧ qSim (va_up xs 0 x') sh m' ok)) := by
  obtain ⟨ρ, σ, R, M, W, U, T, S, F, K⟩ := id h
  exact s_cut R M W a b (fun v => ⟨rfl, qSim_fr h qFr_rf rfl rfl rfl rfl rfl rfl⟩) (fun v j hj => ⟨rfl, qSim_rf h qFr_rf rfl rfl rfl rfl rfl rfl⟩)
theorem L_keyLength (h : qSim xs sh m ok) (s : Int32) (t : Int32) (k : Int32) : wp_X7_keyLength (xs 0) sh s t k (fun v x' => wp_X8_keyLength m s t k (fun v' m' => v' = v ∧ qSim (va_up xs 0 x') sh m' ok)) := by
  obtain ⟨ρ, σ, R, M, W, U, T, S, F, K⟩ := id h
  exact s_keyLength S s t k (fun v => ⟨rfl, qSim_fr h qFr_rf rfl rfl rfl rfl rfl rfl⟩) (fun v j hj => ⟨rfl, qSim_rf h qFr_rf rfl rfl rfl rfl rfl rfl⟩)
theorem L_judge (h : qSim xs sh m ok) (s : Int32) (k : Int32) : wp_X7_judge (xs 0) sh (xs 1) s k (fun v x' => wp_X8_judge m s k (fun v' m' => v' = v ∧ qSim (va_up xs 0 x') sh m' ok)) := by
  obtain ⟨ρ, σ, R, M, W, U, T, S, F, K⟩ := id h
  exact s_judge R M W S s k (fun v => ⟨rfl, qSim_fr h qFr_rf rfl rfl rfl rfl rfl rfl⟩) (fun v j hj => ⟨rfl, qSim_rf h qFr_rf rfl rfl rfl rfl rfl rfl⟩)
theorem L_says (h : qSim xs sh m ok) (s : Int32) (j : Int32) : wp_X7_says (xs 0) sh (xs 1) s j (fun v x' => wp_X8_says m s j (fun v' m' => v' = v ∧ qSim (va_up xs 0 x') sh m' ok)) := by
  obtain ⟨ρ, σ, R, M, W, U, T, S, F, K⟩ := id h
  exact s_says R M W S s j (fun v => ⟨rfl, qSim_fr h qFr_rf rfl rfl rfl rfl rfl rfl⟩) (fun v j hj => ⟨rfl, qSim_rf h qFr_rf rfl rfl rfl rfl rfl rfl⟩)
theorem L_note (h : qSim xs sh m ok) (p : Int32) : wp_X7_note (xs 0) (xs 4) p (fun v x' => wp_X8_note m p (fun v' m' => v' = v ∧ qSim (va_up xs 0 x') sh m' ok)) := by
  obtain ⟨ρ, σ, R, M, W, U, T, S, F, K⟩ := id h
  exact s_note U p (fun v => ⟨rfl, qSim_fr h qFr_rf rfl rfl rfl rfl rfl rfl⟩) (fun v j hj => ⟨rfl, qSim_rf h qFr_rf rfl rfl rfl rfl rfl rfl⟩)
theorem L_came (h : qSim xs sh m ok) (p : Int32) : wp_X7_came (xs 0) (xs 4) p (fun v x' => wp_X8_came m p (fun v' m' => v' = v ∧ qSim (va_up xs 0 x') sh m' ok)) := by
  obtain ⟨ρ, σ, R, M, W, U, T, S, F, K⟩ := id h
  exact s_came U p (fun v => ⟨rfl, qSim_fr h qFr_rf rfl rfl rfl rfl rfl rfl⟩) (fun v j hj => ⟨rfl, qSim_rf h qFr_rf rfl rfl rfl rfl rfl rfl⟩)
theorem L_ways (h : qSim xs sh m ok) (a : Int32) (b : Int32) : wp_X7_ways (xs 0) (xs 1) (xs 8) a b (fun v x' y' => wp_X8_ways m a b (fun v' m' => v' = v ∧ qSim (va_up (va_up xs 0 x') 8 y') sh m' ok)) := by
  obtain ⟨ρ, σ, R, M, W, U, T, S, F, K⟩ := id h
  exact s_ways R M W a b (fun v y' m' f => ⟨rfl, qSim_fr h f rfl rfl rfl rfl rfl rfl⟩) (fun v j hj y' m' f => ⟨rfl, qSim_rf h f rfl rfl rfl rfl rfl rfl⟩)
theorem L_fewest (h : qSim xs sh m ok) (a : Int32) (b : Int32) : wp_X7_fewest (xs 0) (xs 1) (xs 8) a b (fun v x' y' => wp_X8_fewest m a b (fun v' m' => v' = v ∧ qSim (va_up (va_up xs 0 x') 8 y') sh m' ok)) := by
  obtain ⟨ρ, σ, R, M, W, U, T, S, F, K⟩ := id h
  exact s_fewest R M W a b (fun v y' m' f => ⟨rfl, qSim_fr h f rfl rfl rfl rfl rfl rfl⟩) (fun v j hj y' m' f => ⟨rfl, qSim_rf h f rfl rfl rfl rfl rfl rfl⟩)
theorem L_readers (h : qSim xs sh m ok) (a : Int32) (b : Int32) : wp_X7_readers (xs 0) (xs 1) (xs 8) a b (fun v x' y' => wp_X8_readers m a b (fun v' m' => v' = v ∧ qSim (va_up (va_up xs 0 x') 8 y') sh m' ok)) := by
  obtain ⟨ρ, σ, R, M, W, U, T, S, F, K⟩ := id h
  exact s_readers R M W a b (fun v y' m' f => ⟨rfl, qSim_fr h f rfl rfl rfl rfl rfl rfl⟩) (fun v j hj y' m' f => ⟨rfl, qSim_rf h f rfl rfl rfl rfl rfl rfl⟩)
theorem L_must (h : qSim xs sh m ok) (a : Int32) (b : Int32) : wp_X7_must (xs 0) (xs 1) (xs 8) a b (fun v x' y' => wp_X8_must m a b (fun v' m' => v' = v ∧ qSim (va_up (va_up xs 0 x') 8 y') sh m' ok)) := by
  obtain ⟨ρ, σ, R, M, W, U, T, S, F, K⟩ := id h
  exact s_must R M W a b (fun v y' m' f => ⟨rfl, qSim_fr h f rfl rfl rfl rfl rfl rfl⟩) (fun v j hj y' m' f => ⟨rfl, qSim_rf h f rfl rfl rfl rfl rfl rfl⟩)
theorem L_when (h : qSim xs sh m ok) (a : Int32) (b : Int32) : wp_X7_when (xs 0) (xs 1) (xs 8) (xs 10) a b (fun v x' y' k' => wp_X8_when m a b (fun v' m' => v' = v ∧ qSim (va_up (va_up (va_up xs 0 x') 8 y') 10 k') sh m' ok)) := by
  obtain ⟨ρ, σ, R, M, W, U, T, S, F, K⟩ := id h
  exact s_when R M W a b (fun v y' k' m' f => ⟨rfl, qSim_fr h f rfl rfl rfl rfl rfl rfl⟩) (fun v j hj y' k' m' f => ⟨rfl, qSim_rf h f rfl rfl rfl rfl rfl rfl⟩)
theorem L_answer (h : qSim xs sh m ok) (a : Int32) (b : Int32) (s : Int32) : wp_X7_answer (xs 0) (xs 1) (xs 8) (xs 10) a b s (fun v x' y' k' => wp_X8_answer m a b s (fun v' m' => v' = v ∧ qSim (va_up (va_up (va_up xs 0 x') 8 y') 10 k') sh m' ok)) := by
  obtain ⟨ρ, σ, R, M, W, U, T, S, F, K⟩ := id h
  exact s_answer R M W a b s (fun v y' k' m' f => ⟨rfl, qSim_fr h f rfl rfl rfl rfl rfl rfl⟩) (fun v j hj y' k' m' f => ⟨rfl, qSim_rf h f rfl rfl rfl rfl rfl rfl⟩)
theorem L_halves (h : qSim xs sh m ok) (a : Int32) (b : Int32) (s : Int32) : wp_X7_halves (xs 0) (xs 1) (xs 8) (xs 10) a b s (fun v x' y' k' => wp_X8_halves m a b s (fun v' m' => v' = v ∧ qSim (va_up (va_up (va_up xs 0 x') 8 y') 10 k') sh m' ok)) := by
  obtain ⟨ρ, σ, R, M, W, U, T, S, F, K⟩ := id h
  exact s_halves R M W a b s (fun v y' k' m' f => ⟨rfl, qSim_fr h f rfl rfl rfl rfl rfl rfl⟩) (fun v j hj y' k' m' f => ⟨rfl, qSim_rf h f rfl rfl rfl rfl rfl rfl⟩)
theorem L_together (h : qSim xs sh m ok) (a : Int32) (b : Int32) (c : Int32) (d : Int32) (s : Int32) : wp_X7_together (xs 0) (xs 1) (xs 8) (xs 9) (xs 10) a b c d s (fun v x' y' z' k' => wp_X8_together m a b c d s (fun v' m' => v' = v ∧ qSim (va_up (va_up (va_up (va_up xs 0 x') 8 y') 9 z') 10 k') sh m' ok)) := by
  obtain ⟨ρ, σ, R, M, W, U, T, S, F, K⟩ := id h
  exact s_together R M W a b c d s (fun v y' z' k' m' f => ⟨rfl, qSim_fr h f rfl rfl rfl rfl rfl rfl⟩) (fun v j hj y' z' k' m' f => ⟨rfl, qSim_rf h f rfl rfl rfl rfl rfl rfl⟩)
theorem L_surest (h : qSim xs sh m ok) (a : Int32) (b : Int32) (s : Int32) (i : Int32) : wp_X7_surest (xs 0) (xs 1) (xs 8) (xs 10) a b s i (fun v x' y' k' => wp_X8_surest m a b s i (fun v' m' => v' = v ∧ qSim (va_up (va_up (va_up xs 0 x') 8 y') 10 k') sh m' ok)) := by
  obtain ⟨ρ, σ, R, M, W, U, T, S, F, K⟩ := id h
  exact s_surestOf (o := 0) R M W a b s i (by decide) (post := fun v x' y' k' v' m' => v' = v ∧ qSim (va_up (va_up (va_up xs 0 x') 8 y') 10 k') sh m' ok) (fun v y' k' m' f => ⟨rfl, qSim_fr h f rfl rfl rfl rfl rfl rfl⟩) (fun v j hj y' k' m' f => ⟨rfl, qSim_rf h f rfl rfl rfl rfl rfl rfl⟩)
theorem L_unread (h : qSim xs sh m ok) (a : Int32) (b : Int32) (s : Int32) (i : Int32) : wp_X7_unread (xs 0) (xs 1) (xs 8) (xs 10) a b s i (fun v x' y' k' => wp_X8_unread m a b s i (fun v' m' => v' = v ∧ qSim (va_up (va_up (va_up xs 0 x') 8 y') 10 k') sh m' ok)) := by
  obtain ⟨ρ, σ, R, M, W, U, T, S, F, K⟩ := id h
  exact s_surestOf (o := 1) R M W a b s i (by decide) (post := fun v x' y' k' v' m' => v' = v ∧ qSim (va_up (va_up (va_up xs 0 x') 8 y') 10 k') sh m' ok) (fun v y' k' m' f => ⟨rfl, qSim_fr h f rfl rfl rfl rfl rfl rfl⟩) (fun v j hj y' k' m' f => ⟨rfl, qSim_rf h f rfl rfl rfl rfl rfl rfl⟩)
theorem L_unseen (h : qSim xs sh m ok) (a : Int32) (b : Int32) (s : Int32) (i : Int32) : wp_X7_unseen (xs 0) (xs 1) (xs 8) (xs 10) a b s i (fun v x' y' k' => wp_X8_unseen m a b s i (fun v' m' => v' = v ∧ qSim (va_up (va_up (va_up xs 0 x') 8 y') 10 k') sh m' ok)) := by
  obtain ⟨ρ, σ, R, M, W, U, T, S, F, K⟩ := id h
  exact s_surestOf (o := 2) R M W a b s i (by decide) (post := fun v x' y' k' v' m' => v' = v ∧ qSim (va_up (va_up (va_up xs 0 x') 8 y') 10 k') sh m' ok) (fun v y' k' m' f => ⟨rfl, qSim_fr h f rfl rfl rfl rfl rfl rfl⟩) (fun v j hj y' k' m' f => ⟨rfl, qSim_rf h f rfl rfl rfl rfl rfl rfl⟩)
theorem L_told (h : qSim xs sh m ok) (s : Int32) (k : Int32) (w : Int32) (o : Int32) : wp_X7_told (xs 0) sh (xs 1) (xs 8) (xs 10) s k w o (fun v x' y' k' => wp_X8_told m s k w o (fun v' m' => v' = v ∧ qSim (va_up (va_up (va_up xs 0 x') 8 y') 10 k') sh m' ok)) := by
  obtain ⟨ρ, σ, R, M, W, U, T, S, F, K⟩ := id h
  exact s_told R M W S s k w o (fun v y' k' => ⟨rfl, qSim_fr h qFr_rf rfl rfl rfl rfl rfl rfl⟩) (fun v j hj => ⟨rfl, qSim_rf h qFr_rf rfl rfl rfl rfl rfl rfl⟩)
theorem L_rows (h : qSim xs sh m ok) (n : Int32) : wp_X7_rows (xs 0) (xs 1) n (fun v x' r' => wp_X8_rows m n (fun v' m' => v' = v ∧ qSim (va_up (va_up xs 0 x') 1 r') sh m' ok)) := by
  obtain ⟨ρ, σ, R, M, W, U, T, S, F, K⟩ := id h
  exact s_rows R M W n (fun v r' m' ρ' R' M' W' e f => ⟨rfl, qSim_room h R' M' W' (fun ρ0 M0 => Nat.le_of_eq ((q_cnt M0 M).trans e.symm)) f rfl rfl rfl rfl rfl⟩) (fun v j hj => ⟨rfl, qSim_rf h qFr_rf rfl rfl rfl rfl rfl rfl⟩)
theorem L_pupil (h : qSim xs sh m ok) (p : Int32) (d : Int32) (a : Int32) : wp_X7_pupil (xs 0) (xs 1) p d a (fun v x' r' => wp_X8_pupil m p d a (fun v' m' => v' = v ∧ qSim (va_up (va_up xs 0 x') 1 r') sh m' ok)) := by
  obtain ⟨ρ, σ, R, M, W, U, T, S, F, K⟩ := id h
  exact s_pupil R M W p d a (fun v r' m' ρ' R' M' W' e f => ⟨rfl, qSim_room h R' M' W' (fun ρ0 M0 => by rw [q_cnt M0 M]; exact e) f rfl rfl rfl rfl rfl⟩) (fun v j hj => ⟨rfl, qSim_rf h qFr_rf rfl rfl rfl rfl rfl rfl⟩)
theorem L_move (h : qSim xs sh m ok) (p : Int32) (d : Int32) : wp_X7_move (xs 0) (xs 1) p d (fun v x' r' => wp_X8_move m p d (fun v' m' => v' = v ∧ qSim (va_up (va_up xs 0 x') 1 r') sh m' ok)) := by
  obtain ⟨ρ, σ, R, M, W, U, T, S, F, K⟩ := id h
  exact s_move R M W p d (fun v r' m' ρ' R' M' W' e f => ⟨rfl, qSim_room h R' M' W' (fun ρ0 M0 => Nat.le_of_eq ((q_cnt M0 M).trans e.symm)) f rfl rfl rfl rfl rfl⟩) (fun v j hj => ⟨rfl, qSim_rf h qFr_rf rfl rfl rfl rfl rfl rfl⟩)
theorem L_swap (h : qSim xs sh m ok) (p : Int32) (q : Int32) : wp_X7_swap (xs 0) (xs 1) p q (fun v x' r' => wp_X8_swap m p q (fun v' m' => v' = v ∧ qSim (va_up (va_up xs 0 x') 1 r') sh m' ok)) := by
  obtain ⟨ρ, σ, R, M, W, U, T, S, F, K⟩ := id h
  exact s_swap R M W p q (fun v r' m' ρ' R' M' W' e f => ⟨rfl, qSim_room h R' M' W' (fun ρ0 M0 => Nat.le_of_eq ((q_cnt M0 M).trans e.symm)) f rfl rfl rfl rfl rfl⟩) (fun v j hj => ⟨rfl, qSim_rf h qFr_rf rfl rfl rfl rfl rfl rfl⟩)
theorem L_master (h : qSim xs sh m ok) (p : Int32) (q : Int32) : wp_X7_master (xs 0) (xs 1) p q (fun v x' r' => wp_X8_master m p q (fun v' m' => v' = v ∧ qSim (va_up (va_up xs 0 x') 1 r') sh m' ok)) := by
  obtain ⟨ρ, σ, R, M, W, U, T, S, F, K⟩ := id h
  exact s_master R M W p q (fun v r' m' ρ' R' M' W' e f => ⟨rfl, qSim_room h R' M' W' (fun ρ0 M0 => Nat.le_of_eq ((q_cnt M0 M).trans e.symm)) f rfl rfl rfl rfl rfl⟩) (fun v j hj => ⟨rfl, qSim_rf h qFr_rf rfl rfl rfl rfl rfl rfl⟩)
theorem L_bar (h : qSim xs sh m ok) (p q : Int32) (is : Bool) : wp_X7_bar (xs 0) (xs 1) p q (qz is) (fun v x' r' => wp_X8_bar m p q (qz is) (fun v' m' => v' = v ∧ qSim (va_up (va_up xs 0 x') 1 r') sh m' ok)) := by
  obtain ⟨ρ, σ, R, M, W, U, T, S, F, K⟩ := id h
  exact s_bar R M W p q is (fun v r' m' ρ' R' M' W' e f => ⟨rfl, qSim_room h R' M' W' (fun ρ0 M0 => Nat.le_of_eq ((q_cnt M0 M).trans e.symm)) f rfl rfl rfl rfl rfl⟩) (fun v j hj => ⟨rfl, qSim_rf h qFr_rf rfl rfl rfl rfl rfl rfl⟩)
theorem L_feed (h : qSim xs sh m ok) (v : Int32) : wp_X7_feed (xs 0) (xs 6) v (fun v1 x' y' => wp_X8_feed m v (fun v' m' => v' = v1 ∧ qSim (va_up (va_up xs 0 x') 6 y') sh m' ok)) := by
  obtain ⟨ρ, σ, R, M, W, U, T, S, F, K⟩ := id h
  exact s_feed T v (fun v y' m' T' f => ⟨rfl, qSim_tp h T' f rfl rfl rfl rfl rfl⟩) (fun v j hj => ⟨rfl, qSim_rf h qFr_rf rfl rfl rfl rfl rfl rfl⟩)
theorem L_wipe (h : qSim xs sh m ok) : wp_X7_wipe (xs 0) (xs 6)  (fun v y' => wp_X8_wipe m  (fun v' m' => v' = v ∧ qSim (va_up xs 6 y') sh m' ok)) := by
  obtain ⟨ρ, σ, R, M, W, U, T, S, F, K⟩ := id h
  exact s_wipe T (fun v y' m' T' f => ⟨rfl, qSim_tp h T' f rfl rfl rfl rfl rfl⟩)
theorem L_waits (h : qSim xs sh m ok) (n : Int32) : wp_X7_waits (xs 0) (xs 4) n (fun v x' u' => wp_X8_waits m n (fun v' m' => v' = v ∧ qSim (va_up (va_up xs 0 x') 4 u') sh m' ok)) := by
  obtain ⟨ρ, σ, R, M, W, U, T, S, F, K⟩ := id h
  exact s_waits U n (fun v u' m' U' f => ⟨rfl, qSim_tr h U' f rfl rfl rfl rfl rfl⟩) (fun v j hj => ⟨rfl, qSim_rf h qFr_rf rfl rfl rfl rfl rfl rfl⟩)
theorem L_seed (h : qSim xs sh m ok) (n : Int32) : wp_X7_seed (xs 0) (xs 4) n (fun v u' => wp_X8_seed m n (fun v' m' => v' = v ∧ qSim (va_up xs 4 u') sh m' ok)) := by
  obtain ⟨ρ, σ, R, M, W, U, T, S, F, K⟩ := id h
  exact s_seed U n (fun v u' m' U' f => ⟨rfl, qSim_tr h U' f rfl rfl rfl rfl rfl⟩)
theorem L_row (h : qSim xs sh m ok) (s : Int32) (k : Int32) (z : Int32) : wp_X7_row (xs 0) sh s k z (fun v x' sh' => wp_X8_row m s k z (fun v' m' => v' = v ∧ qSim (va_up xs 0 x') sh' m' ok)) := by
  obtain ⟨ρ, σ, R, M, W, U, T, S, F, K⟩ := id h
  exact s_row S s k z (fun v sh' m' σ' S' f => ⟨rfl, qSim_sh h (fun ρ0 M0 => ⟨_, by rw [q_cnt M0 M]; exact S'⟩) f rfl rfl rfl rfl rfl rfl⟩) (fun v j hj => ⟨rfl, qSim_rf h qFr_rf rfl rfl rfl rfl rfl rfl⟩)
theorem L_copy (h : qSim xs sh m ok) (s : Int32) (t : Int32) (i : Int32) (j : Int32) (k : Int32) : wp_X7_copy (xs 0) sh s t i j k (fun v x' sh' => wp_X8_copy m s t i j k (fun v' m' => v' = v ∧ qSim (va_up xs 0 x') sh' m' ok)) := by
  obtain ⟨ρ, σ, R, M, W, U, T, S, F, K⟩ := id h
  exact s_copy S s t i j k (fun v sh' m' S' f => ⟨rfl, qSim_sh h (fun ρ0 M0 => ⟨_, by rw [q_cnt M0 M]; exact S'⟩) f rfl rfl rfl rfl rfl rfl⟩) (fun v j hj => ⟨rfl, qSim_rf h qFr_rf rfl rfl rfl rfl rfl rfl⟩)
theorem L_code (h : qSim xs sh m ok) (s : Int32) (t : Int32) (k : Int32) : wp_X7_code (xs 0) sh s t k (fun v x' sh' => wp_X8_code m s t k (fun v' m' => v' = v ∧ qSim (va_up xs 0 x') sh' m' ok)) := by
  obtain ⟨ρ, σ, R, M, W, U, T, S, F, K⟩ := id h
  exact s_code S s t k (fun v sh' m' S' f => ⟨rfl, qSim_sh h (fun ρ0 M0 => ⟨_, by rw [q_cnt M0 M]; exact S'⟩) f rfl rfl rfl rfl rfl rfl⟩) (fun v j hj => ⟨rfl, qSim_rf h qFr_rf rfl rfl rfl rfl rfl rfl⟩)
theorem L_set (h : qSim xs sh m ok) (s i : Int32) (e : Int64) : wp_X7_set (xs 0) sh s i e (fun v x' sh' => wp_X8_set m s i e (fun v' m' => v' = v ∧ qSim (va_up xs 0 x') sh' m' ok)) := by
  obtain ⟨ρ, σ, R, M, W, U, T, S, F, K⟩ := id h
  exact s_set S s i e (fun v sh' m' σ' S' f => ⟨rfl, qSim_sh h (fun ρ0 M0 => ⟨_, by rw [q_cnt M0 M]; exact S'⟩) f rfl rfl rfl rfl rfl rfl⟩) (fun v j hj => ⟨rfl, qSim_rf h qFr_rf rfl rfl rfl rfl rfl rfl⟩)
theorem L_show (h : qSim xs sh m ok) (s : Int32) (p : Int32) : wp_X7_show (xs 0) sh (xs 1) s p (fun v x' sh' => wp_X8_show m s p (fun v' m' => v' = v ∧ qSim (va_up xs 0 x') sh' m' ok)) := by
  obtain ⟨ρ, σ, R, M, W, U, T, S, F, K⟩ := id h
  exact s_show R M S s p (fun v sh' m' σ' S' f => ⟨rfl, qSim_sh h (fun ρ0 M0 => ⟨_, by rw [q_cnt M0 M]; exact S'⟩) f rfl rfl rfl rfl rfl rfl⟩) (fun v j hj => ⟨rfl, qSim_rf h qFr_rf rfl rfl rfl rfl rfl rfl⟩)
theorem L_element (h : qSim xs sh m ok) (s i : Int32) : wp_X7_element (xs 0) sh s i (fun v => wp_X8_element m s i (fun v' => v' = v)) := by
  obtain ⟨ρ, σ, R, M, W, U, T, S, F, K⟩ := id h
  exact s_element S s i (fun v => rfl)
theorem L_holds (h : qSim xs sh m ok) (s : Int32) : wp_X7_holds (xs 0) sh s (fun v => wp_X8_holds m s (fun v' => v' = v)) := by
  obtain ⟨ρ, σ, R, M, W, U, T, S, F, K⟩ := id h
  exact s_holds S s (fun v => rfl)
theorem L_status (h : qSim xs sh m ok) (p : Int32) : wp_X7_status (xs 0) sh (xs 4) (xs 6) (xs 1) p (fun v => wp_X8_status m p (fun v' => v' = v)) := by
  obtain ⟨ρ, σ, R, M, W, U, T, S, F, K⟩ := id h
  exact s_status R M W S U T F p (fun v => rfl)
theorem L_edges (h : qSim xs sh m ok) : wp_X7_edges (xs 0) (xs 1) (fun v => wp_X8_edges m (fun v' => v' = v)) := by
  obtain ⟨ρ, σ, R, M, W, U, T, S, F, K⟩ := id h
  exact q7_edges R (q8_edges M (qW_L W) rfl)
theorem L_lonely (h : qSim xs sh m ok) : wp_X7_lonely (xs 0) (xs 1) (fun v => wp_X8_lonely m (fun v' => v' = v)) := by
  obtain ⟨ρ, σ, R, M, W, U, T, S, F, K⟩ := id h
  exact q7_lonely R (q8_lonely M (qW_L W) rfl)
theorem L_suspect (h : qSim xs sh m ok) : wp_X7_suspect (xs 0) (xs 1) (xs 4) (fun v => wp_X8_suspect m (fun v' => v' = v)) := by
  obtain ⟨ρ, σ, R, M, W, U, T, S, F, K⟩ := id h
  obtain ⟨n, b, c, U⟩ := U
  exact a7_suspect R U (a8_suspect M U rfl)
theorem L_change (h : qSim xs sh m ok) (a : Int32) (b : Int32) (s : Int32) : wp_X7_change (xs 0) (xs 1) (xs 8) (xs 10) (xs 2) a b s (fun v x' y' k' t' => wp_X8_change m a b s (fun v' m' => v' = v ∧ qSim (va_up (va_up (va_up (va_up xs 0 x') 8 y') 10 k') 2 t') sh m' ok)) := by
  obtain ⟨ρ, σ, R, M, W, U, T, S, F, K⟩ := id h
  exact s_change R M W a b s (fun v y' k' t' m' f M' U' => ⟨rfl, ρ, σ, R, M', W, U' _ U, qTp_fr T f (Or.inr (by decide)), qS_fr S f (by decide) (by decide), qRf_fr F f (Or.inr (by decide)), qKep_up K rfl rfl rfl⟩) (fun v j hj => ⟨rfl, qSim_rf h qFr_rf rfl rfl rfl rfl rfl rfl⟩)
theorem L_send (h : qSim xs sh m ok) (a : Int32) (b : Int32) : wp_X7_send (xs 0) (xs 1) (xs 8) (xs 4) (xs 10) a b (fun v x' y' u' k' => wp_X8_send m a b (fun v' m' => v' = v ∧ qSim (va_up (va_up (va_up (va_up xs 0 x') 8 y') 4 u') 10 k') sh m' ok)) := by
  obtain ⟨ρ, σ, R, M, W, U, T, S, F, K⟩ := id h
  exact s_send R M W U a b (fun v y' u' k' m' U' f M' => ⟨rfl, ρ, σ, R, M', W, U', qTp_fr T f (Or.inr (by decide)), qS_fr S f (by decide) (by decide), qRf_fr F f (Or.inr (by decide)), qKep_up K rfl rfl rfl⟩) (fun v j hj y' k' m' f => ⟨rfl, qSim_rf h f rfl rfl rfl rfl rfl rfl⟩)
end QSIM
