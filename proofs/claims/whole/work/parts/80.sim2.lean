/-! spot, school, image, back between the two sides' states -/
section QSIM2
variable {xs : Nat → zS} {sh : Nat → zS} {m m1 : zS} {ok : wO}
theorem L_spot_S (h : qSim xs sh m ok) (kd mk a b : Int32) : wp_X7_spot (xs 0) (xs 1) (xs 2) (xs 8) (xs 10) kd mk a b (fun v x' t' y' k' => wp_X8_spot_S m m1 kd mk a b (fun v' m' _ => v' = v ∧ qSim (va_up (va_up (va_up (va_up xs 0 x') 2 t') 8 y') 10 k') sh m' ok)) := by
  obtain ⟨ρ, σ, R, M, W, U, T, S, F, K⟩ := id h
  exact s_spot_S R M W kd mk a b (fun v t' y' k' m1' => ⟨rfl, qSim_fr h qFr_rf rfl rfl rfl rfl rfl rfl⟩) (fun v j hj t' y' k' => ⟨rfl, qSim_rf h qFr_rf rfl rfl rfl rfl rfl rfl⟩)
/-- what the call may have made -/
def qNew (o : wO) : Prop := o = none ∨ ∃ Q A LA m1, o = some (Q, A, (fun _ => none), LA, m1)
theorem L_spot_N (h : qSim xs sh m ok) (kd mk a b : Int32) : wp_X7_spot (xs 0) (xs 1) (xs 2) (xs 8) (xs 10) kd mk a b (fun v x' t' y' k' => wp_X8_spot_N m kd mk a b (fun v' m' o => (v' = v ∧ qNew o) ∧ qSim (va_up (va_up (va_up (va_up xs 0 x') 2 t') 8 y') 10 k') sh m' ok)) := by
  obtain ⟨ρ, σ, R, M, W, U, T, S, F, K⟩ := id h
  exact s_spot_N R M W kd mk a b (fun v t' y' k' o ho => ⟨⟨rfl, ho⟩, qSim_fr h qFr_rf rfl rfl rfl rfl rfl rfl⟩) (fun v j hj t' y' k' => ⟨⟨rfl, Or.inl rfl⟩, qSim_rf h qFr_rf rfl rfl rfl rfl rfl rfl⟩)
theorem qSim_school (h : qSim xs sh m ok) {ρ' : (Nat → Nat) × (Nat → Nat → Nat)} {m' : zS} {xs' : Nat → zS} (R' : qRm (xs' 1) ρ') (M' : qMR m' ρ') (W' : qW ρ') (n : ∀ ρ, qMR m ρ → ρ.1 1 ≤ ρ'.1 1) (U' : ∀ u, qTr u m → qTr u m') (f : qSh m m') (e6 : xs' 6 = zI (xs 6) 0 (0 : Int32)) (e0 : xs' 0 = xs 0) (e3 : xs' 3 = xs 3) (e4 : xs' 4 = xs 4) (e5 : xs' 5 = xs 5) : qSim xs' sh m' ok := by
  obtain ⟨ρ, σ, R, M, W, U, T, S, F, K⟩ := h
  refine ⟨ρ', σ, R', M', W', by rw [e4]; exact U' _ U, ⟨0, by decide, by rw [e6]; rfl, f.1.1, fun i hi => absurd hi (Nat.not_lt_zero i)⟩, qS_n (n := ρ.1 1) ⟨S.1, fun s hs => ?_⟩ (n ρ M) M'.2.2, ?_, qKep_up K (by rw [e0]) e3 e5⟩
  · exact qS1_fr (S.2 s hs) (by rw [(f.2 0 (by omega)).2.1]) (by rw [(f.2 1 (by omega)).2.1]) (by rw [(f.2 2 (by omega)).2.1]) (by rw [(f.2 5 (by omega)).2.1]) (fun i => by rw [(f.2 (100 + s) (by omega)).2.2])
  · rw [e0]
    intro k hk
    rw [(f.2 8 (by omega)).2.1]; exact F k hk
theorem qSim_schoolR (h : qSim xs sh m ok) {m' : zS} {xs' : Nat → zS} {ρ : (Nat → Nat) × (Nat → Nat → Nat)} (M0 : qMR m ρ) (M' : qMR m' ρ) (U' : ∀ u, qTr u m → qTr u m') (f : qSh m m') (e6 : xs' 6 = zI (xs 6) 0 (0 : Int32)) (e0 : xs' 0 = zA (xs 0) 12 0 ((xs 0).2.1 12 0 + 1)) (e1 : qRm (xs' 1) ρ) (w : qW ρ) (e3 : xs' 3 = xs 3) (e4 : xs' 4 = xs 4) (e5 : xs' 5 = xs 5) : qSim xs' sh (zA m' 8 2 (m'.2.1 8 2 + 1)) ok := by
  have h2 : qSim (va_up xs' 0 (xs 0)) sh m' ok := qSim_school (xs' := va_up xs' 0 (xs 0)) h e1 M' w (fun ρ0 M1 => Nat.le_of_eq (q_cnt M1 M0)) U' f e6 rfl e3 e4 e5
  exact qSim_rf (j := 0) h2 qFr_rf e0 rfl rfl rfl rfl rfl
theorem L_school_S (h : qSim xs sh m ok) : wp_X7_school (xs 0) (xs 2) (xs 1) (xs 7) (xs 6) (fun v x' t' r' l' y' => wp_X8_school_S m m1 (fun v' m' _ => v' = v ∧ qSim (va_up (va_up (va_up (va_up (va_up xs 0 x') 2 t') 1 r') 7 l') 6 y') sh m' ok)) := by
  obtain ⟨ρ, σ, R, M, W, U, T, S, F, K⟩ := id h
  exact s_school_S T R M W (fun v t' r' l' m' k' ρ' R' M' W' n U' f => ⟨rfl, qSim_school h R' M' W' (fun ρ0 M0 => by rw [q_cnt M0 M]; exact n) U' f rfl rfl rfl rfl rfl⟩) (fun v t' l' m' k' M' U' f => ⟨rfl, qSim_schoolR h M M' U' f rfl rfl R W rfl rfl rfl⟩)
theorem L_school_N (h : qSim xs sh m ok) : wp_X7_school (xs 0) (xs 2) (xs 1) (xs 7) (xs 6) (fun v x' t' r' l' y' => wp_X8_school_N m (fun v' m' o => (v' = v ∧ qNew o) ∧ qSim (va_up (va_up (va_up (va_up (va_up xs 0 x') 2 t') 1 r') 7 l') 6 y') sh m' ok)) := by
  obtain ⟨ρ, σ, R, M, W, U, T, S, F, K⟩ := id h
  exact s_school_N T R M W (fun v t' r' l' m' Q A LA k' ρ' R' M' W' n U' f => ⟨⟨rfl, Or.inr ⟨Q, A, LA, k', rfl⟩⟩, qSim_school h R' M' W' (fun ρ0 M0 => by rw [q_cnt M0 M]; exact n) U' f rfl rfl rfl rfl rfl⟩) (fun v t' l' m' Q A LA k' M' U' f => ⟨⟨rfl, Or.inr ⟨Q, A, LA, k', rfl⟩⟩, qSim_schoolR h M M' U' f rfl rfl R W rfl rfl rfl⟩)
theorem qSim_image (h : qSim xs sh m ok) {kr kt km : zS} (I : qIm kr kt km) (Q : Nat) (A : Nat → Nat) (N : Nat → Option Nat) (LA : Nat → Nat) {xs' : Nat → zS} (e0 : xs' 0 = zI (xs 0) 5 1) (e1 : xs' 1 = xs 1) (e3 : xs' 3 = kr) (e4 : xs' 4 = xs 4) (e5 : xs' 5 = kt) (e6 : xs' 6 = xs 6) : qSim xs' sh m (some (Q, A, N, LA, km)) := by
  obtain ⟨ρ, σ, R, M, W, U, T, S, F, K⟩ := h
  exact ⟨ρ, σ, by rw [e1]; exact R, M, W, by rw [e4]; exact U, by rw [e6]; exact T, S, by rw [e0]; exact F, by rw [e0]; rfl, by rw [e3, e5]; exact I⟩
theorem L_image_S {Q : Nat} {A : Nat → Nat} {N : Nat → Option Nat} {LA : Nat → Nat} {km : zS} (h : qSim xs sh m (some (Q, A, N, LA, km))) : wp_X7_image (xs 0) (xs 3) (xs 1) (xs 5) (xs 4) (fun v x' kr' kt' => wp_X8_image_S m km (fun v' km' => v' = v ∧ qSim (va_up (va_up (va_up xs 0 x') 3 kr') 5 kt') sh m (some (Q, A, N, LA, km')))) := by
  obtain ⟨ρ, σ, R, M, W, U, T, S, F, K⟩ := id h
  exact s_image_S R M W U (fun kr' kt' km' I => ⟨rfl, qSim_image h I Q A N LA rfl rfl rfl rfl rfl rfl⟩)
theorem L_image_N (h : qSim xs sh m none) : wp_X7_image (xs 0) (xs 3) (xs 1) (xs 5) (xs 4) (fun v x' kr' kt' => wp_X8_image_N m (fun v' Q A LA km' => v' = v ∧ ∀ N, qSim (va_up (va_up (va_up xs 0 x') 3 kr') 5 kt') sh m (some (Q, A, N, LA, km')))) := by
  obtain ⟨ρ, σ, R, M, W, U, T, S, F, K⟩ := id h
  exact s_image_N R M W U (fun kr' kt' Q A LA km' I => ⟨rfl, fun N => qSim_image h I Q A N LA rfl rfl rfl rfl rfl rfl⟩)
theorem L_back_N (h : qSim xs sh m none) : wp_X7_back (xs 0) sh (xs 1) (xs 3) (xs 4) (xs 5) (fun v x' sh' r' u' => wp_X8_back_N m (fun v' m' => v' = v ∧ qSim (va_up (va_up (va_up xs 0 x') 1 r') 4 u') sh' m' none)) := by
  obtain ⟨ρ, σ, R, M, W, U, T, S, F, K⟩ := id h
  exact s_back_N K (fun v j hj => ⟨rfl, qSim_rf h qFr_rf rfl rfl rfl rfl rfl rfl⟩)
theorem L_back_S {Q : Nat} {A : Nat → Nat} {N : Nat → Option Nat} {LA : Nat → Nat} {km : zS} (h : qSim xs sh m (some (Q, A, N, LA, km))) : wp_X7_back (xs 0) sh (xs 1) (xs 3) (xs 4) (xs 5) (fun v x' sh' r' u' => wp_X8_back_S m km (fun v' m' => v' = v ∧ qSim (va_up (va_up (va_up xs 0 x') 1 r') 4 u') sh' m' (some (Q, A, N, LA, km)))) := by
  obtain ⟨ρ, σ, R, M, W, U, T, S, F, K⟩ := id h
  refine s_back_S K.1 K.2 S (fun sh' r' u' m' ρ' σ' R' M' W' U' S' f => ⟨rfl, ρ', σ', R', M', W', U', ?_, S', ?_, qKep_up K rfl rfl rfl⟩)
  · obtain ⟨n, h1, h2, h3, h4⟩ := T
    refine ⟨n, h1, h2, by rw [(f 7 (by omega)).1]; exact h3, fun i hi => ?_⟩
    rw [(f 6 (by omega)).2]; exact h4 i hi
  · intro k hk
    rw [(f 8 (by omega)).2]; exact F k hk
end QSIM2
