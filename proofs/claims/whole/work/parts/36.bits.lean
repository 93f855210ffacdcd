/-! how many pupils a mask names -/
def qpop (a : Nat) : Nat := a % 2 + a / 2 % 2 + a / 4 % 2 + a / 8 % 2 + a / 16 % 2 + a / 32 % 2 + a / 64 % 2 + a / 128 % 2 + a / 256 % 2 + a / 512 % 2 + a / 1024 % 2 + a / 2048 % 2
theorem qpop_J : ∀ a, a < 64 → ∀ b, b < 64 → wp_J6_bitCount_0f7a4 (nI (64 * a + b)) (fun v => v = nI (qpop (64 * a + b))) := by
  intro a ha b hb v1 h1 v2 h2 v3 h3 v4 h4 v5 h5
  subst h1 h2 h3 h4 h5
  revert b a
  decide +kernel
theorem qpop_s : ∀ a, a < 64 → ∀ b, b < 64 → 64 * a + b = 0 ∨ (nI (64 * a + b) &&& (nI (64 * a + b) - (1 : Int32)) = nI ((64 * a + b) &&& (64 * a + b - 1)) ∧ qpop ((64 * a + b) &&& (64 * a + b - 1)) + 1 = qpop (64 * a + b)) := by decide +kernel
theorem q_bitCount {a : Nat} (ha : a < 4096) {post : Int32 → Prop} (h : post (nI (qpop a))) : wp_J6_bitCount_0f7a4 (nI a) post := by
  have e : 64 * (a / 64) + a % 64 = a := Nat.div_add_mod a 64
  have k := qpop_J (a / 64) (by omega) (a % 64) (by omega)
  rw [e] at k
  intro v1 h1 v2 h2 v3 h3 v4 h4 v5 h5
  have := k v1 h1 v2 h2 v3 h3 v4 h4 v5 h5
  rw [this]; exact h
theorem q8_bits {a : Nat} (ha : a < 4096) {post : Int32 → Prop} (h : post (nI (qpop a))) : wp_X8_bits (nI a) post := by
  have key : ∀ k i b, b < 4096 → qpop b = k → i + k = qpop a → wp_X8_bits_4 (nI a) post (k + 1) (nI i) (nI b) := by
    intro k
    induction k with
    | zero =>
      intro i b hb hk hi
      have hs := qpop_s (b / 64) (by omega) (b % 64) (by omega)
      rw [Nat.div_add_mod] at hs
      rw [wu_X8_bits_4]
      unfold wb_X8_bits_4
      have : b = 0 := by
        rcases hs with hs | hs
        · exact hs
        · omega
      subst this
      refine ⟨fun _ => ?_, fun c => absurd rfl c⟩
      have : i = qpop a := by omega
      rw [this]; exact h
    | succ k ih =>
      intro i b hb hk hi
      have hs := qpop_s (b / 64) (by omega) (b % 64) (by omega)
      rw [Nat.div_add_mod] at hs
      rw [wu_X8_bits_4]
      unfold wb_X8_bits_4
      have hne : b ≠ 0 := fun e => by subst e; exact absurd hk (by simp [qpop])
      rcases hs with hs | hs
      · exact absurd hs hne
      · refine ⟨fun c => absurd ((nI_eq (by omega) (by omega)).mp (show nI b = nI 0 from c)) hne, fun _ v hv w hw => ?_⟩
        rw [hv, hw, hs.1, q_succ]
        exact ih (i + 1) _ (Nat.lt_of_le_of_lt Nat.and_le_left hb) (by omega) (by omega)
  exact ⟨_, key (qpop a) 0 a ha rfl (by omega)⟩
