/-! there are 48 ways at most -/
def qsum (g : Nat → Nat) : Nat → Nat
  | 0 => 0
  | n + 1 => qsum g n + g n
theorem qsum_le {g h : Nat → Nat} {n : Nat} (H : ∀ i, i < n → g i ≤ h i) : qsum g n ≤ qsum h n := by
  induction n with
  | zero => exact Nat.le_refl 0
  | succ n ih => exact Nat.add_le_add (ih (fun i hi => H i (by omega))) (H n (by omega))
theorem qsum_eq {g h : Nat → Nat} {n : Nat} (H : ∀ i, i < n → g i = h i) : qsum g n = qsum h n :=
  Nat.le_antisymm (qsum_le (fun i hi => Nat.le_of_eq (H i hi))) (qsum_le (fun i hi => Nat.le_of_eq (H i hi).symm))
theorem qsum_rm {g : Nat → Nat} {n a : Nat} (ha : a < n) : qsum (fun e => if e = a then 0 else g e) n + g a = qsum g n := by
  induction n with
  | zero => omega
  | succ n ih =>
    show qsum _ n + (if n = a then 0 else g n) + g a = qsum g n + g n
    by_cases e : n = a
    · subst e
      rw [if_pos rfl]
      have : qsum (fun e => if e = n then 0 else g e) n = qsum g n := qsum_eq (fun i hi => if_neg (by omega))
      rw [this]; omega
    · rw [if_neg e]
      have := ih (by omega)
      omega
theorem qsum_inj {D : Nat → Nat} {m : Nat} : ∀ (n : Nat) (g : Nat → Nat), (∀ q, q < n → D q < m) → (∀ p q, p < n → q < n → D p = D q → p = q) → qsum (fun q => g (D q)) n ≤ qsum g m := by
  intro n
  induction n with
  | zero => intro g _ _; exact Nat.zero_le _
  | succ n ih =>
    intro g hd hi
    have h1 := ih (fun e => if e = D n then 0 else g e) (fun q hq => hd q (by omega)) (fun p q hp hq => hi p q (by omega) (by omega))
    have h2 : qsum (fun q => (fun e => if e = D n then 0 else g e) (D q)) n = qsum (fun q => g (D q)) n := qsum_eq (fun q hq => if_neg (fun e => by have := hi q n (by omega) (by omega) e; omega))
    have h3 := qsum_rm (g := g) (hd n (by omega))
    rw [h2] at h1
    show qsum (fun q => g (D q)) n + g (D n) ≤ _
    omega
/-- some desk is free, as long as there are fewer pupils than desks -/
theorem q_free {m : Nat} : ∀ (n : Nat) (D : Nat → Nat), n < m → (∀ q, q < n → D q < m) → ∃ e, e < m ∧ ∀ q, q < n → D q ≠ e := by
  intro n D hn hd
  have cnt : ∀ k, k ≤ n → qsum (fun e => qsum (fun q => if D q = e then 1 else 0) k) m ≤ k := by
    intro k
    induction k with
    | zero =>
      intro _
      have : ∀ m, qsum (fun e => qsum (fun q => if D q = e then 1 else 0) 0) m = 0 := by
        intro m
        induction m with
        | zero => rfl
        | succ m ih => show qsum _ m + 0 = 0; rw [ih]
      rw [this]; exact Nat.le_refl 0
    | succ k ih =>
      intro hk
      have h1 := ih (by omega)
      have add : ∀ (g h : Nat → Nat) (m : Nat), qsum (fun e => g e + h e) m = qsum g m + qsum h m := by
        intro g h m
        induction m with
        | zero => rfl
        | succ m ih => show qsum _ m + (g m + h m) = (qsum g m + g m) + (qsum h m + h m); rw [ih]; omega
      have one : ∀ (a m : Nat), qsum (fun e => if a = e then 1 else 0) m ≤ 1 ∧ (m ≤ a → qsum (fun e => if a = e then 1 else 0) m = 0) := by
        intro a m
        induction m with
        | zero => exact ⟨Nat.zero_le _, fun _ => rfl⟩
        | succ m ih =>
          have e : qsum (fun e => if a = e then 1 else 0) (m + 1) = qsum (fun e => if a = e then 1 else 0) m + (if a = m then 1 else 0) := rfl
          rw [e]
          by_cases c : a = m
          · rw [if_pos c, ih.2 (by omega)]; omega
          · rw [if_neg c]; exact ⟨ih.1, fun h => ih.2 (by omega)⟩
      have e : (fun e => qsum (fun q => if D q = e then 1 else 0) (k + 1)) = (fun e => qsum (fun q => if D q = e then 1 else 0) k + (if D k = e then 1 else 0)) := rfl
      rw [e, add]
      have := (one (D k) m).1
      omega
  by_cases c : ∃ e, e < m ∧ qsum (fun q => if D q = e then 1 else 0) n = 0
  · obtain ⟨e, he, h0⟩ := c
    refine ⟨e, he, fun q hq hqe => ?_⟩
    have : ∀ k, k ≤ n → q < k → 1 ≤ qsum (fun q => if D q = e then 1 else 0) k := by
      intro k
      induction k with
      | zero => intro _ h; omega
      | succ k ih =>
        intro hk hqk
        show 1 ≤ qsum _ k + (if D k = e then 1 else 0)
        by_cases z : q = k
        · rw [← z, if_pos hqe]; omega
        · have := ih (by omega) (by omega); omega
    have := this n (Nat.le_refl n) hq
    omega
  · have all : ∀ e, e < m → 1 ≤ qsum (fun q => if D q = e then 1 else 0) n := fun e he => by
      have : ¬ qsum (fun q => if D q = e then 1 else 0) n = 0 := fun z => c ⟨e, he, z⟩
      omega
    have low : ∀ (g : Nat → Nat) (m : Nat), (∀ e, e < m → 1 ≤ g e) → m ≤ qsum g m := by
      intro g m
      induction m with
      | zero => intro _; exact Nat.zero_le _
      | succ m ih => intro h; have := ih (fun e he => h e (by omega)); have := h m (by omega); show m + 1 ≤ qsum g m + g m; omega
    have := low _ m all
    have := cnt n (Nat.le_refl n)
    omega
/-- how many ways there are on the desks that are left -/
def qgc : Nat → Nat → Nat → Nat → Nat
  | 0, _, _, _ => 0
  | f + 1, av, p, t => cond (Nat.beq p t) 1
    (cond (Nat.ble 4 p && Nat.testBit av (p - 4)) (qgc f (av ^^^ 2 ^ (p - 4)) (p - 4) t) 0 +
     cond (Nat.ble 1 (p % 4) && Nat.testBit av (p - 1)) (qgc f (av ^^^ 2 ^ (p - 1)) (p - 1) t) 0 +
     cond (Nat.ble (p % 4) 2 && Nat.testBit av (p + 1)) (qgc f (av ^^^ 2 ^ (p + 1)) (p + 1) t) 0 +
     cond (Nat.ble p 11 && Nat.testBit av (p + 4)) (qgc f (av ^^^ 2 ^ (p + 4)) (p + 4) t) 0)
def qin (a b : Nat) : Prop := ∀ i, a.testBit i = true → b.testBit i = true
theorem q_xor_bit {a e i : Nat} (h : a.testBit e = true) : (a ^^^ 2 ^ e).testBit i = (a.testBit i && !decide (i = e)) := by
  rw [Nat.testBit_xor, Nat.testBit_two_pow]
  by_cases c : e = i
  · subst c; rw [h]; simp
  · have c' : ¬ i = e := fun z => c z.symm
    simp [c, c']
theorem qgc_mono : ∀ (f a b p t : Nat), qin a b → qgc f a p t ≤ qgc f b p t := by
  intro f
  induction f with
  | zero => intro a b p t _; exact Nat.le_refl 0
  | succ f ih =>
    intro a b p t h
    have step : ∀ (g : Bool) (e : Nat), cond (g && Nat.testBit a e) (qgc f (a ^^^ 2 ^ e) e t) 0 ≤ cond (g && Nat.testBit b e) (qgc f (b ^^^ 2 ^ e) e t) 0 := by
      intro g e
      cases g
      · exact Nat.le_refl 0
      · cases c : a.testBit e
        · exact Nat.zero_le _
        · have c' := h e c
          rw [c']
          refine ih _ _ e t (fun i hi => ?_)
          rw [q_xor_bit c] at hi
          rw [q_xor_bit c']
          rw [Bool.and_eq_true] at hi ⊢
          exact ⟨h i hi.1, hi.2⟩
    unfold qgc
    cases Nat.beq p t
    · exact Nat.add_le_add (Nat.add_le_add (Nat.add_le_add (step _ _) (step _ _)) (step _ _)) (step _ _)
    · exact Nat.le_refl 1
/-- the four desks beside one -/
theorem q_four : ∀ p, p < 16 → ∀ g : Nat → Nat, (∀ e, qbs p e = false → g e = 0) → qsum g 16 ≤ (if 4 ≤ p then g (p - 4) else 0) + (if 1 ≤ p % 4 then g (p - 1) else 0) + (if p % 4 ≤ 2 then g (p + 1) else 0) + (if p ≤ 11 then g (p + 4) else 0) := by
  intro p hp g h
  have e16 : qsum g 16 = 0 + g 0 + g 1 + g 2 + g 3 + g 4 + g 5 + g 6 + g 7 + g 8 + g 9 + g 10 + g 11 + g 12 + g 13 + g 14 + g 15 := rfl
  have c16 : p = 0 ∨ p = 1 ∨ p = 2 ∨ p = 3 ∨ p = 4 ∨ p = 5 ∨ p = 6 ∨ p = 7 ∨ p = 8 ∨ p = 9 ∨ p = 10 ∨ p = 11 ∨ p = 12 ∨ p = 13 ∨ p = 14 ∨ p = 15 := by omega
  rw [e16]
  rcases c16 with z | z | z | z | z | z | z | z | z | z | z | z | z | z | z | z <;> subst z
  · have hz := And.intro (h 0 (by decide)) (And.intro (h 2 (by decide)) (And.intro (h 3 (by decide)) (And.intro (h 5 (by decide)) (And.intro (h 6 (by decide)) (And.intro (h 7 (by decide)) (And.intro (h 8 (by decide)) (And.intro (h 9 (by decide)) (And.intro (h 10 (by decide)) (And.intro (h 11 (by decide)) (And.intro (h 12 (by decide)) (And.intro (h 13 (by decide)) (And.intro (h 14 (by decide)) (h 15 (by decide))))))))))))))
    simp only [if_neg (show ¬ 4 ≤ 0 by decide), if_neg (show ¬ 1 ≤ 0 % 4 by decide), if_pos (show 0 % 4 ≤ 2 by decide), if_pos (show 0 ≤ 11 by decide)]
    show 0 + g 0 + g 1 + g 2 + g 3 + g 4 + g 5 + g 6 + g 7 + g 8 + g 9 + g 10 + g 11 + g 12 + g 13 + g 14 + g 15 ≤ 0 + 0 + g 1 + g 4
    omega
  · have hz := And.intro (h 1 (by decide)) (And.intro (h 3 (by decide)) (And.intro (h 4 (by decide)) (And.intro (h 6 (by decide)) (And.intro (h 7 (by decide)) (And.intro (h 8 (by decide)) (And.intro (h 9 (by decide)) (And.intro (h 10 (by decide)) (And.intro (h 11 (by decide)) (And.intro (h 12 (by decide)) (And.intro (h 13 (by decide)) (And.intro (h 14 (by decide)) (h 15 (by decide)))))))))))))
    simp only [if_neg (show ¬ 4 ≤ 1 by decide), if_pos (show 1 ≤ 1 % 4 by decide), if_pos (show 1 % 4 ≤ 2 by decide), if_pos (show 1 ≤ 11 by decide)]
    show 0 + g 0 + g 1 + g 2 + g 3 + g 4 + g 5 + g 6 + g 7 + g 8 + g 9 + g 10 + g 11 + g 12 + g 13 + g 14 + g 15 ≤ 0 + g 0 + g 2 + g 5
    omega
  · have hz := And.intro (h 0 (by decide)) (And.intro (h 2 (by decide)) (And.intro (h 4 (by decide)) (And.intro (h 5 (by decide)) (And.intro (h 7 (by decide)) (And.intro (h 8 (by decide)) (And.intro (h 9 (by decide)) (And.intro (h 10 (by decide)) (And.intro (h 11 (by decide)) (And.intro (h 12 (by decide)) (And.intro (h 13 (by decide)) (And.intro (h 14 (by decide)) (h 15 (by decide)))))))))))))
    simp only [if_neg (show ¬ 4 ≤ 2 by decide), if_pos (show 1 ≤ 2 % 4 by decide), if_pos (show 2 % 4 ≤ 2 by decide), if_pos (show 2 ≤ 11 by decide)]
    show 0 + g 0 + g 1 + g 2 + g 3 + g 4 + g 5 + g 6 + g 7 + g 8 + g 9 + g 10 + g 11 + g 12 + g 13 + g 14 + g 15 ≤ 0 + g 1 + g 3 + g 6
    omega
  · have hz := And.intro (h 0 (by decide)) (And.intro (h 1 (by decide)) (And.intro (h 3 (by decide)) (And.intro (h 4 (by decide)) (And.intro (h 5 (by decide)) (And.intro (h 6 (by decide)) (And.intro (h 8 (by decide)) (And.intro (h 9 (by decide)) (And.intro (h 10 (by decide)) (And.intro (h 11 (by decide)) (And.intro (h 12 (by decide)) (And.intro (h 13 (by decide)) (And.intro (h 14 (by decide)) (h 15 (by decide))))))))))))))
    simp only [if_neg (show ¬ 4 ≤ 3 by decide), if_pos (show 1 ≤ 3 % 4 by decide), if_neg (show ¬ 3 % 4 ≤ 2 by decide), if_pos (show 3 ≤ 11 by decide)]
    show 0 + g 0 + g 1 + g 2 + g 3 + g 4 + g 5 + g 6 + g 7 + g 8 + g 9 + g 10 + g 11 + g 12 + g 13 + g 14 + g 15 ≤ 0 + g 2 + 0 + g 7
    omega
  · have hz := And.intro (h 1 (by decide)) (And.intro (h 2 (by decide)) (And.intro (h 3 (by decide)) (And.intro (h 4 (by decide)) (And.intro (h 6 (by decide)) (And.intro (h 7 (by decide)) (And.intro (h 9 (by decide)) (And.intro (h 10 (by decide)) (And.intro (h 11 (by decide)) (And.intro (h 12 (by decide)) (And.intro (h 13 (by decide)) (And.intro (h 14 (by decide)) (h 15 (by decide)))))))))))))
    simp only [if_pos (show 4 ≤ 4 by decide), if_neg (show ¬ 1 ≤ 4 % 4 by decide), if_pos (show 4 % 4 ≤ 2 by decide), if_pos (show 4 ≤ 11 by decide)]
    show 0 + g 0 + g 1 + g 2 + g 3 + g 4 + g 5 + g 6 + g 7 + g 8 + g 9 + g 10 + g 11 + g 12 + g 13 + g 14 + g 15 ≤ g 0 + 0 + g 5 + g 8
    omega
  · have hz := And.intro (h 0 (by decide)) (And.intro (h 2 (by decide)) (And.intro (h 3 (by decide)) (And.intro (h 5 (by decide)) (And.intro (h 7 (by decide)) (And.intro (h 8 (by decide)) (And.intro (h 10 (by decide)) (And.intro (h 11 (by decide)) (And.intro (h 12 (by decide)) (And.intro (h 13 (by decide)) (And.intro (h 14 (by decide)) (h 15 (by decide))))))))))))
    simp only [if_pos (show 4 ≤ 5 by decide), if_pos (show 1 ≤ 5 % 4 by decide), if_pos (show 5 % 4 ≤ 2 by decide), if_pos (show 5 ≤ 11 by decide)]
    show 0 + g 0 + g 1 + g 2 + g 3 + g 4 + g 5 + g 6 + g 7 + g 8 + g 9 + g 10 + g 11 + g 12 + g 13 + g 14 + g 15 ≤ g 1 + g 4 + g 6 + g 9
    omega
  · have hz := And.intro (h 0 (by decide)) (And.intro (h 1 (by decide)) (And.intro (h 3 (by decide)) (And.intro (h 4 (by decide)) (And.intro (h 6 (by decide)) (And.intro (h 8 (by decide)) (And.intro (h 9 (by decide)) (And.intro (h 11 (by decide)) (And.intro (h 12 (by decide)) (And.intro (h 13 (by decide)) (And.intro (h 14 (by decide)) (h 15 (by decide))))))))))))
    simp only [if_pos (show 4 ≤ 6 by decide), if_pos (show 1 ≤ 6 % 4 by decide), if_pos (show 6 % 4 ≤ 2 by decide), if_pos (show 6 ≤ 11 by decide)]
    show 0 + g 0 + g 1 + g 2 + g 3 + g 4 + g 5 + g 6 + g 7 + g 8 + g 9 + g 10 + g 11 + g 12 + g 13 + g 14 + g 15 ≤ g 2 + g 5 + g 7 + g 10
    omega
  · have hz := And.intro (h 0 (by decide)) (And.intro (h 1 (by decide)) (And.intro (h 2 (by decide)) (And.intro (h 4 (by decide)) (And.intro (h 5 (by decide)) (And.intro (h 7 (by decide)) (And.intro (h 8 (by decide)) (And.intro (h 9 (by decide)) (And.intro (h 10 (by decide)) (And.intro (h 12 (by decide)) (And.intro (h 13 (by decide)) (And.intro (h 14 (by decide)) (h 15 (by decide)))))))))))))
    simp only [if_pos (show 4 ≤ 7 by decide), if_pos (show 1 ≤ 7 % 4 by decide), if_neg (show ¬ 7 % 4 ≤ 2 by decide), if_pos (show 7 ≤ 11 by decide)]
    show 0 + g 0 + g 1 + g 2 + g 3 + g 4 + g 5 + g 6 + g 7 + g 8 + g 9 + g 10 + g 11 + g 12 + g 13 + g 14 + g 15 ≤ g 3 + g 6 + 0 + g 11
    omega
  · have hz := And.intro (h 0 (by decide)) (And.intro (h 1 (by decide)) (And.intro (h 2 (by decide)) (And.intro (h 3 (by decide)) (And.intro (h 5 (by decide)) (And.intro (h 6 (by decide)) (And.intro (h 7 (by decide)) (And.intro (h 8 (by decide)) (And.intro (h 10 (by decide)) (And.intro (h 11 (by decide)) (And.intro (h 13 (by decide)) (And.intro (h 14 (by decide)) (h 15 (by decide)))))))))))))
    simp only [if_pos (show 4 ≤ 8 by decide), if_neg (show ¬ 1 ≤ 8 % 4 by decide), if_pos (show 8 % 4 ≤ 2 by decide), if_pos (show 8 ≤ 11 by decide)]
    show 0 + g 0 + g 1 + g 2 + g 3 + g 4 + g 5 + g 6 + g 7 + g 8 + g 9 + g 10 + g 11 + g 12 + g 13 + g 14 + g 15 ≤ g 4 + 0 + g 9 + g 12
    omega
  · have hz := And.intro (h 0 (by decide)) (And.intro (h 1 (by decide)) (And.intro (h 2 (by decide)) (And.intro (h 3 (by decide)) (And.intro (h 4 (by decide)) (And.intro (h 6 (by decide)) (And.intro (h 7 (by decide)) (And.intro (h 9 (by decide)) (And.intro (h 11 (by decide)) (And.intro (h 12 (by decide)) (And.intro (h 14 (by decide)) (h 15 (by decide))))))))))))
    simp only [if_pos (show 4 ≤ 9 by decide), if_pos (show 1 ≤ 9 % 4 by decide), if_pos (show 9 % 4 ≤ 2 by decide), if_pos (show 9 ≤ 11 by decide)]
    show 0 + g 0 + g 1 + g 2 + g 3 + g 4 + g 5 + g 6 + g 7 + g 8 + g 9 + g 10 + g 11 + g 12 + g 13 + g 14 + g 15 ≤ g 5 + g 8 + g 10 + g 13
    omega
  · have hz := And.intro (h 0 (by decide)) (And.intro (h 1 (by decide)) (And.intro (h 2 (by decide)) (And.intro (h 3 (by decide)) (And.intro (h 4 (by decide)) (And.intro (h 5 (by decide)) (And.intro (h 7 (by decide)) (And.intro (h 8 (by decide)) (And.intro (h 10 (by decide)) (And.intro (h 12 (by decide)) (And.intro (h 13 (by decide)) (h 15 (by decide))))))))))))
    simp only [if_pos (show 4 ≤ 10 by decide), if_pos (show 1 ≤ 10 % 4 by decide), if_pos (show 10 % 4 ≤ 2 by decide), if_pos (show 10 ≤ 11 by decide)]
    show 0 + g 0 + g 1 + g 2 + g 3 + g 4 + g 5 + g 6 + g 7 + g 8 + g 9 + g 10 + g 11 + g 12 + g 13 + g 14 + g 15 ≤ g 6 + g 9 + g 11 + g 14
    omega
  · have hz := And.intro (h 0 (by decide)) (And.intro (h 1 (by decide)) (And.intro (h 2 (by decide)) (And.intro (h 3 (by decide)) (And.intro (h 4 (by decide)) (And.intro (h 5 (by decide)) (And.intro (h 6 (by decide)) (And.intro (h 8 (by decide)) (And.intro (h 9 (by decide)) (And.intro (h 11 (by decide)) (And.intro (h 12 (by decide)) (And.intro (h 13 (by decide)) (h 14 (by decide)))))))))))))
    simp only [if_pos (show 4 ≤ 11 by decide), if_pos (show 1 ≤ 11 % 4 by decide), if_neg (show ¬ 11 % 4 ≤ 2 by decide), if_pos (show 11 ≤ 11 by decide)]
    show 0 + g 0 + g 1 + g 2 + g 3 + g 4 + g 5 + g 6 + g 7 + g 8 + g 9 + g 10 + g 11 + g 12 + g 13 + g 14 + g 15 ≤ g 7 + g 10 + 0 + g 15
    omega
  · have hz := And.intro (h 0 (by decide)) (And.intro (h 1 (by decide)) (And.intro (h 2 (by decide)) (And.intro (h 3 (by decide)) (And.intro (h 4 (by decide)) (And.intro (h 5 (by decide)) (And.intro (h 6 (by decide)) (And.intro (h 7 (by decide)) (And.intro (h 9 (by decide)) (And.intro (h 10 (by decide)) (And.intro (h 11 (by decide)) (And.intro (h 12 (by decide)) (And.intro (h 14 (by decide)) (h 15 (by decide))))))))))))))
    simp only [if_pos (show 4 ≤ 12 by decide), if_neg (show ¬ 1 ≤ 12 % 4 by decide), if_pos (show 12 % 4 ≤ 2 by decide), if_neg (show ¬ 12 ≤ 11 by decide)]
    show 0 + g 0 + g 1 + g 2 + g 3 + g 4 + g 5 + g 6 + g 7 + g 8 + g 9 + g 10 + g 11 + g 12 + g 13 + g 14 + g 15 ≤ g 8 + 0 + g 13 + 0
    omega
  · have hz := And.intro (h 0 (by decide)) (And.intro (h 1 (by decide)) (And.intro (h 2 (by decide)) (And.intro (h 3 (by decide)) (And.intro (h 4 (by decide)) (And.intro (h 5 (by decide)) (And.intro (h 6 (by decide)) (And.intro (h 7 (by decide)) (And.intro (h 8 (by decide)) (And.intro (h 10 (by decide)) (And.intro (h 11 (by decide)) (And.intro (h 13 (by decide)) (h 15 (by decide)))))))))))))
    simp only [if_pos (show 4 ≤ 13 by decide), if_pos (show 1 ≤ 13 % 4 by decide), if_pos (show 13 % 4 ≤ 2 by decide), if_neg (show ¬ 13 ≤ 11 by decide)]
    show 0 + g 0 + g 1 + g 2 + g 3 + g 4 + g 5 + g 6 + g 7 + g 8 + g 9 + g 10 + g 11 + g 12 + g 13 + g 14 + g 15 ≤ g 9 + g 12 + g 14 + 0
    omega
  · have hz := And.intro (h 0 (by decide)) (And.intro (h 1 (by decide)) (And.intro (h 2 (by decide)) (And.intro (h 3 (by decide)) (And.intro (h 4 (by decide)) (And.intro (h 5 (by decide)) (And.intro (h 6 (by decide)) (And.intro (h 7 (by decide)) (And.intro (h 8 (by decide)) (And.intro (h 9 (by decide)) (And.intro (h 11 (by decide)) (And.intro (h 12 (by decide)) (h 14 (by decide)))))))))))))
    simp only [if_pos (show 4 ≤ 14 by decide), if_pos (show 1 ≤ 14 % 4 by decide), if_pos (show 14 % 4 ≤ 2 by decide), if_neg (show ¬ 14 ≤ 11 by decide)]
    show 0 + g 0 + g 1 + g 2 + g 3 + g 4 + g 5 + g 6 + g 7 + g 8 + g 9 + g 10 + g 11 + g 12 + g 13 + g 14 + g 15 ≤ g 10 + g 13 + g 15 + 0
    omega
  · have hz := And.intro (h 0 (by decide)) (And.intro (h 1 (by decide)) (And.intro (h 2 (by decide)) (And.intro (h 3 (by decide)) (And.intro (h 4 (by decide)) (And.intro (h 5 (by decide)) (And.intro (h 6 (by decide)) (And.intro (h 7 (by decide)) (And.intro (h 8 (by decide)) (And.intro (h 9 (by decide)) (And.intro (h 10 (by decide)) (And.intro (h 12 (by decide)) (And.intro (h 13 (by decide)) (h 15 (by decide))))))))))))))
    simp only [if_pos (show 4 ≤ 15 by decide), if_pos (show 1 ≤ 15 % 4 by decide), if_neg (show ¬ 15 % 4 ≤ 2 by decide), if_neg (show ¬ 15 ≤ 11 by decide)]
    show 0 + g 0 + g 1 + g 2 + g 3 + g 4 + g 5 + g 6 + g 7 + g 8 + g 9 + g 10 + g 11 + g 12 + g 13 + g 14 + g 15 ≤ g 11 + g 14 + 0 + 0
    omega
section QMANY
variable {ρ : (Nat → Nat) × (Nat → Nat → Nat)}
theorem qfl_sum (g : Nat → List (List Nat)) (n : Nat) : (qfl g n).length = qsum (fun q => (g q).length) n := by
  induction n with
  | zero => rfl
  | succ n ih => show (qfl g n ++ g n).length = _; rw [List.length_append, ih]; rfl
theorem qx_count (W : qW ρ) {to : Nat} (hto : to < ρ.1 1) : ∀ (d p : Nat) (π : List Nat) (av : Nat), (p :: π).length ≤ 9 → (p :: π).Nodup → (∀ q ∈ p :: π, q < ρ.1 1) → (∀ q, q < ρ.1 1 → q ∉ p :: π → av.testBit (ρ.2 6 q) = true) → (qx ρ to d (p :: π)).length ≤ qgc (10 - (p :: π).length) av (ρ.2 6 p) (ρ.2 6 to) := by
  have hd : ∀ q, q < ρ.1 1 → ρ.2 6 q < 16 := fun q hq => by have := (W.2.1 q hq).2.1; have := W.1.2.1; omega
  have inj := W.2.2.1
  intro d
  induction d with
  | zero => intro p π av _ _ _ _; exact Nat.zero_le _
  | succ d ih =>
    intro p π av hl hn hr ha
    have hp := hr p List.mem_cons_self
    have ef : 10 - (p :: π).length = (9 - (p :: π).length) + 1 := by omega
    rw [qx_succ, ef]
    unfold qgc
    by_cases e : p = to
    · subst e
      rw [if_pos rfl, Nat.beq_refl]; exact Nat.le_refl 1
    · rw [if_neg e]
      by_cases g9 : 9 ≤ (p :: π).length
      · rw [if_pos g9]; exact Nat.zero_le _
      · rw [if_neg g9]
        have hne : Nat.beq (ρ.2 6 p) (ρ.2 6 to) = false := by
          cases c : Nat.beq (ρ.2 6 p) (ρ.2 6 to) with
          | false => rfl
          | true => exact absurd (inj p to hp hto (Nat.eq_of_beq_eq_true c)) e
        rw [hne]
        show _ ≤ cond (Nat.ble 4 (ρ.2 6 p) && _) _ 0 + _ + _ + _
        rw [qfl_sum]
        -- a desk's share
        let g : Nat → Nat := fun e => if qbs (ρ.2 6 p) e = true ∧ av.testBit e = true then qgc (9 - (p :: π).length) (av ^^^ 2 ^ e) e (ρ.2 6 to) else 0
        have hg : ∀ e, g e = if qbs (ρ.2 6 p) e = true ∧ av.testBit e = true then qgc (9 - (p :: π).length) (av ^^^ 2 ^ e) e (ρ.2 6 to) else 0 := fun _ => rfl
        have h1 : qsum (fun q => (if (qnb ρ p q && !decide (q ∈ p :: π)) = true then qx ρ to d (q :: p :: π) else []).length) (ρ.1 1) ≤ qsum (fun q => g (ρ.2 6 q)) (ρ.1 1) := by
          refine qsum_le (fun q hq => ?_)
          by_cases c : (qnb ρ p q && !decide (q ∈ p :: π)) = true
          · rw [if_pos c]
            rw [Bool.and_eq_true] at c
            have c2 : q ∉ p :: π := by simpa using c.2
            have c1 : qbs (ρ.2 6 p) (ρ.2 6 q) = true := by
              have := c.1
              unfold qnb at this
              rw [Bool.and_eq_true] at this
              exact this.1
            have hav := ha q hq c2
            rw [hg, if_pos ⟨c1, hav⟩]
            have := ih q (p :: π) (av ^^^ 2 ^ ρ.2 6 q) (by rw [List.length_cons]; omega) (List.nodup_cons.mpr ⟨c2, hn⟩) (fun x hx => by
              rcases List.mem_cons.mp hx with rfl | hx
              · exact hq
              · exact hr x hx) (fun x hx hxn => by
              rw [q_xor_bit hav, ha x hx (fun z => hxn (List.mem_cons_of_mem _ z))]
              have : ¬ ρ.2 6 x = ρ.2 6 q := fun z => hxn (by rw [inj x q hx hq z]; exact List.mem_cons_self)
              rw [decide_eq_false this]; rfl)
            have el : 10 - (q :: p :: π).length = 9 - (p :: π).length := by rw [List.length_cons]; omega
            rw [el] at this
            exact this
          · rw [if_neg c]; exact Nat.zero_le _
        have h2 := qsum_inj (D := ρ.2 6) (m := 16) (ρ.1 1) g hd inj
        have h3 := q_four (ρ.2 6 p) (hd p hp) g (fun e he => by rw [hg, he]; simp)
        have h4 : ∀ (bb : Bool) (P : Prop) [Decidable P] (e : Nat), (bb = decide P) → (if P then g e else 0) ≤ cond (bb && Nat.testBit av e) (qgc (9 - (p :: π).length) (av ^^^ 2 ^ e) e (ρ.2 6 to)) 0 := by
          intro bb P _ e hbb
          by_cases c : P
          · rw [if_pos c, hbb, decide_eq_true c, hg]
            cases c2 : av.testBit e
            · rw [if_neg (by simp)]; exact Nat.zero_le _
            · split
              · exact Nat.le_refl _
              · exact Nat.zero_le _
          · rw [if_neg c]; exact Nat.zero_le _
        have bl : ∀ a b : Nat, Nat.ble a b = decide (a ≤ b) := fun a b => by
          by_cases c : a ≤ b
          · rw [decide_eq_true c]; exact Nat.ble_eq_true_of_le c
          · rw [decide_eq_false c]
            cases z : Nat.ble a b with
            | false => rfl
            | true => exact absurd (Nat.le_of_ble_eq_true z) c
        refine Nat.le_trans h1 (Nat.le_trans h2 (Nat.le_trans h3 ?_))
        exact Nat.add_le_add (Nat.add_le_add (Nat.add_le_add (h4 _ _ _ (bl _ _)) (h4 _ _ _ (bl _ _))) (h4 _ _ _ (bl _ _))) (h4 _ _ _ (bl _ _))
/-- the case, with two desks gone -/
def qck (a b : Nat) : Bool :=
  Nat.beq a b || Nat.ble (qgc 9 (65535 ^^^ 2 ^ a) a b) 48 ||
  (List.range 16).all (fun c => Nat.beq c a || Nat.beq c b || Nat.ble (qgc 9 ((65535 ^^^ 2 ^ a) ^^^ 2 ^ c) a b) 48 ||
    (List.range 16).all (fun e => Nat.beq e a || Nat.beq e b || Nat.beq e c || Nat.ble (qgc 9 (((65535 ^^^ 2 ^ a) ^^^ 2 ^ c) ^^^ 2 ^ e) a b) 48))
theorem qck_all : ∀ a, a < 16 → ∀ b, b < 16 → qck a b = true := by decide +kernel
theorem q_two {a b c e : Nat} (ha : a < 16) (hb : b < 16) (hc : c < 16) (he : e < 16) (hab : a ≠ b) (hca : c ≠ a) (hcb : c ≠ b) (hea : e ≠ a) (heb : e ≠ b) (hec : e ≠ c) : qgc 9 (((65535 ^^^ 2 ^ a) ^^^ 2 ^ c) ^^^ 2 ^ e) a b ≤ 48 := by
  have bit : ∀ i, i < 16 → (65535 : Nat).testBit i = true := by decide
  have b1 : ∀ i, (65535 ^^^ 2 ^ a).testBit i = ((65535 : Nat).testBit i && !decide (i = a)) := fun i => q_xor_bit (bit a ha)
  have c1 : (65535 ^^^ 2 ^ a).testBit c = true := by rw [b1, bit c hc, decide_eq_false hca]; rfl
  have b2 : ∀ i, ((65535 ^^^ 2 ^ a) ^^^ 2 ^ c).testBit i = ((65535 ^^^ 2 ^ a).testBit i && !decide (i = c)) := fun i => q_xor_bit c1
  have c2 : ((65535 ^^^ 2 ^ a) ^^^ 2 ^ c).testBit e = true := by rw [b2, b1, bit e he, decide_eq_false hea, decide_eq_false hec]; rfl
  have b3 : ∀ i, (((65535 ^^^ 2 ^ a) ^^^ 2 ^ c) ^^^ 2 ^ e).testBit i = (((65535 ^^^ 2 ^ a) ^^^ 2 ^ c).testBit i && !decide (i = e)) := fun i => q_xor_bit c2
  have s1 : qin (((65535 ^^^ 2 ^ a) ^^^ 2 ^ c) ^^^ 2 ^ e) ((65535 ^^^ 2 ^ a) ^^^ 2 ^ c) := fun i hi => by rw [b3, Bool.and_eq_true] at hi; exact hi.1
  have s2 : qin ((65535 ^^^ 2 ^ a) ^^^ 2 ^ c) (65535 ^^^ 2 ^ a) := fun i hi => by rw [b2, Bool.and_eq_true] at hi; exact hi.1
  have k := qck_all a ha b hb
  have bf : ∀ x y : Nat, x ≠ y → Nat.beq x y = false := fun x y h => by
    cases c : Nat.beq x y with
    | false => rfl
    | true => exact absurd (Nat.eq_of_beq_eq_true c) h
  unfold qck at k
  rw [bf a b hab, Bool.false_or, Bool.or_eq_true] at k
  rcases k with k | k
  · exact Nat.le_trans (qgc_mono _ _ _ _ _ (fun i hi => s2 i (s1 i hi))) (Nat.le_of_ble_eq_true k)
  · have k := List.all_eq_true.mp k c (List.mem_range.mpr hc)
    rw [bf c a hca, bf c b hcb, Bool.false_or, Bool.false_or, Bool.or_eq_true] at k
    rcases k with k | k
    · exact Nat.le_trans (qgc_mono _ _ _ _ _ s1) (Nat.le_of_ble_eq_true k)
    · have k := List.all_eq_true.mp k e (List.mem_range.mpr he)
      rw [bf e a hea, bf e b heb, bf e c hec, Bool.false_or, Bool.false_or, Bool.false_or] at k
      exact Nat.le_of_ble_eq_true k
theorem q_many (W : qW ρ) {a b : Nat} (ha : a < ρ.1 1) (hb : b < ρ.1 1) (hab : a ≠ b) : (qAll ρ a b).length ≤ 48 := by
  have hd : ∀ q, q < ρ.1 1 → ρ.2 6 q < 16 := fun q hq => by have := (W.2.1 q hq).2.1; have := W.1.2.1; omega
  have hn := W.1.2.2.1
  have inj := W.2.2.1
  obtain ⟨c, hc, hc'⟩ := q_free (m := 16) (ρ.1 1) (ρ.2 6) (by omega) hd
  obtain ⟨e, he, he'⟩ := q_free (m := 16) (ρ.1 1 + 1) (fun q => if q = ρ.1 1 then c else ρ.2 6 q) (by omega) (fun q hq => by
    show (if q = ρ.1 1 then c else ρ.2 6 q) < 16
    split
    · exact hc
    · exact hd q (by omega))
  have hec : e ≠ c := fun z => by
    have := he' (ρ.1 1) (by omega)
    simp at this
    exact this z.symm
  have hef : ∀ q, q < ρ.1 1 → ρ.2 6 q ≠ e := fun q hq => by
    have := he' q (by omega)
    simp only [if_neg (show ¬ q = ρ.1 1 by omega)] at this
    exact this
  have hab' : ρ.2 6 a ≠ ρ.2 6 b := fun z => hab (inj a b ha hb z)
  have bound := q_two (hd a ha) (hd b hb) hc he hab' (fun z => hc' a ha z.symm) (fun z => hc' b hb z.symm) (fun z => hef a ha z.symm) (fun z => hef b hb z.symm) hec
  have bit : ∀ i, i < 16 → (65535 : Nat).testBit i = true := by decide
  have b1 : ∀ i, (65535 ^^^ 2 ^ ρ.2 6 a).testBit i = ((65535 : Nat).testBit i && !decide (i = ρ.2 6 a)) := fun i => q_xor_bit (bit _ (hd a ha))
  have c1 : (65535 ^^^ 2 ^ ρ.2 6 a).testBit c = true := by rw [b1, bit c hc, decide_eq_false (fun z => hc' a ha z.symm)]; rfl
  have b2 : ∀ i, ((65535 ^^^ 2 ^ ρ.2 6 a) ^^^ 2 ^ c).testBit i = ((65535 ^^^ 2 ^ ρ.2 6 a).testBit i && !decide (i = c)) := fun i => q_xor_bit c1
  have c2 : ((65535 ^^^ 2 ^ ρ.2 6 a) ^^^ 2 ^ c).testBit e = true := by rw [b2, b1, bit e he, decide_eq_false (fun z => hef a ha z.symm), decide_eq_false hec]; rfl
  refine Nat.le_trans (qx_count W hb 10 a [] (((65535 ^^^ 2 ^ ρ.2 6 a) ^^^ 2 ^ c) ^^^ 2 ^ e) (show 1 ≤ 9 by decide) (List.nodup_cons.mpr ⟨List.not_mem_nil, List.nodup_nil⟩) (fun q hq => by rw [List.mem_singleton.mp hq]; exact ha) (fun q hq hqn => ?_)) bound
  have hqa : q ≠ a := fun z => hqn (by rw [z]; exact List.mem_cons_self)
  rw [q_xor_bit c2, b2, b1, bit _ (hd q hq), decide_eq_false (fun z => hqa (inj q a hq ha z)), decide_eq_false (hc' q hq), decide_eq_false (hef q hq)]; rfl
end QMANY
