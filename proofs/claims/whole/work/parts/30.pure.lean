/-! numbers: what the class's int arithmetic does to small naturals -/
theorem q_toInt {n : Nat} (h : n < 2 ^ 31) : (nI n).toInt = (n : Int) := nI_toInt h
theorem q_s31 : ∀ q, q < 32 → ((nI q &&& 31).toBitVec.smod 32).toNat = q := by decide +kernel
theorem q_or (a b : Nat) : nI a ||| nI b = nI (a ||| b) := by
  apply Int32.toBitVec_inj.mp
  show BitVec.ofNat 32 a ||| BitVec.ofNat 32 b = BitVec.ofNat 32 (a ||| b)
  rw [BitVec.ofNat_or]
theorem q_and (a b : Nat) : nI a &&& nI b = nI (a &&& b) := by
  apply Int32.toBitVec_inj.mp
  show BitVec.ofNat 32 a &&& BitVec.ofNat 32 b = BitVec.ofNat 32 (a &&& b)
  rw [BitVec.ofNat_and]
theorem q_shl1 : ∀ q, q < 31 → (1 : Int32) <<< (nI q &&& 31) = nI (2 ^ q) := by decide +kernel
theorem q_shr {a q : Nat} (ha : a < 2 ^ 31) (hq : q < 32) : nI a >>> (nI q &&& 31) = nI (a / 2 ^ q) := pk_shrN ha _ q (q_s31 q hq)
theorem q_and1 (a : Nat) : nI a &&& 1 = nI (a % 2) := by
  rw [show (1 : Int32) = nI 1 from rfl, q_and, Nat.and_one_is_mod]
theorem q_bit {a q : Nat} (ha : a < 2 ^ 31) (hq : q < 32) : (nI a >>> (nI q &&& 31)) &&& 1 = nI (a / 2 ^ q % 2) := by
  rw [q_shr ha hq, q_and1]
theorem q_bit0 {a q : Nat} (ha : a < 2 ^ 31) (hq : q < 32) : (nI a >>> (nI q &&& 31)) &&& 1 = 0 ↔ a.testBit q = false := by
  rw [q_bit ha hq, show (0 : Int32) = nI 0 from rfl, nI_eq (by omega) (by omega), Nat.testBit_eq_decide_div_mod_eq]
  have : a / 2 ^ q % 2 < 2 := Nat.mod_lt _ (by omega)
  constructor
  · intro h; simp [h]
  · intro h
    have h1 := of_decide_eq_false h
    omega
/-- a mask of the places below n that f names -/
def qmask : Nat → (Nat → Bool) → Nat
  | 0, _ => 0
  | n + 1, f => qmask n f ||| (if f n then 2 ^ n else 0)
theorem qmask_lt (n : Nat) (f : Nat → Bool) : qmask n f < 2 ^ n := by
  induction n with
  | zero => exact Nat.one_pos
  | succ n ih =>
    unfold qmask
    refine Nat.or_lt_two_pow (Nat.lt_of_lt_of_le ih (Nat.pow_le_pow_right (by omega) (by omega))) ?_
    split
    · exact Nat.pow_lt_pow_right (by omega) (by omega)
    · exact Nat.two_pow_pos _
theorem qmask_bit (n : Nat) (f : Nat → Bool) (q : Nat) : (qmask n f).testBit q = (decide (q < n) && f q) := by
  induction n with
  | zero => simp [qmask]
  | succ n ih =>
    unfold qmask
    rw [Nat.testBit_or, ih]
    by_cases h : q = n
    · subst h
      cases hf : f q <;> simp [Nat.testBit_two_pow_self]
    · have e : (if f n = true then 2 ^ n else 0).testBit q = false := by
        split
        · exact Nat.testBit_two_pow_of_ne (Ne.symm h)
        · exact Nat.zero_testBit q
      rw [e, Bool.or_false]
      congr 1
      exact decide_eq_decide.mpr (by omega)
