/-! a world in blocks -/
def bfl : List va_W → va_W
  | [] => []
  | w :: t => w ++ bfl t
def bget (Bs : List va_W) : List Nat → va_W
  | [] => []
  | j :: J => Bs.getD j [] ++ bget Bs J
def boff (ls : List Nat) (j : Nat) : Nat := (ls.take j).sum
def bpl (ls : List Nat) : List Nat → List Nat
  | [] => []
  | j :: J => List.range' (boff ls j) (ls.getD j 0) ++ bpl ls J
def bset (Bs : List va_W) : List Nat → List va_W → List va_W
  | j :: J, w :: ws => bset (Bs.set j w) J ws
  | _, _ => Bs
theorem bfl_len (Bs : List va_W) : (bfl Bs).length = (Bs.map List.length).sum := by
  induction Bs with
  | nil => rfl
  | cons w t ih => show (w ++ bfl t).length = _; rw [List.length_append, ih]; rfl
theorem bfl_app (A B : List va_W) : bfl (A ++ B) = bfl A ++ bfl B := by
  induction A with
  | nil => rfl
  | cons w t ih => show w ++ bfl (t ++ B) = (w ++ bfl t) ++ bfl B; rw [ih, List.append_assoc]
theorem bfl_at {Bs : List va_W} {j : Nat} (h : j < Bs.length) : bfl Bs = bfl (Bs.take j) ++ (Bs.getD j [] ++ bfl (Bs.drop (j + 1))) := by
  have e : Bs = Bs.take j ++ (Bs.getD j [] :: Bs.drop (j + 1)) := by
    rw [List.getD_eq_getElem?_getD, List.getElem?_eq_getElem h]
    show Bs = Bs.take j ++ (Bs[j] :: Bs.drop (j + 1))
    rw [← List.drop_eq_getElem_cons h, List.take_append_drop]
  have e2 := congrArg bfl e
  rw [bfl_app] at e2
  exact e2
theorem boff_len {Bs : List va_W} {ls : List Nat} (hl : Bs.map List.length = ls) (j : Nat) : (bfl (Bs.take j)).length = boff ls j := by
  rw [bfl_len, ← hl, boff, List.map_take]
theorem blen_at {Bs : List va_W} {ls : List Nat} (hl : Bs.map List.length = ls) {j : Nat} (h : j < Bs.length) : (Bs.getD j []).length = ls.getD j 0 := by
  subst hl
  rw [List.getD_eq_getElem?_getD, List.getD_eq_getElem?_getD, List.getElem?_map, List.getElem?_eq_getElem h]; rfl
theorem b_get {Bs : List va_W} {R : va_W} {ls : List Nat} (hl : Bs.map List.length = ls) : ∀ J : List Nat, (∀ j ∈ J, j < Bs.length) → (bpl ls J).map (fun i => (bfl Bs ++ R)[i]?) = (bget Bs J).map some := by
  intro J
  induction J with
  | nil => intro _; rfl
  | cons j J ih =>
    intro h
    have hj := h j List.mem_cons_self
    have := xget_mid (Bs.getD j []) (bfl (Bs.take j)) (bfl (Bs.drop (j + 1)) ++ R)
    rw [boff_len hl, blen_at hl hj] at this
    show (List.range' (boff ls j) (ls.getD j 0) ++ bpl ls J).map _ = (Bs.getD j [] ++ bget Bs J).map some
    rw [List.map_append, List.map_append, ih (fun x hx => h x (List.mem_cons_of_mem _ hx)), ← this]
    rw [bfl_at hj]
    simp only [List.append_assoc]
theorem bset_len {Bs : List va_W} {ls : List Nat} (hl : Bs.map List.length = ls) {j : Nat} (h : j < Bs.length) {w : va_W} (hw : w.length = ls.getD j 0) : (Bs.set j w).map List.length = ls := by
  rw [List.map_set, hw, hl]
  refine List.ext_getElem? (fun i => ?_)
  rw [List.getElem?_set]
  split
  · next e =>
    subst e
    have hj : j < ls.length := by rw [← hl, List.length_map]; exact h
    rw [List.getD_eq_getElem?_getD, List.getElem?_eq_getElem hj, if_pos hj]; rfl
  · rfl
/-- new blocks as long as the old ones -/
def bok (ls : List Nat) : List Nat → List va_W → Prop
  | j :: J, w :: ws => w.length = ls.getD j 0 ∧ bok ls J ws
  | [], [] => True
  | _, _ => False
theorem b_set {R : va_W} {ls : List Nat} : ∀ (J : List Nat) (ws : List va_W) (Bs : List va_W), Bs.map List.length = ls → (∀ j ∈ J, j < Bs.length) → bok ls J ws → xset (bfl Bs ++ R) (bpl ls J) (bfl ws) = bfl (bset Bs J ws) ++ R := by
  intro J
  induction J with
  | nil =>
    intro ws Bs hl hj ho
    cases ws with
    | nil =>
      show xset (bfl Bs ++ R) [] [] = bfl Bs ++ R
      generalize bfl Bs ++ R = q
      cases q <;> rfl
    | cons w t => exact ho.elim
  | cons j J ih =>
    intro ws Bs hl hJ ho
    cases ws with
    | nil => exact ho.elim
    | cons w t =>
      have hj := hJ j List.mem_cons_self
      have hw : w.length = ls.getD j 0 := ho.1
      show xset (bfl Bs ++ R) (List.range' (boff ls j) (ls.getD j 0) ++ bpl ls J) (w ++ bfl t) = bfl (bset (Bs.set j w) J t) ++ R
      rw [xset_app _ _ _ _ _ (by rw [List.length_range', hw])]
      have e1 := xset_mid (Bs.getD j []) w (bfl (Bs.take j)) (bfl (Bs.drop (j + 1)) ++ R) (by rw [hw, blen_at hl hj])
      rw [boff_len hl, blen_at hl hj] at e1
      have e2 : bfl Bs ++ R = bfl (Bs.take j) ++ (Bs.getD j [] ++ (bfl (Bs.drop (j + 1)) ++ R)) := by
        rw [bfl_at hj]; simp only [List.append_assoc]
      have e3 : bfl (Bs.set j w) ++ R = bfl (Bs.take j) ++ (w ++ (bfl (Bs.drop (j + 1)) ++ R)) := by
        have h2 : j < (Bs.set j w).length := by rw [List.length_set]; exact hj
        rw [bfl_at h2]
        have t1 : (Bs.set j w).take j = Bs.take j := by rw [List.take_set_of_le (Nat.le_refl _)]
        have t2 : (Bs.set j w).drop (j + 1) = Bs.drop (j + 1) := by rw [List.drop_set_of_lt (Nat.lt_succ_self _)]
        have t3 : (Bs.set j w).getD j [] = w := by rw [List.getD_eq_getElem?_getD, List.getElem?_set_self hj]; rfl
        rw [t1, t2, t3]
        simp only [List.append_assoc]
      rw [e2, e1, ← e3]
      exact ih t (Bs.set j w) (bset_len hl hj hw) (fun x hx => by rw [List.length_set]; exact hJ x (List.mem_cons_of_mem _ hx)) ho.2
