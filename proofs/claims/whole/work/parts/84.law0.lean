/-! the law: its world, what holds between two of its turns -/
def lB (K : Nat → ClassId) (h : Nat) (hs : Nat → Nat) (as ax : Nat → Nat → Nat) (xs sh : Nat → zS) : List va_W :=
  [wX7 K h (ax 0) hs (xs 0), wX1 K (ax 0 0) (ax 1) (xs 1), wX1 K (ax 0 1) (ax 2) (xs 2), wX1 K (ax 0 2) (ax 3) (xs 3), wX4 K (ax 0 3) (ax 4) (xs 4), wX4 K (ax 0 4) (ax 5) (xs 5), wX3 K (ax 0 7) (ax 6) (xs 6), wX0 K (ax 0 8) (xls (ax 0)) (xs 7), wX6 K (ax 0 9) (ax 8) (xs 8), wX6 K (ax 0 10) (ax 9) (xs 9), wX5 K (ax 0 11) (ax 10) (xs 10), wPl K hs as sh]
def lLs : List Nat := [3, 6, 6, 6, 4, 4, 2, 1, 5, 5, 1, 16]
theorem lB_len {K : Nat → ClassId} {h : Nat} {hs : Nat → Nat} {as ax : Nat → Nat → Nat} {xs sh : Nat → zS} : (lB K h hs as ax xs sh).map List.length = lLs := rfl
theorem lB_WX {K : Nat → ClassId} {h : Nat} {hs : Nat → Nat} {as ax : Nat → Nat → Nat} {xs sh : Nat → zS} : WX K h hs as ax xs sh = bfl (lB K h hs as ax xs sh) := by
  unfold WX lB
  simp only [bfl, List.append_nil]
def lW (K : Nat → ClassId) (h : Nat) (hs : Nat → Nat) (as ax : Nat → Nat → Nat) (g : Nat) (ag la : Nat → Nat) (xs sh : Nat → zS) (m : zS) (n : Nat → Option Nat) (ok ot : wO) : va_W :=
  bfl (lB K h hs as ax xs sh) ++ ((wX8 K g ag n la m ++ ([] : va_W)) ++ (wOpt K ok ++ wOpt K ot))
section LAW0
variable {p : Program} {l : Launch} {e : Env} {s : State} {mi : MethodId} {below : List Frame} {meth : Method} {c : Code} {H : Heap} {locs : List Loc} {cells slots : Nat} {Q : State → Prop}
variable {D : va_G} {K : Nat → ClassId} {h : Nat} {hs : Nat → Nat} {as ax : Nat → Nat → Nat} {g : Nat} {ag la : Nat → Nat} {b L : Nat} {sc : Nat → Int32} {ls : Array Slot} {i : Nat} {pc : Nat} {st : List Value}
variable {xs sh : Nat → zS} {m : zS} {n : Nat → Option Nat} {ok ot : wO}
/-- what the law's frame has all the time -/
def lC (p : Program) (s : State) (mi : MethodId) (meth : Method) (c : Code) (D : va_G) (K : Nat → ClassId) (b L : Nat) (sc : Nat → Int32) : Prop :=
  xC p s mi #[Value.ref b] meth c cL_law RL 4 ret D vwCl (xty K) ∧ va_X b L sc s s.heap ∧ b < s.heap.size ∧ L ≤ 3072
/-- the law's state between two turns -/
def lS (s : State) (D : va_G) (K : Nat → ClassId) (h : Nat) (hs : Nat → Nat) (as ax : Nat → Nat → Nat) (g : Nat) (ag la : Nat → Nat) (H : Heap) (locs : List Loc) (cells slots : Nat) (xs sh : Nat → zS) (m : zS) (n : Nat → Option Nat) (ok ot : wO) (i : Nat) : Prop :=
  va_P D vwCl (lW K h hs as ax g ag la xs sh m n ok ot) H ∧ va_D (fun q : Nat => s.heap.size ≤ q) (lW K h hs as ax g ag la xs sh m n ok ot) ∧ va_S (fun q : Nat => s.heap.size ≤ q) s.heap H locs ∧ qSim xs sh m ok ∧
  (n 26 = ok.map (fun o => o.1) ∧ n 27 = ot.map (fun o => o.1)) ∧ (6 * cells ≤ 6000 + 31 * i ∧ 6 * slots ≤ 60000 + 4831 * i)
theorem l_arg (C : lC p s mi meth c D K b L sc) (hS : va_S (fun q : Nat => s.heap.size ≤ q) s.heap H locs) (hl : lv_has ls 4 [(0, .ref b), (1, .ref h), (2, .ref g), (3, .int (nI i))]) (hi : i + 6 ≤ L) {kz : Int} (k : Nat) (hk : k < 6) (hv : Int32.ofInt kz = nI k)
    (d0 : decode cL_law pc = .ok (.aload_n 0, 1)) (d1 : decode cL_law (pc + 1) = .ok (.iload_n 3, 1)) (d2 : decode cL_law (pc + 1 + 1) = .ok (.iconst kz, 1)) (d3 : decode cL_law (pc + 1 + 1 + 1) = .ok (.iadd, 1)) (d4 : decode cL_law (pc + 1 + 1 + 1 + 1) = .ok (.iaload, 1))
    (kk : W p l e room_1 s mi #[Value.ref b] below meth c H locs cells slots Q (F0 mi (pc + 5) ls (.int (sc (i + k)) :: st))) : W p l e room_1 s mi #[Value.ref b] below meth c H locs cells slots Q (F0 mi pc ls st) := by
  obtain ⟨⟨hx, hb, hr, hml, hown, hts, hlocks, hK, hT⟩, hX, hbl, hL⟩ := C
  have hbA : ¬ (fun q : Nat => s.heap.size ≤ q) b := Nat.not_le.mpr hbl
  refine lv_aload_n hx hb d0 rfl (lv_at hl 0 rfl) ?_
  refine lv_iload_n hx hb d1 rfl (lv_at hl 3 rfl) ?_
  refine lv_iconst (v := nI k) hx hb d2 hv ?_
  refine lv_iadd hx hb d3 ?_
  rw [nI_add]
  refine va_sld hx hb hX hbl hbA hS (q_in (by omega) (by omega)) d4 ?_
  rw [q_clamp (by omega)]
  exact kk
end LAW0
