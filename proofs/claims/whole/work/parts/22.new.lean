/-! worlds side by side; a new object and its constructor -/
section XNEW
variable {p : Program} {l : Launch} {e : Env} {R : Room} {s : State} {m : MethodId} {args : Array Value} {below : List Frame} {meth : Method} {c : Code} {H H0 H1 : Heap} {locs : List Loc} {cells slots : Nat} {Q : State → Prop}
variable {cc : ByteArray} {own : String} {nL : Nat} {rt : Option FieldType} {D : va_G} {cl : List vw_C} {tys : List (ClassId × FieldType)} {A A0 : Nat → Prop} {pc : Nat} {ls : Array Slot} {rest st0 As : List Value} {ws wc w1 w2 : va_W}
theorem xix_r {k : Nat} {q : Nat × va_E} (hk : w2[k]? = some q) : (w1 ++ w2)[w1.length + k]? = some q := by
  rw [List.getElem?_append_right (by omega)]
  simpa using hk
theorem xix_l {k : Nat} {q : Nat × va_E} (hk : w1[k]? = some q) : (w1 ++ w2)[k]? = some q := by
  rw [List.getElem?_append_left (List.getElem?_eq_some_iff.mp hk).1]
  exact hk
theorem xP_r (h : va_P D cl (w1 ++ w2) H) : va_P D cl w2 H := fun _ q hk => h _ q (xix_r hk)
theorem xP_l (h : va_P D cl (w1 ++ w2) H) : va_P D cl w1 H := fun _ q hk => h _ q (xix_l hk)
theorem xD_r (h : va_D A0 (w1 ++ w2)) : va_D A0 w2 := ⟨fun i j p q hi hj e => by
  have := h.1 _ _ p q (xix_r hi) (xix_r hj) e
  omega, fun _ q hk => h.2 _ q (xix_r hk)⟩
theorem xD_l (h : va_D A0 (w1 ++ w2)) : va_D A0 w1 := ⟨fun i j p q hi hj e => h.1 _ _ p q (xix_l hi) (xix_l hj) e, fun _ q hk => h.2 _ q (xix_l hk)⟩
theorem xD_x (h : va_D A0 (w1 ++ w2)) {i j : Nat} {p q : Nat × va_E} (hi : w1[i]? = some p) (hj : w2[j]? = some q) : p.1 ≠ q.1 := fun e => by
  have h1 := h.1 _ _ p q (xix_l hi) (xix_r hj) e
  have h2 := (List.getElem?_eq_some_iff.mp hi).1
  omega
/-- a world whose last part a callee has changed, and made to grow -/
theorem xjoin_new (hP : va_P D cl (ws ++ wc) H) (hD : va_D A0 (ws ++ wc)) (hk : ∀ x : Nat, x < H.size → ¬ va_A wc H.size x → H1[x]? = H[x]?) (hF : ∀ x, va_A wc H.size x → A0 x) (hP1 : va_P D cl w1 H1) (hD1 : va_D (va_A wc H.size) w1) : va_P D cl (ws ++ w1) H1 ∧ va_D A0 (ws ++ w1) := by
  have hout : ∀ (k : Nat) (q : Nat × va_E), ws[k]? = some q → ¬ va_A wc H.size q.1 := by
    rintro k q hq (⟨j, e, hj⟩ | hge)
    · exact xD_x hD hq hj rfl
    · exact absurd (hP _ q (xix_l hq)).lt (Nat.not_lt.mpr hge)
  refine ⟨va_P.app (show va_P D cl ws H1 from fun k q hq => (hP _ q (xix_l hq)).kept (hk q.1 (hP _ q (xix_l hq)).lt (hout k q hq))) hP1, (xD_l hD).app (hD1.weaken (fun _ q _ hq => hF q.1 hq)) (fun i j p q hi hj e => hout i p hi (by rw [e]; exact hD1.2 j q hj))⟩
variable {y : MethodName} {bytes : ByteArray} {maxL index n mc ms : Nat} {rm : Room} {Qc : Array Value → State → Outcome → State → Prop} {free : Addr → Prop} {C' : String} {b : Addr}
theorem xRunI (C0 : xC p s m args meth c cc own nL rt D cl tys) (hM : Met l y (Cond.code y bytes maxL none :: wsL_law) rm (va_Pc (.ref b :: As) (xPre D cl tys wc H.size)) Qc mc ms free) (ky : xI C' y bytes maxL n) (hlink : Cond.methodLink own index y ∈ wsL_law) (hrc : rm.cells = mc ∧ rm.slots = ms) (hR : rm.frames + 1 ≤ R.frames ∧ 8 + (maxL + 11) + rm.locals ≤ R.locals)
    (hP : va_P D cl (ws ++ wc) H) (hD : va_D A0 (ws ++ wc)) {lvs : List (Nat × Value)} (hl : lv_has ls nL lvs) (hn : As.length = n) (hst : st0 = As.reverse ++ .ref b :: rest) (hW : (rest.map fun v => v.category).sum ≤ 8) (hdg : decode cc pc = .ok (.invokespecial index, 3)) (hf : cells + mc ≤ R.cells ∧ slots + ms ≤ R.slots) :
    va_Run p l e R s m args below meth c H locs cells slots mc ms (F0 m pc ls st0) rest (Qc (Value.ref b :: As).toArray) free := by
  obtain ⟨hx, hb, hr, hml, hown, hts, hlocks, hK, hT⟩ := C0
  obtain ⟨k1, k3, k4, kn, k5, k6, k7, k8⟩ := ky
  have hPc := xP_r hP
  have hDc := xD_r hD
  exact va_runI (As := As) (rest := rest) ⟨hx, hb, hml, hown, hts⟩ hM (cwI (ws' := wsL_law) n hts (xpay k4) rfl hrc.1 hrc.2 (hts _ (by rw [k5]; exact k3)) (hts _ hlink) (hts _ k1) kn ⟨k6, k7, k8⟩ hR) ⟨xPre_blind, fun U hU hW => ⟨rfl, by rw [hU], by rw [hU]; exact hPc, va_K.moved hW.alike hK, hDc.weaken (fun _ _ _ _ => trivial), hT.warm hW⟩⟩ rfl hn hl.1 hst (lv_room hW) hdg hf
theorem xRunIN {host : String} (C0 : xC p s m args meth c cc own nL rt D cl tys) (hM : Met l y (Cond.code y bytes maxL none :: wsL_law) rm (va_Pc (.ref b :: As) (xPre D cl tys wc H.size)) Qc mc ms free) (ky : xI C' y bytes maxL n) (hlink : va_Nw (.methodLinkNest own index y host) s) (hrc : rm.cells = mc ∧ rm.slots = ms) (hR : rm.frames + 1 ≤ R.frames ∧ 8 + (maxL + 11) + rm.locals ≤ R.locals)
    (hP : va_P D cl (ws ++ wc) H) (hD : va_D A0 (ws ++ wc)) {lvs : List (Nat × Value)} (hl : lv_has ls nL lvs) (hn : As.length = n) (hst : st0 = As.reverse ++ .ref b :: rest) (hW : (rest.map fun v => v.category).sum ≤ 8) (hdg : decode cc pc = .ok (.invokespecial index, 3)) (hf : cells + mc ≤ R.cells ∧ slots + ms ≤ R.slots) :
    va_Run p l e R s m args below meth c H locs cells slots mc ms (F0 m pc ls st0) rest (Qc (Value.ref b :: As).toArray) free := by
  obtain ⟨hx, hb, hr, hml, hown, hts, hlocks, hK, hT⟩ := C0
  obtain ⟨k1, k3, k4, kn, k5, k6, k7, k8⟩ := ky
  have hPc := xP_r hP
  have hDc := xD_r hD
  exact va_runIN (As := As) (rest := rest) ⟨hx, hb, hml, hown, hts⟩ hM ⟨va_cnB (ws' := wsL_law) n hts (xpay k4) rfl hrc.1 hrc.2 hlink (hts _ (by rw [k5]; exact k3)) ⟨k6, k7, k8⟩ hR, kn, hts _ k1⟩ ⟨xPre_blind, fun U hU hW => ⟨rfl, by rw [hU], by rw [hU]; exact hPc, va_K.moved hW.alike hK, hDc.weaken (fun _ _ _ _ => trivial), hT.warm hW⟩⟩ rfl hn hl.1 hst (lv_room hW) hdg hf
theorem xfree_new (hD : va_D A0 (ws ++ wc)) (hS : va_S A0 H0 H locs) (hA : ∀ q, H0.size ≤ q → A0 q) : ∀ x, va_A wc H.size x → A0 x := by
  rintro x (⟨k, e, hk⟩ | h)
  · exact hD.2 _ _ (xix_r hk)
  · exact hA x (Nat.le_trans hS.1 h)
theorem xend_new {S : Type} {wf : S → va_W} {a : Array Value} (hr : va_Run p l e R s m args below meth c H locs cells slots mc ms (F0 m pc ls st0) rest (va_Qv (fun _ : S => True) (fun u t => va_P D cl (wf u) t.heap ∧ va_D (va_A wc H.size) (wf u)) (va_A wc H.size) a) (va_A wc H.size)) (hP : va_P D cl (ws ++ wc) H) (hD : va_D A0 (ws ++ wc)) (hS : va_S A0 H0 H locs) (hA : ∀ q, H0.size ≤ q → A0 q)
    (kk : ∀ (u : S) (H1 : Heap) (locs1 : List Loc), va_P D cl (ws ++ wf u) H1 → va_D A0 (ws ++ wf u) → va_S A0 H0 H1 locs1 → W p l e R s m args below meth c H1 locs1 (cells + mc) (slots + ms) Q (F0 m (pc + 3) ls rest)) : W p l e R s m args below meth c H locs cells slots Q (F0 m pc ls st0) := by
  have hFc := xfree_new hD hS hA
  refine va_callv hr hS (fun q _ h => hFc q h) hFc (fun u t H1 locs1 ht hvm hp hB hz hk hS1 => ?_)
  obtain ⟨hB1, hB2⟩ := hB
  rw [ht] at hB1
  obtain ⟨h1, h2⟩ := xjoin_new hP hD hk hFc hB1 hB2
  exact kk u H1 locs1 h1 h2 hS1
end XNEW
/-! the reference's second object, where it is made by the call -/
abbrev wO : Type := Option (Nat × (Nat → Nat) × (Nat → Option Nat) × (Nat → Nat) × zS)
def wOpt (K : Nat → ClassId) (o : wO) : va_W := match o with
  | none => []
  | some (h, a, n, la, r) => wX8 K h a n la r ++ ([] : va_W)
def nOf (n : Nat → Option Nat) (o : wO) : Nat → Option Nat := match o with
  | none => n
  | some (h, _) => va_up n 27 (some h)
theorem wOpt_none {K : Nat → ClassId} : wOpt K none = [] := rfl
def xQn {S : Type} {D : va_G} (post : Int32 → S → Prop) (wf : S → va_W) (A : Nat → Prop) : Array Value → State → Outcome → State → Prop := fun _ st oc t => (∃ (r : Int32) (u : S), oc = .returned (some (.int r)) ∧ post r u ∧ va_P D vwCl (wf u) t.heap ∧ va_D A (wf u)) ∧ va_F A st t
def xQm {S : Type} {D : va_G} (post : Nat → S → Prop) (wf : Nat → S → va_W) (A : Nat → Prop) : Array Value → State → Outcome → State → Prop := fun _ st oc t => (∃ (b : Nat) (u : S), oc = .returned (some (.ref b)) ∧ post b u ∧ va_P D vwCl (wf b u) t.heap ∧ va_D A (wf b u)) ∧ va_F A st t
section XQN
variable {p : Program} {l : Launch} {e : Env} {R : Room} {s : State} {m : MethodId} {args : Array Value} {below : List Frame} {meth : Method} {c : Code} {H H0 : Heap} {locs : List Loc} {cells slots : Nat} {Q : State → Prop}
variable {cc : ByteArray} {own : String} {nL : Nat} {D : va_G} {tys : List (ClassId × FieldType)} {A A0 : Nat → Prop} {pc : Nat} {ls : Array Slot} {rest st0 : List Value} {ws wc : va_W} {mc ms : Nat}
theorem xrw_n {S : Type} {post : Int32 → S → Prop} {wf : S → va_W} (C0 : xC p s m args meth c cc own nL (some .int) D vwCl tys) {v : Int32} (u : S) (h : post v u) (hP : va_P D vwCl (wf u) H) (hD : va_D A (wf u)) (hS : va_S A s.heap H locs) (hdg : decode cc pc = .ok (.ireturn, 1)) : W p l e R s m args below meth c H locs cells slots (MQ below (xQn post wf (D := D) A) args s cells slots A) (F0 m pc ls [.int v]) := by
  obtain ⟨hx, hb, hr, hml, hown, hts, hlocks, hK, hT⟩ := C0
  exact W.iret hx hb hr (fun t ht _ => ⟨⟨v, u, rfl, h, by rw [ht]; exact hP, hD⟩, hS.F ht⟩) hS.2.2 hdg hlocks
theorem xend_m {S : Type} {post : Nat → S → Prop} {wf : Nat → S → va_W} {a : Array Value} (hr : va_Run p l e R s m args below meth c H locs cells slots mc ms (F0 m pc ls st0) rest (xQm post wf (D := D) (va_A ws H.size) a) (va_A ws H.size)) (hD : va_D A0 ws) (hS : va_S A0 H0 H locs) (hA : ∀ q, H0.size ≤ q → A0 q)
    (kk : ∀ (b : Nat) (u : S) (H1 : Heap) (locs1 : List Loc), post b u → va_P D vwCl (wf b u) H1 → va_D A0 (wf b u) → va_S A0 H0 H1 locs1 → W p l e R s m args below meth c H1 locs1 (cells + mc) (slots + ms) Q (F0 m (pc + 3) ls (.ref b :: rest))) : W p l e R s m args below meth c H locs cells slots Q (F0 m pc ls st0) := by
  have hFc := xfree_id (H1 := H) hD hS hA
  intro T hT X
  obtain ⟨v, st₀, t, T', L, h0, X', hL, e1, e2, ⟨⟨b, u, hv, hp, hB, hDn⟩, hz, hk⟩, st⟩ := hr T hT X
  cases hv
  rw [h0] at hz hk
  obtain ⟨t2, a1, b1⟩ := kk b u T'.heap (locs ++ L) hp (by rw [e1]; exact hB) (hDn.weaken (fun _ q _ hq => hFc q.1 hq))
    ⟨Nat.le_trans hS.1 (by rw [e1]; exact hz), fun q h1 h2 => by rw [e1, hk q (Nat.lt_of_lt_of_le h1 hS.1) (fun z => h2 (hFc q z))]; exact hS.2.1 q h1 h2, fun q hq => by
      rcases List.mem_append.mp hq with h | h
      · exact hS.2.2 q h
      · exact hFc _ (hL q h)⟩ T' rfl X'
  exact ⟨t2, st t2 a1, b1⟩
end XQN
