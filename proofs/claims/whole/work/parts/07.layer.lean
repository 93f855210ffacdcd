/-! the layer: a bundle's state, what every method's start has, calls in one row -/
/-- a bundle: an object's numbers by slot, its int arrays by slot, its long arrays by slot -/
abbrev zS : Type := (Nat → Int32) × (Nat → Nat → Int32) × (Nat → Nat → Int64)
def zI (r : zS) (k : Nat) (x : Int32) : zS := (upd r.1 k x, r.2)
def zA (r : zS) (k j : Nat) (x : Int32) : zS := (r.1, va_up r.2.1 k (upd (r.2.1 k) j x), r.2.2)
def zG (r : zS) (k : Nat) (g : Nat → Int32) : zS := (r.1, va_up r.2.1 k g, r.2.2)
def zL (r : zS) (k j : Nat) (x : Int64) : zS := (r.1, r.2.1, va_up r.2.2 k (vp_updL (r.2.2 k) j x))
def zH (r : zS) (k : Nat) (g : Nat → Int64) : zS := (r.1, r.2.1, va_up r.2.2 k g)
def xset : va_W → List Nat → va_W → va_W
  | ws, i :: is, q :: w => xset (ws.set i q) is w
  | ws, _, _ => ws
def xAOA (t : FieldType) (U : State) : Prop := (Cond.arrayOver (.array t)).before #[] U = true
theorem xAOA.use {t : FieldType} {A : Array Value} {U : State} (h : xAOA t U) : (Cond.arrayOver (.array t)).before A U = true := h
theorem xAOA.moved {t : FieldType} {u U : State} (hvm : u.vm.Alike U.vm) (h : xAOA t u) : xAOA t U := by
  obtain ⟨comp, c, k, h1, h2, h3, h4, h5⟩ := arrayOverA_spec h
  obtain ⟨k2, hk2, he⟩ := hvm.2.2 _ _ h3
  have hb : U.vm.bare = u.vm.bare := by first | exact hvm.bare_eq | exact hvm.bare_eq.symm
  have hi : (U.vm.classes.findIdx? fun (x : Class) => match x.kind with | .array component _ => component == comp | _ => false) = some c := by
    have e1 := va_idx_bare U.vm comp
    have e2 := va_idx_bare u.vm comp
    rw [hb] at e1
    exact e1.symm.trans (e2.trans h2)
  have e4 : k2.kind = .array comp (.array t) := he ▸ h4
  have e1 : U.vm.findClass (FieldType.array t).toString = some comp := (hvm.findClass _ _).trans h1
  have e5 : U.vm.findClass ("[" ++ (FieldType.array t).toString) = some c := (hvm.findClass _ _).trans h5
  unfold xAOA Cond.before Cond.holds
  simp only [Cond.value]
  rw [e1, Option.bind_some]
  refine (congrArg (fun o : Option Nat => (o.bind (fun c => (U.vm.classes[c]?).map fun (k : Class) => match k.kind with | .array _ ty => decide (ty = FieldType.array t) && decide (U.vm.findClass ("[" ++ (FieldType.array t).toString) = some c) | _ => false) == some true)) hi).trans ?_
  simp [hk2, e4, e5]
def xT (U : State) : Prop := va_Nw (.fieldLinkNest RX7 118 "UnderTheDesks$Shelf" "cells" "[J" RX7) U ∧ va_Nw (.methodLinkNest RX7 24 yX4_init RX7) U ∧ va_Nw (.methodLinkNest RX7 44 yX3_init RX7) U ∧ va_Nw (.methodLinkNest RX7 60 yX6_init RX7) U ∧ va_Nw (.methodLinkNest RX7 70 yX5_init RX7) U ∧ va_Nw (.methodLinkNest RX7 79 yX2_init RX7) U ∧ va_Nw (.methodLinkNest RX7 9 yX1_init RX7) U ∧ va_Nw (.methodLinkNest RX1 84 yX7_reads RX7) U ∧ va_AO "UnderTheDesks$Shelf" U ∧ xAOA .long U
theorem xT.warm {s U : State} (hW : s.WarmedH U.vm) (h : xT s) : xT U := by
  obtain ⟨h1, h2, h3, h4, h5, h6, h7, h8, h9, h10⟩ := h
  exact ⟨va_Nw.warmF hW h1, va_Nw.warmM hW h2, va_Nw.warmM hW h3, va_Nw.warmM hW h4, va_Nw.warmM hW h5, va_Nw.warmM hW h6, va_Nw.warmM hW h7, va_Nw.warmM hW h8, va_AO.moved hW.alike h9, xAOA.moved hW.alike h10⟩
theorem xT.same {u U : State} (e : u.vm = U.vm) (h : xT u) : xT U := by
  obtain ⟨h1, h2, h3, h4, h5, h6, h7, h8, h9, h10⟩ := h
  exact ⟨va_Nw.same rfl e h1, va_Nw.same rfl e h2, va_Nw.same rfl e h3, va_Nw.same rfl e h4, va_Nw.same rfl e h5, va_Nw.same rfl e h6, va_Nw.same rfl e h7, va_Nw.same rfl e h8, va_AO.moved (by rw [e]; exact Vm.Alike.refl _) h9, xAOA.moved (by rw [e]; exact Vm.Alike.refl _) h10⟩
def xPre (D : va_G) (cl : List vw_C) (tys : List (ClassId × FieldType)) (ws : va_W) (sz : Nat) : State → Prop := fun U => U.heap.size = sz ∧ va_P D cl ws U.heap ∧ va_K D cl tys U ∧ va_D (fun _ => True) ws ∧ xT U
theorem xPre_blind {D : va_G} {cl : List vw_C} {tys : List (ClassId × FieldType)} {ws : va_W} {sz : Nat} {av : List Value} : FrameBlind (va_Pc av (xPre D cl tys ws sz)) := fun a U g mk q => by
  obtain ⟨q0, q1, qP, qK, qD, qT⟩ := q
  exact ⟨q0, q1, qP, va_K.moved (u := U) (U := U.calling g mk a) (Vm.Alike.refl U.vm) qK, qD, xT.same (u := U) rfl qT⟩
/-- answers that leave the heap as it was -/
def roI (post : Int32 → Prop) : Array Value → State → Outcome → State → Prop := fun _ st o t => ∃ r : Int32, o = .returned (some (.int r)) ∧ post r ∧ t.heap = st.heap
def roL (post : Int64 → Prop) : Array Value → State → Outcome → State → Prop := fun _ st o t => ∃ r : Int64, o = .returned (some (.long r)) ∧ post r ∧ t.heap = st.heap
def xbool (v : Int32) : Prop := narrow .boolean (.int v) = .int v
/-- what a method's body has at hand -/
def xC (p : Program) (s : State) (m : MethodId) (args : Array Value) (meth : Method) (c : Code) (cc : ByteArray) (own : String) (nL : Nat) (ret : Option FieldType) (D : va_G) (cl : List vw_C) (tys : List (ClassId × FieldType)) : Prop :=
  p.tables.exec = Jvm.exec ∧ c.code = cc ∧ meth.sig.returnType = ret ∧ c.maxLocals = nL ∧ s.vm.findClass own = some m.cls ∧ (∀ w ∈ wsL_law, w.before args s = true) ∧ meth.locks = false ∧ va_K D cl tys s ∧ xT s
theorem xMet {l : Launch} {y : MethodName} {rm : Room} {Qc : Array Value → State → Outcome → State → Prop} {mc ms sz : Nat} {free : Addr → Prop} {cc : ByteArray} {maxL : Nat} {ret : Option FieldType} {D : va_G} {cl : List vw_C} {tys : List (ClassId × FieldType)} {ws : va_W} {own : String} {As : List Value}
    (hy : plainName y.cls = true) (hown : y.cls = own) (hlen : (lg_sl As).length ≤ maxL)
    (body : ∀ (p : Program) (e : Env) (s : State) (m : MethodId) (args : Array Value) (below : List Frame) (meth : Method) (c : Code), xC p s m args meth c cc own maxL ret D cl tys → meth.name = y.name → va_P D cl ws s.heap → va_D (va_A ws s.heap.size) ws → s.heap.size = sz → ∀ ls : Array Slot, lv_has ls maxL (lv_args 0 As) → W p l e rm s m args below meth c s.heap [] 0 0 (MQ below Qc args s mc ms free) (F0 m 0 ls [])) :
    Met l y (Cond.code y cc maxL ret :: wsL_law) rm (va_Pc As (xPre D cl tys ws sz)) Qc mc ms free := by
  refine Met.ofW (cc := cc) (maxL := maxL) (ret := ret) hy rfl ?_
  intro p e s m args below meth c s₁ B hml hv
  obtain ⟨rfl, hsz, hP, hK, hD0, hT⟩ := hv
  have hts := atoms_spec (ws := Cond.code y cc maxL ret :: wsL_law) B.pre
  have hfc : s.vm.findClass own = some m.cls := hown ▸ findClass_of_methodNamed B.named
  have hl := lv_entry As (n := maxL) hlen
  rw [lg_entry_eq]
  generalize (lg_sl As ++ List.replicate (maxL - (lg_sl As).length) Slot.unset).toArray = ls at hl ⊢
  exact body p e s m _ below meth c ⟨B.exec, B.bytes, B.returns, hml, hfc, fun w h => hts w (List.mem_cons_of_mem _ h), B.notSynchronized, hK, hT⟩ (name_of_methodNamed B.named B.method).1 hP hD0.self hsz ls hl
section XL
variable {p : Program} {l : Launch} {e : Env} {R : Room} {s : State} {m : MethodId} {args : Array Value} {below : List Frame} {meth : Method} {c : Code} {H H0 : Heap} {locs : List Loc} {cells slots : Nat} {Q : State → Prop}
variable {cc : ByteArray} {own : String} {nL : Nat} {rt : Option FieldType} {D : va_G} {cl : List vw_C} {tys : List (ClassId × FieldType)} {A A0 : Nat → Prop} {pc : Nat} {ls : Array Slot} {rest st0 As : List Value} {ws wc : va_W}
theorem xro_i (C0 : xC p s m args meth c cc own nL (some .int) D cl tys) {v : Int32} {post : Int32 → Prop} {free : Addr → Prop} (h : post v) (hdg : decode cc pc = .ok (.ireturn, 1)) : W p l e R s m args below meth c s.heap [] cells slots (MQ below (roI post) args s cells slots free) (F0 m pc ls [.int v]) := by
  obtain ⟨hx, hb, hr, hml, hown, hts, hlocks, hK, hT⟩ := C0
  exact W.iret hx hb hr (fun t ht _ => ⟨v, rfl, h, ht⟩) (fun q hq => absurd hq List.not_mem_nil) hdg hlocks
theorem xro_z (C0 : xC p s m args meth c cc own nL (some .boolean) D cl tys) {v : Int32} {post : Int32 → Prop} {free : Addr → Prop} (hn : xbool v) (h : post v) (hdg : decode cc pc = .ok (.ireturn, 1)) : W p l e R s m args below meth c s.heap [] cells slots (MQ below (roI post) args s cells slots free) (F0 m pc ls [.int v]) := by
  obtain ⟨hx, hb, hr, hml, hown, hts, hlocks, hK, hT⟩ := C0
  exact W.zret hx hb hr hn (fun t ht _ => ⟨v, rfl, h, ht⟩) (fun q hq => absurd hq List.not_mem_nil) hdg hlocks
theorem xro_l (C0 : xC p s m args meth c cc own nL (some .long) D cl tys) {v : Int64} {post : Int64 → Prop} {free : Addr → Prop} (h : post v) (hdg : decode cc pc = .ok (.lreturn, 1)) : W p l e R s m args below meth c s.heap [] cells slots (MQ below (roL post) args s cells slots free) (F0 m pc ls [.long v]) := by
  obtain ⟨hx, hb, hr, hml, hown, hts, hlocks, hK, hT⟩ := C0
  exact W.lret hx hb hr (fun t ht _ => ⟨v, rfl, h, ht⟩) (fun q hq => absurd hq List.not_mem_nil) hdg hlocks
theorem xrw_i {S : Type} {post : Int32 → S → Prop} {wf : S → va_W} (C0 : xC p s m args meth c cc own nL (some .int) D cl tys) {v : Int32} (u : S) (h : post v u) (hP : va_P D cl (wf u) H) (hS : va_S A s.heap H locs) (hdg : decode cc pc = .ok (.ireturn, 1)) : W p l e R s m args below meth c H locs cells slots (MQ below (va_Qi post (fun u t => va_P D cl (wf u) t.heap) A) args s cells slots A) (F0 m pc ls [.int v]) := by
  obtain ⟨hx, hb, hr, hml, hown, hts, hlocks, hK, hT⟩ := C0
  exact W.iret hx hb hr (fun t ht _ => ⟨⟨v, u, rfl, h, by show va_P D cl (wf u) t.heap; rw [ht]; exact hP⟩, hS.F ht⟩) hS.2.2 hdg hlocks
theorem xrw_z {S : Type} {post : Int32 → S → Prop} {wf : S → va_W} (C0 : xC p s m args meth c cc own nL (some .boolean) D cl tys) {v : Int32} (u : S) (hn : xbool v) (h : post v u) (hP : va_P D cl (wf u) H) (hS : va_S A s.heap H locs) (hdg : decode cc pc = .ok (.ireturn, 1)) : W p l e R s m args below meth c H locs cells slots (MQ below (va_Qi post (fun u t => va_P D cl (wf u) t.heap) A) args s cells slots A) (F0 m pc ls [.int v]) := by
  obtain ⟨hx, hb, hr, hml, hown, hts, hlocks, hK, hT⟩ := C0
  exact W.zret hx hb hr hn (fun t ht _ => ⟨⟨v, u, rfl, h, by show va_P D cl (wf u) t.heap; rw [ht]; exact hP⟩, hS.F ht⟩) hS.2.2 hdg hlocks
theorem xrw_v {S : Type} {post : S → Prop} {wf : S → va_W} (C0 : xC p s m args meth c cc own nL none D cl tys) (u : S) (h : post u) (hP : va_P D cl (wf u) H) (hS : va_S A s.heap H locs) (hdg : decode cc pc = .ok (.return_, 1)) : W p l e R s m args below meth c H locs cells slots (MQ below (va_Qv post (fun u t => va_P D cl (wf u) t.heap) A) args s cells slots A) (F0 m pc ls []) := by
  obtain ⟨hx, hb, hr, hml, hown, hts, hlocks, hK, hT⟩ := C0
  exact W.vret hx hb hr (fun t ht _ => ⟨⟨u, rfl, h, by show va_P D cl (wf u) t.heap; rw [ht]; exact hP⟩, hS.F ht⟩) hS.2.2 hdg hlocks
/-- the words of a callee among all -/
theorem xpay {y : MethodName} {bytes : ByteArray} {maxL : Nat} {ret : Option FieldType} (h : Cond.code y bytes maxL ret ∈ wsL_law) : GoodIn wsL_law (Cond.code y bytes maxL ret :: wsL_law) := fun w hw => by
  rcases List.mem_cons.mp hw with rfl | hw
  · exact ⟨h, (xgood _ h).2⟩
  · exact ⟨hw, (xgood _ hw).2⟩
variable {y : MethodName} {bytes : ByteArray} {maxL index n mc ms : Nat} {ret : Option FieldType} {rm : Room} {Qc : Array Value → State → Outcome → State → Prop} {free : Addr → Prop} {C' : String} {b : Addr}
theorem xRunV (C0 : xC p s m args meth c cc own nL rt D cl tys) (hM : Met l y (Cond.code y bytes maxL ret :: wsL_law) rm (va_Pc (.ref b :: As) (xPre D cl tys wc H.size)) Qc mc ms free) (ky : xV C' y bytes maxL ret n) (hlink : Cond.methodLink own index y ∈ wsL_law) (hrc : rm.cells = mc ∧ rm.slots = ms) (hR : rm.frames + 1 ≤ R.frames ∧ 8 + (maxL + 11) + rm.locals ≤ R.locals)
    (hP : va_P D cl ws H) (hD : va_D A0 ws) (isC : List Nat) (hC : isC.map (fun i => ws[i]?) = wc.map some) (hnd : va_nd isC = true) {ci : Nat} {fs : List Value} {T : u_T} {N : Nat} (hrec : wc[0]? = some (b, .inr (ci, fs))) (hcl : cl[ci]? = some (C', T, N)) {lvs : List (Nat × Value)} (hl : lv_has ls nL lvs) (hn : As.length = n) (hst : st0 = As.reverse ++ .ref b :: rest) (hW : (rest.map fun v => v.category).sum ≤ 8) (hdg : decode cc pc = .ok (.invokevirtual index, 3)) (hf : cells + mc ≤ R.cells ∧ slots + ms ≤ R.slots) :
    va_Run p l e R s m args below meth c H locs cells slots mc ms (F0 m pc ls st0) rest (Qc (Value.ref b :: As).toArray) free := by
  obtain ⟨hx, hb, hr, hml, hown, hts, hlocks, hK, hT⟩ := C0
  obtain ⟨k1, k2, k3, k4, k5, k6, k7, k8⟩ := ky
  have hPc := hP.sub (ws' := wc) isC (by
    have h1 := congrArg (fun l => l.filterMap id) hC
    simpa [List.filterMap_map, Function.comp_def] using h1)
  have hDc := hD.sub (ws' := wc) isC hnd hC
  refine va_runV (As := As) (rest := rest) ⟨hx, hb, hml, hown, hts⟩ hM (cwV (ws' := wsL_law) n hts ?_ rfl hrc.1 hrc.2 ⟨k5, k6, k7, k8⟩ hR) ⟨xPre_blind, va_recv hK hPc hcl hrec, fun U hU hW => ⟨rfl, by rw [hU], by rw [hU]; exact hPc, va_K.moved hW.alike hK, hDc.weaken (fun _ _ _ _ => trivial), hT.warm hW⟩⟩ rfl hn hl.1 hst (lv_room hW) hdg hf
  intro w hw
  rcases List.mem_append.mp hw with h | h
  · simp only [List.mem_cons, List.not_mem_nil, or_false] at h
    rcases h with rfl | rfl | rfl | rfl
    · exact ⟨hlink, (xgood _ hlink).2⟩
    · exact ⟨k1, (xgood _ k1).2⟩
    · exact ⟨k2, (xgood _ k2).2⟩
    · exact ⟨k3, (xgood _ k3).2⟩
  · exact xpay k4 w h
theorem xRunS (C0 : xC p s m args meth c cc own nL rt D cl tys) (hM : Met l y (Cond.code y bytes maxL ret :: wsL_law) rm (va_Pc As (xPre D cl tys wc H.size)) Qc mc ms free) (ky : xSt C' y bytes maxL ret n) (hlink : Cond.methodLink own index y ∈ wsL_law) (hrc : rm.cells = mc ∧ rm.slots = ms) (hR : rm.frames + 1 ≤ R.frames ∧ 8 + (maxL + 11) + rm.locals ≤ R.locals)
    (hP : va_P D cl ws H) (hD : va_D A0 ws) (isC : List Nat) (hC : isC.map (fun i => ws[i]?) = wc.map some) (hnd : va_nd isC = true) {lvs : List (Nat × Value)} (hl : lv_has ls nL lvs) (hn : As.length = n) (hst : st0 = As.reverse ++ rest) (hW : (rest.map fun v => v.category).sum ≤ 8) (hdg : decode cc pc = .ok (.invokestatic index, 3)) (hf : cells + mc ≤ R.cells ∧ slots + ms ≤ R.slots) :
    va_Run p l e R s m args below meth c H locs cells slots mc ms (F0 m pc ls st0) rest (Qc As.toArray) free := by
  obtain ⟨hx, hb, hr, hml, hown, hts, hlocks, hK, hT⟩ := C0
  obtain ⟨k1, k3, k4, k5, k6, k7, k8⟩ := ky
  have hPc := hP.sub (ws' := wc) isC (by
    have h1 := congrArg (fun l => l.filterMap id) hC
    simpa [List.filterMap_map, Function.comp_def] using h1)
  have hDc := hD.sub (ws' := wc) isC hnd hC
  exact va_runS (As := As) (rest := rest) ⟨hx, hb, hml, hown, hts⟩ hM ⟨callB_of (ws' := wsL_law) n hts (xpay k4) rfl hrc.1 hrc.2 (hts _ (by rw [k5]; exact k3)) (hts _ hlink) ⟨k6, k7, k8⟩ hR, hts _ k1⟩ ⟨xPre_blind, fun U hU hW => ⟨rfl, by rw [hU], by rw [hU]; exact hPc, va_K.moved hW.alike hK, hDc.weaken (fun _ _ _ _ => trivial), hT.warm hW⟩⟩ rfl hn hl.1 hst (lv_room hW) hdg hf
theorem xend_ro_i {post : Int32 → Prop} {a : Array Value} (hr : va_Run p l e R s m args below meth c H locs cells slots 0 0 (F0 m pc ls st0) rest (roI post a) (fun _ => False)) (kk : ∀ r : Int32, post r → W p l e R s m args below meth c H locs cells slots Q (F0 m (pc + 3) ls (.int r :: rest))) : W p l e R s m args below meth c H locs cells slots Q (F0 m pc ls st0) := by
  intro T hT X
  obtain ⟨v, st₀, t, T', L, h0, X', hL, e1, e2, ⟨r, hv, hp, hb⟩, st⟩ := hr T hT X
  cases hv
  have hL0 : L = [] := List.eq_nil_iff_forall_not_mem.mpr fun q hq => hL q hq
  subst hL0
  rw [List.append_nil] at X'
  obtain ⟨t2, a1, b1⟩ := kk r hp T' (by rw [e1, hb, h0]) X'
  exact ⟨t2, st t2 a1, b1⟩
theorem xend_ro_l {post : Int64 → Prop} {a : Array Value} (hr : va_Run p l e R s m args below meth c H locs cells slots 0 0 (F0 m pc ls st0) rest (roL post a) (fun _ => False)) (kk : ∀ r : Int64, post r → W p l e R s m args below meth c H locs cells slots Q (F0 m (pc + 3) ls (.long r :: rest))) : W p l e R s m args below meth c H locs cells slots Q (F0 m pc ls st0) := by
  intro T hT X
  obtain ⟨v, st₀, t, T', L, h0, X', hL, e1, e2, ⟨r, hv, hp, hb⟩, st⟩ := hr T hT X
  cases hv
  have hL0 : L = [] := List.eq_nil_iff_forall_not_mem.mpr fun q hq => hL q hq
  subst hL0
  rw [List.append_nil] at X'
  obtain ⟨t2, a1, b1⟩ := kk r hp T' (by rw [e1, hb, h0]) X'
  exact ⟨t2, st t2 a1, b1⟩
theorem xjoin0 {H1 : Heap} : ∀ (is : List Nat) (wc w1 ws : va_W), is.map (fun i => ws[i]?) = wc.map some → w1.map Prod.fst = wc.map Prod.fst → va_nd is = true → va_D A0 ws → (∀ (k : Nat) (q : Nat × va_E), ws[k]? = some q → va_at D cl q H1 ∨ k ∈ is) → va_P D cl w1 H1 → va_P D cl (xset ws is w1) H1 ∧ va_D A0 (xset ws is w1) := by
  intro is
  induction is with
  | nil =>
    intro wc w1 ws hC hw hn hD hk hP1
    have e : xset ws [] w1 = ws := by cases w1 <;> rfl
    rw [e]
    exact ⟨fun k q hq => (hk k q hq).resolve_right List.not_mem_nil, hD⟩
  | cons i is ih =>
    intro wc w1 ws hC hw hn hD hk hP1
    cases wc with
    | nil => cases hC
    | cons q0 wc =>
      cases w1 with
      | nil => cases hw
      | cons q1 w1 =>
        simp only [List.map_cons, List.cons.injEq] at hC hw
        have hn2 := va_nd_inj (i :: is) hn
        have hni : i ∉ is := fun hm => by
          obtain ⟨j, hj⟩ := List.getElem?_of_mem hm
          have := hn2 0 (j + 1) i rfl hj
          omega
        have hn' : va_nd is = true := by
          simp only [va_nd, Bool.and_eq_true] at hn
          exact hn.2
        have hq : ws[i]? = some (q1.1, q0.2) := by rw [hC.1, hw.1]
        have hD' : va_D A0 (ws.set i (q1.1, q1.2)) := hD.set hq
        refine ih wc w1 (ws.set i q1) ?_ hw.2 hn' hD' ?_ (fun k q hk1 => hP1 (k + 1) q hk1)
        · rw [← hC.2]
          refine List.map_congr_left (fun j hj => ?_)
          rw [List.getElem?_set_ne]
          intro hij
          exact hni (hij ▸ hj)
        · intro k q hkq
          by_cases hki : k = i
          · subst hki
            have hlt := (List.getElem?_eq_some_iff.mp hq).1
            rw [List.getElem?_set_self hlt] at hkq
            cases hkq
            exact Or.inl (hP1 0 q1 rfl)
          · rw [List.getElem?_set_ne (Ne.symm hki)] at hkq
            rcases hk k q hkq with h | h
            · exact Or.inl h
            · exact Or.inr ((List.mem_cons.mp h).resolve_left hki)
theorem xjoin {H1 : Heap} {w1 : va_W} (hP : va_P D cl ws H) (hD : va_D A0 ws) (isC : List Nat) (hC : isC.map (fun i => ws[i]?) = wc.map some) (hnd : va_nd isC = true) (hw : w1.map Prod.fst = wc.map Prod.fst) (hk : ∀ q : Nat, q < H.size → ¬ va_A wc H.size q → H1[q]? = H[q]?) (hP1 : va_P D cl w1 H1) : va_P D cl (xset ws isC w1) H1 ∧ va_D A0 (xset ws isC w1) := by
  refine xjoin0 isC wc w1 ws hC hw hnd hD (fun k q hq => ?_) hP1
  by_cases hm : k ∈ isC
  · exact Or.inr hm
  refine Or.inl ((hP k q hq).kept (hk q.1 (hP k q hq).lt ?_))
  rintro (⟨j, e', hj⟩ | hge)
  · have h1 : (isC.map (fun i => ws[i]?))[j]? = some (some (q.1, e')) := by rw [hC, List.getElem?_map, hj]; rfl
    rw [List.getElem?_map] at h1
    cases hi : isC[j]? with
    | none => rw [hi] at h1; cases h1
    | some i =>
      rw [hi] at h1
      have h2 : ws[i]? = some (q.1, e') := Option.some.inj h1
      have := hD.1 k i q (q.1, e') hq h2 rfl
      exact hm (this ▸ List.mem_of_getElem? hi)
  · exact absurd (hP k q hq).lt (Nat.not_lt.mpr hge)
theorem xend_rw_i {S : Type} {post : Int32 → S → Prop} {wf : S → va_W} {a : Array Value} (hr : va_Run p l e R s m args below meth c H locs cells slots mc ms (F0 m pc ls st0) rest (va_Qi post (fun u t => va_P D cl (wf u) t.heap) (va_A wc H.size) a) (va_A wc H.size)) (hP : va_P D cl ws H) (hD : va_D A0 ws) (hS : va_S A0 H0 H locs) (hA : ∀ q, H0.size ≤ q → A0 q) (isC : List Nat) (hC : isC.map (fun i => ws[i]?) = wc.map some) (hnd : va_nd isC = true) (hwf : ∀ u, (wf u).map Prod.fst = wc.map Prod.fst)
    (kk : ∀ (r : Int32) (u : S) (H1 : Heap) (locs1 : List Loc), post r u → va_P D cl (xset ws isC (wf u)) H1 → va_D A0 (xset ws isC (wf u)) → va_S A0 H0 H1 locs1 → W p l e R s m args below meth c H1 locs1 (cells + mc) (slots + ms) Q (F0 m (pc + 3) ls (.int r :: rest))) : W p l e R s m args below meth c H locs cells slots Q (F0 m pc ls st0) := by
  have hFc := va_free (wc := wc) hD hS hA isC hC
  refine va_calli hr hS (fun q _ h => hFc q h) hFc (fun r u t H1 locs1 ht hvm hp hB hz hk hS1 => ?_)
  rw [ht] at hB
  obtain ⟨h1, h2⟩ := xjoin hP hD isC hC hnd (hwf u) hk hB
  exact kk r u H1 locs1 hp h1 h2 hS1
theorem xend_rw_v {S : Type} {post : S → Prop} {wf : S → va_W} {a : Array Value} (hr : va_Run p l e R s m args below meth c H locs cells slots mc ms (F0 m pc ls st0) rest (va_Qv post (fun u t => va_P D cl (wf u) t.heap) (va_A wc H.size) a) (va_A wc H.size)) (hP : va_P D cl ws H) (hD : va_D A0 ws) (hS : va_S A0 H0 H locs) (hA : ∀ q, H0.size ≤ q → A0 q) (isC : List Nat) (hC : isC.map (fun i => ws[i]?) = wc.map some) (hnd : va_nd isC = true) (hwf : ∀ u, (wf u).map Prod.fst = wc.map Prod.fst)
    (kk : ∀ (u : S) (H1 : Heap) (locs1 : List Loc), post u → va_P D cl (xset ws isC (wf u)) H1 → va_D A0 (xset ws isC (wf u)) → va_S A0 H0 H1 locs1 → W p l e R s m args below meth c H1 locs1 (cells + mc) (slots + ms) Q (F0 m (pc + 3) ls rest)) : W p l e R s m args below meth c H locs cells slots Q (F0 m pc ls st0) := by
  have hFc := va_free (wc := wc) hD hS hA isC hC
  refine va_callv hr hS (fun q _ h => hFc q h) hFc (fun u t H1 locs1 ht hvm hp hB hz hk hS1 => ?_)
  rw [ht] at hB
  obtain ⟨h1, h2⟩ := xjoin hP hD isC hC hnd (hwf u) hk hB
  exact kk u H1 locs1 hp h1 h2 hS1
end XL
