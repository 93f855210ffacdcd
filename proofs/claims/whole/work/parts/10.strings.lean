/-! the five texts of the class and of the reference; the JDK's own methods on them -/
def zLen : List Nat := [4, 5, 3, 4, 6]
def zByt : List (List Int32) := [[114, 111, 119, 115], [112, 117, 112, 105, 108], [98, 97, 114], [109, 111, 118, 101], [109, 97, 115, 116, 101, 114]]
def zCh (i k : Nat) : Int32 := (zByt.getD i []).getD k 0
def zE (adK adV : Nat → Nat) (A : Nat → Prop) (U : State) (H : Heap) : Prop :=
  vk_S 5 zLen zByt adK adV A U H ∧ va_Z "java/lang/String" "COMPACT_STRINGS" "Z" (.int 1) A U H ∧ va_Zq "jdk/internal/util/Preconditions" "SIOOBE_FORMATTER" "Ljava/util/function/BiFunction;" A U H ∧
  (vk_R RX0 36 "rows" (adK 0) U ∧ vk_R RX0 50 "pupil" (adK 1) U ∧ vk_R RX0 58 "bar" (adK 2) U ∧ vk_R RX0 63 "move" (adK 3) U ∧ vk_R RX0 68 "master" (adK 4) U) ∧
  (vk_R RX8 222 "rows" (adK 0) U ∧ vk_R RX8 230 "pupil" (adK 1) U ∧ vk_R RX8 235 "bar" (adK 2) U ∧ vk_R RX8 237 "move" (adK 3) U ∧ vk_R RX8 239 "master" (adK 4) U)
theorem zE.kept {adK adV : Nat → Nat} {A : Nat → Prop} {U : State} {H H1 : Heap} (h : zE adK adV A U H) (hq : ∀ a : Nat, a < H.size → ¬ A a → H1[a]? = H[a]?) : zE adK adV A U H1 := ⟨h.1.kept hq, h.2.1.kept hq, h.2.2.1.kept hq, h.2.2.2⟩
theorem zE.narrow {adK adV : Nat → Nat} {A B : Nat → Prop} {U : State} {H : Heap} (h : zE adK adV A U H) (hAB : ∀ q, B q → A q) : zE adK adV B U H := ⟨h.1.narrow hAB, h.2.1.narrow hAB, h.2.2.1.narrow hAB, h.2.2.2⟩
theorem zE.warm {adK adV : Nat → Nat} {A : Nat → Prop} {s U : State} {H : Heap} (hW : s.WarmedH U.vm) (h : zE adK adV A s H) : zE adK adV A U H := by
  obtain ⟨h1, h2, h3, ⟨a1, a2, a3, a4, a5⟩, b1, b2, b3, b4, b5⟩ := h
  exact ⟨h1.moved hW.alike, h2.moved hW.alike, h3.moved hW.alike, ⟨a1.warm hW, a2.warm hW, a3.warm hW, a4.warm hW, a5.warm hW⟩, b1.warm hW, b2.warm hW, b3.warm hW, b4.warm hW, b5.warm hW⟩
theorem zE.same {adK adV : Nat → Nat} {A : Nat → Prop} {s U : State} {H : Heap} (hv : U.vm = s.vm) (h : zE adK adV A s H) : zE adK adV A U H := by
  obtain ⟨h1, h2, h3, ⟨a1, a2, a3, a4, a5⟩, b1, b2, b3, b4, b5⟩ := h
  have hal : s.vm.Alike U.vm := by rw [hv]; exact Vm.Alike.refl _
  exact ⟨h1.moved hal, h2.moved hal, h3.moved hal, ⟨a1.same hv, a2.same hv, a3.same hv, a4.same hv, a5.same hv⟩, b1.same hv, b2.same hv, b3.same hv, b4.same hv, b5.same hv⟩
def xPreE (D : va_G) (cl : List vw_C) (tys : List (ClassId × FieldType)) (ws : va_W) (sz : Nat) (adK adV : Nat → Nat) : State → Prop := fun U => xPre D cl tys ws sz U ∧ zE adK adV (va_A ws sz) U U.heap
theorem xPreE_blind {D : va_G} {cl : List vw_C} {tys : List (ClassId × FieldType)} {ws : va_W} {sz : Nat} {av : List Value} {adK adV : Nat → Nat} : FrameBlind (va_Pc av (xPreE D cl tys ws sz adK adV)) := fun a U g mk q =>
  ⟨q.1, (xPre_blind a U g mk ⟨q.1, q.2.1⟩).2, zE.same (s := U) rfl q.2.2⟩
def roV : Array Value → State → Outcome → State → Prop := fun _ st o t => o = .returned none ∧ t.heap = st.heap
theorem xMetE {l : Launch} {y : MethodName} {rm : Room} {Qc : Array Value → State → Outcome → State → Prop} {mc ms sz : Nat} {free : Addr → Prop} {cc : ByteArray} {maxL : Nat} {ret : Option FieldType} {D : va_G} {cl : List vw_C} {tys : List (ClassId × FieldType)} {ws : va_W} {own : String} {As : List Value} {adK adV : Nat → Nat}
    (hy : plainName y.cls = true) (hown : y.cls = own) (hlen : (lg_sl As).length ≤ maxL)
    (body : ∀ (p : Program) (e : Env) (s : State) (m : MethodId) (args : Array Value) (below : List Frame) (meth : Method) (c : Code), xC p s m args meth c cc own maxL ret D cl tys → meth.name = y.name → va_P D cl ws s.heap → va_D (va_A ws s.heap.size) ws → s.heap.size = sz → ∀ ls : Array Slot, lv_has ls maxL (lv_args 0 As) → zE adK adV (va_A ws s.heap.size) s s.heap → W p l e rm s m args below meth c s.heap [] 0 0 (MQ below Qc args s mc ms free) (F0 m 0 ls [])) :
    Met l y (Cond.code y cc maxL ret :: wsL_law) rm (va_Pc As (xPreE D cl tys ws sz adK adV)) Qc mc ms free := by
  refine Met.ofW (cc := cc) (maxL := maxL) (ret := ret) hy rfl ?_
  intro p e s m args below meth c s₁ B hml hv
  obtain ⟨rfl, ⟨hsz, hP, hK, hD0, hT⟩, hE⟩ := hv
  have hts := atoms_spec (ws := Cond.code y cc maxL ret :: wsL_law) B.pre
  have hfc : s.vm.findClass own = some m.cls := hown ▸ findClass_of_methodNamed B.named
  have hl := lv_entry As (n := maxL) hlen
  rw [lg_entry_eq]
  generalize (lg_sl As ++ List.replicate (maxL - (lg_sl As).length) Slot.unset).toArray = ls at hl ⊢
  exact body p e s m _ below meth c ⟨B.exec, B.bytes, B.returns, hml, hfc, fun w h => hts w (List.mem_cons_of_mem _ h), B.notSynchronized, hK, hT⟩ (name_of_methodNamed B.named B.method).1 hP hD0.self hsz ls hl (by rw [hsz]; exact hE)
section XLE
variable {p : Program} {l : Launch} {e : Env} {R : Room} {s : State} {m : MethodId} {args : Array Value} {below : List Frame} {meth : Method} {c : Code} {H : Heap} {locs : List Loc} {cells slots : Nat} {Q : State → Prop}
variable {cc : ByteArray} {own : String} {nL : Nat} {rt : Option FieldType} {D : va_G} {cl : List vw_C} {tys : List (ClassId × FieldType)} {A : Nat → Prop} {pc : Nat} {ls : Array Slot} {rest st0 As : List Value} {ws wc : va_W} {adK adV : Nat → Nat}
variable {y : MethodName} {bytes : ByteArray} {maxL index n mc ms : Nat} {ret : Option FieldType} {rm : Room} {Qc : Array Value → State → Outcome → State → Prop} {free : Addr → Prop} {C' : String} {b : Addr}
theorem xro_v (C0 : xC p s m args meth c cc own nL none D cl tys) {free : Addr → Prop} (hdg : decode cc pc = .ok (.return_, 1)) : W p l e R s m args below meth c s.heap [] cells slots (MQ below roV args s cells slots free) (F0 m pc ls []) := by
  obtain ⟨hx, hb, hr, hml, hown, hts, hlocks, hK, hT⟩ := C0
  exact W.vret hx hb hr (fun t ht _ => ⟨rfl, ht⟩) (fun q hq => absurd hq List.not_mem_nil) hdg hlocks
theorem xro_n {ty : FieldType} (C0 : xC p s m args meth c cc own nL (some ty) D cl tys) {v : Int32} {post : Int32 → Prop} {free : Addr → Prop} (hn : narrow ty (.int v) = .int v) (h : post v) (hdg : decode cc pc = .ok (.ireturn, 1)) : W p l e R s m args below meth c s.heap [] cells slots (MQ below (roI post) args s cells slots free) (F0 m pc ls [.int v]) := by
  obtain ⟨hx, hb, hr, hml, hown, hts, hlocks, hK, hT⟩ := C0
  exact W.zret hx hb hr hn (fun t ht _ => ⟨v, rfl, h, ht⟩) (fun q hq => absurd hq List.not_mem_nil) hdg hlocks
theorem xend_ro_v {a : Array Value} (hr : va_Run p l e R s m args below meth c H locs cells slots 0 0 (F0 m pc ls st0) rest (roV a) (fun _ => False)) (kk : W p l e R s m args below meth c H locs cells slots Q (F0 m (pc + 3) ls rest)) : W p l e R s m args below meth c H locs cells slots Q (F0 m pc ls st0) := by
  intro T hT X
  obtain ⟨v, st₀, t, T', L, h0, X', hL, e1, e2, ⟨hv, hb⟩, st⟩ := hr T hT X
  cases hv
  have hL0 : L = [] := List.eq_nil_iff_forall_not_mem.mpr fun q hq => hL q hq
  subst hL0
  rw [List.append_nil] at X'
  obtain ⟨t2, a1, b1⟩ := kk T' (by rw [e1, hb, h0]) X'
  exact ⟨t2, st t2 a1, b1⟩
/-- a call of a method that wants the texts: of an object of the world, or of a text (then the callee's world is empty) -/
theorem xRunVE (C0 : xC p s m args meth c cc own nL rt D cl tys) (hE : zE adK adV A s s.heap) (hS : va_S A s.heap H locs) (hA : ∀ q, s.heap.size ≤ q → A q) (hM : Met l y (Cond.code y bytes maxL ret :: wsL_law) rm (va_Pc (.ref b :: As) (xPreE D cl tys wc H.size adK adV)) Qc mc ms free) (ky : xV C' y bytes maxL ret n) (hlink : Cond.methodLink own index y ∈ wsL_law) (hrc : rm.cells = mc ∧ rm.slots = ms) (hR : rm.frames + 1 ≤ R.frames ∧ 8 + (maxL + 11) + rm.locals ≤ R.locals)
    (hP : va_P D cl ws H) (hD : va_D A ws) (isC : List Nat) (hC : isC.map (fun i => ws[i]?) = wc.map some) (hnd : va_nd isC = true) (hrecv : va_P D cl wc H → ∃ cellB : Cell, H[b]? = some cellB ∧ cellB.vm.isStatics = false ∧ s.vm.findClass C' = some cellB.cls) {lvs : List (Nat × Value)} (hl : lv_has ls nL lvs) (hn : As.length = n) (hst : st0 = As.reverse ++ .ref b :: rest) (hW : (rest.map fun v => v.category).sum ≤ 8) (hdg : decode cc pc = .ok (.invokevirtual index, 3)) (hf : cells + mc ≤ R.cells ∧ slots + ms ≤ R.slots) :
    va_Run p l e R s m args below meth c H locs cells slots mc ms (F0 m pc ls st0) rest (Qc (Value.ref b :: As).toArray) free := by
  obtain ⟨hx, hb, hr, hml, hown, hts, hlocks, hK, hT⟩ := C0
  obtain ⟨k1, k2, k3, k4, k5, k6, k7, k8⟩ := ky
  have hPc := hP.sub (ws' := wc) isC (by
    have h1 := congrArg (fun l => l.filterMap id) hC
    simpa [List.filterMap_map, Function.comp_def] using h1)
  have hDc := hD.sub (ws' := wc) isC hnd hC
  have hFc := va_free (wc := wc) hD hS hA isC hC
  have hE1 := (hE.kept hS.2.1).narrow hFc
  refine va_runV (As := As) (rest := rest) ⟨hx, hb, hml, hown, hts⟩ hM (cwV (ws' := wsL_law) n hts ?_ rfl hrc.1 hrc.2 ⟨k5, k6, k7, k8⟩ hR) ⟨xPreE_blind, hrecv hPc, fun U hU hW => ⟨rfl, ⟨by rw [hU], by rw [hU]; exact hPc, va_K.moved hW.alike hK, hDc.weaken (fun _ _ _ _ => trivial), hT.warm hW⟩, by rw [hU]; exact hE1.warm hW⟩⟩ rfl hn hl.1 hst (lv_room hW) hdg hf
  intro w hw
  rcases List.mem_append.mp hw with h | h
  · simp only [List.mem_cons, List.not_mem_nil, or_false] at h
    rcases h with rfl | rfl | rfl | rfl
    · exact ⟨hlink, (xgood _ hlink).2⟩
    · exact ⟨k1, (xgood _ k1).2⟩
    · exact ⟨k2, (xgood _ k2).2⟩
    · exact ⟨k3, (xgood _ k3).2⟩
  · exact xpay k4 w h
theorem xRunVE_id (C0 : xC p s m args meth c cc own nL rt D cl tys) (hE : zE adK adV A s s.heap) (hS : va_S A s.heap H locs) (hA : ∀ q, s.heap.size ≤ q → A q) (hM : Met l y (Cond.code y bytes maxL ret :: wsL_law) rm (va_Pc (.ref b :: As) (xPreE D cl tys ws H.size adK adV)) Qc mc ms free) (ky : xV C' y bytes maxL ret n) (hlink : Cond.methodLink own index y ∈ wsL_law) (hrc : rm.cells = mc ∧ rm.slots = ms) (hR : rm.frames + 1 ≤ R.frames ∧ 8 + (maxL + 11) + rm.locals ≤ R.locals)
    (hP : va_P D cl ws H) (hD : va_D A ws) (hrecv : va_P D cl ws H → ∃ cellB : Cell, H[b]? = some cellB ∧ cellB.vm.isStatics = false ∧ s.vm.findClass C' = some cellB.cls) {lvs : List (Nat × Value)} (hl : lv_has ls nL lvs) (hn : As.length = n) (hst : st0 = As.reverse ++ .ref b :: rest) (hW : (rest.map fun v => v.category).sum ≤ 8) (hdg : decode cc pc = .ok (.invokevirtual index, 3)) (hf : cells + mc ≤ R.cells ∧ slots + ms ≤ R.slots) :
    va_Run p l e R s m args below meth c H locs cells slots mc ms (F0 m pc ls st0) rest (Qc (Value.ref b :: As).toArray) free := by
  obtain ⟨hx, hb, hr, hml, hown, hts, hlocks, hK, hT⟩ := C0
  obtain ⟨k1, k2, k3, k4, k5, k6, k7, k8⟩ := ky
  have hFc := xfree_id (H1 := H) hD hS hA
  have hE1 := (hE.kept hS.2.1).narrow hFc
  refine va_runV (As := As) (rest := rest) ⟨hx, hb, hml, hown, hts⟩ hM (cwV (ws' := wsL_law) n hts ?_ rfl hrc.1 hrc.2 ⟨k5, k6, k7, k8⟩ hR) ⟨xPreE_blind, hrecv hP, fun U hU hW => ⟨rfl, ⟨by rw [hU], by rw [hU]; exact hP, va_K.moved hW.alike hK, hD.weaken (fun _ _ _ _ => trivial), hT.warm hW⟩, by rw [hU]; exact hE1.warm hW⟩⟩ rfl hn hl.1 hst (lv_room hW) hdg hf
  intro w hw
  rcases List.mem_append.mp hw with h | h
  · simp only [List.mem_cons, List.not_mem_nil, or_false] at h
    rcases h with rfl | rfl | rfl | rfl
    · exact ⟨hlink, (xgood _ hlink).2⟩
    · exact ⟨k1, (xgood _ k1).2⟩
    · exact ⟨k2, (xgood _ k2).2⟩
    · exact ⟨k3, (xgood _ k3).2⟩
  · exact xpay k4 w h
theorem xRunSE (C0 : xC p s m args meth c cc own nL rt D cl tys) (hE : zE adK adV A s s.heap) (hS : va_S A s.heap H locs) (hA : ∀ q, s.heap.size ≤ q → A q) (hM : Met l y (Cond.code y bytes maxL ret :: wsL_law) rm (va_Pc As (xPreE D cl tys [] H.size adK adV)) Qc mc ms free) (ky : xSt C' y bytes maxL ret n) (hlink : Cond.methodLink own index y ∈ wsL_law) (hrc : rm.cells = mc ∧ rm.slots = ms) (hR : rm.frames + 1 ≤ R.frames ∧ 8 + (maxL + 11) + rm.locals ≤ R.locals)
    {lvs : List (Nat × Value)} (hl : lv_has ls nL lvs) (hn : As.length = n) (hst : st0 = As.reverse ++ rest) (hW : (rest.map fun v => v.category).sum ≤ 8) (hdg : decode cc pc = .ok (.invokestatic index, 3)) (hf : cells + mc ≤ R.cells ∧ slots + ms ≤ R.slots) :
    va_Run p l e R s m args below meth c H locs cells slots mc ms (F0 m pc ls st0) rest (Qc As.toArray) free := by
  obtain ⟨hx, hb, hr, hml, hown, hts, hlocks, hK, hT⟩ := C0
  obtain ⟨k1, k3, k4, k5, k6, k7, k8⟩ := ky
  have hE1 : zE adK adV (va_A [] H.size) s H := (hE.kept hS.2.1).narrow (fun q hq => by
    rcases hq with ⟨k, e, hk⟩ | h
    · simp at hk
    · exact hA q (Nat.le_trans hS.1 h))
  exact va_runS (As := As) (rest := rest) ⟨hx, hb, hml, hown, hts⟩ hM ⟨callB_of (ws' := wsL_law) n hts (xpay k4) rfl hrc.1 hrc.2 (hts _ (by rw [k5]; exact k3)) (hts _ hlink) ⟨k6, k7, k8⟩ hR, hts _ k1⟩ ⟨xPreE_blind, fun U hU hW => ⟨rfl, ⟨by rw [hU], by rw [hU]; exact (fun k q h => by simp at h), va_K.moved hW.alike hK, ⟨fun i j p q h => by simp at h, fun k q h => by simp at h⟩, hT.warm hW⟩, by rw [hU]; exact hE1.warm hW⟩⟩ rfl hn hl.1 hst (lv_room hW) hdg hf
end XLE
abbrev rm00 : Room := { frames := 0, cells := 0, slots := 0, locals := 0 }
abbrev rm1 : Room := { frames := 1, cells := 0, slots := 0, locals := 30 }
abbrev rm2 : Room := { frames := 2, cells := 0, slots := 0, locals := 60 }
abbrev rm3 : Room := { frames := 3, cells := 0, slots := 0, locals := 90 }
abbrev rm4 : Room := { frames := 4, cells := 0, slots := 0, locals := 120 }
section XJD
variable {l : Launch} {D : va_G} {K : Nat → ClassId} {adK adV : Nat → Nat} {sz i : Nat} {post : Int32 → Prop}
set_option maxHeartbeats 4000000 in
set_option maxRecDepth 100000 in
theorem c_J0_coder (hi : i < 5) (h : post 0) : Met l yJ0_coder_7d493 (Cond.code yJ0_coder_7d493 cJ0_coder_7d493 1 (some .byte) :: wsL_law) rm00 (va_Pc [.ref (adK i)] (xPreE D vwCl (xty K) [] sz adK adV)) (roI post) 0 0 (fun _ => False) := by
  refine xMetE (by decide) rfl (Nat.le_of_ble_eq_true rfl) (fun p e s m args below meth c C hnm hP hD hsz ls hl hE => ?_)
  have hl : lv_has ls 1 [(0, .ref (adK i))] := hl
  obtain ⟨hx, hb, hr, hml, hown, hts, hlocks, hK, hT⟩ := id C
  refine va_gets hx hb hE.2.1 va_S.rf hown (hts _ mw_557) (fun _ h9 => h9) dJ0_coder_7d493_0 ?_
  refine lv_if_eq (tgt := 13) hx hb dJ0_coder_7d493_3 (by decide) (fun c1 => absurd c1 (by decide)) (fun c1 => ?_)
  refine lv_aload_n hx hb dJ0_coder_7d493_6 rfl (lv_at hl 0 rfl) ?_
  refine vk_getf hx hb (hE.1.1 i hi).2.1 va_S.rf hown (hts _ mw_558) (fun _ h9 => h9) dJ0_coder_7d493_7 ?_
  refine lv_goto (tgt := 14) hx hb dJ0_coder_7d493_10 (by decide) ?_
  exact xro_n C rfl h dJ0_coder_7d493_14
set_option maxHeartbeats 4000000 in
set_option maxRecDepth 100000 in
theorem c_J0_isLatin1 (hi : i < 5) (h : post 1) : Met l yJ0_isLatin1_aae02 (Cond.code yJ0_isLatin1_aae02 cJ0_isLatin1_aae02 1 (some .boolean) :: wsL_law) rm00 (va_Pc [.ref (adK i)] (xPreE D vwCl (xty K) [] sz adK adV)) (roI post) 0 0 (fun _ => False) := by
  refine xMetE (by decide) rfl (Nat.le_of_ble_eq_true rfl) (fun p e s m args below meth c C hnm hP hD hsz ls hl hE => ?_)
  have hl : lv_has ls 1 [(0, .ref (adK i))] := hl
  obtain ⟨hx, hb, hr, hml, hown, hts, hlocks, hK, hT⟩ := id C
  refine va_gets hx hb hE.2.1 va_S.rf hown (hts _ mw_557) (fun _ h9 => h9) dJ0_isLatin1_aae02_0 ?_
  refine lv_if_eq (tgt := 17) hx hb dJ0_isLatin1_aae02_3 (by decide) (fun c1 => absurd c1 (by decide)) (fun c1 => ?_)
  refine lv_aload_n hx hb dJ0_isLatin1_aae02_6 rfl (lv_at hl 0 rfl) ?_
  refine vk_getf hx hb (hE.1.1 i hi).2.1 va_S.rf hown (hts _ mw_558) (fun _ h9 => h9) dJ0_isLatin1_aae02_7 ?_
  refine lv_if_ne (tgt := 17) hx hb dJ0_isLatin1_aae02_10 (by decide) (fun c1 => absurd rfl c1) (fun c1 => ?_)
  refine lv_iconst (v := 1) hx hb dJ0_isLatin1_aae02_13 (by decide) ?_
  refine lv_goto (tgt := 18) hx hb dJ0_isLatin1_aae02_14 (by decide) ?_
  exact xro_z C rfl h dJ0_isLatin1_aae02_18
set_option maxHeartbeats 4000000 in
set_option maxRecDepth 100000 in
theorem c_J0_length_8abf5 (hi : i < 5) (h : post (nI (zLen.getD i 0))) : Met l yJ0_length_8abf5 (Cond.code yJ0_length_8abf5 cJ0_length_8abf5 1 (some .int) :: wsL_law) rm1 (va_Pc [.ref (adK i)] (xPreE D vwCl (xty K) [] sz adK adV)) (roI post) 0 0 (fun _ => False) := by
  refine xMetE (by decide) rfl (Nat.le_of_ble_eq_true rfl) (fun p e s m args below meth c C hnm hP hD hsz ls hl hE => ?_)
  have hl : lv_has ls 1 [(0, .ref (adK i))] := hl
  obtain ⟨hx, hb, hr, hml, hown, hts, hlocks, hK, hT⟩ := id C
  have hS : va_S (va_A [] s.heap.size) s.heap s.heap [] := va_S.rf
  refine lv_aload_n hx hb dJ0_length_8abf5_0 rfl (lv_at hl 0 rfl) ?_
  refine vk_getf hx hb (hE.1.1 i hi).2.2.1 va_S.rf hown (hts _ mw_552) (fun _ h9 => h9) dJ0_length_8abf5_1 ?_
  refine va_tlen hx hb (hE.1.1 i hi).2.2.2 va_S.rf rfl dJ0_length_8abf5_4 ?_
  refine lv_aload_n hx hb dJ0_length_8abf5_5 rfl (lv_at hl 0 rfl) ?_
  refine xend_ro_i (xRunVE (wc := []) (As := []) C hE hS (fun q h => Or.inr h) (c_J0_coder (post := fun v => v = 0) hi rfl) k_J0_coder_7d493 mw_553 ⟨rfl, rfl⟩ ⟨Nat.le_of_ble_eq_true rfl, Nat.le_of_ble_eq_true rfl⟩ hP hD [] rfl rfl (fun _ => vk_recv hE.1 hi hS) hl rfl rfl (Nat.le_of_ble_eq_true rfl) dJ0_length_8abf5_6 ⟨Nat.le_refl _, Nat.le_refl _⟩) (fun v hv => ?_)
  subst hv
  refine lv_ishr hx hb dJ0_length_8abf5_9 ?_
  refine xro_i C ?_ dJ0_length_8abf5_10
  rw [show Int32.ofNat (zLen.getD i 0) >>> ((0 : Int32) &&& 31) = nI (zLen.getD i 0) from sb_shr0 _]
  exact h
set_option maxHeartbeats 4000000 in
set_option maxRecDepth 100000 in
theorem c_J3_checkIndex {a b : Int32} {r : Option Nat} (h1 : ¬ a < 0) (h2 : a < b) : Met l yJ3_checkIndex_8e157 (Cond.code yJ3_checkIndex_8e157 cJ3_checkIndex_8e157 3 (some .int) :: wsL_law) rm00 (va_Pc [.int a, .int b, va_rf r] (xPreE D vwCl (xty K) [] sz adK adV)) (roI (fun _ => True)) 0 0 (fun _ => False) := by
  have key : ∀ (As : List Value) (lv : List (Nat × Value)), (lg_sl As).length ≤ 3 → lv_args 0 As = lv → lv[0]? = some (0, .int a) → lv[1]? = some (1, .int b) → Met l yJ3_checkIndex_8e157 (Cond.code yJ3_checkIndex_8e157 cJ3_checkIndex_8e157 3 (some .int) :: wsL_law) rm00 (va_Pc As (xPreE D vwCl (xty K) [] sz adK adV)) (roI (fun _ => True)) 0 0 (fun _ => False) := by
    intro As lv hle he e0 e1
    refine xMetE (by decide) rfl hle (fun p e s m args below meth c C hnm hP hD hsz ls hl hE => ?_)
    rw [he] at hl
    obtain ⟨hx, hb, hr, hml, hown, hts, hlocks, hK, hT⟩ := id C
    refine lv_iload_n hx hb dJ3_checkIndex_8e157_0 rfl (lv_at hl 0 e0) ?_
    refine lv_if_lt (tgt := 9) hx hb dJ3_checkIndex_8e157_1 (by decide) (fun c1 => absurd c1 h1) (fun c1 => ?_)
    refine lv_iload_n hx hb dJ3_checkIndex_8e157_4 rfl (lv_at hl 0 e0) ?_
    refine lv_iload_n hx hb dJ3_checkIndex_8e157_5 rfl (lv_at hl 1 e1) ?_
    refine lv_icmp_lt (tgt := 16) hx hb dJ3_checkIndex_8e157_6 (by decide) (fun c2 => ?_) (fun c2 => absurd h2 c2)
    refine lv_iload_n hx hb dJ3_checkIndex_8e157_16 rfl (lv_at hl 0 e0) ?_
    exact xro_i C trivial dJ3_checkIndex_8e157_17
  cases r with
  | none => exact key [.int a, .int b, .null] [(0, .int a), (1, .int b), (2, .null)] (Nat.le_of_ble_eq_true rfl) rfl rfl rfl
  | some r => exact key [.int a, .int b, .ref r] [(0, .int a), (1, .int b), (2, .ref r)] (Nat.le_of_ble_eq_true rfl) rfl rfl rfl
set_option maxHeartbeats 4000000 in
set_option maxRecDepth 100000 in
theorem c_J0_checkIndex {a b : Int32} (h1 : ¬ a < 0) (h2 : a < b) : Met l yJ0_checkIndex_df160 (Cond.code yJ0_checkIndex_df160 cJ0_checkIndex_df160 2 none :: wsL_law) rm1 (va_Pc [.int a, .int b] (xPreE D vwCl (xty K) [] sz adK adV)) roV 0 0 (fun _ => False) := by
  refine xMetE (by decide) rfl (Nat.le_of_ble_eq_true rfl) (fun p e s m args below meth c C hnm hP hD hsz ls hl hE => ?_)
  have hl : lv_has ls 2 [(0, .int a), (1, .int b)] := hl
  obtain ⟨hx, hb, hr, hml, hown, hts, hlocks, hK, hT⟩ := id C
  have hS : va_S (va_A [] s.heap.size) s.heap s.heap [] := va_S.rf
  have goal : ∀ r : Option Nat, va_Z "jdk/internal/util/Preconditions" "SIOOBE_FORMATTER" "Ljava/util/function/BiFunction;" (va_rf r) (va_A [] s.heap.size) s s.heap → W p l e rm1 s m args below meth c s.heap [] 0 0 (MQ below roV args s 0 0 (fun _ => False)) (F0 m 0 ls []) := by
    intro r hZ
    refine lv_iload_n hx hb dJ0_checkIndex_df160_0 rfl (lv_at hl 0 rfl) ?_
    refine lv_iload_n hx hb dJ0_checkIndex_df160_1 rfl (lv_at hl 1 rfl) ?_
    refine va_gets hx hb hZ va_S.rf hown (hts _ mw_574) (fun _ h9 => h9) dJ0_checkIndex_df160_2 ?_
    refine xend_ro_i (xRunSE (As := [.int a, .int b, va_rf r]) (rest := []) C hE hS (fun q h => Or.inr h) (c_J3_checkIndex h1 h2) k_J3_checkIndex_8e157 mw_575 ⟨rfl, rfl⟩ ⟨Nat.le_of_ble_eq_true rfl, Nat.le_of_ble_eq_true rfl⟩ hl rfl rfl (Nat.le_of_ble_eq_true rfl) dJ0_checkIndex_df160_5 ⟨Nat.le_refl _, Nat.le_refl _⟩) (fun v hv => ?_)
    refine lv_pop hx hb dJ0_checkIndex_df160_8 rfl ?_
    exact xro_v C dJ0_checkIndex_df160_9
  rcases hE.2.2.1 with h | ⟨t, h⟩
  · exact goal none h
  · exact goal (some t) h
theorem zCh_ok : ∀ i, i < 5 → ∀ k, k < zLen.getD i 0 → ((zCh i k &&& 255).toUInt32 % 65536).toInt32 = zCh i k ∧ narrow .char (.int (zCh i k)) = .int (zCh i k) := by decide +kernel
set_option maxHeartbeats 4000000 in
set_option maxRecDepth 100000 in
theorem c_J1_charAt {k : Int32} (hi : i < 5) (hk : vp_in k (zLen.getD i 0)) (h : post (zCh i k.toNatClampNeg)) : Met l yJ1_charAt_3b067 (Cond.code yJ1_charAt_3b067 cJ1_charAt_3b067 2 (some .char) :: wsL_law) rm2 (va_Pc [.ref (adV i), .int k] (xPreE D vwCl (xty K) [] sz adK adV)) (roI post) 0 0 (fun _ => False) := by
  refine xMetE (by decide) rfl (Nat.le_of_ble_eq_true rfl) (fun p e s m args below meth c C hnm hP hD hsz ls hl hE => ?_)
  have hl : lv_has ls 2 [(0, .ref (adV i)), (1, .int k)] := hl
  obtain ⟨hx, hb, hr, hml, hown, hts, hlocks, hK, hT⟩ := id C
  have hS : va_S (va_A [] s.heap.size) s.heap s.heap [] := va_S.rf
  have hlt : zLen.getD i 0 < 2 ^ 31 := by
    have : ∀ i, i < 5 → zLen.getD i 0 < 2 ^ 31 := by decide +kernel
    exact this i hi
  obtain ⟨j, hj, rfl⟩ := vp_in_of hk hlt
  refine lv_iload_n hx hb dJ1_charAt_3b067_0 rfl (lv_at hl 1 rfl) ?_
  refine lv_aload_n hx hb dJ1_charAt_3b067_1 rfl (lv_at hl 0 rfl) ?_
  refine va_tlen hx hb (hE.1.1 i hi).2.2.2 va_S.rf rfl dJ1_charAt_3b067_2 ?_
  refine xend_ro_v (xRunSE (As := [.int (nI j), .int (Int32.ofNat (zLen.getD i 0))]) (rest := []) C hE hS (fun q h => Or.inr h) (c_J0_checkIndex (nI_pos (by omega)) (nI_lt hj hlt)) k_J0_checkIndex_df160 mw_571 ⟨rfl, rfl⟩ ⟨Nat.le_of_ble_eq_true rfl, Nat.le_of_ble_eq_true rfl⟩ hl rfl rfl (Nat.le_of_ble_eq_true rfl) dJ1_charAt_3b067_3 ⟨Nat.le_refl _, Nat.le_refl _⟩) ?_
  refine lv_aload_n hx hb dJ1_charAt_3b067_6 rfl (lv_at hl 0 rfl) ?_
  refine lv_iload_n hx hb dJ1_charAt_3b067_7 rfl (lv_at hl 1 rfl) ?_
  refine va_tb hx hb (hE.1.1 i hi).2.2.2 va_S.rf hk rfl dJ1_charAt_3b067_8 ?_
  refine lv_sipush (v := 255) hx hb dJ1_charAt_3b067_9 (by decide) ?_
  refine lv_iand hx hb dJ1_charAt_3b067_12 ?_
  have e := zCh_ok i hi (nI j).toNatClampNeg (by rw [nI_clamp (by omega)]; exact hj)
  refine lv_i2c (v := zCh i (nI j).toNatClampNeg) hx hb dJ1_charAt_3b067_13 e.1 ?_
  exact xro_n C e.2 h dJ1_charAt_3b067_14
set_option maxHeartbeats 4000000 in
set_option maxRecDepth 100000 in
theorem c_J0_charAt_5068e {k : Int32} (hi : i < 5) (hk : vp_in k (zLen.getD i 0)) (h : post (zCh i k.toNatClampNeg)) : Met l yJ0_charAt_5068e (Cond.code yJ0_charAt_5068e cJ0_charAt_5068e 2 (some .char) :: wsL_law) rm3 (va_Pc [.ref (adK i), .int k] (xPreE D vwCl (xty K) [] sz adK adV)) (roI post) 0 0 (fun _ => False) := by
  refine xMetE (by decide) rfl (Nat.le_of_ble_eq_true rfl) (fun p e s m args below meth c C hnm hP hD hsz ls hl hE => ?_)
  have hl : lv_has ls 2 [(0, .ref (adK i)), (1, .int k)] := hl
  obtain ⟨hx, hb, hr, hml, hown, hts, hlocks, hK, hT⟩ := id C
  have hS : va_S (va_A [] s.heap.size) s.heap s.heap [] := va_S.rf
  have hlt : zLen.getD i 0 < 2 ^ 31 := by
    have : ∀ i, i < 5 → zLen.getD i 0 < 2 ^ 31 := by decide +kernel
    exact this i hi
  refine lv_aload_n hx hb dJ0_charAt_5068e_0 rfl (lv_at hl 0 rfl) ?_
  refine xend_ro_i (xRunVE (wc := []) (As := []) C hE hS (fun q h => Or.inr h) (c_J0_isLatin1 (post := fun v => v = 1) hi rfl) k_J0_isLatin1_aae02 mw_563 ⟨rfl, rfl⟩ ⟨Nat.le_of_ble_eq_true rfl, Nat.le_of_ble_eq_true rfl⟩ hP hD [] rfl rfl (fun _ => vk_recv hE.1 hi hS) hl rfl rfl (Nat.le_of_ble_eq_true rfl) dJ0_charAt_5068e_1 ⟨Nat.le_refl _, Nat.le_refl _⟩) (fun v hv => ?_)
  subst hv
  refine lv_if_eq (tgt := 16) hx hb dJ0_charAt_5068e_4 (by decide) (fun c1 => absurd c1 (by decide)) (fun c1 => ?_)
  refine lv_aload_n hx hb dJ0_charAt_5068e_7 rfl (lv_at hl 0 rfl) ?_
  refine vk_getf hx hb (hE.1.1 i hi).2.2.1 va_S.rf hown (hts _ mw_552) (fun _ h9 => h9) dJ0_charAt_5068e_8 ?_
  refine lv_iload_n hx hb dJ0_charAt_5068e_11 rfl (lv_at hl 1 rfl) ?_
  refine xend_ro_i (xRunSE (As := [.ref (adV i), .int k]) (rest := []) C hE hS (fun q h => Or.inr h) (c_J1_charAt (post := fun v => v = zCh i k.toNatClampNeg) hi hk rfl) k_J1_charAt_3b067 mw_567 ⟨rfl, rfl⟩ ⟨Nat.le_of_ble_eq_true rfl, Nat.le_of_ble_eq_true rfl⟩ hl rfl rfl (Nat.le_of_ble_eq_true rfl) dJ0_charAt_5068e_12 ⟨Nat.le_refl _, Nat.le_refl _⟩) (fun v hv => ?_)
  subst hv
  obtain ⟨j, hj, rfl⟩ := vp_in_of hk hlt
  have e := zCh_ok i hi (nI j).toNatClampNeg (by rw [nI_clamp (by omega)]; exact hj)
  exact xro_n C e.2 h dJ0_charAt_5068e_15
end XJD
