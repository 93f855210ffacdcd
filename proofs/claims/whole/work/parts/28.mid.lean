/-! a call whose callee's world stands in the middle of the caller's -/
section XMID
variable {p : Program} {l : Launch} {e : Env} {R : Room} {s : State} {m : MethodId} {args : Array Value} {below : List Frame} {meth : Method} {c : Code} {H H0 H1 : Heap} {locs : List Loc} {cells slots : Nat} {Q : State → Prop}
variable {cc : ByteArray} {own : String} {nL : Nat} {rt : Option FieldType} {D : va_G} {cl : List vw_C} {tys : List (ClassId × FieldType)} {A A0 : Nat → Prop} {pc : Nat} {ls : Array Slot} {rest st0 As : List Value} {wa w w1 wb : va_W} {adK adV : Nat → Nat}
theorem xjoin_mid (hP : va_P D cl (wa ++ (w ++ wb)) H) (hD : va_D A0 (wa ++ (w ++ wb))) (hk : ∀ x : Nat, x < H.size → ¬ va_A w H.size x → H1[x]? = H[x]?) (hF : ∀ x, va_A w H.size x → A0 x) (hP1 : va_P D cl w1 H1) (hD1 : va_D (va_A w H.size) w1) : va_P D cl (wa ++ (w1 ++ wb)) H1 ∧ va_D A0 (wa ++ (w1 ++ wb)) := by
  have hP2 : va_P D cl ((wa ++ wb) ++ w) H := va_P.swap (by rw [List.append_assoc]; exact hP)
  have hD2 : va_D A0 ((wa ++ wb) ++ w) := va_D.swap (by rw [List.append_assoc]; exact hD)
  obtain ⟨h1, h2⟩ := xjoin_new hP2 hD2 hk hF hP1 hD1
  have h3 := va_P.swap h1
  have h4 := va_D.swap h2
  rw [List.append_assoc] at h3 h4
  exact ⟨h3, h4⟩
theorem xfree_mid (hD : va_D A0 (wa ++ (w ++ wb))) (hS : va_S A0 H0 H locs) (hA : ∀ q, H0.size ≤ q → A0 q) : ∀ x, va_A w H.size x → A0 x := by
  rintro x (⟨k, e, hk⟩ | h)
  · exact hD.2 _ _ (xix_r (xix_l hk))
  · exact hA x (Nat.le_trans hS.1 h)
variable {y : MethodName} {bytes : ByteArray} {maxL index n mc ms : Nat} {ret : Option FieldType} {rm : Room} {Qc : Array Value → State → Outcome → State → Prop} {free : Addr → Prop} {C' : String} {b : Addr}
theorem xRunV_mid (C0 : xC p s m args meth c cc own nL rt D cl tys) (hM : Met l y (Cond.code y bytes maxL ret :: wsL_law) rm (va_Pc (.ref b :: As) (xPre D cl tys w H.size)) Qc mc ms free) (ky : xV C' y bytes maxL ret n) (hlink : Cond.methodLink own index y ∈ wsL_law) (hrc : rm.cells = mc ∧ rm.slots = ms) (hR : rm.frames + 1 ≤ R.frames ∧ 8 + (maxL + 11) + rm.locals ≤ R.locals)
    (hP : va_P D cl (wa ++ (w ++ wb)) H) (hD : va_D A0 (wa ++ (w ++ wb))) {ci : Nat} {fs : List Value} {T : u_T} {N : Nat} (hrec : w[0]? = some (b, .inr (ci, fs))) (hcl : cl[ci]? = some (C', T, N)) {lvs : List (Nat × Value)} (hl : lv_has ls nL lvs) (hn : As.length = n) (hst : st0 = As.reverse ++ .ref b :: rest) (hW : (rest.map fun v => v.category).sum ≤ 8) (hdg : decode cc pc = .ok (.invokevirtual index, 3)) (hf : cells + mc ≤ R.cells ∧ slots + ms ≤ R.slots) :
    va_Run p l e R s m args below meth c H locs cells slots mc ms (F0 m pc ls st0) rest (Qc (Value.ref b :: As).toArray) free := by
  obtain ⟨hx, hb, hr, hml, hown, hts, hlocks, hK, hT⟩ := C0
  obtain ⟨k1, k2, k3, k4, k5, k6, k7, k8⟩ := ky
  have hPc := xP_l (xP_r hP)
  have hDc := xD_l (xD_r hD)
  refine va_runV (As := As) (rest := rest) ⟨hx, hb, hml, hown, hts⟩ hM (cwV (ws' := wsL_law) n hts ?_ rfl hrc.1 hrc.2 ⟨k5, k6, k7, k8⟩ hR) ⟨xPre_blind, va_recv hK hPc hcl hrec, fun U hU hW => ⟨rfl, by rw [hU], by rw [hU]; exact hPc, va_K.moved hW.alike hK, hDc.weaken (fun _ _ _ _ => trivial), hT.warm hW⟩⟩ rfl hn hl.1 hst (lv_room hW) hdg hf
  intro w hw
  rcases List.mem_append.mp hw with h | h
  · simp only [List.mem_cons, List.not_mem_nil, or_false] at h
    rcases h with rfl | rfl | rfl | rfl
    · exact ⟨hlink, (xgood _ hlink).2⟩
    · exact ⟨k1, (xgood _ k1).2⟩
    · exact ⟨k2, (xgood _ k2).2⟩
    · exact ⟨k3, (xgood _ k3).2⟩
  · exact xpay k4 w h
theorem xRunVE_mid (C0 : xC p s m args meth c cc own nL rt D cl tys) (hE : zE adK adV A s s.heap) (hS : va_S A s.heap H locs) (hA : ∀ q, s.heap.size ≤ q → A q) (hM : Met l y (Cond.code y bytes maxL ret :: wsL_law) rm (va_Pc (.ref b :: As) (xPreE D cl tys w H.size adK adV)) Qc mc ms free) (ky : xV C' y bytes maxL ret n) (hlink : Cond.methodLink own index y ∈ wsL_law) (hrc : rm.cells = mc ∧ rm.slots = ms) (hR : rm.frames + 1 ≤ R.frames ∧ 8 + (maxL + 11) + rm.locals ≤ R.locals)
    (hP : va_P D cl (wa ++ (w ++ wb)) H) (hD : va_D A (wa ++ (w ++ wb))) {ci : Nat} {fs : List Value} {T : u_T} {N : Nat} (hrec : w[0]? = some (b, .inr (ci, fs))) (hcl : cl[ci]? = some (C', T, N)) {lvs : List (Nat × Value)} (hl : lv_has ls nL lvs) (hn : As.length = n) (hst : st0 = As.reverse ++ .ref b :: rest) (hW : (rest.map fun v => v.category).sum ≤ 8) (hdg : decode cc pc = .ok (.invokevirtual index, 3)) (hf : cells + mc ≤ R.cells ∧ slots + ms ≤ R.slots) :
    va_Run p l e R s m args below meth c H locs cells slots mc ms (F0 m pc ls st0) rest (Qc (Value.ref b :: As).toArray) free := by
  obtain ⟨hx, hb, hr, hml, hown, hts, hlocks, hK, hT⟩ := C0
  obtain ⟨k1, k2, k3, k4, k5, k6, k7, k8⟩ := ky
  have hPc := xP_l (xP_r hP)
  have hDc := xD_l (xD_r hD)
  have hE1 := (hE.kept hS.2.1).narrow (xfree_mid hD hS hA)
  refine va_runV (As := As) (rest := rest) ⟨hx, hb, hml, hown, hts⟩ hM (cwV (ws' := wsL_law) n hts ?_ rfl hrc.1 hrc.2 ⟨k5, k6, k7, k8⟩ hR) ⟨xPreE_blind, va_recv hK hPc hcl hrec, fun U hU hW => ⟨rfl, ⟨by rw [hU], by rw [hU]; exact hPc, va_K.moved hW.alike hK, hDc.weaken (fun _ _ _ _ => trivial), hT.warm hW⟩, by rw [hU]; exact hE1.warm hW⟩⟩ rfl hn hl.1 hst (lv_room hW) hdg hf
  intro w hw
  rcases List.mem_append.mp hw with h | h
  · simp only [List.mem_cons, List.not_mem_nil, or_false] at h
    rcases h with rfl | rfl | rfl | rfl
    · exact ⟨hlink, (xgood _ hlink).2⟩
    · exact ⟨k1, (xgood _ k1).2⟩
    · exact ⟨k2, (xgood _ k2).2⟩
    · exact ⟨k3, (xgood _ k3).2⟩
  · exact xpay k4 w h
theorem xend_rw_i_mid {S : Type} {post : Int32 → S → Prop} {wf : S → va_W} {a : Array Value} (hr : va_Run p l e R s m args below meth c H locs cells slots mc ms (F0 m pc ls st0) rest (va_Qi post (fun u t => va_P D cl (wf u) t.heap) (va_A w H.size) a) (va_A w H.size)) (hP : va_P D cl (wa ++ (w ++ wb)) H) (hD : va_D A0 (wa ++ (w ++ wb))) (hS : va_S A0 H0 H locs) (hA : ∀ q, H0.size ≤ q → A0 q) (hwf : ∀ u, (wf u).map Prod.fst = w.map Prod.fst)
    (kk : ∀ (r : Int32) (u : S) (H1 : Heap) (locs1 : List Loc), post r u → va_P D cl (wa ++ (wf u ++ wb)) H1 → va_D A0 (wa ++ (wf u ++ wb)) → va_S A0 H0 H1 locs1 → W p l e R s m args below meth c H1 locs1 (cells + mc) (slots + ms) Q (F0 m (pc + 3) ls (.int r :: rest))) : W p l e R s m args below meth c H locs cells slots Q (F0 m pc ls st0) := by
  have hFc := xfree_mid hD hS hA
  refine va_calli hr hS (fun q _ h => hFc q h) hFc (fun r u t H1 locs1 ht hvm hp hB hz hk hS1 => ?_)
  rw [ht] at hB
  obtain ⟨h1, h2⟩ := xjoin_mid hP hD hk hFc hB (xD_adr (xD_l (xD_r hD)).self (hwf u))
  exact kk r u H1 locs1 hp h1 h2 hS1
theorem xend_n_mid {S : Type} {post : Int32 → S → Prop} {wf : S → va_W} {a : Array Value} {tys : List (ClassId × FieldType)} (hr : va_Run p l e R s m args below meth c H locs cells slots mc ms (F0 m pc ls st0) rest (xQn post wf (D := D) (va_A w H.size) a) (va_A w H.size)) (hP : va_P D vwCl (wa ++ (w ++ wb)) H) (hD : va_D A0 (wa ++ (w ++ wb))) (hS : va_S A0 H0 H locs) (hA : ∀ q, H0.size ≤ q → A0 q)
    (kk : ∀ (r : Int32) (u : S) (H1 : Heap) (locs1 : List Loc), post r u → va_P D vwCl (wa ++ (wf u ++ wb)) H1 → va_D A0 (wa ++ (wf u ++ wb)) → va_S A0 H0 H1 locs1 → W p l e R s m args below meth c H1 locs1 (cells + mc) (slots + ms) Q (F0 m (pc + 3) ls (.int r :: rest))) : W p l e R s m args below meth c H locs cells slots Q (F0 m pc ls st0) := by
  have hFc := xfree_mid hD hS hA
  intro T hT X
  obtain ⟨v, st₀, t, T', L, h0, X', hL, e1, e2, ⟨⟨r, u, hv, hp, hB, hDn⟩, hz, hk⟩, st⟩ := hr T hT X
  cases hv
  rw [h0] at hz hk
  rw [← e1] at hB hk hz
  obtain ⟨h1, h2⟩ := xjoin_mid hP hD hk hFc hB hDn
  obtain ⟨t2, a1, b1⟩ := kk r u T'.heap (locs ++ L) hp h1 h2
    ⟨Nat.le_trans hS.1 hz, fun q q1 q2 => by rw [hk q (Nat.lt_of_lt_of_le q1 hS.1) (fun z => q2 (hFc q z))]; exact hS.2.1 q q1 q2, fun q hq => by
      rcases List.mem_append.mp hq with h | h
      · exact hS.2.2 q h
      · exact hFc _ (hL q h)⟩ T' rfl X'
  exact ⟨t2, st t2 a1, b1⟩
end XMID
