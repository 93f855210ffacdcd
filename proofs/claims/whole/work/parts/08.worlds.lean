/-! the worlds: a bundle is an object and the arrays that are its own (K 0 int[], K 1 long[], K 2 Shelf[], K 3 long[][]) -/
abbrev xty (K : Nat → ClassId) : List (ClassId × FieldType) := [(K 0, .int), (K 1, .long), (K 2, .object "UnderTheDesks$Shelf"), (K 3, .array .long)]
def wX0 (K : Nat → ClassId) (h : Nat) (a : Nat → Nat) (r : zS) : va_W := [(h, .inr (0, [.ref (a 0), .ref (a 1), .int (r.1 2), .int (r.1 3), .int (r.1 4)]))]
def wX1 (K : Nat → ClassId) (h : Nat) (a : Nat → Nat) (r : zS) : va_W := [(h, .inr (1, [.int (r.1 0), .int (r.1 1), .int (r.1 2), .int (r.1 3), .int (r.1 4), .ref (a 5), .ref (a 6), .ref (a 7), .ref (a 8), .ref (a 9)])), (a 5, .inl (K 0, (12, .inl (r.2.1 5)))), (a 6, .inl (K 0, (12, .inl (r.2.1 6)))), (a 7, .inl (K 0, (12, .inl (r.2.1 7)))), (a 8, .inl (K 0, (12, .inl (r.2.1 8)))), (a 9, .inl (K 0, (12, .inl (r.2.1 9))))]
def wX2 (K : Nat → ClassId) (h : Nat) (a : Nat → Nat) (r : zS) : va_W := [(h, .inr (2, [.int (r.1 0), .int (r.1 1), .ref (a 2)])), (a 2, .inl (K 1, (40, .inr (.inl (r.2.2 2)))))]
def wX3 (K : Nat → ClassId) (h : Nat) (a : Nat → Nat) (r : zS) : va_W := [(h, .inr (3, [.int (r.1 0), .ref (a 1)])), (a 1, .inl (K 0, (250, .inl (r.2.1 1))))]
def wX4 (K : Nat → ClassId) (h : Nat) (a : Nat → Nat) (r : zS) : va_W := [(h, .inr (4, [.int (r.1 0), .int (r.1 1), .int (r.1 2), .int (r.1 3), .int (r.1 4), .ref (a 5), .ref (a 6), .ref (a 7)])), (a 5, .inl (K 0, (16, .inl (r.2.1 5)))), (a 6, .inl (K 0, (16, .inl (r.2.1 6)))), (a 7, .inl (K 0, (16, .inl (r.2.1 7))))]
def wX5 (K : Nat → ClassId) (h : Nat) (a : Nat → Nat) (r : zS) : va_W := [(h, .inr (5, [.int (r.1 0), .int (r.1 1), .int (r.1 2), .int (r.1 3)]))]
def wX6 (K : Nat → ClassId) (h : Nat) (a : Nat → Nat) (r : zS) : va_W := [(h, .inr (6, [.int (r.1 0), .ref (a 1), .ref (a 2), .ref (a 3), .ref (a 4)])), (a 1, .inl (K 0, (432, .inl (r.2.1 1)))), (a 2, .inl (K 0, (48, .inl (r.2.1 2)))), (a 3, .inl (K 0, (48, .inl (r.2.1 3)))), (a 4, .inl (K 0, (9, .inl (r.2.1 4))))]
def wX7 (K : Nat → ClassId) (h : Nat) (a : Nat → Nat) (hs : Nat → Nat) (r : zS) : va_W := [(h, .inr (7, [.ref (a 0), .ref (a 1), .ref (a 2), .ref (a 3), .ref (a 4), .int (r.1 5), .ref (a 6), .ref (a 7), .ref (a 8), .ref (a 9), .ref (a 10), .ref (a 11), .ref (a 12)])), (a 6, .inl (K 2, (8, .inr (.inr (.inr (.inr (fun i => if i < 8 then some (hs i) else none))))))), (a 12, .inl (K 0, (5, .inl (r.2.1 12))))]
def wX8 (K : Nat → ClassId) (h : Nat) (a : Nat → Nat) (n : Nat → Option Nat) (la : Nat → Nat) (r : zS) : va_W := [(h, .inr (8, [.ref (a 0), .ref (a 1), .ref (a 2), .ref (a 3), .ref (a 4), .ref (a 5), .ref (a 6), .int (r.1 7), .ref (a 8), .int (r.1 9), .int (r.1 10), .ref (a 11), .ref (a 12), .ref (a 13), .ref (a 14), .int (r.1 15), .int (r.1 16), .int (r.1 17), .int (r.1 18), .int (r.1 19), .int (r.1 20), .int (r.1 21), .ref (a 22), .ref (a 23), .ref (a 24), .int (r.1 25), va_rf (n 26), va_rf (n 27), .int (r.1 28), .int (r.1 29), .int (r.1 30), .int (r.1 31), .int (r.1 32), .ref (a 33), .int (r.1 34), .ref (a 35), .int (r.1 36), .int (r.1 37), .int (r.1 38), .int (r.1 39), .int (r.1 40), .int (r.1 41), .int (r.1 42), .int (r.1 43), .int (r.1 44), .ref (a 45), .ref (a 46), .ref (a 47), .ref (a 48), .ref (a 49)])), (a 0, .inl (K 0, (8, .inl (r.2.1 0)))), (a 1, .inl (K 0, (8, .inl (r.2.1 1)))), (a 2, .inl (K 0, (8, .inl (r.2.1 2)))), (a 3, .inl (K 3, (8, .inr (.inr (.inr (.inr (fun i => if i < 8 then some (la i) else none))))))), (a 4, .inl (K 1, (40, .inr (.inl (r.2.2 4))))), (a 5, .inl (K 0, (8, .inl (r.2.1 5)))), (a 6, .inl (K 0, (250, .inl (r.2.1 6)))), (a 8, .inl (K 0, (8, .inl (r.2.1 8)))), (a 11, .inl (K 0, (12, .inl (r.2.1 11)))), (a 12, .inl (K 0, (12, .inl (r.2.1 12)))), (a 13, .inl (K 0, (12, .inl (r.2.1 13)))), (a 14, .inl (K 0, (12, .inl (r.2.1 14)))), (a 22, .inl (K 0, (16, .inl (r.2.1 22)))), (a 23, .inl (K 0, (16, .inl (r.2.1 23)))), (a 24, .inl (K 0, (16, .inl (r.2.1 24)))), (a 33, .inl (K 0, (3, .inl (r.2.1 33)))), (a 35, .inl (K 0, (12, .inl (r.2.1 35)))), (a 45, .inl (K 0, (12, .inl (r.2.1 45)))), (a 46, .inl (K 0, (1000, .inl (r.2.1 46)))), (a 47, .inl (K 0, (1000, .inl (r.2.1 47)))), (a 48, .inl (K 0, (1000, .inl (r.2.1 48)))), (a 49, .inl (K 0, (1000, .inl (r.2.1 49)))), (la 0, .inl (K 1, (40, .inr (.inl (r.2.2 100))))), (la 1, .inl (K 1, (40, .inr (.inl (r.2.2 101))))), (la 2, .inl (K 1, (40, .inr (.inl (r.2.2 102))))), (la 3, .inl (K 1, (40, .inr (.inl (r.2.2 103))))), (la 4, .inl (K 1, (40, .inr (.inl (r.2.2 104))))), (la 5, .inl (K 1, (40, .inr (.inl (r.2.2 105))))), (la 6, .inl (K 1, (40, .inr (.inl (r.2.2 106))))), (la 7, .inl (K 1, (40, .inr (.inl (r.2.2 107)))))]
def wPl (K : Nat → ClassId) (hs : Nat → Nat) (as : Nat → Nat → Nat) (sh : Nat → zS) : va_W := wX2 K (hs 0) (as 0) (sh 0) ++ (wX2 K (hs 1) (as 1) (sh 1) ++ (wX2 K (hs 2) (as 2) (sh 2) ++ (wX2 K (hs 3) (as 3) (sh 3) ++ (wX2 K (hs 4) (as 4) (sh 4) ++ (wX2 K (hs 5) (as 5) (sh 5) ++ (wX2 K (hs 6) (as 6) (sh 6) ++ (wX2 K (hs 7) (as 7) (sh 7))))))))
def wAI (K : Nat → ClassId) (h n : Nat) (f : Nat → Int32) : va_W := [(h, .inl (K 0, (n, .inl f)))]
def wAJ (K : Nat → ClassId) (h n : Nat) (f : Nat → Int64) : va_W := [(h, .inl (K 1, (n, .inr (.inl f))))]
/-- the lesson's tape and room are the main object's tape and trial -/
def xls (a : Nat → Nat) : Nat → Nat := fun k => match k with
  | 0 => a 7
  | _ => a 1
theorem xsw {x k : Int32} (h : x = k) : x.toInt = k.toInt := by rw [h]
def xfitz (v : Int32) : Prop := fits .boolean (.int v) = true
theorem xnd2 (n : Nat) : va_nd [3 + 2 * n, 4 + 2 * n] = true := by
  have h : ¬ 3 + 2 * n = 4 + 2 * n := by omega
  simp [va_nd, h]
theorem x8 {P : Nat → Prop} (h0 : P 0) (h1 : P 1) (h2 : P 2) (h3 : P 3) (h4 : P 4) (h5 : P 5) (h6 : P 6) (h7 : P 7) {k : Nat} (hk : k < 8) : P k := by
  match k, hk with
  | 0, _ => exact h0
  | 1, _ => exact h1
  | 2, _ => exact h2
  | 3, _ => exact h3
  | 4, _ => exact h4
  | 5, _ => exact h5
  | 6, _ => exact h6
  | 7, _ => exact h7
  | k + 8, h => exact absurd h (by omega)
section XW
variable {K : Nat → ClassId} {h : Nat} {a hs : Nat → Nat} {as : Nat → Nat → Nat} {r u : zS} {sh : Nat → zS} {B : va_W} {n : Nat → Option Nat} {la : Nat → Nat}
theorem wPl_obj {k : Nat} (hk : k < 8) : (wX7 K h a hs r ++ (wPl K hs as sh ++ B))[3 + 2 * k]? = some (hs k, .inr (2, [.int ((sh k).1 0), .int ((sh k).1 1), .ref (as k 2)])) :=
  x8 (P := fun k => (wX7 K h a hs r ++ (wPl K hs as sh ++ B))[3 + 2 * k]? = some (hs k, .inr (2, [.int ((sh k).1 0), .int ((sh k).1 1), .ref (as k 2)]))) rfl rfl rfl rfl rfl rfl rfl rfl hk
theorem wPl_cel {k : Nat} (hk : k < 8) : (wX7 K h a hs r ++ (wPl K hs as sh ++ B))[4 + 2 * k]? = some (as k 2, .inl (K 1, (40, .inr (.inl ((sh k).2.2 2))))) :=
  x8 (P := fun k => (wX7 K h a hs r ++ (wPl K hs as sh ++ B))[4 + 2 * k]? = some (as k 2, .inl (K 1, (40, .inr (.inl ((sh k).2.2 2)))))) rfl rfl rfl rfl rfl rfl rfl rfl hk
theorem wPl_C {k : Nat} (hk : k < 8) : [3 + 2 * k, 4 + 2 * k].map (fun i => (wX7 K h a hs r ++ (wPl K hs as sh ++ B))[i]?) = (wX2 K (hs k) (as k) (sh k)).map some := by
  simp only [List.map_cons, List.map_nil, wPl_obj hk, wPl_cel hk]
  rfl
theorem wPl_set {k : Nat} (hk : k < 8) : xset (wX7 K h a hs r ++ (wPl K hs as sh ++ B)) [3 + 2 * k, 4 + 2 * k] (wX2 K (hs k) (as k) u) = wX7 K h a hs r ++ (wPl K hs as (va_up sh k u) ++ B) :=
  x8 (P := fun k => xset (wX7 K h a hs r ++ (wPl K hs as sh ++ B)) [3 + 2 * k, 4 + 2 * k] (wX2 K (hs k) (as k) u) = wX7 K h a hs r ++ (wPl K hs as (va_up sh k u) ++ B)) rfl rfl rfl rfl rfl rfl rfl rfl hk
theorem wPl_cset {k : Nat} (hk : k < 8) {g : Nat → Int64} : (wX7 K h a hs r ++ (wPl K hs as sh ++ B)).set (4 + 2 * k) (as k 2, .inl (K 1, (40, .inr (.inl g)))) = wX7 K h a hs r ++ (wPl K hs as (va_up sh k (zH (sh k) 2 g)) ++ B) :=
  x8 (P := fun k => (wX7 K h a hs r ++ (wPl K hs as sh ++ B)).set (4 + 2 * k) (as k 2, .inl (K 1, (40, .inr (.inl g)))) = wX7 K h a hs r ++ (wPl K hs as (va_up sh k (zH (sh k) 2 g)) ++ B)) rfl rfl rfl rfl rfl rfl rfl rfl hk
theorem wX8_row {k : Nat} (hk : k < 8) : (wX8 K h a n la r ++ B)[23 + k]? = some (la k, .inl (K 1, (40, .inr (.inl (r.2.2 (100 + k)))))) :=
  x8 (P := fun k => (wX8 K h a n la r ++ B)[23 + k]? = some (la k, .inl (K 1, (40, .inr (.inl (r.2.2 (100 + k))))))) rfl rfl rfl rfl rfl rfl rfl rfl hk
theorem wX8_C {k : Nat} (hk : k < 8) : [23 + k].map (fun i => (wX8 K h a n la r ++ B)[i]?) = (wAJ K (la k) 40 (r.2.2 (100 + k))).map some := by
  simp only [List.map_cons, List.map_nil, wX8_row hk]
  rfl
theorem wX8_rowset {k : Nat} (hk : k < 8) {j : Nat} {x : Int64} : (wX8 K h a n la r ++ B).set (23 + k) (la k, .inl (K 1, (40, .inr (.inl (vp_updL (r.2.2 (100 + k)) j x))))) = wX8 K h a n la (zL r (100 + k) j x) ++ B :=
  x8 (P := fun k => (wX8 K h a n la r ++ B).set (23 + k) (la k, .inl (K 1, (40, .inr (.inl (vp_updL (r.2.2 (100 + k)) j x))))) = wX8 K h a n la (zL r (100 + k) j x) ++ B) rfl rfl rfl rfl rfl rfl rfl rfl hk
end XW
section XL2
variable {p : Program} {l : Launch} {e : Env} {R : Room} {s : State} {m : MethodId} {args : Array Value} {below : List Frame} {meth : Method} {c : Code} {H H0 : Heap} {locs : List Loc} {cells slots : Nat} {Q : State → Prop}
variable {cc : ByteArray} {own : String} {nL : Nat} {rt : Option FieldType} {D : va_G} {cl : List vw_C} {tys : List (ClassId × FieldType)} {A A0 : Nat → Prop} {pc : Nat} {ls : Array Slot} {rest st0 As : List Value} {ws wc : va_W}
theorem xaldq (hexec : p.tables.exec = Jvm.exec) (hb : c.code = cc) (hK : va_K D cl tys s) (hP : va_P D cl ws H) (q0 t0 : Nat) {a : Nat} {cA : ClassId} {C : String} {g : Nat → Nat} (ha : ws[q0]? = some (a, .inl (cA, 8, .inr (.inr (.inr (.inr (fun i => if i < 8 then some (g i) else none))))))) (ht : tys[t0]? = some (cA, .object C)) {i : Int32} (hin : vp_in i 8) {j : Nat} (hj : j = i.toNatClampNeg) (hdg : decode cc pc = .ok (.aaload, 1))
    (kk : W p l e R s m args below meth c H locs cells slots Q (F0 m (pc + 1) ls (.ref (g j) :: rest))) : W p l e R s m args below meth c H locs cells slots Q (F0 m pc ls (.int i :: .ref a :: rest)) := by
  subst hj
  refine va_aldq hexec hb hK hP q0 t0 ha ht hin hdg ?_
  have hlt : i.toNatClampNeg < 8 := Nat.not_le.mp fun q => hin (Or.inr q)
  rw [if_pos hlt]
  exact kk
theorem xalda (hexec : p.tables.exec = Jvm.exec) (hb : c.code = cc) (hK : va_K D cl tys s) (hP : va_P D cl ws H) (q0 t0 : Nat) {a : Nat} {cA : ClassId} {ty : FieldType} {g : Nat → Nat} (ha : ws[q0]? = some (a, .inl (cA, 8, .inr (.inr (.inr (.inr (fun i => if i < 8 then some (g i) else none))))))) (ht : tys[t0]? = some (cA, .array ty)) {i : Int32} (hin : vp_in i 8) {j : Nat} (hj : j = i.toNatClampNeg) (hdg : decode cc pc = .ok (.aaload, 1))
    (kk : W p l e R s m args below meth c H locs cells slots Q (F0 m (pc + 1) ls (.ref (g j) :: rest))) : W p l e R s m args below meth c H locs cells slots Q (F0 m pc ls (.int i :: .ref a :: rest)) := by
  have hlt : i.toNatClampNeg < 8 := Nat.not_le.mp fun q => hin (Or.inr q)
  subst hj
  refine W.aald (v := .ref (g i.toNatClampNeg)) (ty := .array ty) hexec hb (hP q0 _ ha) ((hK.2 t0 _ ht).1 8 (fun j => va_rf (if j < 8 then some (g j) else none))) rfl (fun q => by cases q) (by show ¬ (i < 0 ∨ (arrV _ _ _).slots.size ≤ _); rw [arrV_size]; exact hin) ?_ rfl rfl hdg kk
  show (arrV _ _ _).slots[_]? = _
  rw [arrV_read _ _ hlt]
  show some (va_rf (if i.toNatClampNeg < 8 then some (g i.toNatClampNeg) else none)) = _
  rw [if_pos hlt]
  rfl
theorem xiast (hexec : p.tables.exec = Jvm.exec) (hb : c.code = cc) (hK : va_K D cl tys s) (hP : va_P D cl ws H) (hD : va_D A ws) (hS : va_S A H0 H locs) (q0 t0 : Nat) {a : Nat} {cA : ClassId} {n : Nat} {f : Nat → Int32} (ha : ws[q0]? = some (a, .inl (cA, n, .inl f))) (ht : tys[t0]? = some (cA, .int)) {i : Int32} {x : Int32} (hin : vp_in i n) {j : Nat} (hj : j = i.toNatClampNeg) (hdg : decode cc pc = .ok (.iastore, 1))
    (kk : ∀ (H1 : Heap) (locs1 : List Loc), va_P D cl (ws.set q0 (a, .inl (cA, n, .inl (upd f j x)))) H1 → va_D A (ws.set q0 (a, .inl (cA, n, .inl (upd f j x)))) → va_S A H0 H1 locs1 → W p l e R s m args below meth c H1 locs1 cells slots Q (F0 m (pc + 1) ls rest)) : W p l e R s m args below meth c H locs cells slots Q (F0 m pc ls (.int x :: .int i :: .ref a :: rest)) := by
  subst hj
  exact va_iast hexec hb hK hP hD hS q0 t0 ha ht hin hdg kk
theorem xlast (hexec : p.tables.exec = Jvm.exec) (hb : c.code = cc) (hK : va_K D cl tys s) (hP : va_P D cl ws H) (hD : va_D A ws) (hS : va_S A H0 H locs) (q0 t0 : Nat) {a : Nat} {cA : ClassId} {n : Nat} {f : Nat → Int64} (ha : ws[q0]? = some (a, .inl (cA, n, .inr (.inl f)))) (ht : tys[t0]? = some (cA, .long)) {i : Int32} {x : Int64} (hin : vp_in i n) {j : Nat} (hj : j = i.toNatClampNeg) (hdg : decode cc pc = .ok (.lastore, 1))
    (kk : ∀ (H1 : Heap) (locs1 : List Loc), va_P D cl (ws.set q0 (a, .inl (cA, n, .inr (.inl (vp_updL f j x))))) H1 → va_D A (ws.set q0 (a, .inl (cA, n, .inr (.inl (vp_updL f j x))))) → va_S A H0 H1 locs1 → W p l e R s m args below meth c H1 locs1 cells slots Q (F0 m (pc + 1) ls rest)) : W p l e R s m args below meth c H locs cells slots Q (F0 m pc ls (.long x :: .int i :: .ref a :: rest)) := by
  subst hj
  exact va_last hexec hb hK hP hD hS q0 t0 ha ht hin hdg kk
theorem xcopyi (hexec : p.tables.exec = Jvm.exec) (hb : c.code = cc) (hml : c.maxLocals = ls.size) {index : Nat} (hown : s.vm.findClass own = some m.cls) (hlink : (Cond.methodLink own index arraycopyName).before args s = true) (hnat : (Cond.native arraycopyName).before args s = true) (hstat : (Cond.static arraycopyName).before args s = true) (hini : (Cond.initialized "java/lang/System").before args s = true)
    (hK : va_K D cl tys s) (hP : va_P D cl ws H) (hD : va_D A ws) (hS : va_S A H0 H locs) (q0 q1 t0 t1 : Nat) {a a0 : Nat} {c0 c1 : ClassId} {n0 n1 : Nat} {f g : Nat → Int32} {ty : FieldType} (ha0 : ws[q0]? = some (a0, .inl (c0, n0, .inl f))) (ha1 : ws[q1]? = some (a, .inl (c1, n1, .inl g))) (ht0 : tys[t0]? = some (c0, ty)) (ht1 : tys[t1]? = some (c1, ty)) (hprim : refKind ty = false)
    {sp dp n : Int32} (h1 : ¬ sp < 0) (h2 : ¬ dp < 0) (h3 : ¬ n < 0) (h4 : sp.toNatClampNeg + n.toNatClampNeg ≤ n0) (h5 : dp.toNatClampNeg + n.toNatClampNeg ≤ n1) (hfit : ∀ i, i < n.toNatClampNeg → fits ty (.int (f (sp.toNatClampNeg + i))) = true) {z : Nat → Int32} (hz : z = va_cpy f g sp.toNatClampNeg dp.toNatClampNeg n.toNatClampNeg)
    (hframes : 1 ≤ R.frames) (hlocals : (rest.map fun v => v.category).sum + (nativeFrameWords "java/lang/System" "arraycopy" 5 + 11) ≤ R.locals) (hdg : decode cc pc = .ok (.invokestatic index, 3))
    (kk : ∀ (H1 : Heap) (locs1 : List Loc), va_P D cl (ws.set q1 (a, .inl (c1, n1, .inl z))) H1 → va_D A (ws.set q1 (a, .inl (c1, n1, .inl z))) → va_S A H0 H1 locs1 → W p l e R s m args below meth c H1 locs1 cells slots Q (F0 m (pc + 3) ls rest)) : W p l e R s m args below meth c H locs cells slots Q (F0 m pc ls (.int n :: .int dp :: .ref a :: .int sp :: .ref a0 :: rest)) := by
  subst hz
  exact va_copyi hexec hb hml hown hlink hnat hstat hini hK hP hD hS q0 q1 t0 t1 ha0 ha1 ht0 ht1 hprim h1 h2 h3 h4 h5 hfit hframes hlocals hdg kk
theorem xcopyl (hexec : p.tables.exec = Jvm.exec) (hb : c.code = cc) (hml : c.maxLocals = ls.size) {index : Nat} (hown : s.vm.findClass own = some m.cls) (hlink : (Cond.methodLink own index arraycopyName).before args s = true) (hnat : (Cond.native arraycopyName).before args s = true) (hstat : (Cond.static arraycopyName).before args s = true) (hini : (Cond.initialized "java/lang/System").before args s = true)
    (hK : va_K D cl tys s) (hP : va_P D cl ws H) (hD : va_D A ws) (hS : va_S A H0 H locs) (q0 q1 t0 t1 : Nat) {a a0 : Nat} {c0 c1 : ClassId} {n0 n1 : Nat} {f g : Nat → Int64} {ty : FieldType} (ha0 : ws[q0]? = some (a0, .inl (c0, n0, .inr (.inl f)))) (ha1 : ws[q1]? = some (a, .inl (c1, n1, .inr (.inl g)))) (ht0 : tys[t0]? = some (c0, ty)) (ht1 : tys[t1]? = some (c1, ty)) (hprim : refKind ty = false)
    {sp dp n : Int32} (h1 : ¬ sp < 0) (h2 : ¬ dp < 0) (h3 : ¬ n < 0) (h4 : sp.toNatClampNeg + n.toNatClampNeg ≤ n0) (h5 : dp.toNatClampNeg + n.toNatClampNeg ≤ n1) (hfit : ∀ i, i < n.toNatClampNeg → fits ty (.long (f (sp.toNatClampNeg + i))) = true) {z : Nat → Int64} (hz : z = va_cpy f g sp.toNatClampNeg dp.toNatClampNeg n.toNatClampNeg)
    (hframes : 1 ≤ R.frames) (hlocals : (rest.map fun v => v.category).sum + (nativeFrameWords "java/lang/System" "arraycopy" 5 + 11) ≤ R.locals) (hdg : decode cc pc = .ok (.invokestatic index, 3))
    (kk : ∀ (H1 : Heap) (locs1 : List Loc), va_P D cl (ws.set q1 (a, .inl (c1, n1, .inr (.inl z)))) H1 → va_D A (ws.set q1 (a, .inl (c1, n1, .inr (.inl z)))) → va_S A H0 H1 locs1 → W p l e R s m args below meth c H1 locs1 cells slots Q (F0 m (pc + 3) ls rest)) : W p l e R s m args below meth c H locs cells slots Q (F0 m pc ls (.int n :: .int dp :: .ref a :: .int sp :: .ref a0 :: rest)) := by
  subst hz
  exact va_copyl hexec hb hml hown hlink hnat hstat hini hK hP hD hS q0 q1 t0 t1 ha0 ha1 ht0 ht1 hprim h1 h2 h3 h4 h5 hfit hframes hlocals hdg kk
variable {y : MethodName} {bytes : ByteArray} {maxL index n mc ms : Nat} {ret : Option FieldType} {rm : Room} {Qc : Array Value → State → Outcome → State → Prop} {free : Addr → Prop} {C' : String} {b : Addr}
theorem xRunSN {host : String} (C0 : xC p s m args meth c cc own nL rt D cl tys) (hM : Met l y (Cond.code y bytes maxL ret :: wsL_law) rm (va_Pc As (xPre D cl tys wc H.size)) Qc mc ms free) (ky : xSt C' y bytes maxL ret n) (hlink : va_Nw (.methodLinkNest own index y host) s) (hrc : rm.cells = mc ∧ rm.slots = ms) (hR : rm.frames + 1 ≤ R.frames ∧ 8 + (maxL + 11) + rm.locals ≤ R.locals)
    (hP : va_P D cl ws H) (hD : va_D A0 ws) (isC : List Nat) (hC : isC.map (fun i => ws[i]?) = wc.map some) (hnd : va_nd isC = true) {lvs : List (Nat × Value)} (hl : lv_has ls nL lvs) (hn : As.length = n) (hst : st0 = As.reverse ++ rest) (hW : (rest.map fun v => v.category).sum ≤ 8) (hdg : decode cc pc = .ok (.invokestatic index, 3)) (hf : cells + mc ≤ R.cells ∧ slots + ms ≤ R.slots) :
    va_Run p l e R s m args below meth c H locs cells slots mc ms (F0 m pc ls st0) rest (Qc As.toArray) free := by
  obtain ⟨hx, hb, hr, hml, hown, hts, hlocks, hK, hT⟩ := C0
  obtain ⟨k1, k3, k4, k5, k6, k7, k8⟩ := ky
  have hPc := hP.sub (ws' := wc) isC (by
    have h1 := congrArg (fun l => l.filterMap id) hC
    simpa [List.filterMap_map, Function.comp_def] using h1)
  have hDc := hD.sub (ws' := wc) isC hnd hC
  exact va_runSN (As := As) (rest := rest) ⟨hx, hb, hml, hown, hts⟩ hM ⟨va_cnB (ws' := wsL_law) n hts (xpay k4) rfl hrc.1 hrc.2 hlink (hts _ (by rw [k5]; exact k3)) ⟨k6, k7, k8⟩ hR, hts _ k1, trivial⟩ ⟨xPre_blind, fun U hU hW => ⟨rfl, by rw [hU], by rw [hU]; exact hPc, va_K.moved hW.alike hK, hDc.weaken (fun _ _ _ _ => trivial), hT.warm hW⟩⟩ rfl hn hl.1 hst (lv_room hW) hdg hf
end XL2
section XID
variable {p : Program} {l : Launch} {e : Env} {R : Room} {s : State} {m : MethodId} {args : Array Value} {below : List Frame} {meth : Method} {c : Code} {H H0 : Heap} {locs : List Loc} {cells slots : Nat} {Q : State → Prop}
variable {cc : ByteArray} {own : String} {nL : Nat} {rt : Option FieldType} {D : va_G} {cl : List vw_C} {tys : List (ClassId × FieldType)} {A A0 : Nat → Prop} {pc : Nat} {ls : Array Slot} {rest st0 As : List Value} {ws wc : va_W}
variable {y : MethodName} {bytes : ByteArray} {maxL index n mc ms : Nat} {ret : Option FieldType} {rm : Room} {Qc : Array Value → State → Outcome → State → Prop} {free : Addr → Prop} {C' : String} {b : Addr}
/-- a call whose callee's world is the caller's whole world -/
theorem xRunV_id (C0 : xC p s m args meth c cc own nL rt D cl tys) (hM : Met l y (Cond.code y bytes maxL ret :: wsL_law) rm (va_Pc (.ref b :: As) (xPre D cl tys ws H.size)) Qc mc ms free) (ky : xV C' y bytes maxL ret n) (hlink : Cond.methodLink own index y ∈ wsL_law) (hrc : rm.cells = mc ∧ rm.slots = ms) (hR : rm.frames + 1 ≤ R.frames ∧ 8 + (maxL + 11) + rm.locals ≤ R.locals)
    (hP : va_P D cl ws H) (hD : va_D A0 ws) {ci : Nat} {fs : List Value} {T : u_T} {N : Nat} (hrec : ws[0]? = some (b, .inr (ci, fs))) (hcl : cl[ci]? = some (C', T, N)) {lvs : List (Nat × Value)} (hl : lv_has ls nL lvs) (hn : As.length = n) (hst : st0 = As.reverse ++ .ref b :: rest) (hW : (rest.map fun v => v.category).sum ≤ 8) (hdg : decode cc pc = .ok (.invokevirtual index, 3)) (hf : cells + mc ≤ R.cells ∧ slots + ms ≤ R.slots) :
    va_Run p l e R s m args below meth c H locs cells slots mc ms (F0 m pc ls st0) rest (Qc (Value.ref b :: As).toArray) free := by
  obtain ⟨hx, hb, hr, hml, hown, hts, hlocks, hK, hT⟩ := C0
  obtain ⟨k1, k2, k3, k4, k5, k6, k7, k8⟩ := ky
  refine va_runV (As := As) (rest := rest) ⟨hx, hb, hml, hown, hts⟩ hM (cwV (ws' := wsL_law) n hts ?_ rfl hrc.1 hrc.2 ⟨k5, k6, k7, k8⟩ hR) ⟨xPre_blind, va_recv hK hP hcl hrec, fun U hU hW => ⟨rfl, by rw [hU], by rw [hU]; exact hP, va_K.moved hW.alike hK, hD.weaken (fun _ _ _ _ => trivial), hT.warm hW⟩⟩ rfl hn hl.1 hst (lv_room hW) hdg hf
  intro w hw
  rcases List.mem_append.mp hw with h | h
  · simp only [List.mem_cons, List.not_mem_nil, or_false] at h
    rcases h with rfl | rfl | rfl | rfl
    · exact ⟨hlink, (xgood _ hlink).2⟩
    · exact ⟨k1, (xgood _ k1).2⟩
    · exact ⟨k2, (xgood _ k2).2⟩
    · exact ⟨k3, (xgood _ k3).2⟩
  · exact xpay k4 w h
theorem xD_adr {ws' : va_W} (h : va_D A ws) (e : ws'.map Prod.fst = ws.map Prod.fst) : va_D A ws' := by
  have key : ∀ (k : Nat) (q : Nat × va_E), ws'[k]? = some q → ∃ q', ws[k]? = some q' ∧ q'.1 = q.1 := by
    intro k q hk
    have h1 : (ws'.map Prod.fst)[k]? = some q.1 := by rw [List.getElem?_map, hk]; rfl
    rw [e, List.getElem?_map] at h1
    cases h2 : ws[k]? with
    | none => rw [h2] at h1; cases h1
    | some q' => rw [h2] at h1; exact ⟨q', rfl, Option.some.inj h1⟩
  refine ⟨fun i j x z hi hj hxz => ?_, fun k q hk => ?_⟩
  · obtain ⟨x', hx', ex⟩ := key i x hi
    obtain ⟨z', hz', ez⟩ := key j z hj
    exact h.1 i j x' z' hx' hz' (by rw [ex, ez, hxz])
  · obtain ⟨q', hq', eq⟩ := key k q hk
    rw [← eq]
    exact h.2 k q' hq'
theorem xfree_id {H1 : Heap} (hD : va_D A0 ws) (hS : va_S A0 H0 H locs) (hA : ∀ q, H0.size ≤ q → A0 q) : ∀ q, va_A ws H.size q → A0 q := by
  rintro q (⟨k, e, hk⟩ | h)
  · exact hD.2 k _ hk
  · exact hA q (Nat.le_trans hS.1 h)
theorem xend_rw_i_id {S : Type} {post : Int32 → S → Prop} {wf : S → va_W} {a : Array Value} (hr : va_Run p l e R s m args below meth c H locs cells slots mc ms (F0 m pc ls st0) rest (va_Qi post (fun u t => va_P D cl (wf u) t.heap) (va_A ws H.size) a) (va_A ws H.size)) (hD : va_D A0 ws) (hS : va_S A0 H0 H locs) (hA : ∀ q, H0.size ≤ q → A0 q) (hwf : ∀ u, (wf u).map Prod.fst = ws.map Prod.fst)
    (kk : ∀ (r : Int32) (u : S) (H1 : Heap) (locs1 : List Loc), post r u → va_P D cl (wf u) H1 → va_D A0 (wf u) → va_S A0 H0 H1 locs1 → W p l e R s m args below meth c H1 locs1 (cells + mc) (slots + ms) Q (F0 m (pc + 3) ls (.int r :: rest))) : W p l e R s m args below meth c H locs cells slots Q (F0 m pc ls st0) := by
  have hFc := xfree_id (H1 := H) hD hS hA
  refine va_calli hr hS (fun q _ h => hFc q h) hFc (fun r u t H1 locs1 ht hvm hp hB hz hk hS1 => ?_)
  rw [ht] at hB
  exact kk r u H1 locs1 hp hB (xD_adr hD (hwf u)) hS1
theorem xend_rw_v_id {S : Type} {post : S → Prop} {wf : S → va_W} {a : Array Value} (hr : va_Run p l e R s m args below meth c H locs cells slots mc ms (F0 m pc ls st0) rest (va_Qv post (fun u t => va_P D cl (wf u) t.heap) (va_A ws H.size) a) (va_A ws H.size)) (hD : va_D A0 ws) (hS : va_S A0 H0 H locs) (hA : ∀ q, H0.size ≤ q → A0 q) (hwf : ∀ u, (wf u).map Prod.fst = ws.map Prod.fst)
    (kk : ∀ (u : S) (H1 : Heap) (locs1 : List Loc), post u → va_P D cl (wf u) H1 → va_D A0 (wf u) → va_S A0 H0 H1 locs1 → W p l e R s m args below meth c H1 locs1 (cells + mc) (slots + ms) Q (F0 m (pc + 3) ls rest)) : W p l e R s m args below meth c H locs cells slots Q (F0 m pc ls st0) := by
  have hFc := xfree_id (H1 := H) hD hS hA
  refine va_callv hr hS (fun q _ h => hFc q h) hFc (fun u t H1 locs1 ht hvm hp hB hz hk hS1 => ?_)
  rw [ht] at hB
  exact kk u H1 locs1 hp hB (xD_adr hD (hwf u)) hS1
end XID
theorem wX8_adr {K : Nat → ClassId} {h : Nat} {a : Nat → Nat} {n : Nat → Option Nat} {la : Nat → Nat} {B : va_W} (r r' : zS) : (wX8 K h a n la r ++ B).map Prod.fst = (wX8 K h a n la r' ++ B).map Prod.fst := rfl
theorem xset_mid : ∀ (w w' A B : va_W), w'.length = w.length → xset (A ++ (w ++ B)) (List.range' A.length w.length) w' = A ++ (w' ++ B) := by
  intro w
  induction w with
  | nil =>
    intro w' A B h
    have : w' = [] := List.eq_nil_of_length_eq_zero h
    subst this
    rfl
  | cons q t ih =>
    intro w' A B h
    cases w' with
    | nil => cases h
    | cons q' t' =>
      have h' : t'.length = t.length := Nat.succ.inj h
      show xset ((A ++ (q :: (t ++ B))).set A.length q') (List.range' (A.length + 1) t.length) t' = A ++ (q' :: (t' ++ B))
      have e : (A ++ (q :: (t ++ B))).set A.length q' = (A ++ [q']) ++ (t ++ B) := by
        rw [List.set_append_right _ _ (Nat.le_refl _), Nat.sub_self, List.append_assoc]
        rfl
      have e2 : A.length + 1 = (A ++ [q']).length := by rw [List.length_append]; rfl
      rw [e, e2, ih t' (A ++ [q']) B h', List.append_assoc]
      rfl
theorem xget_mid : ∀ (w A B : va_W), (List.range' A.length w.length).map (fun i => (A ++ (w ++ B))[i]?) = w.map some := by
  intro w
  induction w with
  | nil => intro A B; rfl
  | cons q t ih =>
    intro A B
    have e2 : A.length + 1 = (A ++ [q]).length := by rw [List.length_append]; rfl
    show (A ++ (q :: (t ++ B)))[A.length]? :: (List.range' (A.length + 1) t.length).map (fun i => (A ++ (q :: (t ++ B)))[i]?) = some q :: t.map some
    rw [e2, show A ++ (q :: (t ++ B)) = (A ++ [q]) ++ (t ++ B) by rw [List.append_assoc]; rfl, ih (A ++ [q]) B]
    congr 1
    rw [List.append_assoc, List.getElem?_append_right (Nat.le_refl _), Nat.sub_self]
    rfl
theorem xset_app : ∀ (is : List Nat) (w js : _) (w' : va_W) (ws : va_W), is.length = w.length → xset ws (is ++ js) (w ++ w') = xset (xset ws is w) js w' := by
  intro is
  induction is with
  | nil =>
    intro w js w' ws h
    have : w = [] := List.eq_nil_of_length_eq_zero h.symm
    subst this
    cases ws <;> rfl
  | cons i is ih =>
    intro w js w' ws h
    cases w with
    | nil => cases h
    | cons q w => exact ih w js w' (ws.set i q) (Nat.succ.inj h)
def xr1 : List Nat := List.range' 0 31
def xr2 : List Nat := List.range' 31 31
def xr21 : List Nat := xr2 ++ xr1
theorem xr1_nd : va_nd xr1 = true := by decide +kernel
theorem xr2_nd : va_nd xr2 = true := by decide +kernel
theorem xr21_nd : va_nd xr21 = true := by decide +kernel
section X88
variable {K : Nat → ClassId} {h h1 : Nat} {a a1 : Nat → Nat} {n n1 : Nat → Option Nat} {la la1 : Nat → Nat} {r r1 u u1 : zS}
theorem wX8_len : (wX8 K h a n la r).length = 31 := rfl
theorem wX8_C1 {B : va_W} : xr1.map (fun i => (wX8 K h a n la r ++ B)[i]?) = (wX8 K h a n la r ++ ([] : va_W)).map some := by
  have e := xget_mid (wX8 K h a n la r) [] B
  rw [wX8_len] at e
  rw [List.append_nil]
  exact e
theorem wX8_C2 : xr2.map (fun i => (wX8 K h a n la r ++ (wX8 K h1 a1 n1 la1 r1 ++ ([] : va_W)))[i]?) = (wX8 K h1 a1 n1 la1 r1 ++ ([] : va_W)).map some := by
  have e := xget_mid (wX8 K h1 a1 n1 la1 r1) (wX8 K h a n la r) []
  rw [wX8_len, wX8_len] at e
  rw [List.append_nil] at e ⊢
  exact e
theorem wX8_C21 : xr21.map (fun i => (wX8 K h a n la r ++ (wX8 K h1 a1 n1 la1 r1 ++ ([] : va_W)))[i]?) = (wX8 K h1 a1 n1 la1 r1 ++ (wX8 K h a n la r ++ ([] : va_W))).map some := by
  unfold xr21
  rw [List.map_append, wX8_C2, wX8_C1, List.append_nil, List.append_nil, List.map_append]
theorem wX8_set1 {B : va_W} : xset (wX8 K h a n la r ++ B) xr1 (wX8 K h a n la u ++ ([] : va_W)) = wX8 K h a n la u ++ B := by
  have e := xset_mid (wX8 K h a n la r) (wX8 K h a n la u) [] B rfl
  rw [wX8_len] at e
  rw [List.append_nil]
  exact e
theorem wX8_set2 : xset (wX8 K h a n la r ++ (wX8 K h1 a1 n1 la1 r1 ++ ([] : va_W))) xr2 (wX8 K h1 a1 n1 la1 u ++ ([] : va_W)) = wX8 K h a n la r ++ (wX8 K h1 a1 n1 la1 u ++ ([] : va_W)) := by
  have e := xset_mid (wX8 K h1 a1 n1 la1 r1) (wX8 K h1 a1 n1 la1 u) (wX8 K h a n la r) [] rfl
  rw [wX8_len, wX8_len] at e
  rw [List.append_nil, List.append_nil] at e ⊢
  exact e
theorem wX8_set21 : xset (wX8 K h a n la r ++ (wX8 K h1 a1 n1 la1 r1 ++ ([] : va_W))) xr21 (wX8 K h1 a1 n1 la1 u1 ++ (wX8 K h a n la u ++ ([] : va_W))) = wX8 K h a n la u ++ (wX8 K h1 a1 n1 la1 u1 ++ ([] : va_W)) := by
  unfold xr21
  rw [show wX8 K h1 a1 n1 la1 u1 ++ (wX8 K h a n la u ++ ([] : va_W)) = (wX8 K h1 a1 n1 la1 u1 ++ ([] : va_W)) ++ (wX8 K h a n la u ++ ([] : va_W)) by rw [List.append_nil, List.append_nil], xset_app _ _ _ _ _ rfl, wX8_set2, wX8_set1, List.append_nil]
end X88
def xQr {S : Type} (b : Nat) (post : S → Prop) (B : S → State → Prop) (A : Nat → Prop) : Array Value → State → Outcome → State → Prop := fun _ st oc t => (∃ u : S, oc = .returned (some (.ref b)) ∧ post u ∧ B u t) ∧ va_F A st t
section XR
variable {p : Program} {l : Launch} {e : Env} {R : Room} {s : State} {m : MethodId} {args : Array Value} {below : List Frame} {meth : Method} {c : Code} {H H0 : Heap} {locs : List Loc} {cells slots : Nat} {Q : State → Prop}
variable {cc : ByteArray} {own : String} {nL : Nat} {D : va_G} {cl : List vw_C} {tys : List (ClassId × FieldType)} {A A0 : Nat → Prop} {pc : Nat} {ls : Array Slot} {rest st0 : List Value} {ws wc : va_W} {mc ms : Nat}
theorem xrw_r {S : Type} {nm : String} {post : S → Prop} {wf : S → va_W} {b : Nat} (C0 : xC p s m args meth c cc own nL (some (.object nm)) D cl tys) (u : S) (h : post u) (hP : va_P D cl (wf u) H) (hS : va_S A s.heap H locs) (hdg : decode cc pc = .ok (.areturn, 1)) : W p l e R s m args below meth c H locs cells slots (MQ below (xQr b post (fun u t => va_P D cl (wf u) t.heap) A) args s cells slots A) (F0 m pc ls [.ref b]) := by
  obtain ⟨hx, hb, hr, hml, hown, hts, hlocks, hK, hT⟩ := C0
  exact W.aret hx hb hr (Or.inl ⟨nm, rfl⟩) (Or.inr ⟨b, rfl⟩) (fun t ht _ => ⟨⟨u, rfl, h, by show va_P D cl (wf u) t.heap; rw [ht]; exact hP⟩, hS.F ht⟩) hS.2.2 hdg hlocks
theorem xcallr {S : Type} {b : Nat} {post : S → Prop} {B : S → State → Prop} {a : Array Value} {A1 free : Nat → Prop} (hr : va_Run p l e R s m args below meth c H locs cells slots mc ms (F0 m pc ls st0) rest (xQr b post B A1 a) free) (hS : va_S A0 H0 H locs) (hA : ∀ q, q < H.size → A1 q → A0 q) (hf : ∀ q, free q → A0 q)
    (kk : ∀ (u : S) (t : State) (H1 : Heap) (locs1 : List Loc), t.heap = H1 → s.vm.Alike t.vm → post u → B u t → H.size ≤ H1.size → (∀ q : Nat, q < H.size → ¬ A1 q → H1[q]? = H[q]?) → va_S A0 H0 H1 locs1 → W p l e R s m args below meth c H1 locs1 (cells + mc) (slots + ms) Q (F0 m (pc + 3) ls (.ref b :: rest))) : W p l e R s m args below meth c H locs cells slots Q (F0 m pc ls st0) := by
  intro T hT X
  obtain ⟨v, st₀, t, T', L, h0, X', hL, e1, e2, ⟨⟨u, hv, hp, hb⟩, hz, hk⟩, st⟩ := hr T hT X
  cases hv
  rw [h0] at hz hk
  obtain ⟨t2, a1, b1⟩ := kk u t T'.heap (locs ++ L) e1.symm (by rw [← e2]; exact X'.warmed.alike) hp hb (by rw [e1]; exact hz) (fun q h1 h2 => by rw [e1]; exact hk q h1 h2)
    ⟨Nat.le_trans hS.1 (by rw [e1]; exact hz), fun q h1 h2 => by rw [e1, hk q (Nat.lt_of_lt_of_le h1 hS.1) (fun z => h2 (hA q (Nat.lt_of_lt_of_le h1 hS.1) z))]; exact hS.2.1 q h1 h2, fun q hq => by
      rcases List.mem_append.mp hq with h | h
      · exact hS.2.2 q h
      · exact hf _ (hL q h)⟩ T' rfl X'
  exact ⟨t2, st t2 a1, b1⟩
theorem xend_rw_r {S : Type} {b : Nat} {post : S → Prop} {wf : S → va_W} {a : Array Value} (hr : va_Run p l e R s m args below meth c H locs cells slots mc ms (F0 m pc ls st0) rest (xQr b post (fun u t => va_P D cl (wf u) t.heap) (va_A wc H.size) a) (va_A wc H.size)) (hP : va_P D cl ws H) (hD : va_D A0 ws) (hS : va_S A0 H0 H locs) (hA : ∀ q, H0.size ≤ q → A0 q) (isC : List Nat) (hC : isC.map (fun i => ws[i]?) = wc.map some) (hnd : va_nd isC = true) (hwf : ∀ u, (wf u).map Prod.fst = wc.map Prod.fst)
    (kk : ∀ (u : S) (H1 : Heap) (locs1 : List Loc), post u → va_P D cl (xset ws isC (wf u)) H1 → va_D A0 (xset ws isC (wf u)) → va_S A0 H0 H1 locs1 → W p l e R s m args below meth c H1 locs1 (cells + mc) (slots + ms) Q (F0 m (pc + 3) ls (.ref b :: rest))) : W p l e R s m args below meth c H locs cells slots Q (F0 m pc ls st0) := by
  have hFc := va_free (wc := wc) hD hS hA isC hC
  refine xcallr hr hS (fun q _ h => hFc q h) hFc (fun u t H1 locs1 ht hvm hp hB hz hk hS1 => ?_)
  rw [ht] at hB
  obtain ⟨h1, h2⟩ := xjoin hP hD isC hC hnd (hwf u) hk hB
  exact kk u H1 locs1 hp h1 h2 hS1
theorem xend_rw_r_id {S : Type} {b : Nat} {post : S → Prop} {wf : S → va_W} {a : Array Value} (hr : va_Run p l e R s m args below meth c H locs cells slots mc ms (F0 m pc ls st0) rest (xQr b post (fun u t => va_P D cl (wf u) t.heap) (va_A ws H.size) a) (va_A ws H.size)) (hD : va_D A0 ws) (hS : va_S A0 H0 H locs) (hA : ∀ q, H0.size ≤ q → A0 q) (hwf : ∀ u, (wf u).map Prod.fst = ws.map Prod.fst)
    (kk : ∀ (u : S) (H1 : Heap) (locs1 : List Loc), post u → va_P D cl (wf u) H1 → va_D A0 (wf u) → va_S A0 H0 H1 locs1 → W p l e R s m args below meth c H1 locs1 (cells + mc) (slots + ms) Q (F0 m (pc + 3) ls (.ref b :: rest))) : W p l e R s m args below meth c H locs cells slots Q (F0 m pc ls st0) := by
  have hFc := xfree_id (H1 := H) hD hS hA
  refine xcallr hr hS (fun q _ h => hFc q h) hFc (fun u t H1 locs1 ht hvm hp hB hz hk hS1 => ?_)
  rw [ht] at hB
  exact kk u H1 locs1 hp hB (xD_adr hD (hwf u)) hS1
end XR
