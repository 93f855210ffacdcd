/-! the reference's search -/
section QFIND
variable {ρ : (Nat → Nat) × (Nat → Nat → Nat)}
theorem qx_ext {to : Nat} {d p : Nat} {π : List Nat} (hn : (p :: π).Nodup) (hl : (p :: π).length ≤ 9) (hr : ∀ q ∈ p :: π, q < ρ.1 1) (hne : p ≠ to) : ∀ w ∈ qx ρ to d (p :: π), ∃ pre q, w = pre ++ q :: p :: π := by
  intro w hw
  obtain ⟨h1, pre, h2⟩ := qx_way d (p :: π) hn hl hr w hw
  rcases List.eq_nil_or_concat pre with e | ⟨pre', q, e⟩
  · rw [e] at h2
    rw [h2] at h1
    exact absurd (Option.some.inj h1.1) hne
  · refine ⟨pre', q, ?_⟩
    rw [h2, e, List.concat_eq_append, List.append_assoc]; rfl
theorem qx_succ (to d p : Nat) (π : List Nat) : qx ρ to (d + 1) (p :: π) = if p = to then [p :: π] else if 9 ≤ (p :: π).length then [] else qfl (fun q => if (qnb ρ p q && !decide (q ∈ p :: π)) = true then qx ρ to d (q :: p :: π) else []) (ρ.1 1) := rfl
theorem q_filt_nil {P : List Nat → Bool} {L : List (List Nat)} (h : ∀ w ∈ L, P w = false) : L.filter P = [] := by
  rw [List.filter_eq_nil_iff]
  intro w hw
  rw [h w hw]; decide
theorem e8_areBeside {m : zS} (M : qMR m ρ) (L : qL ρ) {p q : Nat} (hp : p < ρ.1 1) (hq : q < ρ.1 1) {post : Int32 → Prop} (h : post (qz (qnb ρ p q))) : wp_X8_areBeside m (nI p) (nI q) post :=
  q8_areBeside M L hp hq (fun c => by rw [c] at h; exact h) (fun c => by rw [c] at h; exact h)
theorem e8_has {a q : Nat} (ha : a < 2 ^ 31) (hq : q < 31) {post : Int32 → Prop} (h : post (qz (a.testBit q))) : wp_X8_has (nI a) (nI q) post :=
  q8_has ha hq (fun c => by rw [c] at h; exact h) (fun c => by rw [c] at h; exact h)
theorem qMR_k {m m' : zS} (M : qMR m ρ) (F : qFk m m') : qMR m' ρ := qMR_fr M (qFk_Fr F) (Or.inr (by decide))
theorem a8_seek {to : Nat} (W : qW ρ) (hto : to < ρ.1 1) {o : Nat} (ho : o < 3) (s : Int32) : ∀ (d : Nat) (π : List Nat) (L : List (List Nat)) (m : zS) (post : zS → Prop), 10 ≤ d + π.length → 1 ≤ π.length → π.length ≤ 9 → π.Nodup → (∀ q ∈ π, q < ρ.1 1) → qMR m ρ → m.1 36 = nI to → m.1 37 = nI o → qF m ρ to s L → (∀ i, i < π.length → m.2.1 35 i = nI (qat π i)) → L.length + (qx ρ to d π).length ≤ 48 → (o = 1 → qrn ρ to π = 0) → (o = 2 → qse ρ s π = false) →
    (∀ m', qF m' ρ to s (L ++ (qx ρ to d π).filter (qwt ρ to s o)) → qFk m m' → (∀ i, i < π.length → m'.2.1 35 i = m.2.1 35 i) → post m') → wp_X8_seek d m (nI π.length) (nI (qmk π)) (s + nI (qsec ρ π)) (nI (qch ρ to s π)) (nI (qrn ρ to π)) post := by
  have hc := W.1.2.2.1
  intro d
  induction d with
  | zero => intro π L m post h10 h1 h9; omega
  | succ d ih =>
    intro π L m post h10 h1 h9 hnd hr M h36 h37 F ht hb po1 po2 h
    cases π with
    | nil => exact absurd h1 (by decide)
    | cons p π =>
      have hp : p < ρ.1 1 := hr p List.mem_cons_self
      have hq12 : qmk (p :: π) < 2 ^ 12 := qmk_lt (fun q hq => by have := hr q hq; omega)
      have s1 : nI (p :: π).length - (1 : Int32) = nI π.length := by
        have k : ∀ n, n < 10 → nI (n + 1) - (1 : Int32) = nI n := by decide +kernel
        exact k _ (by rw [List.length_cons] at h9; omega)
      have lc : (p :: π).length = π.length + 1 := rfl
      have tp : m.2.1 35 π.length = nI p := by rw [ht π.length (by rw [lc]; omega), qat_cons_eq]
      have hext := qx_ext (d := d + 1) (to := to) hnd h9 hr
      rw [wu_X8_seek]
      unfold wb_X8_seek
      rw [s1, q_clamp (by omega)]
      refine ⟨q_in (by omega) (by omega), ?_⟩
      rw [q_all, tp, h36, h37]
      by_cases e : p = to
      · subst e
        have ex : qx ρ p (d + 1) (p :: π) = [p :: π] := by rw [qx_succ, if_pos rfl]
        have ew : qwt ρ p s o (p :: π) = true := by
          unfold qwt
          by_cases c1 : o = 1
          · rw [if_pos c1, po1 c1]; rfl
          · rw [if_neg c1]
            by_cases c2 : o = 2
            · rw [if_pos c2, po2 c2]; rfl
            · rw [if_neg c2]
        rw [ex] at hb
        rw [ex, List.filter_cons_of_pos ew] at h
        rw [q_pos rfl]
        have hb : L.length + 1 ≤ 48 := hb
        exact a8_found F ⟨h1, h9⟩ (fun q hq => by have := hr q hq; omega) ht (by omega) (fun m' F' f' => h m' F' (qFr_Fk f') (fun i _ => by rw [(f' 35 (by decide)).2.1]))
      · rw [q_neg (fun c => e ((nI_eq (by omega) (by omega)).mp c))]
        have hext := hext e
        by_cases g : 9 ≤ (p :: π).length
        · have ex : qx ρ to (d + 1) (p :: π) = [] := by rw [qx_succ, if_neg e, if_pos g]
          rw [ex] at h
          have c8 : (8 : Int32) < nI (p :: π).length := (nI_ltI (a := 8) (by decide) (by omega)).mpr (by omega)
          rw [q_pos c8]
          exact h m (by rw [List.filter_nil, List.append_nil]; exact F) qFk_rf (fun _ _ => rfl)
        · have g' : ¬ (8 : Int32) < nI (p :: π).length := fun c => by have := (nI_ltI (a := 8) (by decide) (by omega)).mp c; omega
          rw [q_neg g']
          -- the loop over the next
          have loop : (o = 2 → qlk ρ (s + nI (qsec ρ (p :: π))) = false) → wp_X8_seek_54 (nI (p :: π).length) (nI (qmk (p :: π))) (s + nI (qsec ρ (p :: π))) (nI (qch ρ to s (p :: π))) (nI (qrn ρ to (p :: π))) (wp_X8_seek d) post m (nI p) := by
            intro hlk
            have ex : qx ρ to (d + 1) (p :: π) = qfl (fun q => if (qnb ρ p q && !decide (q ∈ p :: π)) = true then qx ρ to d (q :: p :: π) else []) (ρ.1 1) := by
              rw [qx_succ, if_neg e, if_neg g]
            rw [ex] at hb h
            generalize hG : (fun q => if (qnb ρ p q && !decide (q ∈ p :: π)) = true then qx ρ to d (q :: p :: π) else []) = G at hb h
            have hGq : ∀ q, G q = if (qnb ρ p q && !decide (q ∈ p :: π)) = true then qx ρ to d (q :: p :: π) else [] := fun q => by rw [← hG]
            refine q_lp3 (B := wb_X8_seek_57 (nI (p :: π).length) (nI (qmk (p :: π))) (s + nI (qsec ρ (p :: π))) (nI (qch ρ to s (p :: π))) (nI (qrn ρ to (p :: π))) (wp_X8_seek d) post) (fun t m' a i => ∃ j, j + t = ρ.1 1 ∧ i = nI j ∧ a = nI p ∧ qF m' ρ to s (L ++ (qfl G j).filter (qwt ρ to s o)) ∧ qFk m m' ∧ ∀ i, i < (p :: π).length → m'.2.1 35 i = m.2.1 35 i) ?_ (ρ.1 1) _ _ _ ⟨0, by omega, rfl, rfl, by rw [show qfl G 0 = [] from rfl, List.filter_nil, List.append_nil]; exact F, qFk_rf, fun _ _ => rfl⟩
            rintro t m' _ _ ⟨j, hj, rfl, rfl, F', k', t'⟩ K hK
            have M' := qMR_k M k'
            have e36 : m'.1 36 = nI to := by rw [(k' 36 (by omega)).1]; exact h36
            have e37 : m'.1 37 = nI o := by rw [(k' 37 (by omega)).1]; exact h37
            unfold wb_X8_seek_57
            rw [M'.1.2.1, e36, e37]
            by_cases e1 : nI (ρ.1 1) ≤ nI j
            · have := (q_leN (by omega) (by omega)).mp e1
              have : j = ρ.1 1 := by omega
              subst this
              rw [q_pos e1]
              exact h m' F' k' t'
            · have e1' : ¬ ρ.1 1 ≤ j := fun z => e1 ((q_leN (by omega) (by omega)).mpr z)
              have hjn : j < ρ.1 1 := by omega
              rw [q_neg e1]
              -- to the next number
              have nx : ∀ m'', qF m'' ρ to s (L ++ (qfl G (j + 1)).filter (qwt ρ to s o)) → qFk m m'' → (∀ i, i < (p :: π).length → m''.2.1 35 i = m.2.1 35 i) → wp_X8_seek_226 (nI (p :: π).length) (nI (qmk (p :: π))) (s + nI (qsec ρ (p :: π))) (nI (qch ρ to s (p :: π))) (nI (qrn ρ to (p :: π))) (wp_X8_seek d) post K m'' (nI p) (nI j) := by
                intro m'' F'' k'' t'' v hv
                rw [hv, q_succ]
                exact hK (t - 1) _ _ _ (by omega) ⟨j + 1, by omega, rfl, rfl, F'', k'', t''⟩
              have efl : (qfl G (j + 1)).filter (qwt ρ to s o) = (qfl G j).filter (qwt ρ to s o) ++ (G j).filter (qwt ρ to s o) := by
                show (qfl G j ++ G j).filter _ = _
                rw [List.filter_append]
              have skip : (G j).filter (qwt ρ to s o) = [] → wp_X8_seek_226 (nI (p :: π).length) (nI (qmk (p :: π))) (s + nI (qsec ρ (p :: π))) (nI (qch ρ to s (p :: π))) (nI (qrn ρ to (p :: π))) (wp_X8_seek d) post K m' (nI p) (nI j) := by
                intro c
                exact nx m' (by rw [efl, c, List.append_nil]; exact F') k' t'
              have hGe : ∀ w ∈ G j, ∃ pre, w = pre ++ j :: p :: π := by
                intro w hw
                rw [hGq] at hw
                by_cases c : (qnb ρ p j && !decide (j ∈ p :: π)) = true
                · rw [if_pos c] at hw
                  rw [Bool.and_eq_true] at c
                  have c2 : j ∉ p :: π := by simpa using c.2
                  obtain ⟨-, pre, h2⟩ := qx_way d (j :: p :: π) (List.nodup_cons.mpr ⟨c2, hnd⟩) (by rw [List.length_cons]; omega) (fun x hx => by
                    rcases List.mem_cons.mp hx with rfl | hx
                    · exact hjn
                    · exact hr x hx) w hw
                  exact ⟨pre, h2⟩
                · rw [if_neg c] at hw; exact absurd hw List.not_mem_nil
              -- one next
              have go : ∀ hd : Bool, hd = (decide (o = 1) && (!decide (j = to) && qrd ρ j)) → wp_X8_seek_101 (nI (p :: π).length) (nI (qmk (p :: π))) (s + nI (qsec ρ (p :: π))) (nI (qch ρ to s (p :: π))) (nI (qrn ρ to (p :: π))) (wp_X8_seek d) post K m' (nI p) (nI j) (qz hd) := by
                intro hd ehd
                unfold wp_X8_seek_101
                refine e8_has (Nat.lt_of_lt_of_le hq12 (by decide)) (by omega) ?_
                rw [qmk_bit]
                refine q_br (fun c => skip ?_) (fun c => ?_)
                · have : G j = [] := by rw [hGq, c]; simp
                  rw [this]; rfl
                have c2 : j ∉ p :: π := of_decide_eq_false c
                refine q_br (fun ch => skip ?_) (fun ch => ?_)
                · rw [ch] at ehd
                  have ehd := ehd.symm
                  rw [Bool.and_eq_true, Bool.and_eq_true] at ehd
                  refine q_filt_nil (fun w hw => ?_)
                  obtain ⟨pre, ew⟩ := hGe w hw
                  have : 0 < qrn ρ to (j :: p :: π) := by
                    unfold qrn
                    rw [ehd.2.1, ehd.2.2]
                    exact Nat.lt_of_lt_of_le (by decide : 0 < 1) (Nat.le_add_left _ _)
                  have := qrn_app to pre this
                  rw [← ew] at this
                  unfold qwt
                  rw [if_pos (of_decide_eq_true ehd.1)]
                  exact decide_eq_false (by omega)
                refine e8_areBeside M' (qW_L W) hp hjn ?_
                refine q_br (fun cn => ?_) (fun cn => skip ?_)
                rotate_left
                · have : G j = [] := by rw [hGq, cn]; simp
                  rw [this]; rfl
                have eG : G j = qx ρ to d (j :: p :: π) := by rw [hGq, cn, decide_eq_false c2]; simp
                refine ⟨q_in (by omega) (by omega), fun j13 hj13 => ?_⟩
                rw [q_clamp (by omega)] at hj13
                subst hj13
                have kA : qFk m' (zA m' 35 (p :: π).length (nI j)) := qFk_35 _ _
                have MA := qMR_k M' kA
                have FA := qF_35 (i := (p :: π).length) (x := nI j) F'
                have e36A : (zA m' 35 (p :: π).length (nI j)).1 36 = nI to := e36
                have e37A : (zA m' 35 (p :: π).length (nI j)).1 37 = nI o := e37
                have tA : ∀ i, i < (j :: p :: π).length → (zA m' 35 (p :: π).length (nI j)).2.1 35 i = nI (qat (j :: p :: π) i) := by
                  intro i hi
                  rw [z_A]
                  by_cases z : i = (p :: π).length
                  · rw [if_pos ⟨rfl, z⟩, z, qat_cons_eq]
                  · have hi : i < (p :: π).length + 1 := hi
                    rw [if_neg (by omega), t' i (by omega), ht i (by omega), qat_cons_lt j (p :: π) (by omega)]
                have tB : ∀ i, i < (p :: π).length → (zA m' 35 (p :: π).length (nI j)).2.1 35 i = m.2.1 35 i := by
                  intro i hi
                  rw [z_A, if_neg (by omega)]; exact t' i hi
                generalize zA m' 35 (p :: π).length (nI j) = mA at kA MA FA e36A e37A tA tB ⊢
                rw [e36A]
                have hq1 := qch_le (ρ := ρ) to s (p :: π)
                have eL : (qfl G (j + 1)).length ≤ (qfl G (ρ.1 1)).length := qfl_len (j + 1) (by omega)
                rw [show qfl G (j + 1) = qfl G j ++ G j from rfl, List.length_append, eG] at eL
                have fle : ((qfl G j).filter (qwt ρ to s o)).length ≤ (qfl G j).length := List.length_filter_le _ _
                -- down, with a number of readers more
                have down : ∀ (rd : Bool), rd = (!decide (j = to) && qrd ρ j) → ∀ c', c' = qch ρ to s (j :: p :: π) → wp_X8_seek_222 (nI (p :: π).length) (nI (qmk (p :: π))) (s + nI (qsec ρ (p :: π))) (nI (qch ρ to s (p :: π))) (nI (qrn ρ to (p :: π))) (wp_X8_seek d) post K mA (nI p) (nI j) (qz rd) (nI (qrn ρ to (p :: π))) (nI c') (s + nI (qsec ρ (p :: π)) + nI (qtk ρ p)) (nI (qmk (p :: π)) ||| ((1 : Int32) <<< (nI j &&& 31))) (nI (p :: π).length + (1 : Int32)) := by
                  intro rd erd c' ec'
                  unfold wp_X8_seek_222
                  have er : nI (qrn ρ to (p :: π)) + qz rd = nI (qrn ρ to (j :: p :: π)) := by
                    have : qrn ρ to (j :: p :: π) = qrn ρ to (p :: π) + (if !decide (j = to) && qrd ρ j then 1 else 0) := rfl
                    rw [this, ← erd]
                    cases rd
                    · exact nI_add _ 0
                    · exact nI_add _ 1
                  have es : s + nI (qsec ρ (p :: π)) + nI (qtk ρ p) = s + nI (qsec ρ (j :: p :: π)) := by
                    rw [Int32.add_assoc, nI_add]; rfl
                  rw [er, es, q_orb (by omega), q_succ, ec']
                  refine ih (j :: p :: π) (L ++ (qfl G j).filter (qwt ρ to s o)) mA _ (by rw [List.length_cons]; omega) (by rw [List.length_cons]; omega) (by rw [List.length_cons]; omega) (List.nodup_cons.mpr ⟨c2, hnd⟩) (fun q hq => ?_) MA e36A e37A FA tA (by rw [List.length_append]; omega) (fun z => ?_) (fun z => ?_) (fun m'' F'' k'' t'' => ?_)
                  · rcases List.mem_cons.mp hq with rfl | hq
                    · exact hjn
                    · exact hr q hq
                  · have : qrn ρ to (j :: p :: π) = qrn ρ to (p :: π) + (if !decide (j = to) && qrd ρ j then 1 else 0) := rfl
                    rw [this, po1 z]
                    rw [ch, decide_eq_true z, Bool.true_and] at ehd
                    rw [← ehd]; rfl
                  · have : qse ρ s (j :: p :: π) = (qse ρ s (p :: π) || qlk ρ (s + nI (qsec ρ (p :: π)))) := rfl
                    rw [this, po2 z, hlk z]; rfl
                  · refine nx m'' ?_ (qFk_tr k' (qFk_tr kA k'')) (fun i hi => ?_)
                    · rw [efl, eG, ← List.append_assoc]; exact F''
                    · rw [t'' i (by rw [List.length_cons (a := j)]; omega)]; exact tB i hi
                have hand : ∀ l : Bool, l = decide (j = to) → wp_X8_seek_160 (nI (p :: π).length) (nI (qmk (p :: π))) (s + nI (qsec ρ (p :: π))) (nI (qch ρ to s (p :: π))) (nI (qrn ρ to (p :: π))) (wp_X8_seek d) post K mA (nI p) (nI j) (qz l) (s + nI (qsec ρ (p :: π))) (nI j) (1000 : Int32) ((nI (qch ρ to s (p :: π))).toInt64) := by
                  intro l el
                  unfold wp_X8_seek_160
                  refine a8_loss MA W hjn l _ ?_
                  have hla := qla_le ρ j l (s + nI (qsec ρ (p :: π)))
                  have hm : qch ρ to s (p :: π) * (1000 - qla ρ j l (s + nI (qsec ρ (p :: π)))) ≤ 1000000 * 1000 := Nat.mul_le_mul hq1 (by omega)
                  have ec : qch ρ to s (j :: p :: π) = qch ρ to s (p :: π) * (1000 - qla ρ j l (s + nI (qsec ρ (p :: π)))) / 1000 := by rw [el]; rfl
                  have d1000 : (1000 : Int32) = nI 1000 := rfl
                  have l1000 : (1000 : Int64) = lN 1000 := rfl
                  rw [q_all, d1000, pk_sub (by omega), nI_l (by omega), nI_l (by omega), lN_mul, l1000, pk_lDiv (by omega) (by decide) (by decide), lN_i, ← ec]
                  refine a8_hand MA W hp ?_
                  rw [e36A]
                  refine ⟨fun c => ?_, fun c => ⟨q_in (by omega) (by omega), ?_⟩⟩
                  · have c' : j = to := (nI_eq (by omega) (by omega)).mp c
                    exact down false (by rw [decide_eq_true c']; rfl) _ rfl
                  · have c' : ¬ j = to := fun z => c (by rw [z])
                    rw [q_clamp (by omega), (MA.2.1 j hjn).1, e8_reads (W.2.1 j hjn).1]
                    refine q_br (fun c3 => ?_) (fun c3 => ?_)
                    · exact down true (by rw [decide_eq_false c']; exact c3.symm) _ rfl
                    · exact down false (by rw [decide_eq_false c']; exact c3.symm) _ rfl
                refine ⟨fun c => ?_, fun c => ?_⟩
                · exact hand true (by rw [decide_eq_true ((nI_eq (by omega) (by omega)).mp c)])
                · exact hand false (by rw [decide_eq_false (fun z => c (by rw [z]))])
              rw [nI_k1 (by omega)]
              refine ⟨fun c => ?_, fun c => go false (by rw [decide_eq_false c]; rfl)⟩
              refine ⟨fun c3 => ?_, fun c3 => ⟨q_in (by omega) (by omega), ?_⟩⟩
              · have c' : j = to := (nI_eq (by omega) (by omega)).mp c3
                exact go false (by rw [decide_eq_true c']; simp)
              · have c' : ¬ j = to := fun z => c3 (by rw [z])
                rw [q_clamp (by omega), (M'.2.1 j hjn).1, e8_reads (W.2.1 j hjn).1]
                refine q_br (fun c4 => ?_) (fun c4 => ?_)
                · exact go true (by rw [decide_eq_false c', decide_eq_true c]; exact c4.symm)
                · exact go false (by rw [decide_eq_false c', decide_eq_true c]; exact c4.symm)
          rw [nI_k2 (by omega)]
          refine ⟨fun c => ?_, fun c => loop (fun z => absurd z c)⟩
          rw [e8_looks M W]
          refine q_br (fun c2 => ?_) (fun c2 => loop (fun _ => c2))
          have : (qx ρ to (d + 1) (p :: π)).filter (qwt ρ to s o) = [] := by
            refine q_filt_nil (fun w hw => ?_)
            obtain ⟨pre, q, ew⟩ := hext w hw
            have : qse ρ s (q :: p :: π) = true := by
              show (qse ρ s (p :: π) || qlk ρ (s + nI (qsec ρ (p :: π)))) = true
              rw [c2, Bool.or_true]
            have := qse_app s pre this
            rw [← ew] at this
            unfold qwt
            rw [if_neg (by omega), if_pos c, this]; rfl
          exact h m (by rw [this, List.append_nil]; exact F) qFk_rf (fun _ _ => rfl)
theorem a8_find {m : zS} (M : qMR m ρ) (W : qW ρ) {a b : Nat} (ha : a < ρ.1 1) (hb : b < ρ.1 1) (hB : (qAll ρ a b).length ≤ 48) (s : Int32) {o : Nat} (ho : o < 3) {post : zS → Prop}
    (h : ∀ m', qF m' ρ b s ((qAll ρ a b).filter (qwt ρ b s o)) → qFr 35 48 m m' → post m') : wp_X8_findWays m (nI a) (nI b) s (nI o) post := by
  have hc := W.1.2.2.1
  unfold wp_X8_findWays
  refine ⟨q_in (n := 0) (by decide) (by decide), fun j hj => ?_⟩
  have hj : j = 0 := hj
  subst hj
  rw [q_shl1 a (by omega)]
  have e : (2 : Nat) ^ a = qmk [a] := by simp [qmk]
  have s0 : s = s + nI (qsec ρ [a]) := by
    have : nI (qsec ρ [a]) = (0 : Int32) := rfl
    rw [this, Int32.add_zero]
  have F0 : qFr 35 48 m (zA (zI (zI (zI m 38 0) 36 (nI b)) 37 (nI o)) 35 0 (nI a)) := qFr_A (k := 35) (qFr_I (k := 37) (qFr_I (k := 36) (qFr_I (k := 38) qFr_rf (by decide) _) (by decide) _) (by decide) _) (by decide) _ _
  rw [e]
  have F00 : qF (zA (zI (zI (zI m 38 0) 36 (nI b)) 37 (nI o)) 35 0 (nI a)) ρ b s [] := by
    refine ⟨rfl, fun i hi => absurd hi (Nat.not_lt_zero i), ?_, ?_, ?_, ?_⟩
    · intro v hv; cases hv
    · intro v hv; cases hv
    · intro v hv; cases hv
    · intro v hv; cases hv
  have key := a8_seek (to := b) W hb ho s 10 [a] [] (zA (zI (zI (zI m 38 0) 36 (nI b)) 37 (nI o)) 35 0 (nI a)) post (Nat.le_add_right _ _) (Nat.le_refl 1) (show 1 ≤ 9 by decide) (List.nodup_cons.mpr ⟨List.not_mem_nil, List.nodup_nil⟩) (fun q hq => by rw [List.mem_singleton.mp hq]; exact ha) (qMR_fr M F0 (Or.inr (by decide))) rfl rfl F00 (fun i hi => by
    have hi : i < 1 := hi
    have : i = 0 := by omega
    subst this
    rw [z_A, if_pos ⟨rfl, rfl⟩]; rfl) (by rw [List.length_nil, Nat.zero_add]; exact hB) (fun _ => rfl) (fun _ => rfl) (fun m' F' k' _ => h m' F' (qFr_tr F0 (qFk_Fr k')))
  rw [← s0] at key
  exact key
end QFIND
