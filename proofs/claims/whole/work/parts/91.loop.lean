/-! turns of the law -/
section LAWLOOP
variable {p : Program} {l : Launch} {e : Env} {s : State} {mi : MethodId} {below : List Frame} {meth : Method} {c : Code} {H : Heap} {locs : List Loc} {cells slots : Nat} {Q : State → Prop}
variable {D : va_G} {K : Nat → ClassId} {h : Nat} {hs : Nat → Nat} {as ax : Nat → Nat → Nat} {g : Nat} {ag la : Nat → Nat} {b L : Nat} {sc : Nat → Int32} {ls : Array Slot} {i : Nat} {pc : Nat} {st : List Value}
variable {xs sh : Nat → zS} {m : zS} {n : Nat → Option Nat} {ok ot : wO}
theorem q_and63 (v : Int32) : ∃ k, k < 64 ∧ v &&& (63 : Int32) = nI k := by
  have e : v = nI v.toBitVec.toNat := by
    apply Int32.toBitVec_inj.mp
    show v.toBitVec = BitVec.ofNat 32 v.toBitVec.toNat
    rw [BitVec.ofNat_toNat, BitVec.setWidth_eq]
  have e63 : (63 : Int32) = nI 63 := rfl
  refine ⟨v.toBitVec.toNat &&& 63, Nat.lt_succ_of_le Nat.and_le_right, ?_⟩
  rw [e63, ← q_and, ← e]
theorem q_sub6 {L : Nat} (h : L ≤ 3072) : (nI L - (6 : Int32)).toInt = (L : Int) - 6 := by
  have e := Int32.toInt_sub (nI L) 6
  have e6 : (6 : Int32).toInt = 6 := rfl
  rw [Int.bmod_def, nI_toInt (by omega), e6] at e
  omega
set_option maxHeartbeats 8000000 in
set_option maxRecDepth 100000 in
theorem l_turn {adK adV : Nat → Nat} (C : lC p s mi meth c D K b L sc) (hE : zE adK adV (fun q : Nat => s.heap.size ≤ q) s s.heap) (hl : lv_has ls 4 [(0, .ref b), (1, .ref h), (2, .ref g), (3, .int (nI i))]) (hi : i + 6 ≤ L) (St : lS s D K h hs as ax g ag la H locs cells slots xs sh m n ok ot i)
    (next : ∀ (H : Heap) (locs : List Loc) (cells slots : Nat) (xs sh : Nat → zS) (m : zS) (n : Nat → Option Nat) (ok ot : wO), lS s D K h hs as ax g ag la H locs cells slots xs sh m n ok ot (i + 6) → W p l e room_1 s mi #[Value.ref b] below meth c H locs cells slots Q (F0 mi 1962 ls [])) (k : Nat) (hk : k < 64) : W p l e room_1 s mi #[Value.ref b] below meth c H locs cells slots Q (F0 mi 33 ls [.int (nI k)]) := by
  obtain ⟨C0, hX, hbl, hL⟩ := id C
  obtain ⟨hx, hb, hr, hml, hown, hts, hlocks, hK, hT⟩ := id C0
  have no : 50 < k → W p l e room_1 s mi #[Value.ref b] below meth c H locs cells slots Q (F0 mi 33 ls [.int (nI k)]) := fun z => by
    refine lv_tableOut (tgt := 1962) hx hb dL_law_33 (Or.inr (by rw [nI_toInt (by omega)]; omega)) (by decide) ?_
    obtain ⟨hP, hD, hS, sim, hn, hc⟩ := St
    exact next _ _ _ _ _ _ _ _ _ _ ⟨hP, hD, hS, sim, hn, ⟨by omega, by omega⟩⟩
  by_cases z0 : k = 0
  · subst z0
    refine lv_tableIn (tgt := 252) (off := 219) hx hb dL_law_33 (by decide) (by decide) (by decide) (by decide) ?_
    exact lc_row C hl hi St next
  by_cases z1 : k = 1
  · subst z1
    refine lv_tableIn (tgt := 295) (off := 262) hx hb dL_law_33 (by decide) (by decide) (by decide) (by decide) ?_
    exact lc_set C hl hi St next
  by_cases z2 : k = 2
  · subst z2
    refine lv_tableIn (tgt := 368) (off := 335) hx hb dL_law_33 (by decide) (by decide) (by decide) (by decide) ?_
    exact lc_copy C hl hi St next
  by_cases z3 : k = 3
  · subst z3
    refine lv_tableIn (tgt := 431) (off := 398) hx hb dL_law_33 (by decide) (by decide) (by decide) (by decide) ?_
    exact lc_element C hl hi St next
  by_cases z4 : k = 4
  · subst z4
    refine lv_tableIn (tgt := 465) (off := 432) hx hb dL_law_33 (by decide) (by decide) (by decide) (by decide) ?_
    exact lc_holds C hl hi St next
  by_cases z5 : k = 5
  · subst z5
    refine lv_tableIn (tgt := 488) (off := 455) hx hb dL_law_33 (by decide) (by decide) (by decide) (by decide) ?_
    exact lc_show C hl hi St next
  by_cases z6 : k = 6
  · subst z6
    refine lv_tableIn (tgt := 521) (off := 488) hx hb dL_law_33 (by decide) (by decide) (by decide) (by decide) ?_
    exact lc_says C hl hi St next
  by_cases z7 : k = 7
  · subst z7
    refine lv_tableIn (tgt := 554) (off := 521) hx hb dL_law_33 (by decide) (by decide) (by decide) (by decide) ?_
    exact lc_rows C hl hi St next
  by_cases z8 : k = 8
  · subst z8
    refine lv_tableIn (tgt := 577) (off := 544) hx hb dL_law_33 (by decide) (by decide) (by decide) (by decide) ?_
    exact lc_pupil C hl hi St next
  by_cases z9 : k = 9
  · subst z9
    refine lv_tableIn (tgt := 620) (off := 587) hx hb dL_law_33 (by decide) (by decide) (by decide) (by decide) ?_
    by_cases cz : sc (i + 3) = 0
    · exact lc_bar0 C hl hi cz St next
    · exact lc_bar1 C hl hi cz St next
  by_cases z10 : k = 10
  · subst z10
    refine lv_tableIn (tgt := 679) (off := 646) hx hb dL_law_33 (by decide) (by decide) (by decide) (by decide) ?_
    exact lc_move C hl hi St next
  by_cases z11 : k = 11
  · subst z11
    refine lv_tableIn (tgt := 712) (off := 679) hx hb dL_law_33 (by decide) (by decide) (by decide) (by decide) ?_
    exact lc_master C hl hi St next
  by_cases z12 : k = 12
  · subst z12
    refine lv_tableIn (tgt := 745) (off := 712) hx hb dL_law_33 (by decide) (by decide) (by decide) (by decide) ?_
    exact lc_feed C hl hi St next
  by_cases z13 : k = 13
  · subst z13
    refine lv_tableIn (tgt := 768) (off := 735) hx hb dL_law_33 (by decide) (by decide) (by decide) (by decide) ?_
    exact lc_wipe C hl hi St next
  by_cases z14 : k = 14
  · subst z14
    refine lv_tableIn (tgt := 781) (off := 748) hx hb dL_law_33 (by decide) (by decide) (by decide) (by decide) ?_
    rcases ot with _ | ⟨q, A, N, LA, km⟩
    · exact lc_schoolN C hl hi hE St next
    · exact lc_schoolS C hl hi hE St next
  by_cases z15 : k = 15
  · subst z15
    refine lv_tableIn (tgt := 794) (off := 761) hx hb dL_law_33 (by decide) (by decide) (by decide) (by decide) ?_
    exact lc_pupilOf C hl hi St next
  by_cases z16 : k = 16
  · subst z16
    refine lv_tableIn (tgt := 827) (off := 794) hx hb dL_law_33 (by decide) (by decide) (by decide) (by decide) ?_
    exact lc_at C hl hi St next
  by_cases z17 : k = 17
  · subst z17
    refine lv_tableIn (tgt := 850) (off := 817) hx hb dL_law_33 (by decide) (by decide) (by decide) (by decide) ?_
    exact lc_loss C hl hi St next
  by_cases z18 : k = 18
  · subst z18
    refine lv_tableIn (tgt := 883) (off := 850) hx hb dL_law_33 (by decide) (by decide) (by decide) (by decide) ?_
    exact lc_ways C hl hi St next
  by_cases z19 : k = 19
  · subst z19
    refine lv_tableIn (tgt := 916) (off := 883) hx hb dL_law_33 (by decide) (by decide) (by decide) (by decide) ?_
    exact lc_fewest C hl hi St next
  by_cases z20 : k = 20
  · subst z20
    refine lv_tableIn (tgt := 949) (off := 916) hx hb dL_law_33 (by decide) (by decide) (by decide) (by decide) ?_
    exact lc_surest C hl hi St next
  by_cases z21 : k = 21
  · subst z21
    refine lv_tableIn (tgt := 1002) (off := 969) hx hb dL_law_33 (by decide) (by decide) (by decide) (by decide) ?_
    exact lc_unread C hl hi St next
  by_cases z22 : k = 22
  · subst z22
    refine lv_tableIn (tgt := 1055) (off := 1022) hx hb dL_law_33 (by decide) (by decide) (by decide) (by decide) ?_
    exact lc_unseen C hl hi St next
  by_cases z23 : k = 23
  · subst z23
    refine lv_tableIn (tgt := 1108) (off := 1075) hx hb dL_law_33 (by decide) (by decide) (by decide) (by decide) ?_
    exact lc_readers C hl hi St next
  by_cases z24 : k = 24
  · subst z24
    refine lv_tableIn (tgt := 1141) (off := 1108) hx hb dL_law_33 (by decide) (by decide) (by decide) (by decide) ?_
    exact lc_together C hl hi St next
  by_cases z25 : k = 25
  · subst z25
    refine lv_tableIn (tgt := 1204) (off := 1171) hx hb dL_law_33 (by decide) (by decide) (by decide) (by decide) ?_
    rcases ot with _ | ⟨q, A, N, LA, km⟩
    · exact lc_spotN C hl hi St next
    · exact lc_spotS C hl hi St next
  by_cases z26 : k = 26
  · subst z26
    refine lv_tableIn (tgt := 1257) (off := 1224) hx hb dL_law_33 (by decide) (by decide) (by decide) (by decide) ?_
    exact lc_crowd C hl hi St next
  by_cases z27 : k = 27
  · subst z27
    refine lv_tableIn (tgt := 1270) (off := 1237) hx hb dL_law_33 (by decide) (by decide) (by decide) (by decide) ?_
    exact lc_inRow C hl hi St next
  by_cases z28 : k = 28
  · subst z28
    refine lv_tableIn (tgt := 1293) (off := 1260) hx hb dL_law_33 (by decide) (by decide) (by decide) (by decide) ?_
    exact lc_edges C hl hi St next
  by_cases z29 : k = 29
  · subst z29
    refine lv_tableIn (tgt := 1306) (off := 1273) hx hb dL_law_33 (by decide) (by decide) (by decide) (by decide) ?_
    exact lc_lonely C hl hi St next
  by_cases z30 : k = 30
  · subst z30
    refine lv_tableIn (tgt := 1319) (off := 1286) hx hb dL_law_33 (by decide) (by decide) (by decide) (by decide) ?_
    exact lc_when C hl hi St next
  by_cases z31 : k = 31
  · subst z31
    refine lv_tableIn (tgt := 1352) (off := 1319) hx hb dL_law_33 (by decide) (by decide) (by decide) (by decide) ?_
    exact lc_answer C hl hi St next
  by_cases z32 : k = 32
  · subst z32
    refine lv_tableIn (tgt := 1395) (off := 1362) hx hb dL_law_33 (by decide) (by decide) (by decide) (by decide) ?_
    exact lc_halves C hl hi St next
  by_cases z33 : k = 33
  · subst z33
    refine lv_tableIn (tgt := 1438) (off := 1405) hx hb dL_law_33 (by decide) (by decide) (by decide) (by decide) ?_
    exact lc_must C hl hi St next
  by_cases z34 : k = 34
  · subst z34
    refine lv_tableIn (tgt := 1471) (off := 1438) hx hb dL_law_33 (by decide) (by decide) (by decide) (by decide) ?_
    exact lc_cut C hl hi St next
  by_cases z35 : k = 35
  · subst z35
    refine lv_tableIn (tgt := 1504) (off := 1471) hx hb dL_law_33 (by decide) (by decide) (by decide) (by decide) ?_
    exact lc_reach C hl hi St next
  by_cases z36 : k = 36
  · subst z36
    refine lv_tableIn (tgt := 1527) (off := 1494) hx hb dL_law_33 (by decide) (by decide) (by decide) (by decide) ?_
    exact lc_judge C hl hi St next
  by_cases z37 : k = 37
  · subst z37
    refine lv_tableIn (tgt := 1560) (off := 1527) hx hb dL_law_33 (by decide) (by decide) (by decide) (by decide) ?_
    exact lc_told C hl hi St next
  by_cases z38 : k = 38
  · subst z38
    refine lv_tableIn (tgt := 1613) (off := 1580) hx hb dL_law_33 (by decide) (by decide) (by decide) (by decide) ?_
    exact lc_change C hl hi St next
  by_cases z39 : k = 39
  · subst z39
    refine lv_tableIn (tgt := 1656) (off := 1623) hx hb dL_law_33 (by decide) (by decide) (by decide) (by decide) ?_
    exact lc_code C hl hi St next
  by_cases z40 : k = 40
  · subst z40
    refine lv_tableIn (tgt := 1699) (off := 1666) hx hb dL_law_33 (by decide) (by decide) (by decide) (by decide) ?_
    exact lc_keyLength C hl hi St next
  by_cases z41 : k = 41
  · subst z41
    refine lv_tableIn (tgt := 1742) (off := 1709) hx hb dL_law_33 (by decide) (by decide) (by decide) (by decide) ?_
    exact lc_send C hl hi St next
  by_cases z42 : k = 42
  · subst z42
    refine lv_tableIn (tgt := 1775) (off := 1742) hx hb dL_law_33 (by decide) (by decide) (by decide) (by decide) ?_
    exact lc_note C hl hi St next
  by_cases z43 : k = 43
  · subst z43
    refine lv_tableIn (tgt := 1798) (off := 1765) hx hb dL_law_33 (by decide) (by decide) (by decide) (by decide) ?_
    exact lc_came C hl hi St next
  by_cases z44 : k = 44
  · subst z44
    refine lv_tableIn (tgt := 1821) (off := 1788) hx hb dL_law_33 (by decide) (by decide) (by decide) (by decide) ?_
    exact lc_suspect C hl hi St next
  by_cases z45 : k = 45
  · subst z45
    refine lv_tableIn (tgt := 1834) (off := 1801) hx hb dL_law_33 (by decide) (by decide) (by decide) (by decide) ?_
    exact lc_swap C hl hi St next
  by_cases z46 : k = 46
  · subst z46
    refine lv_tableIn (tgt := 1867) (off := 1834) hx hb dL_law_33 (by decide) (by decide) (by decide) (by decide) ?_
    exact lc_waits C hl hi St next
  by_cases z47 : k = 47
  · subst z47
    refine lv_tableIn (tgt := 1890) (off := 1857) hx hb dL_law_33 (by decide) (by decide) (by decide) (by decide) ?_
    exact lc_seed C hl hi St next
  by_cases z48 : k = 48
  · subst z48
    refine lv_tableIn (tgt := 1913) (off := 1880) hx hb dL_law_33 (by decide) (by decide) (by decide) (by decide) ?_
    rcases ok with _ | ⟨q, A, N, LA, km⟩
    · exact lc_imageN C hl hi St next
    · exact lc_imageS C hl hi St next
  by_cases z49 : k = 49
  · subst z49
    refine lv_tableIn (tgt := 1926) (off := 1893) hx hb dL_law_33 (by decide) (by decide) (by decide) (by decide) ?_
    rcases ok with _ | ⟨q, A, N, LA, km⟩
    · exact lc_backN C hl hi St next
    · exact lc_backS C hl hi St next
  by_cases z50 : k = 50
  · subst z50
    refine lv_tableIn (tgt := 1939) (off := 1906) hx hb dL_law_33 (by decide) (by decide) (by decide) (by decide) ?_
    exact lc_status C hl hi St next
  exact no (by omega)
set_option maxHeartbeats 8000000 in
set_option maxRecDepth 100000 in
theorem l_loop {adK adV : Nat → Nat} (C : lC p s mi meth c D K b L sc) (hE : zE adK adV (fun q : Nat => s.heap.size ≤ q) s s.heap)
    (fin : ∀ (ls : Array Slot) (H : Heap) (locs : List Loc) (cells slots : Nat), va_S (fun q : Nat => s.heap.size ≤ q) s.heap H locs → cells ≤ 600000 → slots ≤ 7302250 → W p l e room_1 s mi #[Value.ref b] below meth c H locs cells slots Q (F0 mi 1968 ls [])) :
    ∀ (f i : Nat), L ≤ i + f → i ≤ L + 6 → ∀ (ls : Array Slot) (H : Heap) (locs : List Loc) (cells slots : Nat) (xs sh : Nat → zS) (m : zS) (n : Nat → Option Nat) (ok ot : wO), lv_has ls 4 [(0, .ref b), (1, .ref h), (2, .ref g), (3, .int (nI i))] → lS s D K h hs as ax g ag la H locs cells slots xs sh m n ok ot i → W p l e room_1 s mi #[Value.ref b] below meth c H locs cells slots Q (F0 mi 18 ls []) := by
  obtain ⟨C0, hX, hbl, hL⟩ := id C
  obtain ⟨hx, hb, hr, hml, hown, hts, hlocks, hK, hT⟩ := id C0
  have hbA : ¬ (fun q : Nat => s.heap.size ≤ q) b := Nat.not_le.mpr hbl
  intro f
  induction f with
  | zero =>
    intro i h1 h2 ls H locs cells slots xs sh m n ok ot hl St
    obtain ⟨hP, hD, hS, sim, hn, hc⟩ := St
    refine lv_iload_n hx hb dL_law_18 rfl (lv_at hl 3 rfl) ?_
    refine lv_aload_n hx hb dL_law_19 rfl (lv_at hl 0 rfl) ?_
    refine va_slen hx hb hX hbl hbA hS dL_law_20 ?_
    refine lv_bipush (v := 6) hx hb dL_law_21 (by decide) ?_
    refine lv_isub hx hb dL_law_23 ?_
    refine lv_icmp_gt (tgt := 1968) hx hb dL_law_24 (by decide) (fun c => ?_) (fun c => ?_)
    · exact fin _ _ _ _ _ hS (by omega) (by omega)
    · exfalso
      refine c ?_
      show nI L - (6 : Int32) < nI i
      rw [q_ltI, q_sub6 hL, nI_toInt (by omega)]
      omega
  | succ f ih =>
    intro i h1 h2 ls H locs cells slots xs sh m n ok ot hl St
    obtain ⟨hP, hD, hS, sim, hn, hc⟩ := id St
    refine lv_iload_n hx hb dL_law_18 rfl (lv_at hl 3 rfl) ?_
    refine lv_aload_n hx hb dL_law_19 rfl (lv_at hl 0 rfl) ?_
    refine va_slen hx hb hX hbl hbA hS dL_law_20 ?_
    refine lv_bipush (v := 6) hx hb dL_law_21 (by decide) ?_
    refine lv_isub hx hb dL_law_23 ?_
    refine lv_icmp_gt (tgt := 1968) hx hb dL_law_24 (by decide) (fun c => ?_) (fun c => ?_)
    · exact fin _ _ _ _ _ hS (by omega) (by omega)
    · have hi : i + 6 ≤ L := by
        rcases Nat.lt_or_ge L (i + 6) with z | z
        · exfalso
          refine c ?_
          show nI L - (6 : Int32) < nI i
          rw [q_ltI, q_sub6 hL, nI_toInt (by omega)]
          omega
        · exact z
      refine lv_aload_n hx hb dL_law_27 rfl (lv_at hl 0 rfl) ?_
      refine lv_iload_n hx hb dL_law_28 rfl (lv_at hl 3 rfl) ?_
      refine va_sld hx hb hX hbl hbA hS (q_in (by omega) (by omega)) dL_law_29 ?_
      refine lv_bipush (v := 63) hx hb dL_law_30 (by decide) ?_
      refine lv_iand hx hb dL_law_32 ?_
      obtain ⟨k, hk, ek⟩ := q_and63 (sc (nI i).toNatClampNeg)
      rw [ek]
      refine l_turn C hE hl hi St (fun H locs cells slots xs sh m n ok ot St' => ?_) k hk
      refine lv_iinc (v := nI (i + 6)) (lv' := [(3, .int (nI (i + 6))), (0, .ref b), (1, .ref h), (2, .ref g)]) hx hb dL_law_1962 hl (k := 3) rfl (nI_add i 6) (by decide) rfl (fun ls hl => ?_)
      refine lv_goto (tgt := 18) hx hb dL_law_1965 (by decide) ?_
      exact ih (i + 6) (by omega) (by omega) ls H locs cells slots xs sh m n ok ot (lv_sub hl [1, 2, 3, 0] rfl) St'
end LAWLOOP
