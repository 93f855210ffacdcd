/-! turns of the law -/
section LAWTB
variable {p : Program} {l : Launch} {e : Env} {s : State} {mi : MethodId} {below : List Frame} {meth : Method} {c : Code} {H : Heap} {locs : List Loc} {cells slots : Nat} {Q : State → Prop}
variable {D : va_G} {K : Nat → ClassId} {h : Nat} {hs : Nat → Nat} {as ax : Nat → Nat → Nat} {g : Nat} {ag la : Nat → Nat} {b L : Nat} {sc : Nat → Int32} {ls : Array Slot} {i : Nat} {pc : Nat} {st : List Value}
variable {xs sh : Nat → zS} {m : zS} {n : Nat → Option Nat} {ok ot : wO}
set_option maxHeartbeats 4000000 in
set_option maxRecDepth 100000 in
theorem lc_at (C : lC p s mi meth c D K b L sc) (hl : lv_has ls 4 [(0, .ref b), (1, .ref h), (2, .ref g), (3, .int (nI i))]) (hi : i + 6 ≤ L) (St : lS s D K h hs as ax g ag la H locs cells slots xs sh m n ok ot i)
    (next : ∀ (H : Heap) (locs : List Loc) (cells slots : Nat) (xs sh : Nat → zS) (m : zS) (n : Nat → Option Nat) (ok ot : wO), lS s D K h hs as ax g ag la H locs cells slots xs sh m n ok ot (i + 6) → W p l e room_1 s mi #[Value.ref b] below meth c H locs cells slots Q (F0 mi 1962 ls [])) : W p l e room_1 s mi #[Value.ref b] below meth c H locs cells slots Q (F0 mi 827 ls []) := by
  obtain ⟨C0, hX, hbl, hL⟩ := id C
  obtain ⟨hx, hb, hr, hml, hown, hts, hlocks, hK, hT⟩ := id C0
  obtain ⟨hP, hD, hS, sim, hn, hc⟩ := St
  have hA : ∀ q : Nat, s.heap.size ≤ q → (fun q : Nat => s.heap.size ≤ q) q := fun _ z => z
  have hf : cells + 0 ≤ room_1.cells ∧ slots + 0 ≤ room_1.slots := ⟨by show cells ≤ 600000; omega, by show slots ≤ 7302250; omega⟩
  refine lv_aload_n hx hb dL_law_827 rfl (lv_at hl 1 rfl) ?_
  refine l_arg C hS hl hi 1 (by decide) rfl dL_law_828 dL_law_829 dL_law_830 dL_law_831 dL_law_832 ?_
  unfold lW at hP hD
  generalize hR : (wX8 K g ag n la m ++ ([] : va_W)) ++ (wOpt K ok ++ wOpt K ot) = R at hP hD
  refine xend_rw_i (wf := fun (u : (zS)) => wX7 K h (ax 0) hs u ++ (wX1 K (ax 0 0) (ax 1) (xs 1))) (xRunV (As := [.int (sc (i + 1))]) (rest := []) C0 (c_X7_at (L_at sim (sc (i + 1)))) k_X7_at mw_713 ⟨rfl, rfl⟩ ⟨Nat.le_of_ble_eq_true rfl, Nat.le_of_ble_eq_true rfl⟩ hP hD (bpl lLs [0, 1]) lG_0_1 lD_0_1 rfl rfl hl rfl rfl (Nat.le_of_ble_eq_true rfl) dL_law_833 hf) hP hD hS hA (bpl lLs [0, 1]) lG_0_1 lD_0_1 (fun u => rfl) (fun r u H locs hw hP hD hS => ?_)
  rw [lE_0_1_10] at hP hD
  subst hR
  refine lv_aload_n hx hb dL_law_836 rfl (lv_at hl 2 rfl) ?_
  refine l_arg C hS hl hi 1 (by decide) rfl dL_law_837 dL_law_838 dL_law_839 dL_law_840 dL_law_841 ?_
  refine xend_rw_i_mid (wf := fun (u : zS) => wX8 K g ag n la u ++ ([] : va_W)) (xRunV_mid (As := [.int (sc (i + 1))]) (rest := [.int r]) C0 (c_X8_at hw) k_X8_at mw_717 ⟨rfl, rfl⟩ ⟨Nat.le_of_ble_eq_true rfl, Nat.le_of_ble_eq_true rfl⟩ hP hD rfl rfl hl rfl rfl (Nat.le_of_ble_eq_true rfl) dL_law_842 hf) hP hD hS hA (fun u => rfl) (fun r2 u2 H locs hw hP hD hS => ?_)
  refine lv_icmp_eq (tgt := 1962) hx hb dL_law_845 (by decide) (fun _ => ?_) (fun z => absurd hw.1.symm z)
  exact next _ _ _ _ _ _ _ _ _ _ ⟨hP, hD, hS, hw.2, hn, ⟨by omega, by omega⟩⟩
set_option maxHeartbeats 4000000 in
set_option maxRecDepth 100000 in
theorem lc_loss (C : lC p s mi meth c D K b L sc) (hl : lv_has ls 4 [(0, .ref b), (1, .ref h), (2, .ref g), (3, .int (nI i))]) (hi : i + 6 ≤ L) (St : lS s D K h hs as ax g ag la H locs cells slots xs sh m n ok ot i)
    (next : ∀ (H : Heap) (locs : List Loc) (cells slots : Nat) (xs sh : Nat → zS) (m : zS) (n : Nat → Option Nat) (ok ot : wO), lS s D K h hs as ax g ag la H locs cells slots xs sh m n ok ot (i + 6) → W p l e room_1 s mi #[Value.ref b] below meth c H locs cells slots Q (F0 mi 1962 ls [])) : W p l e room_1 s mi #[Value.ref b] below meth c H locs cells slots Q (F0 mi 850 ls []) := by
  obtain ⟨C0, hX, hbl, hL⟩ := id C
  obtain ⟨hx, hb, hr, hml, hown, hts, hlocks, hK, hT⟩ := id C0
  obtain ⟨hP, hD, hS, sim, hn, hc⟩ := St
  have hA : ∀ q : Nat, s.heap.size ≤ q → (fun q : Nat => s.heap.size ≤ q) q := fun _ z => z
  have hf : cells + 0 ≤ room_1.cells ∧ slots + 0 ≤ room_1.slots := ⟨by show cells ≤ 600000; omega, by show slots ≤ 7302250; omega⟩
  refine lv_aload_n hx hb dL_law_850 rfl (lv_at hl 1 rfl) ?_
  refine l_arg C hS hl hi 1 (by decide) rfl dL_law_851 dL_law_852 dL_law_853 dL_law_854 dL_law_855 ?_
  refine l_arg C hS hl hi 2 (by decide) rfl dL_law_856 dL_law_857 dL_law_858 dL_law_859 dL_law_860 ?_
  unfold lW at hP hD
  generalize hR : (wX8 K g ag n la m ++ ([] : va_W)) ++ (wOpt K ok ++ wOpt K ot) = R at hP hD
  refine xend_rw_i (wf := fun (u : (zS)) => wX7 K h (ax 0) hs u ++ (wX1 K (ax 0 0) (ax 1) (xs 1))) (xRunV (As := [.int (sc (i + 1)), .int (sc (i + 2))]) (rest := []) C0 (c_X7_loss (L_loss sim (sc (i + 1)) (sc (i + 2)))) k_X7_loss mw_721 ⟨rfl, rfl⟩ ⟨Nat.le_of_ble_eq_true rfl, Nat.le_of_ble_eq_true rfl⟩ hP hD (bpl lLs [0, 1]) lG_0_1 lD_0_1 rfl rfl hl rfl rfl (Nat.le_of_ble_eq_true rfl) dL_law_861 hf) hP hD hS hA (bpl lLs [0, 1]) lG_0_1 lD_0_1 (fun u => rfl) (fun r u H locs hw hP hD hS => ?_)
  rw [lE_0_1_10] at hP hD
  subst hR
  refine lv_aload_n hx hb dL_law_864 rfl (lv_at hl 2 rfl) ?_
  refine l_arg C hS hl hi 1 (by decide) rfl dL_law_865 dL_law_866 dL_law_867 dL_law_868 dL_law_869 ?_
  refine l_arg C hS hl hi 2 (by decide) rfl dL_law_870 dL_law_871 dL_law_872 dL_law_873 dL_law_874 ?_
  refine xend_rw_i_mid (wf := fun (u : zS) => wX8 K g ag n la u ++ ([] : va_W)) (xRunV_mid (As := [.int (sc (i + 1)), .int (sc (i + 2))]) (rest := [.int r]) C0 (c_X8_loss hw) k_X8_loss mw_738 ⟨rfl, rfl⟩ ⟨Nat.le_of_ble_eq_true rfl, Nat.le_of_ble_eq_true rfl⟩ hP hD rfl rfl hl rfl rfl (Nat.le_of_ble_eq_true rfl) dL_law_875 hf) hP hD hS hA (fun u => rfl) (fun r2 u2 H locs hw hP hD hS => ?_)
  refine lv_icmp_eq (tgt := 1962) hx hb dL_law_878 (by decide) (fun _ => ?_) (fun z => absurd hw.1.symm z)
  exact next _ _ _ _ _ _ _ _ _ _ ⟨hP, hD, hS, hw.2, hn, ⟨by omega, by omega⟩⟩
theorem lG_0_1_8 {R : va_W} : (bpl lLs [0, 1, 8]).map (fun i => (bfl (lB K h hs as ax xs sh) ++ R)[i]?) = (wX7 K h (ax 0) hs (xs 0) ++ (wX1 K (ax 0 0) (ax 1) (xs 1) ++ (wX6 K (ax 0 9) (ax 8) (xs 8)))).map some :=
  (b_get lB_len [0, 1, 8] (show ∀ j ∈ [0, 1, 8], j < 12 by decide)).trans (congrArg (List.map some) (show wX7 K h (ax 0) hs (xs 0) ++ (wX1 K (ax 0 0) (ax 1) (xs 1) ++ (wX6 K (ax 0 9) (ax 8) (xs 8) ++ (([] : va_W)))) = wX7 K h (ax 0) hs (xs 0) ++ (wX1 K (ax 0 0) (ax 1) (xs 1) ++ (wX6 K (ax 0 9) (ax 8) (xs 8))) by rw [List.append_nil]))
theorem lD_0_1_8 : va_nd (bpl lLs [0, 1, 8]) = true := by decide +kernel
theorem lE_0_1_8_101 {R : va_W} {y0 : zS} {y2 : zS} : xset (bfl (lB K h hs as ax xs sh) ++ R) (bpl lLs [0, 1, 8]) (wX7 K h (ax 0) hs y0 ++ (wX1 K (ax 0 0) (ax 1) (xs 1) ++ (wX6 K (ax 0 9) (ax 8) y2))) = bfl (lB K h hs as ax (va_up (va_up xs 0 y0) 8 y2) sh) ++ R := by
  have q := b_set (R := R) [0, 1, 8] [wX7 K h (ax 0) hs y0, wX1 K (ax 0 0) (ax 1) (xs 1), wX6 K (ax 0 9) (ax 8) y2] (lB K h hs as ax xs sh) lB_len (show ∀ j ∈ [0, 1, 8], j < 12 by decide) ⟨rfl, rfl, rfl, trivial⟩
  have q0 : bfl [wX7 K h (ax 0) hs y0, wX1 K (ax 0 0) (ax 1) (xs 1), wX6 K (ax 0 9) (ax 8) y2] = wX7 K h (ax 0) hs y0 ++ (wX1 K (ax 0 0) (ax 1) (xs 1) ++ (wX6 K (ax 0 9) (ax 8) y2)) := by
    show wX7 K h (ax 0) hs y0 ++ (wX1 K (ax 0 0) (ax 1) (xs 1) ++ (wX6 K (ax 0 9) (ax 8) y2 ++ (([] : va_W)))) = _
    rw [List.append_nil]
  rw [q0] at q
  exact q
set_option maxHeartbeats 4000000 in
set_option maxRecDepth 100000 in
theorem lc_ways (C : lC p s mi meth c D K b L sc) (hl : lv_has ls 4 [(0, .ref b), (1, .ref h), (2, .ref g), (3, .int (nI i))]) (hi : i + 6 ≤ L) (St : lS s D K h hs as ax g ag la H locs cells slots xs sh m n ok ot i)
    (next : ∀ (H : Heap) (locs : List Loc) (cells slots : Nat) (xs sh : Nat → zS) (m : zS) (n : Nat → Option Nat) (ok ot : wO), lS s D K h hs as ax g ag la H locs cells slots xs sh m n ok ot (i + 6) → W p l e room_1 s mi #[Value.ref b] below meth c H locs cells slots Q (F0 mi 1962 ls [])) : W p l e room_1 s mi #[Value.ref b] below meth c H locs cells slots Q (F0 mi 883 ls []) := by
  obtain ⟨C0, hX, hbl, hL⟩ := id C
  obtain ⟨hx, hb, hr, hml, hown, hts, hlocks, hK, hT⟩ := id C0
  obtain ⟨hP, hD, hS, sim, hn, hc⟩ := St
  have hA : ∀ q : Nat, s.heap.size ≤ q → (fun q : Nat => s.heap.size ≤ q) q := fun _ z => z
  have hf : cells + 0 ≤ room_1.cells ∧ slots + 0 ≤ room_1.slots := ⟨by show cells ≤ 600000; omega, by show slots ≤ 7302250; omega⟩
  refine lv_aload_n hx hb dL_law_883 rfl (lv_at hl 1 rfl) ?_
  refine l_arg C hS hl hi 1 (by decide) rfl dL_law_884 dL_law_885 dL_law_886 dL_law_887 dL_law_888 ?_
  refine l_arg C hS hl hi 2 (by decide) rfl dL_law_889 dL_law_890 dL_law_891 dL_law_892 dL_law_893 ?_
  unfold lW at hP hD
  generalize hR : (wX8 K g ag n la m ++ ([] : va_W)) ++ (wOpt K ok ++ wOpt K ot) = R at hP hD
  refine xend_rw_i (wf := fun (u : (zS) × (zS)) => wX7 K h (ax 0) hs u.1 ++ (wX1 K (ax 0 0) (ax 1) (xs 1) ++ (wX6 K (ax 0 9) (ax 8) u.2))) (xRunV (As := [.int (sc (i + 1)), .int (sc (i + 2))]) (rest := []) C0 (c_X7_ways (L_ways sim (sc (i + 1)) (sc (i + 2)))) k_X7_ways mw_751 ⟨rfl, rfl⟩ ⟨Nat.le_of_ble_eq_true rfl, Nat.le_of_ble_eq_true rfl⟩ hP hD (bpl lLs [0, 1, 8]) lG_0_1_8 lD_0_1_8 rfl rfl hl rfl rfl (Nat.le_of_ble_eq_true rfl) dL_law_894 hf) hP hD hS hA (bpl lLs [0, 1, 8]) lG_0_1_8 lD_0_1_8 (fun u => rfl) (fun r u H locs hw hP hD hS => ?_)
  rw [lE_0_1_8_101] at hP hD
  subst hR
  refine lv_aload_n hx hb dL_law_897 rfl (lv_at hl 2 rfl) ?_
  refine l_arg C hS hl hi 1 (by decide) rfl dL_law_898 dL_law_899 dL_law_900 dL_law_901 dL_law_902 ?_
  refine l_arg C hS hl hi 2 (by decide) rfl dL_law_903 dL_law_904 dL_law_905 dL_law_906 dL_law_907 ?_
  refine xend_rw_i_mid (wf := fun (u : zS) => wX8 K g ag n la u ++ ([] : va_W)) (xRunV_mid (As := [.int (sc (i + 1)), .int (sc (i + 2))]) (rest := [.int r]) C0 (c_X8_ways hw) k_X8_ways mw_771 ⟨rfl, rfl⟩ ⟨Nat.le_of_ble_eq_true rfl, Nat.le_of_ble_eq_true rfl⟩ hP hD rfl rfl hl rfl rfl (Nat.le_of_ble_eq_true rfl) dL_law_908 hf) hP hD hS hA (fun u => rfl) (fun r2 u2 H locs hw hP hD hS => ?_)
  refine lv_icmp_eq (tgt := 1962) hx hb dL_law_911 (by decide) (fun _ => ?_) (fun z => absurd hw.1.symm z)
  exact next _ _ _ _ _ _ _ _ _ _ ⟨hP, hD, hS, hw.2, hn, ⟨by omega, by omega⟩⟩
set_option maxHeartbeats 4000000 in
set_option maxRecDepth 100000 in
theorem lc_fewest (C : lC p s mi meth c D K b L sc) (hl : lv_has ls 4 [(0, .ref b), (1, .ref h), (2, .ref g), (3, .int (nI i))]) (hi : i + 6 ≤ L) (St : lS s D K h hs as ax g ag la H locs cells slots xs sh m n ok ot i)
    (next : ∀ (H : Heap) (locs : List Loc) (cells slots : Nat) (xs sh : Nat → zS) (m : zS) (n : Nat → Option Nat) (ok ot : wO), lS s D K h hs as ax g ag la H locs cells slots xs sh m n ok ot (i + 6) → W p l e room_1 s mi #[Value.ref b] below meth c H locs cells slots Q (F0 mi 1962 ls [])) : W p l e room_1 s mi #[Value.ref b] below meth c H locs cells slots Q (F0 mi 916 ls []) := by
  obtain ⟨C0, hX, hbl, hL⟩ := id C
  obtain ⟨hx, hb, hr, hml, hown, hts, hlocks, hK, hT⟩ := id C0
  obtain ⟨hP, hD, hS, sim, hn, hc⟩ := St
  have hA : ∀ q : Nat, s.heap.size ≤ q → (fun q : Nat => s.heap.size ≤ q) q := fun _ z => z
  have hf : cells + 0 ≤ room_1.cells ∧ slots + 0 ≤ room_1.slots := ⟨by show cells ≤ 600000; omega, by show slots ≤ 7302250; omega⟩
  refine lv_aload_n hx hb dL_law_916 rfl (lv_at hl 1 rfl) ?_
  refine l_arg C hS hl hi 1 (by decide) rfl dL_law_917 dL_law_918 dL_law_919 dL_law_920 dL_law_921 ?_
  refine l_arg C hS hl hi 2 (by decide) rfl dL_law_922 dL_law_923 dL_law_924 dL_law_925 dL_law_926 ?_
  unfold lW at hP hD
  generalize hR : (wX8 K g ag n la m ++ ([] : va_W)) ++ (wOpt K ok ++ wOpt K ot) = R at hP hD
  refine xend_rw_i (wf := fun (u : (zS) × (zS)) => wX7 K h (ax 0) hs u.1 ++ (wX1 K (ax 0 0) (ax 1) (xs 1) ++ (wX6 K (ax 0 9) (ax 8) u.2))) (xRunV (As := [.int (sc (i + 1)), .int (sc (i + 2))]) (rest := []) C0 (c_X7_fewest (L_fewest sim (sc (i + 1)) (sc (i + 2)))) k_X7_fewest mw_797 ⟨rfl, rfl⟩ ⟨Nat.le_of_ble_eq_true rfl, Nat.le_of_ble_eq_true rfl⟩ hP hD (bpl lLs [0, 1, 8]) lG_0_1_8 lD_0_1_8 rfl rfl hl rfl rfl (Nat.le_of_ble_eq_true rfl) dL_law_927 hf) hP hD hS hA (bpl lLs [0, 1, 8]) lG_0_1_8 lD_0_1_8 (fun u => rfl) (fun r u H locs hw hP hD hS => ?_)
  rw [lE_0_1_8_101] at hP hD
  subst hR
  refine lv_aload_n hx hb dL_law_930 rfl (lv_at hl 2 rfl) ?_
  refine l_arg C hS hl hi 1 (by decide) rfl dL_law_931 dL_law_932 dL_law_933 dL_law_934 dL_law_935 ?_
  refine l_arg C hS hl hi 2 (by decide) rfl dL_law_936 dL_law_937 dL_law_938 dL_law_939 dL_law_940 ?_
  refine xend_rw_i_mid (wf := fun (u : zS) => wX8 K g ag n la u ++ ([] : va_W)) (xRunV_mid (As := [.int (sc (i + 1)), .int (sc (i + 2))]) (rest := [.int r]) C0 (c_X8_fewest hw) k_X8_fewest mw_809 ⟨rfl, rfl⟩ ⟨Nat.le_of_ble_eq_true rfl, Nat.le_of_ble_eq_true rfl⟩ hP hD rfl rfl hl rfl rfl (Nat.le_of_ble_eq_true rfl) dL_law_941 hf) hP hD hS hA (fun u => rfl) (fun r2 u2 H locs hw hP hD hS => ?_)
  refine lv_icmp_eq (tgt := 1962) hx hb dL_law_944 (by decide) (fun _ => ?_) (fun z => absurd hw.1.symm z)
  exact next _ _ _ _ _ _ _ _ _ _ ⟨hP, hD, hS, hw.2, hn, ⟨by omega, by omega⟩⟩
theorem lG_0_1_8_10 {R : va_W} : (bpl lLs [0, 1, 8, 10]).map (fun i => (bfl (lB K h hs as ax xs sh) ++ R)[i]?) = (wX7 K h (ax 0) hs (xs 0) ++ (wX1 K (ax 0 0) (ax 1) (xs 1) ++ (wX6 K (ax 0 9) (ax 8) (xs 8) ++ (wX5 K (ax 0 11) (ax 10) (xs 10))))).map some :=
  (b_get lB_len [0, 1, 8, 10] (show ∀ j ∈ [0, 1, 8, 10], j < 12 by decide)).trans (congrArg (List.map some) (show wX7 K h (ax 0) hs (xs 0) ++ (wX1 K (ax 0 0) (ax 1) (xs 1) ++ (wX6 K (ax 0 9) (ax 8) (xs 8) ++ (wX5 K (ax 0 11) (ax 10) (xs 10) ++ (([] : va_W))))) = wX7 K h (ax 0) hs (xs 0) ++ (wX1 K (ax 0 0) (ax 1) (xs 1) ++ (wX6 K (ax 0 9) (ax 8) (xs 8) ++ (wX5 K (ax 0 11) (ax 10) (xs 10)))) by rw [List.append_nil]))
theorem lD_0_1_8_10 : va_nd (bpl lLs [0, 1, 8, 10]) = true := by decide +kernel
theorem lE_0_1_8_10_1011 {R : va_W} {y0 : zS} {y2 : zS} {y3 : zS} : xset (bfl (lB K h hs as ax xs sh) ++ R) (bpl lLs [0, 1, 8, 10]) (wX7 K h (ax 0) hs y0 ++ (wX1 K (ax 0 0) (ax 1) (xs 1) ++ (wX6 K (ax 0 9) (ax 8) y2 ++ (wX5 K (ax 0 11) (ax 10) y3)))) = bfl (lB K h hs as ax (va_up (va_up (va_up xs 0 y0) 8 y2) 10 y3) sh) ++ R := by
  have q := b_set (R := R) [0, 1, 8, 10] [wX7 K h (ax 0) hs y0, wX1 K (ax 0 0) (ax 1) (xs 1), wX6 K (ax 0 9) (ax 8) y2, wX5 K (ax 0 11) (ax 10) y3] (lB K h hs as ax xs sh) lB_len (show ∀ j ∈ [0, 1, 8, 10], j < 12 by decide) ⟨rfl, rfl, rfl, rfl, trivial⟩
  have q0 : bfl [wX7 K h (ax 0) hs y0, wX1 K (ax 0 0) (ax 1) (xs 1), wX6 K (ax 0 9) (ax 8) y2, wX5 K (ax 0 11) (ax 10) y3] = wX7 K h (ax 0) hs y0 ++ (wX1 K (ax 0 0) (ax 1) (xs 1) ++ (wX6 K (ax 0 9) (ax 8) y2 ++ (wX5 K (ax 0 11) (ax 10) y3))) := by
    show wX7 K h (ax 0) hs y0 ++ (wX1 K (ax 0 0) (ax 1) (xs 1) ++ (wX6 K (ax 0 9) (ax 8) y2 ++ (wX5 K (ax 0 11) (ax 10) y3 ++ (([] : va_W))))) = _
    rw [List.append_nil]
  rw [q0] at q
  exact q
set_option maxHeartbeats 4000000 in
set_option maxRecDepth 100000 in
theorem lc_surest (C : lC p s mi meth c D K b L sc) (hl : lv_has ls 4 [(0, .ref b), (1, .ref h), (2, .ref g), (3, .int (nI i))]) (hi : i + 6 ≤ L) (St : lS s D K h hs as ax g ag la H locs cells slots xs sh m n ok ot i)
    (next : ∀ (H : Heap) (locs : List Loc) (cells slots : Nat) (xs sh : Nat → zS) (m : zS) (n : Nat → Option Nat) (ok ot : wO), lS s D K h hs as ax g ag la H locs cells slots xs sh m n ok ot (i + 6) → W p l e room_1 s mi #[Value.ref b] below meth c H locs cells slots Q (F0 mi 1962 ls [])) : W p l e room_1 s mi #[Value.ref b] below meth c H locs cells slots Q (F0 mi 949 ls []) := by
  obtain ⟨C0, hX, hbl, hL⟩ := id C
  obtain ⟨hx, hb, hr, hml, hown, hts, hlocks, hK, hT⟩ := id C0
  obtain ⟨hP, hD, hS, sim, hn, hc⟩ := St
  have hA : ∀ q : Nat, s.heap.size ≤ q → (fun q : Nat => s.heap.size ≤ q) q := fun _ z => z
  have hf : cells + 0 ≤ room_1.cells ∧ slots + 0 ≤ room_1.slots := ⟨by show cells ≤ 600000; omega, by show slots ≤ 7302250; omega⟩
  refine lv_aload_n hx hb dL_law_949 rfl (lv_at hl 1 rfl) ?_
  refine l_arg C hS hl hi 1 (by decide) rfl dL_law_950 dL_law_951 dL_law_952 dL_law_953 dL_law_954 ?_
  refine l_arg C hS hl hi 2 (by decide) rfl dL_law_955 dL_law_956 dL_law_957 dL_law_958 dL_law_959 ?_
  refine l_arg C hS hl hi 3 (by decide) rfl dL_law_960 dL_law_961 dL_law_962 dL_law_963 dL_law_964 ?_
  refine l_arg C hS hl hi 4 (by decide) rfl dL_law_965 dL_law_966 dL_law_967 dL_law_968 dL_law_969 ?_
  unfold lW at hP hD
  generalize hR : (wX8 K g ag n la m ++ ([] : va_W)) ++ (wOpt K ok ++ wOpt K ot) = R at hP hD
  refine xend_rw_i (wf := fun (u : (zS) × (zS) × (zS)) => wX7 K h (ax 0) hs u.1 ++ (wX1 K (ax 0 0) (ax 1) (xs 1) ++ (wX6 K (ax 0 9) (ax 8) u.2.1 ++ (wX5 K (ax 0 11) (ax 10) u.2.2)))) (xRunV (As := [.int (sc (i + 1)), .int (sc (i + 2)), .int (sc (i + 3)), .int (sc (i + 4))]) (rest := []) C0 (c_X7_surest (L_surest sim (sc (i + 1)) (sc (i + 2)) (sc (i + 3)) (sc (i + 4)))) k_X7_surest mw_813 ⟨rfl, rfl⟩ ⟨Nat.le_of_ble_eq_true rfl, Nat.le_of_ble_eq_true rfl⟩ hP hD (bpl lLs [0, 1, 8, 10]) lG_0_1_8_10 lD_0_1_8_10 rfl rfl hl rfl rfl (Nat.le_of_ble_eq_true rfl) dL_law_970 hf) hP hD hS hA (bpl lLs [0, 1, 8, 10]) lG_0_1_8_10 lD_0_1_8_10 (fun u => rfl) (fun r u H locs hw hP hD hS => ?_)
  rw [lE_0_1_8_10_1011] at hP hD
  subst hR
  refine lv_aload_n hx hb dL_law_973 rfl (lv_at hl 2 rfl) ?_
  refine l_arg C hS hl hi 1 (by decide) rfl dL_law_974 dL_law_975 dL_law_976 dL_law_977 dL_law_978 ?_
  refine l_arg C hS hl hi 2 (by decide) rfl dL_law_979 dL_law_980 dL_law_981 dL_law_982 dL_law_983 ?_
  refine l_arg C hS hl hi 3 (by decide) rfl dL_law_984 dL_law_985 dL_law_986 dL_law_987 dL_law_988 ?_
  refine l_arg C hS hl hi 4 (by decide) rfl dL_law_989 dL_law_990 dL_law_991 dL_law_992 dL_law_993 ?_
  refine xend_rw_i_mid (wf := fun (u : zS) => wX8 K g ag n la u ++ ([] : va_W)) (xRunV_mid (As := [.int (sc (i + 1)), .int (sc (i + 2)), .int (sc (i + 3)), .int (sc (i + 4))]) (rest := [.int r]) C0 (c_X8_surest hw) k_X8_surest mw_856 ⟨rfl, rfl⟩ ⟨Nat.le_of_ble_eq_true rfl, Nat.le_of_ble_eq_true rfl⟩ hP hD rfl rfl hl rfl rfl (Nat.le_of_ble_eq_true rfl) dL_law_994 hf) hP hD hS hA (fun u => rfl) (fun r2 u2 H locs hw hP hD hS => ?_)
  refine lv_icmp_eq (tgt := 1962) hx hb dL_law_997 (by decide) (fun _ => ?_) (fun z => absurd hw.1.symm z)
  exact next _ _ _ _ _ _ _ _ _ _ ⟨hP, hD, hS, hw.2, hn, ⟨by omega, by omega⟩⟩
set_option maxHeartbeats 4000000 in
set_option maxRecDepth 100000 in
theorem lc_unread (C : lC p s mi meth c D K b L sc) (hl : lv_has ls 4 [(0, .ref b), (1, .ref h), (2, .ref g), (3, .int (nI i))]) (hi : i + 6 ≤ L) (St : lS s D K h hs as ax g ag la H locs cells slots xs sh m n ok ot i)
    (next : ∀ (H : Heap) (locs : List Loc) (cells slots : Nat) (xs sh : Nat → zS) (m : zS) (n : Nat → Option Nat) (ok ot : wO), lS s D K h hs as ax g ag la H locs cells slots xs sh m n ok ot (i + 6) → W p l e room_1 s mi #[Value.ref b] below meth c H locs cells slots Q (F0 mi 1962 ls [])) : W p l e room_1 s mi #[Value.ref b] below meth c H locs cells slots Q (F0 mi 1002 ls []) := by
  obtain ⟨C0, hX, hbl, hL⟩ := id C
  obtain ⟨hx, hb, hr, hml, hown, hts, hlocks, hK, hT⟩ := id C0
  obtain ⟨hP, hD, hS, sim, hn, hc⟩ := St
  have hA : ∀ q : Nat, s.heap.size ≤ q → (fun q : Nat => s.heap.size ≤ q) q := fun _ z => z
  have hf : cells + 0 ≤ room_1.cells ∧ slots + 0 ≤ room_1.slots := ⟨by show cells ≤ 600000; omega, by show slots ≤ 7302250; omega⟩
  refine lv_aload_n hx hb dL_law_1002 rfl (lv_at hl 1 rfl) ?_
  refine l_arg C hS hl hi 1 (by decide) rfl dL_law_1003 dL_law_1004 dL_law_1005 dL_law_1006 dL_law_1007 ?_
  refine l_arg C hS hl hi 2 (by decide) rfl dL_law_1008 dL_law_1009 dL_law_1010 dL_law_1011 dL_law_1012 ?_
  refine l_arg C hS hl hi 3 (by decide) rfl dL_law_1013 dL_law_1014 dL_law_1015 dL_law_1016 dL_law_1017 ?_
  refine l_arg C hS hl hi 4 (by decide) rfl dL_law_1018 dL_law_1019 dL_law_1020 dL_law_1021 dL_law_1022 ?_
  unfold lW at hP hD
  generalize hR : (wX8 K g ag n la m ++ ([] : va_W)) ++ (wOpt K ok ++ wOpt K ot) = R at hP hD
  refine xend_rw_i (wf := fun (u : (zS) × (zS) × (zS)) => wX7 K h (ax 0) hs u.1 ++ (wX1 K (ax 0 0) (ax 1) (xs 1) ++ (wX6 K (ax 0 9) (ax 8) u.2.1 ++ (wX5 K (ax 0 11) (ax 10) u.2.2)))) (xRunV (As := [.int (sc (i + 1)), .int (sc (i + 2)), .int (sc (i + 3)), .int (sc (i + 4))]) (rest := []) C0 (c_X7_unread (L_unread sim (sc (i + 1)) (sc (i + 2)) (sc (i + 3)) (sc (i + 4)))) k_X7_unread mw_864 ⟨rfl, rfl⟩ ⟨Nat.le_of_ble_eq_true rfl, Nat.le_of_ble_eq_true rfl⟩ hP hD (bpl lLs [0, 1, 8, 10]) lG_0_1_8_10 lD_0_1_8_10 rfl rfl hl rfl rfl (Nat.le_of_ble_eq_true rfl) dL_law_1023 hf) hP hD hS hA (bpl lLs [0, 1, 8, 10]) lG_0_1_8_10 lD_0_1_8_10 (fun u => rfl) (fun r u H locs hw hP hD hS => ?_)
  rw [lE_0_1_8_10_1011] at hP hD
  subst hR
  refine lv_aload_n hx hb dL_law_1026 rfl (lv_at hl 2 rfl) ?_
  refine l_arg C hS hl hi 1 (by decide) rfl dL_law_1027 dL_law_1028 dL_law_1029 dL_law_1030 dL_law_1031 ?_
  refine l_arg C hS hl hi 2 (by decide) rfl dL_law_1032 dL_law_1033 dL_law_1034 dL_law_1035 dL_law_1036 ?_
  refine l_arg C hS hl hi 3 (by decide) rfl dL_law_1037 dL_law_1038 dL_law_1039 dL_law_1040 dL_law_1041 ?_
  refine l_arg C hS hl hi 4 (by decide) rfl dL_law_1042 dL_law_1043 dL_law_1044 dL_law_1045 dL_law_1046 ?_
  refine xend_rw_i_mid (wf := fun (u : zS) => wX8 K g ag n la u ++ ([] : va_W)) (xRunV_mid (As := [.int (sc (i + 1)), .int (sc (i + 2)), .int (sc (i + 3)), .int (sc (i + 4))]) (rest := [.int r]) C0 (c_X8_unread hw) k_X8_unread mw_868 ⟨rfl, rfl⟩ ⟨Nat.le_of_ble_eq_true rfl, Nat.le_of_ble_eq_true rfl⟩ hP hD rfl rfl hl rfl rfl (Nat.le_of_ble_eq_true rfl) dL_law_1047 hf) hP hD hS hA (fun u => rfl) (fun r2 u2 H locs hw hP hD hS => ?_)
  refine lv_icmp_eq (tgt := 1962) hx hb dL_law_1050 (by decide) (fun _ => ?_) (fun z => absurd hw.1.symm z)
  exact next _ _ _ _ _ _ _ _ _ _ ⟨hP, hD, hS, hw.2, hn, ⟨by omega, by omega⟩⟩
set_option maxHeartbeats 4000000 in
set_option maxRecDepth 100000 in
theorem lc_unseen (C : lC p s mi meth c D K b L sc) (hl : lv_has ls 4 [(0, .ref b), (1, .ref h), (2, .ref g), (3, .int (nI i))]) (hi : i + 6 ≤ L) (St : lS s D K h hs as ax g ag la H locs cells slots xs sh m n ok ot i)
    (next : ∀ (H : Heap) (locs : List Loc) (cells slots : Nat) (xs sh : Nat → zS) (m : zS) (n : Nat → Option Nat) (ok ot : wO), lS s D K h hs as ax g ag la H locs cells slots xs sh m n ok ot (i + 6) → W p l e room_1 s mi #[Value.ref b] below meth c H locs cells slots Q (F0 mi 1962 ls [])) : W p l e room_1 s mi #[Value.ref b] below meth c H locs cells slots Q (F0 mi 1055 ls []) := by
  obtain ⟨C0, hX, hbl, hL⟩ := id C
  obtain ⟨hx, hb, hr, hml, hown, hts, hlocks, hK, hT⟩ := id C0
  obtain ⟨hP, hD, hS, sim, hn, hc⟩ := St
  have hA : ∀ q : Nat, s.heap.size ≤ q → (fun q : Nat => s.heap.size ≤ q) q := fun _ z => z
  have hf : cells + 0 ≤ room_1.cells ∧ slots + 0 ≤ room_1.slots := ⟨by show cells ≤ 600000; omega, by show slots ≤ 7302250; omega⟩
  refine lv_aload_n hx hb dL_law_1055 rfl (lv_at hl 1 rfl) ?_
  refine l_arg C hS hl hi 1 (by decide) rfl dL_law_1056 dL_law_1057 dL_law_1058 dL_law_1059 dL_law_1060 ?_
  refine l_arg C hS hl hi 2 (by decide) rfl dL_law_1061 dL_law_1062 dL_law_1063 dL_law_1064 dL_law_1065 ?_
  refine l_arg C hS hl hi 3 (by decide) rfl dL_law_1066 dL_law_1067 dL_law_1068 dL_law_1069 dL_law_1070 ?_
  refine l_arg C hS hl hi 4 (by decide) rfl dL_law_1071 dL_law_1072 dL_law_1073 dL_law_1074 dL_law_1075 ?_
  unfold lW at hP hD
  generalize hR : (wX8 K g ag n la m ++ ([] : va_W)) ++ (wOpt K ok ++ wOpt K ot) = R at hP hD
  refine xend_rw_i (wf := fun (u : (zS) × (zS) × (zS)) => wX7 K h (ax 0) hs u.1 ++ (wX1 K (ax 0 0) (ax 1) (xs 1) ++ (wX6 K (ax 0 9) (ax 8) u.2.1 ++ (wX5 K (ax 0 11) (ax 10) u.2.2)))) (xRunV (As := [.int (sc (i + 1)), .int (sc (i + 2)), .int (sc (i + 3)), .int (sc (i + 4))]) (rest := []) C0 (c_X7_unseen (L_unseen sim (sc (i + 1)) (sc (i + 2)) (sc (i + 3)) (sc (i + 4)))) k_X7_unseen mw_872 ⟨rfl, rfl⟩ ⟨Nat.le_of_ble_eq_true rfl, Nat.le_of_ble_eq_true rfl⟩ hP hD (bpl lLs [0, 1, 8, 10]) lG_0_1_8_10 lD_0_1_8_10 rfl rfl hl rfl rfl (Nat.le_of_ble_eq_true rfl) dL_law_1076 hf) hP hD hS hA (bpl lLs [0, 1, 8, 10]) lG_0_1_8_10 lD_0_1_8_10 (fun u => rfl) (fun r u H locs hw hP hD hS => ?_)
  rw [lE_0_1_8_10_1011] at hP hD
  subst hR
  refine lv_aload_n hx hb dL_law_1079 rfl (lv_at hl 2 rfl) ?_
  refine l_arg C hS hl hi 1 (by decide) rfl dL_law_1080 dL_law_1081 dL_law_1082 dL_law_1083 dL_law_1084 ?_
  refine l_arg C hS hl hi 2 (by decide) rfl dL_law_1085 dL_law_1086 dL_law_1087 dL_law_1088 dL_law_1089 ?_
  refine l_arg C hS hl hi 3 (by decide) rfl dL_law_1090 dL_law_1091 dL_law_1092 dL_law_1093 dL_law_1094 ?_
  refine l_arg C hS hl hi 4 (by decide) rfl dL_law_1095 dL_law_1096 dL_law_1097 dL_law_1098 dL_law_1099 ?_
  refine xend_rw_i_mid (wf := fun (u : zS) => wX8 K g ag n la u ++ ([] : va_W)) (xRunV_mid (As := [.int (sc (i + 1)), .int (sc (i + 2)), .int (sc (i + 3)), .int (sc (i + 4))]) (rest := [.int r]) C0 (c_X8_unseen hw) k_X8_unseen mw_876 ⟨rfl, rfl⟩ ⟨Nat.le_of_ble_eq_true rfl, Nat.le_of_ble_eq_true rfl⟩ hP hD rfl rfl hl rfl rfl (Nat.le_of_ble_eq_true rfl) dL_law_1100 hf) hP hD hS hA (fun u => rfl) (fun r2 u2 H locs hw hP hD hS => ?_)
  refine lv_icmp_eq (tgt := 1962) hx hb dL_law_1103 (by decide) (fun _ => ?_) (fun z => absurd hw.1.symm z)
  exact next _ _ _ _ _ _ _ _ _ _ ⟨hP, hD, hS, hw.2, hn, ⟨by omega, by omega⟩⟩
set_option maxHeartbeats 4000000 in
set_option maxRecDepth 100000 in
theorem lc_readers (C : lC p s mi meth c D K b L sc) (hl : lv_has ls 4 [(0, .ref b), (1, .ref h), (2, .ref g), (3, .int (nI i))]) (hi : i + 6 ≤ L) (St : lS s D K h hs as ax g ag la H locs cells slots xs sh m n ok ot i)
    (next : ∀ (H : Heap) (locs : List Loc) (cells slots : Nat) (xs sh : Nat → zS) (m : zS) (n : Nat → Option Nat) (ok ot : wO), lS s D K h hs as ax g ag la H locs cells slots xs sh m n ok ot (i + 6) → W p l e room_1 s mi #[Value.ref b] below meth c H locs cells slots Q (F0 mi 1962 ls [])) : W p l e room_1 s mi #[Value.ref b] below meth c H locs cells slots Q (F0 mi 1108 ls []) := by
  obtain ⟨C0, hX, hbl, hL⟩ := id C
  obtain ⟨hx, hb, hr, hml, hown, hts, hlocks, hK, hT⟩ := id C0
  obtain ⟨hP, hD, hS, sim, hn, hc⟩ := St
  have hA : ∀ q : Nat, s.heap.size ≤ q → (fun q : Nat => s.heap.size ≤ q) q := fun _ z => z
  have hf : cells + 0 ≤ room_1.cells ∧ slots + 0 ≤ room_1.slots := ⟨by show cells ≤ 600000; omega, by show slots ≤ 7302250; omega⟩
  refine lv_aload_n hx hb dL_law_1108 rfl (lv_at hl 1 rfl) ?_
  refine l_arg C hS hl hi 1 (by decide) rfl dL_law_1109 dL_law_1110 dL_law_1111 dL_law_1112 dL_law_1113 ?_
  refine l_arg C hS hl hi 2 (by decide) rfl dL_law_1114 dL_law_1115 dL_law_1116 dL_law_1117 dL_law_1118 ?_
  unfold lW at hP hD
  generalize hR : (wX8 K g ag n la m ++ ([] : va_W)) ++ (wOpt K ok ++ wOpt K ot) = R at hP hD
  refine xend_rw_i (wf := fun (u : (zS) × (zS)) => wX7 K h (ax 0) hs u.1 ++ (wX1 K (ax 0 0) (ax 1) (xs 1) ++ (wX6 K (ax 0 9) (ax 8) u.2))) (xRunV (As := [.int (sc (i + 1)), .int (sc (i + 2))]) (rest := []) C0 (c_X7_readers (L_readers sim (sc (i + 1)) (sc (i + 2)))) k_X7_readers mw_880 ⟨rfl, rfl⟩ ⟨Nat.le_of_ble_eq_true rfl, Nat.le_of_ble_eq_true rfl⟩ hP hD (bpl lLs [0, 1, 8]) lG_0_1_8 lD_0_1_8 rfl rfl hl rfl rfl (Nat.le_of_ble_eq_true rfl) dL_law_1119 hf) hP hD hS hA (bpl lLs [0, 1, 8]) lG_0_1_8 lD_0_1_8 (fun u => rfl) (fun r u H locs hw hP hD hS => ?_)
  rw [lE_0_1_8_101] at hP hD
  subst hR
  refine lv_aload_n hx hb dL_law_1122 rfl (lv_at hl 2 rfl) ?_
  refine l_arg C hS hl hi 1 (by decide) rfl dL_law_1123 dL_law_1124 dL_law_1125 dL_law_1126 dL_law_1127 ?_
  refine l_arg C hS hl hi 2 (by decide) rfl dL_law_1128 dL_law_1129 dL_law_1130 dL_law_1131 dL_law_1132 ?_
  refine xend_rw_i_mid (wf := fun (u : zS) => wX8 K g ag n la u ++ ([] : va_W)) (xRunV_mid (As := [.int (sc (i + 1)), .int (sc (i + 2))]) (rest := [.int r]) C0 (c_X8_readers hw) k_X8_readers mw_887 ⟨rfl, rfl⟩ ⟨Nat.le_of_ble_eq_true rfl, Nat.le_of_ble_eq_true rfl⟩ hP hD rfl rfl hl rfl rfl (Nat.le_of_ble_eq_true rfl) dL_law_1133 hf) hP hD hS hA (fun u => rfl) (fun r2 u2 H locs hw hP hD hS => ?_)
  refine lv_icmp_eq (tgt := 1962) hx hb dL_law_1136 (by decide) (fun _ => ?_) (fun z => absurd hw.1.symm z)
  exact next _ _ _ _ _ _ _ _ _ _ ⟨hP, hD, hS, hw.2, hn, ⟨by omega, by omega⟩⟩
theorem lG_0_1_8_9_10 {R : va_W} : (bpl lLs [0, 1, 8, 9, 10]).map (fun i => (bfl (lB K h hs as ax xs sh) ++ R)[i]?) = (wX7 K h (ax 0) hs (xs 0) ++ (wX1 K (ax 0 0) (ax 1) (xs 1) ++ (wX6 K (ax 0 9) (ax 8) (xs 8) ++ (wX6 K (ax 0 10) (ax 9) (xs 9) ++ (wX5 K (ax 0 11) (ax 10) (xs 10)))))).map some :=
  (b_get lB_len [0, 1, 8, 9, 10] (show ∀ j ∈ [0, 1, 8, 9, 10], j < 12 by decide)).trans (congrArg (List.map some) (show wX7 K h (ax 0) hs (xs 0) ++ (wX1 K (ax 0 0) (ax 1) (xs 1) ++ (wX6 K (ax 0 9) (ax 8) (xs 8) ++ (wX6 K (ax 0 10) (ax 9) (xs 9) ++ (wX5 K (ax 0 11) (ax 10) (xs 10) ++ (([] : va_W)))))) = wX7 K h (ax 0) hs (xs 0) ++ (wX1 K (ax 0 0) (ax 1) (xs 1) ++ (wX6 K (ax 0 9) (ax 8) (xs 8) ++ (wX6 K (ax 0 10) (ax 9) (xs 9) ++ (wX5 K (ax 0 11) (ax 10) (xs 10))))) by rw [List.append_nil]))
theorem lD_0_1_8_9_10 : va_nd (bpl lLs [0, 1, 8, 9, 10]) = true := by decide +kernel
theorem lE_0_1_8_9_10_10111 {R : va_W} {y0 : zS} {y2 : zS} {y3 : zS} {y4 : zS} : xset (bfl (lB K h hs as ax xs sh) ++ R) (bpl lLs [0, 1, 8, 9, 10]) (wX7 K h (ax 0) hs y0 ++ (wX1 K (ax 0 0) (ax 1) (xs 1) ++ (wX6 K (ax 0 9) (ax 8) y2 ++ (wX6 K (ax 0 10) (ax 9) y3 ++ (wX5 K (ax 0 11) (ax 10) y4))))) = bfl (lB K h hs as ax (va_up (va_up (va_up (va_up xs 0 y0) 8 y2) 9 y3) 10 y4) sh) ++ R := by
  have q := b_set (R := R) [0, 1, 8, 9, 10] [wX7 K h (ax 0) hs y0, wX1 K (ax 0 0) (ax 1) (xs 1), wX6 K (ax 0 9) (ax 8) y2, wX6 K (ax 0 10) (ax 9) y3, wX5 K (ax 0 11) (ax 10) y4] (lB K h hs as ax xs sh) lB_len (show ∀ j ∈ [0, 1, 8, 9, 10], j < 12 by decide) ⟨rfl, rfl, rfl, rfl, rfl, trivial⟩
  have q0 : bfl [wX7 K h (ax 0) hs y0, wX1 K (ax 0 0) (ax 1) (xs 1), wX6 K (ax 0 9) (ax 8) y2, wX6 K (ax 0 10) (ax 9) y3, wX5 K (ax 0 11) (ax 10) y4] = wX7 K h (ax 0) hs y0 ++ (wX1 K (ax 0 0) (ax 1) (xs 1) ++ (wX6 K (ax 0 9) (ax 8) y2 ++ (wX6 K (ax 0 10) (ax 9) y3 ++ (wX5 K (ax 0 11) (ax 10) y4)))) := by
    show wX7 K h (ax 0) hs y0 ++ (wX1 K (ax 0 0) (ax 1) (xs 1) ++ (wX6 K (ax 0 9) (ax 8) y2 ++ (wX6 K (ax 0 10) (ax 9) y3 ++ (wX5 K (ax 0 11) (ax 10) y4 ++ (([] : va_W)))))) = _
    rw [List.append_nil]
  rw [q0] at q
  exact q
set_option maxHeartbeats 4000000 in
set_option maxRecDepth 100000 in
theorem lc_together (C : lC p s mi meth c D K b L sc) (hl : lv_has ls 4 [(0, .ref b), (1, .ref h), (2, .ref g), (3, .int (nI i))]) (hi : i + 6 ≤ L) (St : lS s D K h hs as ax g ag la H locs cells slots xs sh m n ok ot i)
    (next : ∀ (H : Heap) (locs : List Loc) (cells slots : Nat) (xs sh : Nat → zS) (m : zS) (n : Nat → Option Nat) (ok ot : wO), lS s D K h hs as ax g ag la H locs cells slots xs sh m n ok ot (i + 6) → W p l e room_1 s mi #[Value.ref b] below meth c H locs cells slots Q (F0 mi 1962 ls [])) : W p l e room_1 s mi #[Value.ref b] below meth c H locs cells slots Q (F0 mi 1141 ls []) := by
  obtain ⟨C0, hX, hbl, hL⟩ := id C
  obtain ⟨hx, hb, hr, hml, hown, hts, hlocks, hK, hT⟩ := id C0
  obtain ⟨hP, hD, hS, sim, hn, hc⟩ := St
  have hA : ∀ q : Nat, s.heap.size ≤ q → (fun q : Nat => s.heap.size ≤ q) q := fun _ z => z
  have hf : cells + 0 ≤ room_1.cells ∧ slots + 0 ≤ room_1.slots := ⟨by show cells ≤ 600000; omega, by show slots ≤ 7302250; omega⟩
  refine lv_aload_n hx hb dL_law_1141 rfl (lv_at hl 1 rfl) ?_
  refine l_arg C hS hl hi 1 (by decide) rfl dL_law_1142 dL_law_1143 dL_law_1144 dL_law_1145 dL_law_1146 ?_
  refine l_arg C hS hl hi 2 (by decide) rfl dL_law_1147 dL_law_1148 dL_law_1149 dL_law_1150 dL_law_1151 ?_
  refine l_arg C hS hl hi 3 (by decide) rfl dL_law_1152 dL_law_1153 dL_law_1154 dL_law_1155 dL_law_1156 ?_
  refine l_arg C hS hl hi 4 (by decide) rfl dL_law_1157 dL_law_1158 dL_law_1159 dL_law_1160 dL_law_1161 ?_
  refine l_arg C hS hl hi 5 (by decide) rfl dL_law_1162 dL_law_1163 dL_law_1164 dL_law_1165 dL_law_1166 ?_
  unfold lW at hP hD
  generalize hR : (wX8 K g ag n la m ++ ([] : va_W)) ++ (wOpt K ok ++ wOpt K ot) = R at hP hD
  refine xend_rw_i (wf := fun (u : (zS) × (zS) × (zS) × (zS)) => wX7 K h (ax 0) hs u.1 ++ (wX1 K (ax 0 0) (ax 1) (xs 1) ++ (wX6 K (ax 0 9) (ax 8) u.2.1 ++ (wX6 K (ax 0 10) (ax 9) u.2.2.1 ++ (wX5 K (ax 0 11) (ax 10) u.2.2.2))))) (xRunV (As := [.int (sc (i + 1)), .int (sc (i + 2)), .int (sc (i + 3)), .int (sc (i + 4)), .int (sc (i + 5))]) (rest := []) C0 (c_X7_together (L_together sim (sc (i + 1)) (sc (i + 2)) (sc (i + 3)) (sc (i + 4)) (sc (i + 5)))) k_X7_together mw_891 ⟨rfl, rfl⟩ ⟨Nat.le_of_ble_eq_true rfl, Nat.le_of_ble_eq_true rfl⟩ hP hD (bpl lLs [0, 1, 8, 9, 10]) lG_0_1_8_9_10 lD_0_1_8_9_10 rfl rfl hl rfl rfl (Nat.le_of_ble_eq_true rfl) dL_law_1167 hf) hP hD hS hA (bpl lLs [0, 1, 8, 9, 10]) lG_0_1_8_9_10 lD_0_1_8_9_10 (fun u => rfl) (fun r u H locs hw hP hD hS => ?_)
  rw [lE_0_1_8_9_10_10111] at hP hD
  subst hR
  refine lv_aload_n hx hb dL_law_1170 rfl (lv_at hl 2 rfl) ?_
  refine l_arg C hS hl hi 1 (by decide) rfl dL_law_1171 dL_law_1172 dL_law_1173 dL_law_1174 dL_law_1175 ?_
  refine l_arg C hS hl hi 2 (by decide) rfl dL_law_1176 dL_law_1177 dL_law_1178 dL_law_1179 dL_law_1180 ?_
  refine l_arg C hS hl hi 3 (by decide) rfl dL_law_1181 dL_law_1182 dL_law_1183 dL_law_1184 dL_law_1185 ?_
  refine l_arg C hS hl hi 4 (by decide) rfl dL_law_1186 dL_law_1187 dL_law_1188 dL_law_1189 dL_law_1190 ?_
  refine l_arg C hS hl hi 5 (by decide) rfl dL_law_1191 dL_law_1192 dL_law_1193 dL_law_1194 dL_law_1195 ?_
  refine xend_rw_i_mid (wf := fun (u : zS) => wX8 K g ag n la u ++ ([] : va_W)) (xRunV_mid (As := [.int (sc (i + 1)), .int (sc (i + 2)), .int (sc (i + 3)), .int (sc (i + 4)), .int (sc (i + 5))]) (rest := [.int r]) C0 (c_X8_together hw) k_X8_together mw_918 ⟨rfl, rfl⟩ ⟨Nat.le_of_ble_eq_true rfl, Nat.le_of_ble_eq_true rfl⟩ hP hD rfl rfl hl rfl rfl (Nat.le_of_ble_eq_true rfl) dL_law_1196 hf) hP hD hS hA (fun u => rfl) (fun r2 u2 H locs hw hP hD hS => ?_)
  refine lv_icmp_eq (tgt := 1962) hx hb dL_law_1199 (by decide) (fun _ => ?_) (fun z => absurd hw.1.symm z)
  exact next _ _ _ _ _ _ _ _ _ _ ⟨hP, hD, hS, hw.2, hn, ⟨by omega, by omega⟩⟩
set_option maxHeartbeats 4000000 in
set_option maxRecDepth 100000 in
theorem lc_crowd (C : lC p s mi meth c D K b L sc) (hl : lv_has ls 4 [(0, .ref b), (1, .ref h), (2, .ref g), (3, .int (nI i))]) (hi : i + 6 ≤ L) (St : lS s D K h hs as ax g ag la H locs cells slots xs sh m n ok ot i)
    (next : ∀ (H : Heap) (locs : List Loc) (cells slots : Nat) (xs sh : Nat → zS) (m : zS) (n : Nat → Option Nat) (ok ot : wO), lS s D K h hs as ax g ag la H locs cells slots xs sh m n ok ot (i + 6) → W p l e room_1 s mi #[Value.ref b] below meth c H locs cells slots Q (F0 mi 1962 ls [])) : W p l e room_1 s mi #[Value.ref b] below meth c H locs cells slots Q (F0 mi 1257 ls []) := by
  obtain ⟨C0, hX, hbl, hL⟩ := id C
  obtain ⟨hx, hb, hr, hml, hown, hts, hlocks, hK, hT⟩ := id C0
  obtain ⟨hP, hD, hS, sim, hn, hc⟩ := St
  have hA : ∀ q : Nat, s.heap.size ≤ q → (fun q : Nat => s.heap.size ≤ q) q := fun _ z => z
  have hf : cells + 0 ≤ room_1.cells ∧ slots + 0 ≤ room_1.slots := ⟨by show cells ≤ 600000; omega, by show slots ≤ 7302250; omega⟩
  refine lv_aload_n hx hb dL_law_1257 rfl (lv_at hl 1 rfl) ?_
  unfold lW at hP hD
  generalize hR : (wX8 K g ag n la m ++ ([] : va_W)) ++ (wOpt K ok ++ wOpt K ot) = R at hP hD
  refine xend_rw_i (wf := fun (u : (zS)) => wX7 K h (ax 0) hs u ++ (wX1 K (ax 0 0) (ax 1) (xs 1))) (xRunV (As := []) (rest := []) C0 (c_X7_crowd (L_crowd sim )) k_X7_crowd mw_943 ⟨rfl, rfl⟩ ⟨Nat.le_of_ble_eq_true rfl, Nat.le_of_ble_eq_true rfl⟩ hP hD (bpl lLs [0, 1]) lG_0_1 lD_0_1 rfl rfl hl rfl rfl (Nat.le_of_ble_eq_true rfl) dL_law_1258 hf) hP hD hS hA (bpl lLs [0, 1]) lG_0_1 lD_0_1 (fun u => rfl) (fun r u H locs hw hP hD hS => ?_)
  rw [lE_0_1_10] at hP hD
  subst hR
  refine lv_aload_n hx hb dL_law_1261 rfl (lv_at hl 2 rfl) ?_
  refine xend_rw_i_mid (wf := fun (u : zS) => wX8 K g ag n la u ++ ([] : va_W)) (xRunV_mid (As := []) (rest := [.int r]) C0 (c_X8_crowd hw) k_X8_crowd mw_947 ⟨rfl, rfl⟩ ⟨Nat.le_of_ble_eq_true rfl, Nat.le_of_ble_eq_true rfl⟩ hP hD rfl rfl hl rfl rfl (Nat.le_of_ble_eq_true rfl) dL_law_1262 hf) hP hD hS hA (fun u => rfl) (fun r2 u2 H locs hw hP hD hS => ?_)
  refine lv_icmp_eq (tgt := 1962) hx hb dL_law_1265 (by decide) (fun _ => ?_) (fun z => absurd hw.1.symm z)
  exact next _ _ _ _ _ _ _ _ _ _ ⟨hP, hD, hS, hw.2, hn, ⟨by omega, by omega⟩⟩
set_option maxHeartbeats 4000000 in
set_option maxRecDepth 100000 in
theorem lc_inRow (C : lC p s mi meth c D K b L sc) (hl : lv_has ls 4 [(0, .ref b), (1, .ref h), (2, .ref g), (3, .int (nI i))]) (hi : i + 6 ≤ L) (St : lS s D K h hs as ax g ag la H locs cells slots xs sh m n ok ot i)
    (next : ∀ (H : Heap) (locs : List Loc) (cells slots : Nat) (xs sh : Nat → zS) (m : zS) (n : Nat → Option Nat) (ok ot : wO), lS s D K h hs as ax g ag la H locs cells slots xs sh m n ok ot (i + 6) → W p l e room_1 s mi #[Value.ref b] below meth c H locs cells slots Q (F0 mi 1962 ls [])) : W p l e room_1 s mi #[Value.ref b] below meth c H locs cells slots Q (F0 mi 1270 ls []) := by
  obtain ⟨C0, hX, hbl, hL⟩ := id C
  obtain ⟨hx, hb, hr, hml, hown, hts, hlocks, hK, hT⟩ := id C0
  obtain ⟨hP, hD, hS, sim, hn, hc⟩ := St
  have hA : ∀ q : Nat, s.heap.size ≤ q → (fun q : Nat => s.heap.size ≤ q) q := fun _ z => z
  have hf : cells + 0 ≤ room_1.cells ∧ slots + 0 ≤ room_1.slots := ⟨by show cells ≤ 600000; omega, by show slots ≤ 7302250; omega⟩
  refine lv_aload_n hx hb dL_law_1270 rfl (lv_at hl 1 rfl) ?_
  refine l_arg C hS hl hi 1 (by decide) rfl dL_law_1271 dL_law_1272 dL_law_1273 dL_law_1274 dL_law_1275 ?_
  unfold lW at hP hD
  generalize hR : (wX8 K g ag n la m ++ ([] : va_W)) ++ (wOpt K ok ++ wOpt K ot) = R at hP hD
  refine xend_rw_i (wf := fun (u : (zS)) => wX7 K h (ax 0) hs u ++ (wX1 K (ax 0 0) (ax 1) (xs 1))) (xRunV (As := [.int (sc (i + 1))]) (rest := []) C0 (c_X7_inRow (L_inRow sim (sc (i + 1)))) k_X7_inRow mw_951 ⟨rfl, rfl⟩ ⟨Nat.le_of_ble_eq_true rfl, Nat.le_of_ble_eq_true rfl⟩ hP hD (bpl lLs [0, 1]) lG_0_1 lD_0_1 rfl rfl hl rfl rfl (Nat.le_of_ble_eq_true rfl) dL_law_1276 hf) hP hD hS hA (bpl lLs [0, 1]) lG_0_1 lD_0_1 (fun u => rfl) (fun r u H locs hw hP hD hS => ?_)
  rw [lE_0_1_10] at hP hD
  subst hR
  refine lv_aload_n hx hb dL_law_1279 rfl (lv_at hl 2 rfl) ?_
  refine l_arg C hS hl hi 1 (by decide) rfl dL_law_1280 dL_law_1281 dL_law_1282 dL_law_1283 dL_law_1284 ?_
  refine xend_rw_i_mid (wf := fun (u : zS) => wX8 K g ag n la u ++ ([] : va_W)) (xRunV_mid (As := [.int (sc (i + 1))]) (rest := [.int r]) C0 (c_X8_inRow hw) k_X8_inRow mw_955 ⟨rfl, rfl⟩ ⟨Nat.le_of_ble_eq_true rfl, Nat.le_of_ble_eq_true rfl⟩ hP hD rfl rfl hl rfl rfl (Nat.le_of_ble_eq_true rfl) dL_law_1285 hf) hP hD hS hA (fun u => rfl) (fun r2 u2 H locs hw hP hD hS => ?_)
  refine lv_icmp_eq (tgt := 1962) hx hb dL_law_1288 (by decide) (fun _ => ?_) (fun z => absurd hw.1.symm z)
  exact next _ _ _ _ _ _ _ _ _ _ ⟨hP, hD, hS, hw.2, hn, ⟨by omega, by omega⟩⟩
end LAWTB
