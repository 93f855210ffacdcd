/-! turns of the law -/
section LAWTD
variable {p : Program} {l : Launch} {e : Env} {s : State} {mi : MethodId} {below : List Frame} {meth : Method} {c : Code} {H : Heap} {locs : List Loc} {cells slots : Nat} {Q : State → Prop}
variable {D : va_G} {K : Nat → ClassId} {h : Nat} {hs : Nat → Nat} {as ax : Nat → Nat → Nat} {g : Nat} {ag la : Nat → Nat} {b L : Nat} {sc : Nat → Int32} {ls : Array Slot} {i : Nat} {pc : Nat} {st : List Value}
variable {xs sh : Nat → zS} {m : zS} {n : Nat → Option Nat} {ok ot : wO}
set_option maxHeartbeats 4000000 in
set_option maxRecDepth 100000 in
theorem lc_code (C : lC p s mi meth c D K b L sc) (hl : lv_has ls 4 [(0, .ref b), (1, .ref h), (2, .ref g), (3, .int (nI i))]) (hi : i + 6 ≤ L) (St : lS s D K h hs as ax g ag la H locs cells slots xs sh m n ok ot i)
    (next : ∀ (H : Heap) (locs : List Loc) (cells slots : Nat) (xs sh : Nat → zS) (m : zS) (n : Nat → Option Nat) (ok ot : wO), lS s D K h hs as ax g ag la H locs cells slots xs sh m n ok ot (i + 6) → W p l e room_1 s mi #[Value.ref b] below meth c H locs cells slots Q (F0 mi 1962 ls [])) : W p l e room_1 s mi #[Value.ref b] below meth c H locs cells slots Q (F0 mi 1656 ls []) := by
  obtain ⟨C0, hX, hbl, hL⟩ := id C
  obtain ⟨hx, hb, hr, hml, hown, hts, hlocks, hK, hT⟩ := id C0
  obtain ⟨hP, hD, hS, sim, hn, hc⟩ := St
  have hA : ∀ q : Nat, s.heap.size ≤ q → (fun q : Nat => s.heap.size ≤ q) q := fun _ z => z
  have hf : cells + 0 ≤ room_1.cells ∧ slots + 0 ≤ room_1.slots := ⟨by show cells ≤ 600000; omega, by show slots ≤ 7302250; omega⟩
  refine lv_aload_n hx hb dL_law_1656 rfl (lv_at hl 1 rfl) ?_
  refine l_arg C hS hl hi 1 (by decide) rfl dL_law_1657 dL_law_1658 dL_law_1659 dL_law_1660 dL_law_1661 ?_
  refine l_arg C hS hl hi 2 (by decide) rfl dL_law_1662 dL_law_1663 dL_law_1664 dL_law_1665 dL_law_1666 ?_
  refine l_arg C hS hl hi 3 (by decide) rfl dL_law_1667 dL_law_1668 dL_law_1669 dL_law_1670 dL_law_1671 ?_
  unfold lW at hP hD
  generalize hR : (wX8 K g ag n la m ++ ([] : va_W)) ++ (wOpt K ok ++ wOpt K ot) = R at hP hD
  refine xend_rw_i (wf := fun (u : (zS) × (Nat → zS)) => wX7 K h (ax 0) hs u.1 ++ (wPl K hs as u.2 ++ (([] : va_W)))) (xRunV (As := [.int (sc (i + 1)), .int (sc (i + 2)), .int (sc (i + 3))]) (rest := []) C0 (c_X7_code (L_code sim (sc (i + 1)) (sc (i + 2)) (sc (i + 3)))) k_X7_code mw_1086 ⟨rfl, rfl⟩ ⟨Nat.le_of_ble_eq_true rfl, Nat.le_of_ble_eq_true rfl⟩ hP hD (bpl lLs [0, 11]) lG_0_11 lD_0_11 rfl rfl hl rfl rfl (Nat.le_of_ble_eq_true rfl) dL_law_1672 hf) hP hD hS hA (bpl lLs [0, 11]) lG_0_11 lD_0_11 (fun u => rfl) (fun r u H locs hw hP hD hS => ?_)
  rw [lE_0_11_11] at hP hD
  subst hR
  refine lv_aload_n hx hb dL_law_1675 rfl (lv_at hl 2 rfl) ?_
  refine l_arg C hS hl hi 1 (by decide) rfl dL_law_1676 dL_law_1677 dL_law_1678 dL_law_1679 dL_law_1680 ?_
  refine l_arg C hS hl hi 2 (by decide) rfl dL_law_1681 dL_law_1682 dL_law_1683 dL_law_1684 dL_law_1685 ?_
  refine l_arg C hS hl hi 3 (by decide) rfl dL_law_1686 dL_law_1687 dL_law_1688 dL_law_1689 dL_law_1690 ?_
  refine xend_rw_i_mid (wf := fun (u : zS) => wX8 K g ag n la u ++ ([] : va_W)) (xRunV_mid (As := [.int (sc (i + 1)), .int (sc (i + 2)), .int (sc (i + 3))]) (rest := [.int r]) C0 (c_X8_code hw) k_X8_code mw_1097 ⟨rfl, rfl⟩ ⟨Nat.le_of_ble_eq_true rfl, Nat.le_of_ble_eq_true rfl⟩ hP hD rfl rfl hl rfl rfl (Nat.le_of_ble_eq_true rfl) dL_law_1691 hf) hP hD hS hA (fun u => rfl) (fun r2 u2 H locs hw hP hD hS => ?_)
  refine lv_icmp_eq (tgt := 1962) hx hb dL_law_1694 (by decide) (fun _ => ?_) (fun z => absurd hw.1.symm z)
  exact next _ _ _ _ _ _ _ _ _ _ ⟨hP, hD, hS, hw.2, hn, ⟨by omega, by omega⟩⟩
theorem lE_0_11_10 {R : va_W} {y0 : zS} : xset (bfl (lB K h hs as ax xs sh) ++ R) (bpl lLs [0, 11]) (wX7 K h (ax 0) hs y0 ++ (wPl K hs as sh ++ (([] : va_W)))) = bfl (lB K h hs as ax (va_up xs 0 y0) sh) ++ R :=
  b_set [0, 11] [wX7 K h (ax 0) hs y0, wPl K hs as sh] _ lB_len (show ∀ j ∈ [0, 11], j < 12 by decide) ⟨rfl, rfl, trivial⟩
set_option maxHeartbeats 4000000 in
set_option maxRecDepth 100000 in
theorem lc_keyLength (C : lC p s mi meth c D K b L sc) (hl : lv_has ls 4 [(0, .ref b), (1, .ref h), (2, .ref g), (3, .int (nI i))]) (hi : i + 6 ≤ L) (St : lS s D K h hs as ax g ag la H locs cells slots xs sh m n ok ot i)
    (next : ∀ (H : Heap) (locs : List Loc) (cells slots : Nat) (xs sh : Nat → zS) (m : zS) (n : Nat → Option Nat) (ok ot : wO), lS s D K h hs as ax g ag la H locs cells slots xs sh m n ok ot (i + 6) → W p l e room_1 s mi #[Value.ref b] below meth c H locs cells slots Q (F0 mi 1962 ls [])) : W p l e room_1 s mi #[Value.ref b] below meth c H locs cells slots Q (F0 mi 1699 ls []) := by
  obtain ⟨C0, hX, hbl, hL⟩ := id C
  obtain ⟨hx, hb, hr, hml, hown, hts, hlocks, hK, hT⟩ := id C0
  obtain ⟨hP, hD, hS, sim, hn, hc⟩ := St
  have hA : ∀ q : Nat, s.heap.size ≤ q → (fun q : Nat => s.heap.size ≤ q) q := fun _ z => z
  have hf : cells + 0 ≤ room_1.cells ∧ slots + 0 ≤ room_1.slots := ⟨by show cells ≤ 600000; omega, by show slots ≤ 7302250; omega⟩
  refine lv_aload_n hx hb dL_law_1699 rfl (lv_at hl 1 rfl) ?_
  refine l_arg C hS hl hi 1 (by decide) rfl dL_law_1700 dL_law_1701 dL_law_1702 dL_law_1703 dL_law_1704 ?_
  refine l_arg C hS hl hi 2 (by decide) rfl dL_law_1705 dL_law_1706 dL_law_1707 dL_law_1708 dL_law_1709 ?_
  refine l_arg C hS hl hi 3 (by decide) rfl dL_law_1710 dL_law_1711 dL_law_1712 dL_law_1713 dL_law_1714 ?_
  unfold lW at hP hD
  generalize hR : (wX8 K g ag n la m ++ ([] : va_W)) ++ (wOpt K ok ++ wOpt K ot) = R at hP hD
  refine xend_rw_i (wf := fun (u : (zS)) => wX7 K h (ax 0) hs u ++ (wPl K hs as sh ++ (([] : va_W)))) (xRunV (As := [.int (sc (i + 1)), .int (sc (i + 2)), .int (sc (i + 3))]) (rest := []) C0 (c_X7_keyLength (L_keyLength sim (sc (i + 1)) (sc (i + 2)) (sc (i + 3)))) k_X7_keyLength mw_1111 ⟨rfl, rfl⟩ ⟨Nat.le_of_ble_eq_true rfl, Nat.le_of_ble_eq_true rfl⟩ hP hD (bpl lLs [0, 11]) lG_0_11 lD_0_11 rfl rfl hl rfl rfl (Nat.le_of_ble_eq_true rfl) dL_law_1715 hf) hP hD hS hA (bpl lLs [0, 11]) lG_0_11 lD_0_11 (fun u => rfl) (fun r u H locs hw hP hD hS => ?_)
  rw [lE_0_11_10] at hP hD
  subst hR
  refine lv_aload_n hx hb dL_law_1718 rfl (lv_at hl 2 rfl) ?_
  refine l_arg C hS hl hi 1 (by decide) rfl dL_law_1719 dL_law_1720 dL_law_1721 dL_law_1722 dL_law_1723 ?_
  refine l_arg C hS hl hi 2 (by decide) rfl dL_law_1724 dL_law_1725 dL_law_1726 dL_law_1727 dL_law_1728 ?_
  refine l_arg C hS hl hi 3 (by decide) rfl dL_law_1729 dL_law_1730 dL_law_1731 dL_law_1732 dL_law_1733 ?_
  refine xend_rw_i_mid (wf := fun (u : zS) => wX8 K g ag n la u ++ ([] : va_W)) (xRunV_mid (As := [.int (sc (i + 1)), .int (sc (i + 2)), .int (sc (i + 3))]) (rest := [.int r]) C0 (c_X8_keyLength hw) k_X8_keyLength mw_1118 ⟨rfl, rfl⟩ ⟨Nat.le_of_ble_eq_true rfl, Nat.le_of_ble_eq_true rfl⟩ hP hD rfl rfl hl rfl rfl (Nat.le_of_ble_eq_true rfl) dL_law_1734 hf) hP hD hS hA (fun u => rfl) (fun r2 u2 H locs hw hP hD hS => ?_)
  refine lv_icmp_eq (tgt := 1962) hx hb dL_law_1737 (by decide) (fun _ => ?_) (fun z => absurd hw.1.symm z)
  exact next _ _ _ _ _ _ _ _ _ _ ⟨hP, hD, hS, hw.2, hn, ⟨by omega, by omega⟩⟩
theorem lG_0_1_8_4_10 {R : va_W} : (bpl lLs [0, 1, 8, 4, 10]).map (fun i => (bfl (lB K h hs as ax xs sh) ++ R)[i]?) = (wX7 K h (ax 0) hs (xs 0) ++ (wX1 K (ax 0 0) (ax 1) (xs 1) ++ (wX6 K (ax 0 9) (ax 8) (xs 8) ++ (wX4 K (ax 0 3) (ax 4) (xs 4) ++ (wX5 K (ax 0 11) (ax 10) (xs 10)))))).map some :=
  (b_get lB_len [0, 1, 8, 4, 10] (show ∀ j ∈ [0, 1, 8, 4, 10], j < 12 by decide)).trans (congrArg (List.map some) (show wX7 K h (ax 0) hs (xs 0) ++ (wX1 K (ax 0 0) (ax 1) (xs 1) ++ (wX6 K (ax 0 9) (ax 8) (xs 8) ++ (wX4 K (ax 0 3) (ax 4) (xs 4) ++ (wX5 K (ax 0 11) (ax 10) (xs 10) ++ (([] : va_W)))))) = wX7 K h (ax 0) hs (xs 0) ++ (wX1 K (ax 0 0) (ax 1) (xs 1) ++ (wX6 K (ax 0 9) (ax 8) (xs 8) ++ (wX4 K (ax 0 3) (ax 4) (xs 4) ++ (wX5 K (ax 0 11) (ax 10) (xs 10))))) by rw [List.append_nil]))
theorem lD_0_1_8_4_10 : va_nd (bpl lLs [0, 1, 8, 4, 10]) = true := by decide +kernel
theorem lE_0_1_8_4_10_10111 {R : va_W} {y0 : zS} {y2 : zS} {y3 : zS} {y4 : zS} : xset (bfl (lB K h hs as ax xs sh) ++ R) (bpl lLs [0, 1, 8, 4, 10]) (wX7 K h (ax 0) hs y0 ++ (wX1 K (ax 0 0) (ax 1) (xs 1) ++ (wX6 K (ax 0 9) (ax 8) y2 ++ (wX4 K (ax 0 3) (ax 4) y3 ++ (wX5 K (ax 0 11) (ax 10) y4))))) = bfl (lB K h hs as ax (va_up (va_up (va_up (va_up xs 0 y0) 8 y2) 4 y3) 10 y4) sh) ++ R := by
  have q := b_set (R := R) [0, 1, 8, 4, 10] [wX7 K h (ax 0) hs y0, wX1 K (ax 0 0) (ax 1) (xs 1), wX6 K (ax 0 9) (ax 8) y2, wX4 K (ax 0 3) (ax 4) y3, wX5 K (ax 0 11) (ax 10) y4] (lB K h hs as ax xs sh) lB_len (show ∀ j ∈ [0, 1, 8, 4, 10], j < 12 by decide) ⟨rfl, rfl, rfl, rfl, rfl, trivial⟩
  have q0 : bfl [wX7 K h (ax 0) hs y0, wX1 K (ax 0 0) (ax 1) (xs 1), wX6 K (ax 0 9) (ax 8) y2, wX4 K (ax 0 3) (ax 4) y3, wX5 K (ax 0 11) (ax 10) y4] = wX7 K h (ax 0) hs y0 ++ (wX1 K (ax 0 0) (ax 1) (xs 1) ++ (wX6 K (ax 0 9) (ax 8) y2 ++ (wX4 K (ax 0 3) (ax 4) y3 ++ (wX5 K (ax 0 11) (ax 10) y4)))) := by
    show wX7 K h (ax 0) hs y0 ++ (wX1 K (ax 0 0) (ax 1) (xs 1) ++ (wX6 K (ax 0 9) (ax 8) y2 ++ (wX4 K (ax 0 3) (ax 4) y3 ++ (wX5 K (ax 0 11) (ax 10) y4 ++ (([] : va_W)))))) = _
    rw [List.append_nil]
  rw [q0] at q
  exact q
set_option maxHeartbeats 4000000 in
set_option maxRecDepth 100000 in
theorem lc_send (C : lC p s mi meth c D K b L sc) (hl : lv_has ls 4 [(0, .ref b), (1, .ref h), (2, .ref g), (3, .int (nI i))]) (hi : i + 6 ≤ L) (St : lS s D K h hs as ax g ag la H locs cells slots xs sh m n ok ot i)
    (next : ∀ (H : Heap) (locs : List Loc) (cells slots : Nat) (xs sh : Nat → zS) (m : zS) (n : Nat → Option Nat) (ok ot : wO), lS s D K h hs as ax g ag la H locs cells slots xs sh m n ok ot (i + 6) → W p l e room_1 s mi #[Value.ref b] below meth c H locs cells slots Q (F0 mi 1962 ls [])) : W p l e room_1 s mi #[Value.ref b] below meth c H locs cells slots Q (F0 mi 1742 ls []) := by
  obtain ⟨C0, hX, hbl, hL⟩ := id C
  obtain ⟨hx, hb, hr, hml, hown, hts, hlocks, hK, hT⟩ := id C0
  obtain ⟨hP, hD, hS, sim, hn, hc⟩ := St
  have hA : ∀ q : Nat, s.heap.size ≤ q → (fun q : Nat => s.heap.size ≤ q) q := fun _ z => z
  have hf : cells + 0 ≤ room_1.cells ∧ slots + 0 ≤ room_1.slots := ⟨by show cells ≤ 600000; omega, by show slots ≤ 7302250; omega⟩
  refine lv_aload_n hx hb dL_law_1742 rfl (lv_at hl 1 rfl) ?_
  refine l_arg C hS hl hi 1 (by decide) rfl dL_law_1743 dL_law_1744 dL_law_1745 dL_law_1746 dL_law_1747 ?_
  refine l_arg C hS hl hi 2 (by decide) rfl dL_law_1748 dL_law_1749 dL_law_1750 dL_law_1751 dL_law_1752 ?_
  unfold lW at hP hD
  generalize hR : (wX8 K g ag n la m ++ ([] : va_W)) ++ (wOpt K ok ++ wOpt K ot) = R at hP hD
  refine xend_rw_i (wf := fun (u : (zS) × (zS) × (zS) × (zS)) => wX7 K h (ax 0) hs u.1 ++ (wX1 K (ax 0 0) (ax 1) (xs 1) ++ (wX6 K (ax 0 9) (ax 8) u.2.1 ++ (wX4 K (ax 0 3) (ax 4) u.2.2.1 ++ (wX5 K (ax 0 11) (ax 10) u.2.2.2))))) (xRunV (As := [.int (sc (i + 1)), .int (sc (i + 2))]) (rest := []) C0 (c_X7_send (L_send sim (sc (i + 1)) (sc (i + 2)))) k_X7_send mw_1122 ⟨rfl, rfl⟩ ⟨Nat.le_of_ble_eq_true rfl, Nat.le_of_ble_eq_true rfl⟩ hP hD (bpl lLs [0, 1, 8, 4, 10]) lG_0_1_8_4_10 lD_0_1_8_4_10 rfl rfl hl rfl rfl (Nat.le_of_ble_eq_true rfl) dL_law_1753 hf) hP hD hS hA (bpl lLs [0, 1, 8, 4, 10]) lG_0_1_8_4_10 lD_0_1_8_4_10 (fun u => rfl) (fun r u H locs hw hP hD hS => ?_)
  rw [lE_0_1_8_4_10_10111] at hP hD
  subst hR
  refine lv_aload_n hx hb dL_law_1756 rfl (lv_at hl 2 rfl) ?_
  refine l_arg C hS hl hi 1 (by decide) rfl dL_law_1757 dL_law_1758 dL_law_1759 dL_law_1760 dL_law_1761 ?_
  refine l_arg C hS hl hi 2 (by decide) rfl dL_law_1762 dL_law_1763 dL_law_1764 dL_law_1765 dL_law_1766 ?_
  refine xend_rw_i_mid (wf := fun (u : zS) => wX8 K g ag n la u ++ ([] : va_W)) (xRunV_mid (As := [.int (sc (i + 1)), .int (sc (i + 2))]) (rest := [.int r]) C0 (c_X8_send hw) k_X8_send mw_1147 ⟨rfl, rfl⟩ ⟨Nat.le_of_ble_eq_true rfl, Nat.le_of_ble_eq_true rfl⟩ hP hD rfl rfl hl rfl rfl (Nat.le_of_ble_eq_true rfl) dL_law_1767 hf) hP hD hS hA (fun u => rfl) (fun r2 u2 H locs hw hP hD hS => ?_)
  refine lv_icmp_eq (tgt := 1962) hx hb dL_law_1770 (by decide) (fun _ => ?_) (fun z => absurd hw.1.symm z)
  exact next _ _ _ _ _ _ _ _ _ _ ⟨hP, hD, hS, hw.2, hn, ⟨by omega, by omega⟩⟩
theorem lG_0_4 {R : va_W} : (bpl lLs [0, 4]).map (fun i => (bfl (lB K h hs as ax xs sh) ++ R)[i]?) = (wX7 K h (ax 0) hs (xs 0) ++ (wX4 K (ax 0 3) (ax 4) (xs 4))).map some :=
  (b_get lB_len [0, 4] (show ∀ j ∈ [0, 4], j < 12 by decide)).trans (congrArg (List.map some) (show wX7 K h (ax 0) hs (xs 0) ++ (wX4 K (ax 0 3) (ax 4) (xs 4) ++ (([] : va_W))) = wX7 K h (ax 0) hs (xs 0) ++ (wX4 K (ax 0 3) (ax 4) (xs 4)) by rw [List.append_nil]))
theorem lD_0_4 : va_nd (bpl lLs [0, 4]) = true := by decide +kernel
theorem lE_0_4_10 {R : va_W} {y0 : zS} : xset (bfl (lB K h hs as ax xs sh) ++ R) (bpl lLs [0, 4]) (wX7 K h (ax 0) hs y0 ++ (wX4 K (ax 0 3) (ax 4) (xs 4))) = bfl (lB K h hs as ax (va_up xs 0 y0) sh) ++ R := by
  have q := b_set (R := R) [0, 4] [wX7 K h (ax 0) hs y0, wX4 K (ax 0 3) (ax 4) (xs 4)] (lB K h hs as ax xs sh) lB_len (show ∀ j ∈ [0, 4], j < 12 by decide) ⟨rfl, rfl, trivial⟩
  have q0 : bfl [wX7 K h (ax 0) hs y0, wX4 K (ax 0 3) (ax 4) (xs 4)] = wX7 K h (ax 0) hs y0 ++ (wX4 K (ax 0 3) (ax 4) (xs 4)) := by
    show wX7 K h (ax 0) hs y0 ++ (wX4 K (ax 0 3) (ax 4) (xs 4) ++ (([] : va_W))) = _
    rw [List.append_nil]
  rw [q0] at q
  exact q
set_option maxHeartbeats 4000000 in
set_option maxRecDepth 100000 in
theorem lc_note (C : lC p s mi meth c D K b L sc) (hl : lv_has ls 4 [(0, .ref b), (1, .ref h), (2, .ref g), (3, .int (nI i))]) (hi : i + 6 ≤ L) (St : lS s D K h hs as ax g ag la H locs cells slots xs sh m n ok ot i)
    (next : ∀ (H : Heap) (locs : List Loc) (cells slots : Nat) (xs sh : Nat → zS) (m : zS) (n : Nat → Option Nat) (ok ot : wO), lS s D K h hs as ax g ag la H locs cells slots xs sh m n ok ot (i + 6) → W p l e room_1 s mi #[Value.ref b] below meth c H locs cells slots Q (F0 mi 1962 ls [])) : W p l e room_1 s mi #[Value.ref b] below meth c H locs cells slots Q (F0 mi 1775 ls []) := by
  obtain ⟨C0, hX, hbl, hL⟩ := id C
  obtain ⟨hx, hb, hr, hml, hown, hts, hlocks, hK, hT⟩ := id C0
  obtain ⟨hP, hD, hS, sim, hn, hc⟩ := St
  have hA : ∀ q : Nat, s.heap.size ≤ q → (fun q : Nat => s.heap.size ≤ q) q := fun _ z => z
  have hf : cells + 0 ≤ room_1.cells ∧ slots + 0 ≤ room_1.slots := ⟨by show cells ≤ 600000; omega, by show slots ≤ 7302250; omega⟩
  refine lv_aload_n hx hb dL_law_1775 rfl (lv_at hl 1 rfl) ?_
  refine l_arg C hS hl hi 1 (by decide) rfl dL_law_1776 dL_law_1777 dL_law_1778 dL_law_1779 dL_law_1780 ?_
  unfold lW at hP hD
  generalize hR : (wX8 K g ag n la m ++ ([] : va_W)) ++ (wOpt K ok ++ wOpt K ot) = R at hP hD
  refine xend_rw_i (wf := fun (u : (zS)) => wX7 K h (ax 0) hs u ++ (wX4 K (ax 0 3) (ax 4) (xs 4))) (xRunV (As := [.int (sc (i + 1))]) (rest := []) C0 (c_X7_note (L_note sim (sc (i + 1)))) k_X7_note mw_1160 ⟨rfl, rfl⟩ ⟨Nat.le_of_ble_eq_true rfl, Nat.le_of_ble_eq_true rfl⟩ hP hD (bpl lLs [0, 4]) lG_0_4 lD_0_4 rfl rfl hl rfl rfl (Nat.le_of_ble_eq_true rfl) dL_law_1781 hf) hP hD hS hA (bpl lLs [0, 4]) lG_0_4 lD_0_4 (fun u => rfl) (fun r u H locs hw hP hD hS => ?_)
  rw [lE_0_4_10] at hP hD
  subst hR
  refine lv_aload_n hx hb dL_law_1784 rfl (lv_at hl 2 rfl) ?_
  refine l_arg C hS hl hi 1 (by decide) rfl dL_law_1785 dL_law_1786 dL_law_1787 dL_law_1788 dL_law_1789 ?_
  refine xend_rw_i_mid (wf := fun (u : zS) => wX8 K g ag n la u ++ ([] : va_W)) (xRunV_mid (As := [.int (sc (i + 1))]) (rest := [.int r]) C0 (c_X8_note hw) k_X8_note mw_1174 ⟨rfl, rfl⟩ ⟨Nat.le_of_ble_eq_true rfl, Nat.le_of_ble_eq_true rfl⟩ hP hD rfl rfl hl rfl rfl (Nat.le_of_ble_eq_true rfl) dL_law_1790 hf) hP hD hS hA (fun u => rfl) (fun r2 u2 H locs hw hP hD hS => ?_)
  refine lv_icmp_eq (tgt := 1962) hx hb dL_law_1793 (by decide) (fun _ => ?_) (fun z => absurd hw.1.symm z)
  exact next _ _ _ _ _ _ _ _ _ _ ⟨hP, hD, hS, hw.2, hn, ⟨by omega, by omega⟩⟩
set_option maxHeartbeats 4000000 in
set_option maxRecDepth 100000 in
theorem lc_came (C : lC p s mi meth c D K b L sc) (hl : lv_has ls 4 [(0, .ref b), (1, .ref h), (2, .ref g), (3, .int (nI i))]) (hi : i + 6 ≤ L) (St : lS s D K h hs as ax g ag la H locs cells slots xs sh m n ok ot i)
    (next : ∀ (H : Heap) (locs : List Loc) (cells slots : Nat) (xs sh : Nat → zS) (m : zS) (n : Nat → Option Nat) (ok ot : wO), lS s D K h hs as ax g ag la H locs cells slots xs sh m n ok ot (i + 6) → W p l e room_1 s mi #[Value.ref b] below meth c H locs cells slots Q (F0 mi 1962 ls [])) : W p l e room_1 s mi #[Value.ref b] below meth c H locs cells slots Q (F0 mi 1798 ls []) := by
  obtain ⟨C0, hX, hbl, hL⟩ := id C
  obtain ⟨hx, hb, hr, hml, hown, hts, hlocks, hK, hT⟩ := id C0
  obtain ⟨hP, hD, hS, sim, hn, hc⟩ := St
  have hA : ∀ q : Nat, s.heap.size ≤ q → (fun q : Nat => s.heap.size ≤ q) q := fun _ z => z
  have hf : cells + 0 ≤ room_1.cells ∧ slots + 0 ≤ room_1.slots := ⟨by show cells ≤ 600000; omega, by show slots ≤ 7302250; omega⟩
  refine lv_aload_n hx hb dL_law_1798 rfl (lv_at hl 1 rfl) ?_
  refine l_arg C hS hl hi 1 (by decide) rfl dL_law_1799 dL_law_1800 dL_law_1801 dL_law_1802 dL_law_1803 ?_
  unfold lW at hP hD
  generalize hR : (wX8 K g ag n la m ++ ([] : va_W)) ++ (wOpt K ok ++ wOpt K ot) = R at hP hD
  refine xend_rw_i (wf := fun (u : (zS)) => wX7 K h (ax 0) hs u ++ (wX4 K (ax 0 3) (ax 4) (xs 4))) (xRunV (As := [.int (sc (i + 1))]) (rest := []) C0 (c_X7_came (L_came sim (sc (i + 1)))) k_X7_came mw_1178 ⟨rfl, rfl⟩ ⟨Nat.le_of_ble_eq_true rfl, Nat.le_of_ble_eq_true rfl⟩ hP hD (bpl lLs [0, 4]) lG_0_4 lD_0_4 rfl rfl hl rfl rfl (Nat.le_of_ble_eq_true rfl) dL_law_1804 hf) hP hD hS hA (bpl lLs [0, 4]) lG_0_4 lD_0_4 (fun u => rfl) (fun r u H locs hw hP hD hS => ?_)
  rw [lE_0_4_10] at hP hD
  subst hR
  refine lv_aload_n hx hb dL_law_1807 rfl (lv_at hl 2 rfl) ?_
  refine l_arg C hS hl hi 1 (by decide) rfl dL_law_1808 dL_law_1809 dL_law_1810 dL_law_1811 dL_law_1812 ?_
  refine xend_rw_i_mid (wf := fun (u : zS) => wX8 K g ag n la u ++ ([] : va_W)) (xRunV_mid (As := [.int (sc (i + 1))]) (rest := [.int r]) C0 (c_X8_came hw) k_X8_came mw_1186 ⟨rfl, rfl⟩ ⟨Nat.le_of_ble_eq_true rfl, Nat.le_of_ble_eq_true rfl⟩ hP hD rfl rfl hl rfl rfl (Nat.le_of_ble_eq_true rfl) dL_law_1813 hf) hP hD hS hA (fun u => rfl) (fun r2 u2 H locs hw hP hD hS => ?_)
  refine lv_icmp_eq (tgt := 1962) hx hb dL_law_1816 (by decide) (fun _ => ?_) (fun z => absurd hw.1.symm z)
  exact next _ _ _ _ _ _ _ _ _ _ ⟨hP, hD, hS, hw.2, hn, ⟨by omega, by omega⟩⟩
theorem lG_0_1_4 {R : va_W} : (bpl lLs [0, 1, 4]).map (fun i => (bfl (lB K h hs as ax xs sh) ++ R)[i]?) = (wX7 K h (ax 0) hs (xs 0) ++ (wX1 K (ax 0 0) (ax 1) (xs 1) ++ (wX4 K (ax 0 3) (ax 4) (xs 4)))).map some :=
  (b_get lB_len [0, 1, 4] (show ∀ j ∈ [0, 1, 4], j < 12 by decide)).trans (congrArg (List.map some) (show wX7 K h (ax 0) hs (xs 0) ++ (wX1 K (ax 0 0) (ax 1) (xs 1) ++ (wX4 K (ax 0 3) (ax 4) (xs 4) ++ (([] : va_W)))) = wX7 K h (ax 0) hs (xs 0) ++ (wX1 K (ax 0 0) (ax 1) (xs 1) ++ (wX4 K (ax 0 3) (ax 4) (xs 4))) by rw [List.append_nil]))
theorem lD_0_1_4 : va_nd (bpl lLs [0, 1, 4]) = true := by decide +kernel
set_option maxHeartbeats 4000000 in
set_option maxRecDepth 100000 in
theorem lc_suspect (C : lC p s mi meth c D K b L sc) (hl : lv_has ls 4 [(0, .ref b), (1, .ref h), (2, .ref g), (3, .int (nI i))]) (hi : i + 6 ≤ L) (St : lS s D K h hs as ax g ag la H locs cells slots xs sh m n ok ot i)
    (next : ∀ (H : Heap) (locs : List Loc) (cells slots : Nat) (xs sh : Nat → zS) (m : zS) (n : Nat → Option Nat) (ok ot : wO), lS s D K h hs as ax g ag la H locs cells slots xs sh m n ok ot (i + 6) → W p l e room_1 s mi #[Value.ref b] below meth c H locs cells slots Q (F0 mi 1962 ls [])) : W p l e room_1 s mi #[Value.ref b] below meth c H locs cells slots Q (F0 mi 1821 ls []) := by
  obtain ⟨C0, hX, hbl, hL⟩ := id C
  obtain ⟨hx, hb, hr, hml, hown, hts, hlocks, hK, hT⟩ := id C0
  obtain ⟨hP, hD, hS, sim, hn, hc⟩ := St
  have hA : ∀ q : Nat, s.heap.size ≤ q → (fun q : Nat => s.heap.size ≤ q) q := fun _ z => z
  have hf : cells + 0 ≤ room_1.cells ∧ slots + 0 ≤ room_1.slots := ⟨by show cells ≤ 600000; omega, by show slots ≤ 7302250; omega⟩
  refine lv_aload_n hx hb dL_law_1821 rfl (lv_at hl 1 rfl) ?_
  unfold lW at hP hD
  generalize hR : (wX8 K g ag n la m ++ ([] : va_W)) ++ (wOpt K ok ++ wOpt K ot) = R at hP hD
  refine xend_ro_i (xRunV (As := []) (rest := []) C0 (c_X7_suspect (L_suspect sim )) k_X7_suspect mw_1190 ⟨rfl, rfl⟩ ⟨Nat.le_of_ble_eq_true rfl, Nat.le_of_ble_eq_true rfl⟩ hP hD (bpl lLs [0, 1, 4]) lG_0_1_4 lD_0_1_4 rfl rfl hl rfl rfl (Nat.le_of_ble_eq_true rfl) dL_law_1822 hf) (fun r hw => ?_)
  subst hR
  refine lv_aload_n hx hb dL_law_1825 rfl (lv_at hl 2 rfl) ?_
  refine xend_ro_i (xRunV_mid (As := []) (rest := [.int r]) C0 (c_X8_suspect hw) k_X8_suspect mw_1198 ⟨rfl, rfl⟩ ⟨Nat.le_of_ble_eq_true rfl, Nat.le_of_ble_eq_true rfl⟩ hP hD rfl rfl hl rfl rfl (Nat.le_of_ble_eq_true rfl) dL_law_1826 hf) (fun r2 hw => ?_)
  refine lv_icmp_eq (tgt := 1962) hx hb dL_law_1829 (by decide) (fun _ => ?_) (fun z => absurd hw.symm z)
  exact next _ _ _ _ _ _ _ _ _ _ ⟨hP, hD, hS, sim, hn, ⟨by omega, by omega⟩⟩
set_option maxHeartbeats 4000000 in
set_option maxRecDepth 100000 in
theorem lc_swap (C : lC p s mi meth c D K b L sc) (hl : lv_has ls 4 [(0, .ref b), (1, .ref h), (2, .ref g), (3, .int (nI i))]) (hi : i + 6 ≤ L) (St : lS s D K h hs as ax g ag la H locs cells slots xs sh m n ok ot i)
    (next : ∀ (H : Heap) (locs : List Loc) (cells slots : Nat) (xs sh : Nat → zS) (m : zS) (n : Nat → Option Nat) (ok ot : wO), lS s D K h hs as ax g ag la H locs cells slots xs sh m n ok ot (i + 6) → W p l e room_1 s mi #[Value.ref b] below meth c H locs cells slots Q (F0 mi 1962 ls [])) : W p l e room_1 s mi #[Value.ref b] below meth c H locs cells slots Q (F0 mi 1834 ls []) := by
  obtain ⟨C0, hX, hbl, hL⟩ := id C
  obtain ⟨hx, hb, hr, hml, hown, hts, hlocks, hK, hT⟩ := id C0
  obtain ⟨hP, hD, hS, sim, hn, hc⟩ := St
  have hA : ∀ q : Nat, s.heap.size ≤ q → (fun q : Nat => s.heap.size ≤ q) q := fun _ z => z
  have hf : cells + 0 ≤ room_1.cells ∧ slots + 0 ≤ room_1.slots := ⟨by show cells ≤ 600000; omega, by show slots ≤ 7302250; omega⟩
  refine lv_aload_n hx hb dL_law_1834 rfl (lv_at hl 1 rfl) ?_
  refine l_arg C hS hl hi 1 (by decide) rfl dL_law_1835 dL_law_1836 dL_law_1837 dL_law_1838 dL_law_1839 ?_
  refine l_arg C hS hl hi 2 (by decide) rfl dL_law_1840 dL_law_1841 dL_law_1842 dL_law_1843 dL_law_1844 ?_
  unfold lW at hP hD
  generalize hR : (wX8 K g ag n la m ++ ([] : va_W)) ++ (wOpt K ok ++ wOpt K ot) = R at hP hD
  refine xend_rw_i (wf := fun (u : (zS) × (zS)) => wX7 K h (ax 0) hs u.1 ++ (wX1 K (ax 0 0) (ax 1) u.2)) (xRunV (As := [.int (sc (i + 1)), .int (sc (i + 2))]) (rest := []) C0 (c_X7_swap (L_swap sim (sc (i + 1)) (sc (i + 2)))) k_X7_swap mw_1202 ⟨rfl, rfl⟩ ⟨Nat.le_of_ble_eq_true rfl, Nat.le_of_ble_eq_true rfl⟩ hP hD (bpl lLs [0, 1]) lG_0_1 lD_0_1 rfl rfl hl rfl rfl (Nat.le_of_ble_eq_true rfl) dL_law_1845 hf) hP hD hS hA (bpl lLs [0, 1]) lG_0_1 lD_0_1 (fun u => rfl) (fun r u H locs hw hP hD hS => ?_)
  rw [lE_0_1_11] at hP hD
  subst hR
  refine lv_aload_n hx hb dL_law_1848 rfl (lv_at hl 2 rfl) ?_
  refine l_arg C hS hl hi 1 (by decide) rfl dL_law_1849 dL_law_1850 dL_law_1851 dL_law_1852 dL_law_1853 ?_
  refine l_arg C hS hl hi 2 (by decide) rfl dL_law_1854 dL_law_1855 dL_law_1856 dL_law_1857 dL_law_1858 ?_
  refine xend_rw_i_mid (wf := fun (u : zS) => wX8 K g ag n la u ++ ([] : va_W)) (xRunV_mid (As := [.int (sc (i + 1)), .int (sc (i + 2))]) (rest := [.int r]) C0 (c_X8_swap hw) k_X8_swap mw_1206 ⟨rfl, rfl⟩ ⟨Nat.le_of_ble_eq_true rfl, Nat.le_of_ble_eq_true rfl⟩ hP hD rfl rfl hl rfl rfl (Nat.le_of_ble_eq_true rfl) dL_law_1859 hf) hP hD hS hA (fun u => rfl) (fun r2 u2 H locs hw hP hD hS => ?_)
  refine lv_icmp_eq (tgt := 1962) hx hb dL_law_1862 (by decide) (fun _ => ?_) (fun z => absurd hw.1.symm z)
  exact next _ _ _ _ _ _ _ _ _ _ ⟨hP, hD, hS, hw.2, hn, ⟨by omega, by omega⟩⟩
theorem lE_0_4_11 {R : va_W} {y0 : zS} {y1 : zS} : xset (bfl (lB K h hs as ax xs sh) ++ R) (bpl lLs [0, 4]) (wX7 K h (ax 0) hs y0 ++ (wX4 K (ax 0 3) (ax 4) y1)) = bfl (lB K h hs as ax (va_up (va_up xs 0 y0) 4 y1) sh) ++ R := by
  have q := b_set (R := R) [0, 4] [wX7 K h (ax 0) hs y0, wX4 K (ax 0 3) (ax 4) y1] (lB K h hs as ax xs sh) lB_len (show ∀ j ∈ [0, 4], j < 12 by decide) ⟨rfl, rfl, trivial⟩
  have q0 : bfl [wX7 K h (ax 0) hs y0, wX4 K (ax 0 3) (ax 4) y1] = wX7 K h (ax 0) hs y0 ++ (wX4 K (ax 0 3) (ax 4) y1) := by
    show wX7 K h (ax 0) hs y0 ++ (wX4 K (ax 0 3) (ax 4) y1 ++ (([] : va_W))) = _
    rw [List.append_nil]
  rw [q0] at q
  exact q
set_option maxHeartbeats 4000000 in
set_option maxRecDepth 100000 in
theorem lc_waits (C : lC p s mi meth c D K b L sc) (hl : lv_has ls 4 [(0, .ref b), (1, .ref h), (2, .ref g), (3, .int (nI i))]) (hi : i + 6 ≤ L) (St : lS s D K h hs as ax g ag la H locs cells slots xs sh m n ok ot i)
    (next : ∀ (H : Heap) (locs : List Loc) (cells slots : Nat) (xs sh : Nat → zS) (m : zS) (n : Nat → Option Nat) (ok ot : wO), lS s D K h hs as ax g ag la H locs cells slots xs sh m n ok ot (i + 6) → W p l e room_1 s mi #[Value.ref b] below meth c H locs cells slots Q (F0 mi 1962 ls [])) : W p l e room_1 s mi #[Value.ref b] below meth c H locs cells slots Q (F0 mi 1867 ls []) := by
  obtain ⟨C0, hX, hbl, hL⟩ := id C
  obtain ⟨hx, hb, hr, hml, hown, hts, hlocks, hK, hT⟩ := id C0
  obtain ⟨hP, hD, hS, sim, hn, hc⟩ := St
  have hA : ∀ q : Nat, s.heap.size ≤ q → (fun q : Nat => s.heap.size ≤ q) q := fun _ z => z
  have hf : cells + 0 ≤ room_1.cells ∧ slots + 0 ≤ room_1.slots := ⟨by show cells ≤ 600000; omega, by show slots ≤ 7302250; omega⟩
  refine lv_aload_n hx hb dL_law_1867 rfl (lv_at hl 1 rfl) ?_
  refine l_arg C hS hl hi 1 (by decide) rfl dL_law_1868 dL_law_1869 dL_law_1870 dL_law_1871 dL_law_1872 ?_
  unfold lW at hP hD
  generalize hR : (wX8 K g ag n la m ++ ([] : va_W)) ++ (wOpt K ok ++ wOpt K ot) = R at hP hD
  refine xend_rw_i (wf := fun (u : (zS) × (zS)) => wX7 K h (ax 0) hs u.1 ++ (wX4 K (ax 0 3) (ax 4) u.2)) (xRunV (As := [.int (sc (i + 1))]) (rest := []) C0 (c_X7_waits (L_waits sim (sc (i + 1)))) k_X7_waits mw_1210 ⟨rfl, rfl⟩ ⟨Nat.le_of_ble_eq_true rfl, Nat.le_of_ble_eq_true rfl⟩ hP hD (bpl lLs [0, 4]) lG_0_4 lD_0_4 rfl rfl hl rfl rfl (Nat.le_of_ble_eq_true rfl) dL_law_1873 hf) hP hD hS hA (bpl lLs [0, 4]) lG_0_4 lD_0_4 (fun u => rfl) (fun r u H locs hw hP hD hS => ?_)
  rw [lE_0_4_11] at hP hD
  subst hR
  refine lv_aload_n hx hb dL_law_1876 rfl (lv_at hl 2 rfl) ?_
  refine l_arg C hS hl hi 1 (by decide) rfl dL_law_1877 dL_law_1878 dL_law_1879 dL_law_1880 dL_law_1881 ?_
  refine xend_rw_i_mid (wf := fun (u : zS) => wX8 K g ag n la u ++ ([] : va_W)) (xRunV_mid (As := [.int (sc (i + 1))]) (rest := [.int r]) C0 (c_X8_waits hw) k_X8_waits mw_1214 ⟨rfl, rfl⟩ ⟨Nat.le_of_ble_eq_true rfl, Nat.le_of_ble_eq_true rfl⟩ hP hD rfl rfl hl rfl rfl (Nat.le_of_ble_eq_true rfl) dL_law_1882 hf) hP hD hS hA (fun u => rfl) (fun r2 u2 H locs hw hP hD hS => ?_)
  refine lv_icmp_eq (tgt := 1962) hx hb dL_law_1885 (by decide) (fun _ => ?_) (fun z => absurd hw.1.symm z)
  exact next _ _ _ _ _ _ _ _ _ _ ⟨hP, hD, hS, hw.2, hn, ⟨by omega, by omega⟩⟩
theorem lE_0_4_01 {R : va_W} {y1 : zS} : xset (bfl (lB K h hs as ax xs sh) ++ R) (bpl lLs [0, 4]) (wX7 K h (ax 0) hs (xs 0) ++ (wX4 K (ax 0 3) (ax 4) y1)) = bfl (lB K h hs as ax (va_up xs 4 y1) sh) ++ R := by
  have q := b_set (R := R) [0, 4] [wX7 K h (ax 0) hs (xs 0), wX4 K (ax 0 3) (ax 4) y1] (lB K h hs as ax xs sh) lB_len (show ∀ j ∈ [0, 4], j < 12 by decide) ⟨rfl, rfl, trivial⟩
  have q0 : bfl [wX7 K h (ax 0) hs (xs 0), wX4 K (ax 0 3) (ax 4) y1] = wX7 K h (ax 0) hs (xs 0) ++ (wX4 K (ax 0 3) (ax 4) y1) := by
    show wX7 K h (ax 0) hs (xs 0) ++ (wX4 K (ax 0 3) (ax 4) y1 ++ (([] : va_W))) = _
    rw [List.append_nil]
  rw [q0] at q
  exact q
set_option maxHeartbeats 4000000 in
set_option maxRecDepth 100000 in
theorem lc_seed (C : lC p s mi meth c D K b L sc) (hl : lv_has ls 4 [(0, .ref b), (1, .ref h), (2, .ref g), (3, .int (nI i))]) (hi : i + 6 ≤ L) (St : lS s D K h hs as ax g ag la H locs cells slots xs sh m n ok ot i)
    (next : ∀ (H : Heap) (locs : List Loc) (cells slots : Nat) (xs sh : Nat → zS) (m : zS) (n : Nat → Option Nat) (ok ot : wO), lS s D K h hs as ax g ag la H locs cells slots xs sh m n ok ot (i + 6) → W p l e room_1 s mi #[Value.ref b] below meth c H locs cells slots Q (F0 mi 1962 ls [])) : W p l e room_1 s mi #[Value.ref b] below meth c H locs cells slots Q (F0 mi 1890 ls []) := by
  obtain ⟨C0, hX, hbl, hL⟩ := id C
  obtain ⟨hx, hb, hr, hml, hown, hts, hlocks, hK, hT⟩ := id C0
  obtain ⟨hP, hD, hS, sim, hn, hc⟩ := St
  have hA : ∀ q : Nat, s.heap.size ≤ q → (fun q : Nat => s.heap.size ≤ q) q := fun _ z => z
  have hf : cells + 0 ≤ room_1.cells ∧ slots + 0 ≤ room_1.slots := ⟨by show cells ≤ 600000; omega, by show slots ≤ 7302250; omega⟩
  refine lv_aload_n hx hb dL_law_1890 rfl (lv_at hl 1 rfl) ?_
  refine l_arg C hS hl hi 1 (by decide) rfl dL_law_1891 dL_law_1892 dL_law_1893 dL_law_1894 dL_law_1895 ?_
  unfold lW at hP hD
  generalize hR : (wX8 K g ag n la m ++ ([] : va_W)) ++ (wOpt K ok ++ wOpt K ot) = R at hP hD
  refine xend_rw_i (wf := fun (u : (zS)) => wX7 K h (ax 0) hs (xs 0) ++ (wX4 K (ax 0 3) (ax 4) u)) (xRunV (As := [.int (sc (i + 1))]) (rest := []) C0 (c_X7_seed (L_seed sim (sc (i + 1)))) k_X7_seed mw_1219 ⟨rfl, rfl⟩ ⟨Nat.le_of_ble_eq_true rfl, Nat.le_of_ble_eq_true rfl⟩ hP hD (bpl lLs [0, 4]) lG_0_4 lD_0_4 rfl rfl hl rfl rfl (Nat.le_of_ble_eq_true rfl) dL_law_1896 hf) hP hD hS hA (bpl lLs [0, 4]) lG_0_4 lD_0_4 (fun u => rfl) (fun r u H locs hw hP hD hS => ?_)
  rw [lE_0_4_01] at hP hD
  subst hR
  refine lv_aload_n hx hb dL_law_1899 rfl (lv_at hl 2 rfl) ?_
  refine l_arg C hS hl hi 1 (by decide) rfl dL_law_1900 dL_law_1901 dL_law_1902 dL_law_1903 dL_law_1904 ?_
  refine xend_rw_i_mid (wf := fun (u : zS) => wX8 K g ag n la u ++ ([] : va_W)) (xRunV_mid (As := [.int (sc (i + 1))]) (rest := [.int r]) C0 (c_X8_seed hw) k_X8_seed mw_1224 ⟨rfl, rfl⟩ ⟨Nat.le_of_ble_eq_true rfl, Nat.le_of_ble_eq_true rfl⟩ hP hD rfl rfl hl rfl rfl (Nat.le_of_ble_eq_true rfl) dL_law_1905 hf) hP hD hS hA (fun u => rfl) (fun r2 u2 H locs hw hP hD hS => ?_)
  refine lv_icmp_eq (tgt := 1962) hx hb dL_law_1908 (by decide) (fun _ => ?_) (fun z => absurd hw.1.symm z)
  exact next _ _ _ _ _ _ _ _ _ _ ⟨hP, hD, hS, hw.2, hn, ⟨by omega, by omega⟩⟩
theorem lG_0_11_4_6_1 {R : va_W} : (bpl lLs [0, 11, 4, 6, 1]).map (fun i => (bfl (lB K h hs as ax xs sh) ++ R)[i]?) = (wX7 K h (ax 0) hs (xs 0) ++ (wPl K hs as sh ++ (wX4 K (ax 0 3) (ax 4) (xs 4) ++ (wX3 K (ax 0 7) (ax 6) (xs 6) ++ (wX1 K (ax 0 0) (ax 1) (xs 1)))))).map some :=
  (b_get lB_len [0, 11, 4, 6, 1] (show ∀ j ∈ [0, 11, 4, 6, 1], j < 12 by decide)).trans (congrArg (List.map some) (show wX7 K h (ax 0) hs (xs 0) ++ (wPl K hs as sh ++ (wX4 K (ax 0 3) (ax 4) (xs 4) ++ (wX3 K (ax 0 7) (ax 6) (xs 6) ++ (wX1 K (ax 0 0) (ax 1) (xs 1) ++ (([] : va_W)))))) = wX7 K h (ax 0) hs (xs 0) ++ (wPl K hs as sh ++ (wX4 K (ax 0 3) (ax 4) (xs 4) ++ (wX3 K (ax 0 7) (ax 6) (xs 6) ++ (wX1 K (ax 0 0) (ax 1) (xs 1))))) by rw [List.append_nil]))
theorem lD_0_11_4_6_1 : va_nd (bpl lLs [0, 11, 4, 6, 1]) = true := by decide +kernel
set_option maxHeartbeats 4000000 in
set_option maxRecDepth 100000 in
theorem lc_status (C : lC p s mi meth c D K b L sc) (hl : lv_has ls 4 [(0, .ref b), (1, .ref h), (2, .ref g), (3, .int (nI i))]) (hi : i + 6 ≤ L) (St : lS s D K h hs as ax g ag la H locs cells slots xs sh m n ok ot i)
    (next : ∀ (H : Heap) (locs : List Loc) (cells slots : Nat) (xs sh : Nat → zS) (m : zS) (n : Nat → Option Nat) (ok ot : wO), lS s D K h hs as ax g ag la H locs cells slots xs sh m n ok ot (i + 6) → W p l e room_1 s mi #[Value.ref b] below meth c H locs cells slots Q (F0 mi 1962 ls [])) : W p l e room_1 s mi #[Value.ref b] below meth c H locs cells slots Q (F0 mi 1939 ls []) := by
  obtain ⟨C0, hX, hbl, hL⟩ := id C
  obtain ⟨hx, hb, hr, hml, hown, hts, hlocks, hK, hT⟩ := id C0
  obtain ⟨hP, hD, hS, sim, hn, hc⟩ := St
  have hA : ∀ q : Nat, s.heap.size ≤ q → (fun q : Nat => s.heap.size ≤ q) q := fun _ z => z
  have hf : cells + 0 ≤ room_1.cells ∧ slots + 0 ≤ room_1.slots := ⟨by show cells ≤ 600000; omega, by show slots ≤ 7302250; omega⟩
  refine lv_aload_n hx hb dL_law_1939 rfl (lv_at hl 1 rfl) ?_
  refine l_arg C hS hl hi 1 (by decide) rfl dL_law_1940 dL_law_1941 dL_law_1942 dL_law_1943 dL_law_1944 ?_
  unfold lW at hP hD
  generalize hR : (wX8 K g ag n la m ++ ([] : va_W)) ++ (wOpt K ok ++ wOpt K ot) = R at hP hD
  refine xend_ro_i (xRunV (As := [.int (sc (i + 1))]) (rest := []) C0 (c_X7_status (L_status sim (sc (i + 1)))) k_X7_status mw_1249 ⟨rfl, rfl⟩ ⟨Nat.le_of_ble_eq_true rfl, Nat.le_of_ble_eq_true rfl⟩ hP hD (bpl lLs [0, 11, 4, 6, 1]) lG_0_11_4_6_1 lD_0_11_4_6_1 rfl rfl hl rfl rfl (Nat.le_of_ble_eq_true rfl) dL_law_1945 hf) (fun r hw => ?_)
  subst hR
  refine lv_aload_n hx hb dL_law_1948 rfl (lv_at hl 2 rfl) ?_
  refine l_arg C hS hl hi 1 (by decide) rfl dL_law_1949 dL_law_1950 dL_law_1951 dL_law_1952 dL_law_1953 ?_
  refine xend_ro_i (xRunV_mid (As := [.int (sc (i + 1))]) (rest := [.int r]) C0 (c_X8_status hw) k_X8_status mw_1267 ⟨rfl, rfl⟩ ⟨Nat.le_of_ble_eq_true rfl, Nat.le_of_ble_eq_true rfl⟩ hP hD rfl rfl hl rfl rfl (Nat.le_of_ble_eq_true rfl) dL_law_1954 hf) (fun r2 hw => ?_)
  refine lv_icmp_eq (tgt := 1962) hx hb dL_law_1957 (by decide) (fun _ => ?_) (fun z => absurd hw.symm z)
  exact next _ _ _ _ _ _ _ _ _ _ ⟨hP, hD, hS, sim, hn, ⟨by omega, by omega⟩⟩
end LAWTD
