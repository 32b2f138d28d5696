def FLc_37 (n : Nat) (w : Wd) (a1 a2 a3 a4 a5 : Int32) : Option Wd := bo2 (FL_returns w a1) fun k w1 => bo2 (FX13_returns w1 a1) fun q w2 => if FX13_thrown w2 = k then (if k = 0 then (if lg_cmp ((w2 16).2 0 0) q.toInt64 = 0 then some w2 else none) else some w2) else none
set_option maxHeartbeats 4000000 in
theorem cs_37 {G : GG} {p : Program} {l : Launch} {e : Env} {s : State} {m : MethodId} {args : Array Value} {below : List Frame} {meth : Method} {c : Code} {b L : Nat} {xs : Nat → Int32} {Q : State → Prop} {cells slots n : Nat} {i a1 a2 a3 a4 a5 : Int32} {w w9 : Wd} (hW : LW G p l s m args c b L xs) (hA : ARG L xs i a1 a2 a3 a4 a5) (hc : cells + 30 ≤ room_1.cells) (hs9 : slots + 3900 ≤ room_1.slots) (hF : FLc_37 n w a1 a2 a3 a4 a5 = some w9) (kk : LJ G p l e s m args below meth c b Q (cells + 30) (slots + 3900) 3183 i w9) : LJ G p l e s m args below meth c b Q cells slots 1708 i w := by
  intro d0 hd0
  obtain ⟨hX, hNC, hl, hs, hb⟩ := hW.drawn d0
  unfold FLc_37 at hF
  obtain ⟨k, w1, hk, hF⟩ := bo2_e hF
  obtain ⟨q, w2, hq, hF⟩ := bo2_e hF
  refine J_aload_n hX dL_law_1708 3 rfl (t := 1709) rfl ?_
  refine J_aload_n hX dL_law_1709 4 rfl (t := 1710) rfl ?_
  refine J_iload hX dL_law_1710 0 rfl (t := 1712) rfl ?_
  refine J_iconst (v := 1) hX dL_law_1712 (by decide) (t := 1713) rfl ?_
  refine J_iadd hX dL_law_1713 (t := 1714) rfl ?_
  refine J_sld hX hs hb hA.1.1 hA.1.2 dL_law_1714 (t := 1715) rfl ?_
  refine J_aload_n hX dL_law_1715 1 rfl (t := 1716) rfl ?_
  refine J_callSW hX hNC [.ref (adr G 0 0), .int a1, .ref (adr G 16 0)] [] (ctL_returns hl w a1 hk) miL_returns q_1462 q_1461 ⟨rfl, rfl, Nat.le_of_ble_eq_true rfl, Nat.le_of_ble_eq_true rfl⟩ rfl rfl (Nat.le_of_ble_eq_true rfl) ⟨Nat.le_trans (Nat.add_le_add_left (m := 30) (n := 1) (Nat.le_of_ble_eq_true rfl) cells) hc, Nat.le_trans (Nat.add_le_add_left (m := 3900) (n := 6) (Nat.le_of_ble_eq_true rfl) slots) hs9⟩ dL_law_1716 (t := 1719) rfl (fun v9 => J_pure fun hv9 => ?_)
  subst hv9
  refine J_istore (lc2 := [(5, .int k), (4, .int i), (3, .ref (adr G 16 0)), (2, .ref (adr G 15 0)), (1, .ref (adr G 0 0)), (0, .ref b)]) hX dL_law_1719 (Nat.le_of_ble_eq_true rfl) rfl (t := 1721) rfl ?_
  refine J_aload_n hX dL_law_1721 3 rfl (t := 1722) rfl ?_
  refine J_aload_n hX dL_law_1722 5 rfl (t := 1723) rfl ?_
  refine J_iload hX dL_law_1723 1 rfl (t := 1725) rfl ?_
  refine J_iconst (v := 1) hX dL_law_1725 (by decide) (t := 1726) rfl ?_
  refine J_iadd hX dL_law_1726 (t := 1727) rfl ?_
  refine J_sld hX hs hb hA.1.1 hA.1.2 dL_law_1727 (t := 1728) rfl ?_
  refine J_callV hX [.int a1] [] [.int q] (ctX13_returns w1 a1 hq) miX13_returns mvX13_returns cb10 kModel q_2653 ⟨rfl, rfl, Nat.le_of_ble_eq_true rfl, Nat.le_of_ble_eq_true rfl⟩ rfl rfl (Nat.le_of_ble_eq_true rfl) ⟨Nat.le_trans (Nat.add_le_add_left (m := 30) (n := 1) (Nat.le_of_ble_eq_true rfl) cells) hc, Nat.le_trans (Nat.add_le_add_left (m := 3900) (n := 6) (Nat.le_of_ble_eq_true rfl) slots) hs9⟩ dL_law_1728 (t := 1731) rfl rfl ?_
  refine J_istore (lc2 := [(6, .int q), (5, .int k), (4, .int i), (3, .ref (adr G 16 0)), (2, .ref (adr G 15 0)), (1, .ref (adr G 0 0)), (0, .ref b)]) hX dL_law_1731 (Nat.le_of_ble_eq_true rfl) rfl (t := 1733) rfl ?_
  refine J_aload_n hX dL_law_1733 4 rfl (t := 1734) rfl ?_
  refine J_callV hX [] [] [.int (FX13_thrown w2)] (ctX13_thrown w2  rfl) miX13_thrown mvX13_thrown cb10 kModel q_2070 ⟨rfl, rfl, Nat.le_of_ble_eq_true rfl, Nat.le_of_ble_eq_true rfl⟩ rfl rfl (Nat.le_of_ble_eq_true rfl) ⟨Nat.le_trans (Nat.add_le_add_left (m := 30) (n := 1) (Nat.le_of_ble_eq_true rfl) cells) hc, Nat.le_trans (Nat.add_le_add_left (m := 3900) (n := 6) (Nat.le_of_ble_eq_true rfl) slots) hs9⟩ dL_law_1734 (t := 1737) rfl rfl ?_
  refine J_iload hX dL_law_1737 1 rfl (t := 1739) rfl ?_
  refine J_icmp_eq (tgt := 1744) hX dL_law_1739 (by decide) (t := 1742) rfl (fun z => ?_) (fun z => nomatch it_f hF z)
  replace hF := it_t hF z
  refine J_iload hX dL_law_1744 1 rfl (t := 1746) rfl ?_
  refine J_if_ne (tgt := 1761) hX dL_law_1746 (by decide) (t := 1749) rfl (fun z2 => ?_) (fun z2 => ?_)
  · replace hF := Option.some.inj (it_f hF z2)
    subst hF
    refine J_goto (tgt := 3183) hX dL_law_1761 (by decide) ?_
    refine J_sub (lc2 := [(4, .int i), (3, .ref (adr G 16 0)), (2, .ref (adr G 15 0)), (1, .ref (adr G 0 0)), (0, .ref b)]) [2, 3, 4, 5, 6] rfl ?_
    exact J_wid (Nat.add_le_add_left (m := 30) (n := 1) (Nat.le_of_ble_eq_true rfl) cells) (Nat.add_le_add_left (m := 3900) (n := 6) (Nat.le_of_ble_eq_true rfl) slots) (kk d0 hd0)
  · replace hF := it_t hF z2
    refine J_aload_n hX dL_law_1749 3 rfl (t := 1750) rfl ?_
    refine J_iconst (v := 0) hX dL_law_1750 (by decide) (t := 1751) rfl ?_
    refine J_lald (w := w2) (v := (w2 16).2 0 0) hX kOut (by decide) rfl dL_law_1751 (t := 1752) rfl ?_
    refine J_iload hX dL_law_1752 0 rfl (t := 1754) rfl ?_
    refine J_i2l hX dL_law_1754 (t := 1755) rfl ?_
    refine J_lcmp hX dL_law_1755 (t := 1756) rfl ?_
    refine J_if_eq (tgt := 1761) hX dL_law_1756 (by decide) (t := 1759) rfl (fun z3 => ?_) (fun z3 => nomatch it_f hF z3)
    replace hF := Option.some.inj (it_t hF z3)
    subst hF
    refine J_goto (tgt := 3183) hX dL_law_1761 (by decide) ?_
    refine J_sub (lc2 := [(4, .int i), (3, .ref (adr G 16 0)), (2, .ref (adr G 15 0)), (1, .ref (adr G 0 0)), (0, .ref b)]) [2, 3, 4, 5, 6] rfl ?_
    exact J_wid (Nat.add_le_add_left (m := 30) (n := 1) (Nat.le_of_ble_eq_true rfl) cells) (Nat.add_le_add_left (m := 3900) (n := 6) (Nat.le_of_ble_eq_true rfl) slots) (kk d0 hd0)
def FLc_38 (n : Nat) (w : Wd) (a1 a2 a3 a4 a5 : Int32) : Option Wd := bo2 (FL_receipt w a1) fun k w1 => bo2 (FX13_receipt n w1 a1) fun q w2 => if FX13_thrown w2 = k then (if k = 0 then (if lg_cmp ((w2 16).2 0 0) q.toInt64 = 0 then some w2 else none) else some w2) else none
set_option maxHeartbeats 4000000 in
theorem cs_38 {G : GG} {p : Program} {l : Launch} {e : Env} {s : State} {m : MethodId} {args : Array Value} {below : List Frame} {meth : Method} {c : Code} {b L : Nat} {xs : Nat → Int32} {Q : State → Prop} {cells slots n : Nat} {i a1 a2 a3 a4 a5 : Int32} {w w9 : Wd} (hW : LW G p l s m args c b L xs) (hA : ARG L xs i a1 a2 a3 a4 a5) (hc : cells + 30 ≤ room_1.cells) (hs9 : slots + 3900 ≤ room_1.slots) (hF : FLc_38 n w a1 a2 a3 a4 a5 = some w9) (kk : LJ G p l e s m args below meth c b Q (cells + 30) (slots + 3900) 3183 i w9) : LJ G p l e s m args below meth c b Q cells slots 1764 i w := by
  intro d0 hd0
  obtain ⟨hX, hNC, hl, hs, hb⟩ := hW.drawn d0
  unfold FLc_38 at hF
  obtain ⟨k, w1, hk, hF⟩ := bo2_e hF
  obtain ⟨q, w2, hq, hF⟩ := bo2_e hF
  refine J_aload_n hX dL_law_1764 3 rfl (t := 1765) rfl ?_
  refine J_aload_n hX dL_law_1765 4 rfl (t := 1766) rfl ?_
  refine J_iload hX dL_law_1766 0 rfl (t := 1768) rfl ?_
  refine J_iconst (v := 1) hX dL_law_1768 (by decide) (t := 1769) rfl ?_
  refine J_iadd hX dL_law_1769 (t := 1770) rfl ?_
  refine J_sld hX hs hb hA.1.1 hA.1.2 dL_law_1770 (t := 1771) rfl ?_
  refine J_aload_n hX dL_law_1771 1 rfl (t := 1772) rfl ?_
  refine J_callSW hX hNC [.ref (adr G 0 0), .int a1, .ref (adr G 16 0)] [] (ctL_receipt hl w a1 hk) miL_receipt q_1469 q_1468 ⟨rfl, rfl, Nat.le_of_ble_eq_true rfl, Nat.le_of_ble_eq_true rfl⟩ rfl rfl (Nat.le_of_ble_eq_true rfl) ⟨Nat.le_trans (Nat.add_le_add_left (m := 30) (n := 1) (Nat.le_of_ble_eq_true rfl) cells) hc, Nat.le_trans (Nat.add_le_add_left (m := 3900) (n := 6) (Nat.le_of_ble_eq_true rfl) slots) hs9⟩ dL_law_1772 (t := 1775) rfl (fun v9 => J_pure fun hv9 => ?_)
  subst hv9
  refine J_istore (lc2 := [(5, .int k), (4, .int i), (3, .ref (adr G 16 0)), (2, .ref (adr G 15 0)), (1, .ref (adr G 0 0)), (0, .ref b)]) hX dL_law_1775 (Nat.le_of_ble_eq_true rfl) rfl (t := 1777) rfl ?_
  refine J_aload_n hX dL_law_1777 3 rfl (t := 1778) rfl ?_
  refine J_aload_n hX dL_law_1778 5 rfl (t := 1779) rfl ?_
  refine J_iload hX dL_law_1779 1 rfl (t := 1781) rfl ?_
  refine J_iconst (v := 1) hX dL_law_1781 (by decide) (t := 1782) rfl ?_
  refine J_iadd hX dL_law_1782 (t := 1783) rfl ?_
  refine J_sld hX hs hb hA.1.1 hA.1.2 dL_law_1783 (t := 1784) rfl ?_
  refine J_callV hX [.int a1] [] [.int q] (ctX13_receipt w1 a1 n hq) miX13_receipt mvX13_receipt cb10 kModel q_2657 ⟨rfl, rfl, Nat.le_of_ble_eq_true rfl, Nat.le_of_ble_eq_true rfl⟩ rfl rfl (Nat.le_of_ble_eq_true rfl) ⟨Nat.le_trans (Nat.add_le_add_left (m := 30) (n := 1) (Nat.le_of_ble_eq_true rfl) cells) hc, Nat.le_trans (Nat.add_le_add_left (m := 3900) (n := 6) (Nat.le_of_ble_eq_true rfl) slots) hs9⟩ dL_law_1784 (t := 1787) rfl rfl ?_
  refine J_istore (lc2 := [(6, .int q), (5, .int k), (4, .int i), (3, .ref (adr G 16 0)), (2, .ref (adr G 15 0)), (1, .ref (adr G 0 0)), (0, .ref b)]) hX dL_law_1787 (Nat.le_of_ble_eq_true rfl) rfl (t := 1789) rfl ?_
  refine J_aload_n hX dL_law_1789 4 rfl (t := 1790) rfl ?_
  refine J_callV hX [] [] [.int (FX13_thrown w2)] (ctX13_thrown w2  rfl) miX13_thrown mvX13_thrown cb10 kModel q_2070 ⟨rfl, rfl, Nat.le_of_ble_eq_true rfl, Nat.le_of_ble_eq_true rfl⟩ rfl rfl (Nat.le_of_ble_eq_true rfl) ⟨Nat.le_trans (Nat.add_le_add_left (m := 30) (n := 1) (Nat.le_of_ble_eq_true rfl) cells) hc, Nat.le_trans (Nat.add_le_add_left (m := 3900) (n := 6) (Nat.le_of_ble_eq_true rfl) slots) hs9⟩ dL_law_1790 (t := 1793) rfl rfl ?_
  refine J_iload hX dL_law_1793 1 rfl (t := 1795) rfl ?_
  refine J_icmp_eq (tgt := 1800) hX dL_law_1795 (by decide) (t := 1798) rfl (fun z => ?_) (fun z => nomatch it_f hF z)
  replace hF := it_t hF z
  refine J_iload hX dL_law_1800 1 rfl (t := 1802) rfl ?_
  refine J_if_ne (tgt := 1817) hX dL_law_1802 (by decide) (t := 1805) rfl (fun z2 => ?_) (fun z2 => ?_)
  · replace hF := Option.some.inj (it_f hF z2)
    subst hF
    refine J_goto (tgt := 3183) hX dL_law_1817 (by decide) ?_
    refine J_sub (lc2 := [(4, .int i), (3, .ref (adr G 16 0)), (2, .ref (adr G 15 0)), (1, .ref (adr G 0 0)), (0, .ref b)]) [2, 3, 4, 5, 6] rfl ?_
    exact J_wid (Nat.add_le_add_left (m := 30) (n := 1) (Nat.le_of_ble_eq_true rfl) cells) (Nat.add_le_add_left (m := 3900) (n := 6) (Nat.le_of_ble_eq_true rfl) slots) (kk d0 hd0)
  · replace hF := it_t hF z2
    refine J_aload_n hX dL_law_1805 3 rfl (t := 1806) rfl ?_
    refine J_iconst (v := 0) hX dL_law_1806 (by decide) (t := 1807) rfl ?_
    refine J_lald (w := w2) (v := (w2 16).2 0 0) hX kOut (by decide) rfl dL_law_1807 (t := 1808) rfl ?_
    refine J_iload hX dL_law_1808 0 rfl (t := 1810) rfl ?_
    refine J_i2l hX dL_law_1810 (t := 1811) rfl ?_
    refine J_lcmp hX dL_law_1811 (t := 1812) rfl ?_
    refine J_if_eq (tgt := 1817) hX dL_law_1812 (by decide) (t := 1815) rfl (fun z3 => ?_) (fun z3 => nomatch it_f hF z3)
    replace hF := Option.some.inj (it_t hF z3)
    subst hF
    refine J_goto (tgt := 3183) hX dL_law_1817 (by decide) ?_
    refine J_sub (lc2 := [(4, .int i), (3, .ref (adr G 16 0)), (2, .ref (adr G 15 0)), (1, .ref (adr G 0 0)), (0, .ref b)]) [2, 3, 4, 5, 6] rfl ?_
    exact J_wid (Nat.add_le_add_left (m := 30) (n := 1) (Nat.le_of_ble_eq_true rfl) cells) (Nat.add_le_add_left (m := 3900) (n := 6) (Nat.le_of_ble_eq_true rfl) slots) (kk d0 hd0)
def FLc_39 (n : Nat) (w : Wd) (a1 a2 a3 a4 a5 : Int32) : Option Wd := bo2 (FL_nextReturn w a1) fun k w1 => bo2 (FX13_nextReturn w1 a1) fun q w2 => if FX13_thrown w2 = k then (if k = 0 then (if lg_cmp ((w2 16).2 0 0) q.toInt64 = 0 then some w2 else none) else some w2) else none
set_option maxHeartbeats 4000000 in
theorem cs_39 {G : GG} {p : Program} {l : Launch} {e : Env} {s : State} {m : MethodId} {args : Array Value} {below : List Frame} {meth : Method} {c : Code} {b L : Nat} {xs : Nat → Int32} {Q : State → Prop} {cells slots n : Nat} {i a1 a2 a3 a4 a5 : Int32} {w w9 : Wd} (hW : LW G p l s m args c b L xs) (hA : ARG L xs i a1 a2 a3 a4 a5) (hc : cells + 30 ≤ room_1.cells) (hs9 : slots + 3900 ≤ room_1.slots) (hF : FLc_39 n w a1 a2 a3 a4 a5 = some w9) (kk : LJ G p l e s m args below meth c b Q (cells + 30) (slots + 3900) 3183 i w9) : LJ G p l e s m args below meth c b Q cells slots 1820 i w := by
  intro d0 hd0
  obtain ⟨hX, hNC, hl, hs, hb⟩ := hW.drawn d0
  unfold FLc_39 at hF
  obtain ⟨k, w1, hk, hF⟩ := bo2_e hF
  obtain ⟨q, w2, hq, hF⟩ := bo2_e hF
  refine J_aload_n hX dL_law_1820 3 rfl (t := 1821) rfl ?_
  refine J_aload_n hX dL_law_1821 4 rfl (t := 1822) rfl ?_
  refine J_iload hX dL_law_1822 0 rfl (t := 1824) rfl ?_
  refine J_iconst (v := 1) hX dL_law_1824 (by decide) (t := 1825) rfl ?_
  refine J_iadd hX dL_law_1825 (t := 1826) rfl ?_
  refine J_sld hX hs hb hA.1.1 hA.1.2 dL_law_1826 (t := 1827) rfl ?_
  refine J_aload_n hX dL_law_1827 1 rfl (t := 1828) rfl ?_
  refine J_callSW hX hNC [.ref (adr G 0 0), .int a1, .ref (adr G 16 0)] [] (ctL_nextReturn hl w a1 hk) miL_nextReturn q_1486 q_1485 ⟨rfl, rfl, Nat.le_of_ble_eq_true rfl, Nat.le_of_ble_eq_true rfl⟩ rfl rfl (Nat.le_of_ble_eq_true rfl) ⟨Nat.le_trans (Nat.add_le_add_left (m := 30) (n := 1) (Nat.le_of_ble_eq_true rfl) cells) hc, Nat.le_trans (Nat.add_le_add_left (m := 3900) (n := 6) (Nat.le_of_ble_eq_true rfl) slots) hs9⟩ dL_law_1828 (t := 1831) rfl (fun v9 => J_pure fun hv9 => ?_)
  subst hv9
  refine J_istore (lc2 := [(5, .int k), (4, .int i), (3, .ref (adr G 16 0)), (2, .ref (adr G 15 0)), (1, .ref (adr G 0 0)), (0, .ref b)]) hX dL_law_1831 (Nat.le_of_ble_eq_true rfl) rfl (t := 1833) rfl ?_
  refine J_aload_n hX dL_law_1833 3 rfl (t := 1834) rfl ?_
  refine J_aload_n hX dL_law_1834 5 rfl (t := 1835) rfl ?_
  refine J_iload hX dL_law_1835 1 rfl (t := 1837) rfl ?_
  refine J_iconst (v := 1) hX dL_law_1837 (by decide) (t := 1838) rfl ?_
  refine J_iadd hX dL_law_1838 (t := 1839) rfl ?_
  refine J_sld hX hs hb hA.1.1 hA.1.2 dL_law_1839 (t := 1840) rfl ?_
  refine J_callV hX [.int a1] [] [.int q] (ctX13_nextReturn w1 a1 hq) miX13_nextReturn mvX13_nextReturn cb10 kModel q_2661 ⟨rfl, rfl, Nat.le_of_ble_eq_true rfl, Nat.le_of_ble_eq_true rfl⟩ rfl rfl (Nat.le_of_ble_eq_true rfl) ⟨Nat.le_trans (Nat.add_le_add_left (m := 30) (n := 1) (Nat.le_of_ble_eq_true rfl) cells) hc, Nat.le_trans (Nat.add_le_add_left (m := 3900) (n := 6) (Nat.le_of_ble_eq_true rfl) slots) hs9⟩ dL_law_1840 (t := 1843) rfl rfl ?_
  refine J_istore (lc2 := [(6, .int q), (5, .int k), (4, .int i), (3, .ref (adr G 16 0)), (2, .ref (adr G 15 0)), (1, .ref (adr G 0 0)), (0, .ref b)]) hX dL_law_1843 (Nat.le_of_ble_eq_true rfl) rfl (t := 1845) rfl ?_
  refine J_aload_n hX dL_law_1845 4 rfl (t := 1846) rfl ?_
  refine J_callV hX [] [] [.int (FX13_thrown w2)] (ctX13_thrown w2  rfl) miX13_thrown mvX13_thrown cb10 kModel q_2070 ⟨rfl, rfl, Nat.le_of_ble_eq_true rfl, Nat.le_of_ble_eq_true rfl⟩ rfl rfl (Nat.le_of_ble_eq_true rfl) ⟨Nat.le_trans (Nat.add_le_add_left (m := 30) (n := 1) (Nat.le_of_ble_eq_true rfl) cells) hc, Nat.le_trans (Nat.add_le_add_left (m := 3900) (n := 6) (Nat.le_of_ble_eq_true rfl) slots) hs9⟩ dL_law_1846 (t := 1849) rfl rfl ?_
  refine J_iload hX dL_law_1849 1 rfl (t := 1851) rfl ?_
  refine J_icmp_eq (tgt := 1856) hX dL_law_1851 (by decide) (t := 1854) rfl (fun z => ?_) (fun z => nomatch it_f hF z)
  replace hF := it_t hF z
  refine J_iload hX dL_law_1856 1 rfl (t := 1858) rfl ?_
  refine J_if_ne (tgt := 1873) hX dL_law_1858 (by decide) (t := 1861) rfl (fun z2 => ?_) (fun z2 => ?_)
  · replace hF := Option.some.inj (it_f hF z2)
    subst hF
    refine J_goto (tgt := 3183) hX dL_law_1873 (by decide) ?_
    refine J_sub (lc2 := [(4, .int i), (3, .ref (adr G 16 0)), (2, .ref (adr G 15 0)), (1, .ref (adr G 0 0)), (0, .ref b)]) [2, 3, 4, 5, 6] rfl ?_
    exact J_wid (Nat.add_le_add_left (m := 30) (n := 1) (Nat.le_of_ble_eq_true rfl) cells) (Nat.add_le_add_left (m := 3900) (n := 6) (Nat.le_of_ble_eq_true rfl) slots) (kk d0 hd0)
  · replace hF := it_t hF z2
    refine J_aload_n hX dL_law_1861 3 rfl (t := 1862) rfl ?_
    refine J_iconst (v := 0) hX dL_law_1862 (by decide) (t := 1863) rfl ?_
    refine J_lald (w := w2) (v := (w2 16).2 0 0) hX kOut (by decide) rfl dL_law_1863 (t := 1864) rfl ?_
    refine J_iload hX dL_law_1864 0 rfl (t := 1866) rfl ?_
    refine J_i2l hX dL_law_1866 (t := 1867) rfl ?_
    refine J_lcmp hX dL_law_1867 (t := 1868) rfl ?_
    refine J_if_eq (tgt := 1873) hX dL_law_1868 (by decide) (t := 1871) rfl (fun z3 => ?_) (fun z3 => nomatch it_f hF z3)
    replace hF := Option.some.inj (it_t hF z3)
    subst hF
    refine J_goto (tgt := 3183) hX dL_law_1873 (by decide) ?_
    refine J_sub (lc2 := [(4, .int i), (3, .ref (adr G 16 0)), (2, .ref (adr G 15 0)), (1, .ref (adr G 0 0)), (0, .ref b)]) [2, 3, 4, 5, 6] rfl ?_
    exact J_wid (Nat.add_le_add_left (m := 30) (n := 1) (Nat.le_of_ble_eq_true rfl) cells) (Nat.add_le_add_left (m := 3900) (n := 6) (Nat.le_of_ble_eq_true rfl) slots) (kk d0 hd0)
def FLc_40 (n : Nat) (w : Wd) (a1 a2 a3 a4 a5 : Int32) : Option Wd := bo2 (FL_patienceEnds w a1) fun k w1 => bo2 (FX13_patienceEnds w1 a1) fun q w2 => if FX13_thrown w2 = k then (if k = 0 then (if lg_cmp ((w2 16).2 0 0) q.toInt64 = 0 then some w2 else none) else some w2) else none
set_option maxHeartbeats 4000000 in
theorem cs_40 {G : GG} {p : Program} {l : Launch} {e : Env} {s : State} {m : MethodId} {args : Array Value} {below : List Frame} {meth : Method} {c : Code} {b L : Nat} {xs : Nat → Int32} {Q : State → Prop} {cells slots n : Nat} {i a1 a2 a3 a4 a5 : Int32} {w w9 : Wd} (hW : LW G p l s m args c b L xs) (hA : ARG L xs i a1 a2 a3 a4 a5) (hc : cells + 30 ≤ room_1.cells) (hs9 : slots + 3900 ≤ room_1.slots) (hF : FLc_40 n w a1 a2 a3 a4 a5 = some w9) (kk : LJ G p l e s m args below meth c b Q (cells + 30) (slots + 3900) 3183 i w9) : LJ G p l e s m args below meth c b Q cells slots 1876 i w := by
  intro d0 hd0
  obtain ⟨hX, hNC, hl, hs, hb⟩ := hW.drawn d0
  unfold FLc_40 at hF
  obtain ⟨k, w1, hk, hF⟩ := bo2_e hF
  obtain ⟨q, w2, hq, hF⟩ := bo2_e hF
  refine J_aload_n hX dL_law_1876 3 rfl (t := 1877) rfl ?_
  refine J_aload_n hX dL_law_1877 4 rfl (t := 1878) rfl ?_
  refine J_iload hX dL_law_1878 0 rfl (t := 1880) rfl ?_
  refine J_iconst (v := 1) hX dL_law_1880 (by decide) (t := 1881) rfl ?_
  refine J_iadd hX dL_law_1881 (t := 1882) rfl ?_
  refine J_sld hX hs hb hA.1.1 hA.1.2 dL_law_1882 (t := 1883) rfl ?_
  refine J_aload_n hX dL_law_1883 1 rfl (t := 1884) rfl ?_
  refine J_callSW hX hNC [.ref (adr G 0 0), .int a1, .ref (adr G 16 0)] [] (ctL_patienceEnds hl w a1 hk) miL_patienceEnds q_1495 q_1494 ⟨rfl, rfl, Nat.le_of_ble_eq_true rfl, Nat.le_of_ble_eq_true rfl⟩ rfl rfl (Nat.le_of_ble_eq_true rfl) ⟨Nat.le_trans (Nat.add_le_add_left (m := 30) (n := 1) (Nat.le_of_ble_eq_true rfl) cells) hc, Nat.le_trans (Nat.add_le_add_left (m := 3900) (n := 6) (Nat.le_of_ble_eq_true rfl) slots) hs9⟩ dL_law_1884 (t := 1887) rfl (fun v9 => J_pure fun hv9 => ?_)
  subst hv9
  refine J_istore (lc2 := [(5, .int k), (4, .int i), (3, .ref (adr G 16 0)), (2, .ref (adr G 15 0)), (1, .ref (adr G 0 0)), (0, .ref b)]) hX dL_law_1887 (Nat.le_of_ble_eq_true rfl) rfl (t := 1889) rfl ?_
  refine J_aload_n hX dL_law_1889 3 rfl (t := 1890) rfl ?_
  refine J_aload_n hX dL_law_1890 5 rfl (t := 1891) rfl ?_
  refine J_iload hX dL_law_1891 1 rfl (t := 1893) rfl ?_
  refine J_iconst (v := 1) hX dL_law_1893 (by decide) (t := 1894) rfl ?_
  refine J_iadd hX dL_law_1894 (t := 1895) rfl ?_
  refine J_sld hX hs hb hA.1.1 hA.1.2 dL_law_1895 (t := 1896) rfl ?_
  refine J_callV hX [.int a1] [] [.int q] (ctX13_patienceEnds w1 a1 hq) miX13_patienceEnds mvX13_patienceEnds cb10 kModel q_2665 ⟨rfl, rfl, Nat.le_of_ble_eq_true rfl, Nat.le_of_ble_eq_true rfl⟩ rfl rfl (Nat.le_of_ble_eq_true rfl) ⟨Nat.le_trans (Nat.add_le_add_left (m := 30) (n := 1) (Nat.le_of_ble_eq_true rfl) cells) hc, Nat.le_trans (Nat.add_le_add_left (m := 3900) (n := 6) (Nat.le_of_ble_eq_true rfl) slots) hs9⟩ dL_law_1896 (t := 1899) rfl rfl ?_
  refine J_istore (lc2 := [(6, .int q), (5, .int k), (4, .int i), (3, .ref (adr G 16 0)), (2, .ref (adr G 15 0)), (1, .ref (adr G 0 0)), (0, .ref b)]) hX dL_law_1899 (Nat.le_of_ble_eq_true rfl) rfl (t := 1901) rfl ?_
  refine J_aload_n hX dL_law_1901 4 rfl (t := 1902) rfl ?_
  refine J_callV hX [] [] [.int (FX13_thrown w2)] (ctX13_thrown w2  rfl) miX13_thrown mvX13_thrown cb10 kModel q_2070 ⟨rfl, rfl, Nat.le_of_ble_eq_true rfl, Nat.le_of_ble_eq_true rfl⟩ rfl rfl (Nat.le_of_ble_eq_true rfl) ⟨Nat.le_trans (Nat.add_le_add_left (m := 30) (n := 1) (Nat.le_of_ble_eq_true rfl) cells) hc, Nat.le_trans (Nat.add_le_add_left (m := 3900) (n := 6) (Nat.le_of_ble_eq_true rfl) slots) hs9⟩ dL_law_1902 (t := 1905) rfl rfl ?_
  refine J_iload hX dL_law_1905 1 rfl (t := 1907) rfl ?_
  refine J_icmp_eq (tgt := 1912) hX dL_law_1907 (by decide) (t := 1910) rfl (fun z => ?_) (fun z => nomatch it_f hF z)
  replace hF := it_t hF z
  refine J_iload hX dL_law_1912 1 rfl (t := 1914) rfl ?_
  refine J_if_ne (tgt := 1929) hX dL_law_1914 (by decide) (t := 1917) rfl (fun z2 => ?_) (fun z2 => ?_)
  · replace hF := Option.some.inj (it_f hF z2)
    subst hF
    refine J_goto (tgt := 3183) hX dL_law_1929 (by decide) ?_
    refine J_sub (lc2 := [(4, .int i), (3, .ref (adr G 16 0)), (2, .ref (adr G 15 0)), (1, .ref (adr G 0 0)), (0, .ref b)]) [2, 3, 4, 5, 6] rfl ?_
    exact J_wid (Nat.add_le_add_left (m := 30) (n := 1) (Nat.le_of_ble_eq_true rfl) cells) (Nat.add_le_add_left (m := 3900) (n := 6) (Nat.le_of_ble_eq_true rfl) slots) (kk d0 hd0)
  · replace hF := it_t hF z2
    refine J_aload_n hX dL_law_1917 3 rfl (t := 1918) rfl ?_
    refine J_iconst (v := 0) hX dL_law_1918 (by decide) (t := 1919) rfl ?_
    refine J_lald (w := w2) (v := (w2 16).2 0 0) hX kOut (by decide) rfl dL_law_1919 (t := 1920) rfl ?_
    refine J_iload hX dL_law_1920 0 rfl (t := 1922) rfl ?_
    refine J_i2l hX dL_law_1922 (t := 1923) rfl ?_
    refine J_lcmp hX dL_law_1923 (t := 1924) rfl ?_
    refine J_if_eq (tgt := 1929) hX dL_law_1924 (by decide) (t := 1927) rfl (fun z3 => ?_) (fun z3 => nomatch it_f hF z3)
    replace hF := Option.some.inj (it_t hF z3)
    subst hF
    refine J_goto (tgt := 3183) hX dL_law_1929 (by decide) ?_
    refine J_sub (lc2 := [(4, .int i), (3, .ref (adr G 16 0)), (2, .ref (adr G 15 0)), (1, .ref (adr G 0 0)), (0, .ref b)]) [2, 3, 4, 5, 6] rfl ?_
    exact J_wid (Nat.add_le_add_left (m := 30) (n := 1) (Nat.le_of_ble_eq_true rfl) cells) (Nat.add_le_add_left (m := 3900) (n := 6) (Nat.le_of_ble_eq_true rfl) slots) (kk d0 hd0)
def FLc_41 (n : Nat) (w : Wd) (a1 a2 a3 a4 a5 : Int32) : Option Wd := bo2 (FL_refusal n w a1 a2 a3) fun k w1 => bo2 (FX13_refusal n w1 a1 a2 a3) fun q w2 => if FX13_thrown w2 = k then (if k = 0 then (if lg_cmp ((w2 16).2 0 0) q.toInt64 = 0 then some w2 else none) else some w2) else none
set_option maxHeartbeats 4000000 in
theorem cs_41 {G : GG} {p : Program} {l : Launch} {e : Env} {s : State} {m : MethodId} {args : Array Value} {below : List Frame} {meth : Method} {c : Code} {b L : Nat} {xs : Nat → Int32} {Q : State → Prop} {cells slots n : Nat} {i a1 a2 a3 a4 a5 : Int32} {w w9 : Wd} (hW : LW G p l s m args c b L xs) (hA : ARG L xs i a1 a2 a3 a4 a5) (hc : cells + 30 ≤ room_1.cells) (hs9 : slots + 3900 ≤ room_1.slots) (hF : FLc_41 n w a1 a2 a3 a4 a5 = some w9) (kk : LJ G p l e s m args below meth c b Q (cells + 30) (slots + 3900) 3183 i w9) : LJ G p l e s m args below meth c b Q cells slots 1932 i w := by
  intro d0 hd0
  obtain ⟨hX, hNC, hl, hs, hb⟩ := hW.drawn d0
  unfold FLc_41 at hF
  obtain ⟨k, w1, hk, hF⟩ := bo2_e hF
  obtain ⟨q, w2, hq, hF⟩ := bo2_e hF
  refine J_aload_n hX dL_law_1932 3 rfl (t := 1933) rfl ?_
  refine J_aload_n hX dL_law_1933 4 rfl (t := 1934) rfl ?_
  refine J_iload hX dL_law_1934 0 rfl (t := 1936) rfl ?_
  refine J_iconst (v := 1) hX dL_law_1936 (by decide) (t := 1937) rfl ?_
  refine J_iadd hX dL_law_1937 (t := 1938) rfl ?_
  refine J_sld hX hs hb hA.1.1 hA.1.2 dL_law_1938 (t := 1939) rfl ?_
  refine J_aload_n hX dL_law_1939 4 rfl (t := 1940) rfl ?_
  refine J_iload hX dL_law_1940 0 rfl (t := 1942) rfl ?_
  refine J_iconst (v := 2) hX dL_law_1942 (by decide) (t := 1943) rfl ?_
  refine J_iadd hX dL_law_1943 (t := 1944) rfl ?_
  refine J_sld hX hs hb hA.2.1.1 hA.2.1.2 dL_law_1944 (t := 1945) rfl ?_
  refine J_aload_n hX dL_law_1945 4 rfl (t := 1946) rfl ?_
  refine J_iload hX dL_law_1946 0 rfl (t := 1948) rfl ?_
  refine J_iconst (v := 3) hX dL_law_1948 (by decide) (t := 1949) rfl ?_
  refine J_iadd hX dL_law_1949 (t := 1950) rfl ?_
  refine J_sld hX hs hb hA.2.2.1.1 hA.2.2.1.2 dL_law_1950 (t := 1951) rfl ?_
  refine J_aload_n hX dL_law_1951 1 rfl (t := 1952) rfl ?_
  refine J_callSW hX hNC [.ref (adr G 0 0), .int a1, .int a2, .int a3, .ref (adr G 16 0)] [] (ctL_refusal hl w a1 a2 a3 n hk) miL_refusal q_1502 q_1501 ⟨rfl, rfl, Nat.le_of_ble_eq_true rfl, Nat.le_of_ble_eq_true rfl⟩ rfl rfl (Nat.le_of_ble_eq_true rfl) ⟨Nat.le_trans (Nat.add_le_add_left (m := 30) (n := 1) (Nat.le_of_ble_eq_true rfl) cells) hc, Nat.le_trans (Nat.add_le_add_left (m := 3900) (n := 6) (Nat.le_of_ble_eq_true rfl) slots) hs9⟩ dL_law_1952 (t := 1955) rfl (fun v9 => J_pure fun hv9 => ?_)
  subst hv9
  refine J_istore (lc2 := [(5, .int k), (4, .int i), (3, .ref (adr G 16 0)), (2, .ref (adr G 15 0)), (1, .ref (adr G 0 0)), (0, .ref b)]) hX dL_law_1955 (Nat.le_of_ble_eq_true rfl) rfl (t := 1957) rfl ?_
  refine J_aload_n hX dL_law_1957 3 rfl (t := 1958) rfl ?_
  refine J_aload_n hX dL_law_1958 5 rfl (t := 1959) rfl ?_
  refine J_iload hX dL_law_1959 1 rfl (t := 1961) rfl ?_
  refine J_iconst (v := 1) hX dL_law_1961 (by decide) (t := 1962) rfl ?_
  refine J_iadd hX dL_law_1962 (t := 1963) rfl ?_
  refine J_sld hX hs hb hA.1.1 hA.1.2 dL_law_1963 (t := 1964) rfl ?_
  refine J_aload_n hX dL_law_1964 5 rfl (t := 1965) rfl ?_
  refine J_iload hX dL_law_1965 1 rfl (t := 1967) rfl ?_
  refine J_iconst (v := 2) hX dL_law_1967 (by decide) (t := 1968) rfl ?_
  refine J_iadd hX dL_law_1968 (t := 1969) rfl ?_
  refine J_sld hX hs hb hA.2.1.1 hA.2.1.2 dL_law_1969 (t := 1970) rfl ?_
  refine J_aload_n hX dL_law_1970 5 rfl (t := 1971) rfl ?_
  refine J_iload hX dL_law_1971 1 rfl (t := 1973) rfl ?_
  refine J_iconst (v := 3) hX dL_law_1973 (by decide) (t := 1974) rfl ?_
  refine J_iadd hX dL_law_1974 (t := 1975) rfl ?_
  refine J_sld hX hs hb hA.2.2.1.1 hA.2.2.1.2 dL_law_1975 (t := 1976) rfl ?_
  refine J_callV hX [.int a1, .int a2, .int a3] [] [.int q] (ctX13_refusal w1 a1 a2 a3 n hq) miX13_refusal mvX13_refusal cb10 kModel q_2669 ⟨rfl, rfl, Nat.le_of_ble_eq_true rfl, Nat.le_of_ble_eq_true rfl⟩ rfl rfl (Nat.le_of_ble_eq_true rfl) ⟨Nat.le_trans (Nat.add_le_add_left (m := 30) (n := 1) (Nat.le_of_ble_eq_true rfl) cells) hc, Nat.le_trans (Nat.add_le_add_left (m := 3900) (n := 6) (Nat.le_of_ble_eq_true rfl) slots) hs9⟩ dL_law_1976 (t := 1979) rfl rfl ?_
  refine J_istore (lc2 := [(6, .int q), (5, .int k), (4, .int i), (3, .ref (adr G 16 0)), (2, .ref (adr G 15 0)), (1, .ref (adr G 0 0)), (0, .ref b)]) hX dL_law_1979 (Nat.le_of_ble_eq_true rfl) rfl (t := 1981) rfl ?_
  refine J_aload_n hX dL_law_1981 4 rfl (t := 1982) rfl ?_
  refine J_callV hX [] [] [.int (FX13_thrown w2)] (ctX13_thrown w2  rfl) miX13_thrown mvX13_thrown cb10 kModel q_2070 ⟨rfl, rfl, Nat.le_of_ble_eq_true rfl, Nat.le_of_ble_eq_true rfl⟩ rfl rfl (Nat.le_of_ble_eq_true rfl) ⟨Nat.le_trans (Nat.add_le_add_left (m := 30) (n := 1) (Nat.le_of_ble_eq_true rfl) cells) hc, Nat.le_trans (Nat.add_le_add_left (m := 3900) (n := 6) (Nat.le_of_ble_eq_true rfl) slots) hs9⟩ dL_law_1982 (t := 1985) rfl rfl ?_
  refine J_iload hX dL_law_1985 1 rfl (t := 1987) rfl ?_
  refine J_icmp_eq (tgt := 1992) hX dL_law_1987 (by decide) (t := 1990) rfl (fun z => ?_) (fun z => nomatch it_f hF z)
  replace hF := it_t hF z
  refine J_iload hX dL_law_1992 1 rfl (t := 1994) rfl ?_
  refine J_if_ne (tgt := 2009) hX dL_law_1994 (by decide) (t := 1997) rfl (fun z2 => ?_) (fun z2 => ?_)
  · replace hF := Option.some.inj (it_f hF z2)
    subst hF
    refine J_goto (tgt := 3183) hX dL_law_2009 (by decide) ?_
    refine J_sub (lc2 := [(4, .int i), (3, .ref (adr G 16 0)), (2, .ref (adr G 15 0)), (1, .ref (adr G 0 0)), (0, .ref b)]) [2, 3, 4, 5, 6] rfl ?_
    exact J_wid (Nat.add_le_add_left (m := 30) (n := 1) (Nat.le_of_ble_eq_true rfl) cells) (Nat.add_le_add_left (m := 3900) (n := 6) (Nat.le_of_ble_eq_true rfl) slots) (kk d0 hd0)
  · replace hF := it_t hF z2
    refine J_aload_n hX dL_law_1997 3 rfl (t := 1998) rfl ?_
    refine J_iconst (v := 0) hX dL_law_1998 (by decide) (t := 1999) rfl ?_
    refine J_lald (w := w2) (v := (w2 16).2 0 0) hX kOut (by decide) rfl dL_law_1999 (t := 2000) rfl ?_
    refine J_iload hX dL_law_2000 0 rfl (t := 2002) rfl ?_
    refine J_i2l hX dL_law_2002 (t := 2003) rfl ?_
    refine J_lcmp hX dL_law_2003 (t := 2004) rfl ?_
    refine J_if_eq (tgt := 2009) hX dL_law_2004 (by decide) (t := 2007) rfl (fun z3 => ?_) (fun z3 => nomatch it_f hF z3)
    replace hF := Option.some.inj (it_t hF z3)
    subst hF
    refine J_goto (tgt := 3183) hX dL_law_2009 (by decide) ?_
    refine J_sub (lc2 := [(4, .int i), (3, .ref (adr G 16 0)), (2, .ref (adr G 15 0)), (1, .ref (adr G 0 0)), (0, .ref b)]) [2, 3, 4, 5, 6] rfl ?_
    exact J_wid (Nat.add_le_add_left (m := 30) (n := 1) (Nat.le_of_ble_eq_true rfl) cells) (Nat.add_le_add_left (m := 3900) (n := 6) (Nat.le_of_ble_eq_true rfl) slots) (kk d0 hd0)
def FLc_42 (n : Nat) (w : Wd) (a1 a2 a3 a4 a5 : Int32) : Option Wd := bo2 (FL_neededLoudness w a1 a2) fun k w1 => bo2 (FX13_neededLoudness w1 a1 a2) fun q w2 => if FX13_thrown w2 = k then (if k = 0 then (if lg_cmp ((w2 16).2 0 0) q.toInt64 = 0 then some w2 else none) else some w2) else none
set_option maxHeartbeats 4000000 in
theorem cs_42 {G : GG} {p : Program} {l : Launch} {e : Env} {s : State} {m : MethodId} {args : Array Value} {below : List Frame} {meth : Method} {c : Code} {b L : Nat} {xs : Nat → Int32} {Q : State → Prop} {cells slots n : Nat} {i a1 a2 a3 a4 a5 : Int32} {w w9 : Wd} (hW : LW G p l s m args c b L xs) (hA : ARG L xs i a1 a2 a3 a4 a5) (hc : cells + 30 ≤ room_1.cells) (hs9 : slots + 3900 ≤ room_1.slots) (hF : FLc_42 n w a1 a2 a3 a4 a5 = some w9) (kk : LJ G p l e s m args below meth c b Q (cells + 30) (slots + 3900) 3183 i w9) : LJ G p l e s m args below meth c b Q cells slots 2012 i w := by
  intro d0 hd0
  obtain ⟨hX, hNC, hl, hs, hb⟩ := hW.drawn d0
  unfold FLc_42 at hF
  obtain ⟨k, w1, hk, hF⟩ := bo2_e hF
  obtain ⟨q, w2, hq, hF⟩ := bo2_e hF
  refine J_aload_n hX dL_law_2012 3 rfl (t := 2013) rfl ?_
  refine J_aload_n hX dL_law_2013 4 rfl (t := 2014) rfl ?_
  refine J_iload hX dL_law_2014 0 rfl (t := 2016) rfl ?_
  refine J_iconst (v := 1) hX dL_law_2016 (by decide) (t := 2017) rfl ?_
  refine J_iadd hX dL_law_2017 (t := 2018) rfl ?_
  refine J_sld hX hs hb hA.1.1 hA.1.2 dL_law_2018 (t := 2019) rfl ?_
  refine J_aload_n hX dL_law_2019 4 rfl (t := 2020) rfl ?_
  refine J_iload hX dL_law_2020 0 rfl (t := 2022) rfl ?_
  refine J_iconst (v := 2) hX dL_law_2022 (by decide) (t := 2023) rfl ?_
  refine J_iadd hX dL_law_2023 (t := 2024) rfl ?_
  refine J_sld hX hs hb hA.2.1.1 hA.2.1.2 dL_law_2024 (t := 2025) rfl ?_
  refine J_aload_n hX dL_law_2025 1 rfl (t := 2026) rfl ?_
  refine J_callSW hX hNC [.ref (adr G 0 0), .int a1, .int a2, .ref (adr G 16 0)] [] (ctL_neededLoudness hl w a1 a2 hk) miL_neededLoudness q_1510 q_1509 ⟨rfl, rfl, Nat.le_of_ble_eq_true rfl, Nat.le_of_ble_eq_true rfl⟩ rfl rfl (Nat.le_of_ble_eq_true rfl) ⟨Nat.le_trans (Nat.add_le_add_left (m := 30) (n := 1) (Nat.le_of_ble_eq_true rfl) cells) hc, Nat.le_trans (Nat.add_le_add_left (m := 3900) (n := 6) (Nat.le_of_ble_eq_true rfl) slots) hs9⟩ dL_law_2026 (t := 2029) rfl (fun v9 => J_pure fun hv9 => ?_)
  subst hv9
  refine J_istore (lc2 := [(5, .int k), (4, .int i), (3, .ref (adr G 16 0)), (2, .ref (adr G 15 0)), (1, .ref (adr G 0 0)), (0, .ref b)]) hX dL_law_2029 (Nat.le_of_ble_eq_true rfl) rfl (t := 2031) rfl ?_
  refine J_aload_n hX dL_law_2031 3 rfl (t := 2032) rfl ?_
  refine J_aload_n hX dL_law_2032 5 rfl (t := 2033) rfl ?_
  refine J_iload hX dL_law_2033 1 rfl (t := 2035) rfl ?_
  refine J_iconst (v := 1) hX dL_law_2035 (by decide) (t := 2036) rfl ?_
  refine J_iadd hX dL_law_2036 (t := 2037) rfl ?_
  refine J_sld hX hs hb hA.1.1 hA.1.2 dL_law_2037 (t := 2038) rfl ?_
  refine J_aload_n hX dL_law_2038 5 rfl (t := 2039) rfl ?_
  refine J_iload hX dL_law_2039 1 rfl (t := 2041) rfl ?_
  refine J_iconst (v := 2) hX dL_law_2041 (by decide) (t := 2042) rfl ?_
  refine J_iadd hX dL_law_2042 (t := 2043) rfl ?_
  refine J_sld hX hs hb hA.2.1.1 hA.2.1.2 dL_law_2043 (t := 2044) rfl ?_
  refine J_callV hX [.int a1, .int a2] [] [.int q] (ctX13_neededLoudness w1 a1 a2 hq) miX13_neededLoudness mvX13_neededLoudness cb10 kModel q_2673 ⟨rfl, rfl, Nat.le_of_ble_eq_true rfl, Nat.le_of_ble_eq_true rfl⟩ rfl rfl (Nat.le_of_ble_eq_true rfl) ⟨Nat.le_trans (Nat.add_le_add_left (m := 30) (n := 1) (Nat.le_of_ble_eq_true rfl) cells) hc, Nat.le_trans (Nat.add_le_add_left (m := 3900) (n := 6) (Nat.le_of_ble_eq_true rfl) slots) hs9⟩ dL_law_2044 (t := 2047) rfl rfl ?_
  refine J_istore (lc2 := [(6, .int q), (5, .int k), (4, .int i), (3, .ref (adr G 16 0)), (2, .ref (adr G 15 0)), (1, .ref (adr G 0 0)), (0, .ref b)]) hX dL_law_2047 (Nat.le_of_ble_eq_true rfl) rfl (t := 2049) rfl ?_
  refine J_aload_n hX dL_law_2049 4 rfl (t := 2050) rfl ?_
  refine J_callV hX [] [] [.int (FX13_thrown w2)] (ctX13_thrown w2  rfl) miX13_thrown mvX13_thrown cb10 kModel q_2070 ⟨rfl, rfl, Nat.le_of_ble_eq_true rfl, Nat.le_of_ble_eq_true rfl⟩ rfl rfl (Nat.le_of_ble_eq_true rfl) ⟨Nat.le_trans (Nat.add_le_add_left (m := 30) (n := 1) (Nat.le_of_ble_eq_true rfl) cells) hc, Nat.le_trans (Nat.add_le_add_left (m := 3900) (n := 6) (Nat.le_of_ble_eq_true rfl) slots) hs9⟩ dL_law_2050 (t := 2053) rfl rfl ?_
  refine J_iload hX dL_law_2053 1 rfl (t := 2055) rfl ?_
  refine J_icmp_eq (tgt := 2060) hX dL_law_2055 (by decide) (t := 2058) rfl (fun z => ?_) (fun z => nomatch it_f hF z)
  replace hF := it_t hF z
  refine J_iload hX dL_law_2060 1 rfl (t := 2062) rfl ?_
  refine J_if_ne (tgt := 2077) hX dL_law_2062 (by decide) (t := 2065) rfl (fun z2 => ?_) (fun z2 => ?_)
  · replace hF := Option.some.inj (it_f hF z2)
    subst hF
    refine J_goto (tgt := 3183) hX dL_law_2077 (by decide) ?_
    refine J_sub (lc2 := [(4, .int i), (3, .ref (adr G 16 0)), (2, .ref (adr G 15 0)), (1, .ref (adr G 0 0)), (0, .ref b)]) [2, 3, 4, 5, 6] rfl ?_
    exact J_wid (Nat.add_le_add_left (m := 30) (n := 1) (Nat.le_of_ble_eq_true rfl) cells) (Nat.add_le_add_left (m := 3900) (n := 6) (Nat.le_of_ble_eq_true rfl) slots) (kk d0 hd0)
  · replace hF := it_t hF z2
    refine J_aload_n hX dL_law_2065 3 rfl (t := 2066) rfl ?_
    refine J_iconst (v := 0) hX dL_law_2066 (by decide) (t := 2067) rfl ?_
    refine J_lald (w := w2) (v := (w2 16).2 0 0) hX kOut (by decide) rfl dL_law_2067 (t := 2068) rfl ?_
    refine J_iload hX dL_law_2068 0 rfl (t := 2070) rfl ?_
    refine J_i2l hX dL_law_2070 (t := 2071) rfl ?_
    refine J_lcmp hX dL_law_2071 (t := 2072) rfl ?_
    refine J_if_eq (tgt := 2077) hX dL_law_2072 (by decide) (t := 2075) rfl (fun z3 => ?_) (fun z3 => nomatch it_f hF z3)
    replace hF := Option.some.inj (it_t hF z3)
    subst hF
    refine J_goto (tgt := 3183) hX dL_law_2077 (by decide) ?_
    refine J_sub (lc2 := [(4, .int i), (3, .ref (adr G 16 0)), (2, .ref (adr G 15 0)), (1, .ref (adr G 0 0)), (0, .ref b)]) [2, 3, 4, 5, 6] rfl ?_
    exact J_wid (Nat.add_le_add_left (m := 30) (n := 1) (Nat.le_of_ble_eq_true rfl) cells) (Nat.add_le_add_left (m := 3900) (n := 6) (Nat.le_of_ble_eq_true rfl) slots) (kk d0 hd0)
def FLc_43 (n : Nat) (w : Wd) (a1 a2 a3 a4 a5 : Int32) : Option Wd := bo2 (FL_bestOffer n w a1 a2) fun k w1 => bo2 (FX13_bestOffer n w1 a1 a2) fun q w2 => if FX13_thrown w2 = k then (if k = 0 then (if lg_cmp ((w2 16).2 0 0) q.toInt64 = 0 then some w2 else none) else some w2) else none
set_option maxHeartbeats 4000000 in
theorem cs_43 {G : GG} {p : Program} {l : Launch} {e : Env} {s : State} {m : MethodId} {args : Array Value} {below : List Frame} {meth : Method} {c : Code} {b L : Nat} {xs : Nat → Int32} {Q : State → Prop} {cells slots n : Nat} {i a1 a2 a3 a4 a5 : Int32} {w w9 : Wd} (hW : LW G p l s m args c b L xs) (hA : ARG L xs i a1 a2 a3 a4 a5) (hc : cells + 30 ≤ room_1.cells) (hs9 : slots + 3900 ≤ room_1.slots) (hF : FLc_43 n w a1 a2 a3 a4 a5 = some w9) (kk : LJ G p l e s m args below meth c b Q (cells + 30) (slots + 3900) 3183 i w9) : LJ G p l e s m args below meth c b Q cells slots 2080 i w := by
  intro d0 hd0
  obtain ⟨hX, hNC, hl, hs, hb⟩ := hW.drawn d0
  unfold FLc_43 at hF
  obtain ⟨k, w1, hk, hF⟩ := bo2_e hF
  obtain ⟨q, w2, hq, hF⟩ := bo2_e hF
  refine J_aload_n hX dL_law_2080 3 rfl (t := 2081) rfl ?_
  refine J_aload_n hX dL_law_2081 4 rfl (t := 2082) rfl ?_
  refine J_iload hX dL_law_2082 0 rfl (t := 2084) rfl ?_
  refine J_iconst (v := 1) hX dL_law_2084 (by decide) (t := 2085) rfl ?_
  refine J_iadd hX dL_law_2085 (t := 2086) rfl ?_
  refine J_sld hX hs hb hA.1.1 hA.1.2 dL_law_2086 (t := 2087) rfl ?_
  refine J_aload_n hX dL_law_2087 4 rfl (t := 2088) rfl ?_
  refine J_iload hX dL_law_2088 0 rfl (t := 2090) rfl ?_
  refine J_iconst (v := 2) hX dL_law_2090 (by decide) (t := 2091) rfl ?_
  refine J_iadd hX dL_law_2091 (t := 2092) rfl ?_
  refine J_sld hX hs hb hA.2.1.1 hA.2.1.2 dL_law_2092 (t := 2093) rfl ?_
  refine J_aload_n hX dL_law_2093 1 rfl (t := 2094) rfl ?_
  refine J_callSW hX hNC [.ref (adr G 0 0), .int a1, .int a2, .ref (adr G 16 0)] [] (ctL_bestOffer hl w a1 a2 n hk) miL_bestOffer q_1518 q_1517 ⟨rfl, rfl, Nat.le_of_ble_eq_true rfl, Nat.le_of_ble_eq_true rfl⟩ rfl rfl (Nat.le_of_ble_eq_true rfl) ⟨Nat.le_trans (Nat.add_le_add_left (m := 30) (n := 1) (Nat.le_of_ble_eq_true rfl) cells) hc, Nat.le_trans (Nat.add_le_add_left (m := 3900) (n := 6) (Nat.le_of_ble_eq_true rfl) slots) hs9⟩ dL_law_2094 (t := 2097) rfl (fun v9 => J_pure fun hv9 => ?_)
  subst hv9
  refine J_istore (lc2 := [(5, .int k), (4, .int i), (3, .ref (adr G 16 0)), (2, .ref (adr G 15 0)), (1, .ref (adr G 0 0)), (0, .ref b)]) hX dL_law_2097 (Nat.le_of_ble_eq_true rfl) rfl (t := 2099) rfl ?_
  refine J_aload_n hX dL_law_2099 3 rfl (t := 2100) rfl ?_
  refine J_aload_n hX dL_law_2100 5 rfl (t := 2101) rfl ?_
  refine J_iload hX dL_law_2101 1 rfl (t := 2103) rfl ?_
  refine J_iconst (v := 1) hX dL_law_2103 (by decide) (t := 2104) rfl ?_
  refine J_iadd hX dL_law_2104 (t := 2105) rfl ?_
  refine J_sld hX hs hb hA.1.1 hA.1.2 dL_law_2105 (t := 2106) rfl ?_
  refine J_aload_n hX dL_law_2106 5 rfl (t := 2107) rfl ?_
  refine J_iload hX dL_law_2107 1 rfl (t := 2109) rfl ?_
  refine J_iconst (v := 2) hX dL_law_2109 (by decide) (t := 2110) rfl ?_
  refine J_iadd hX dL_law_2110 (t := 2111) rfl ?_
  refine J_sld hX hs hb hA.2.1.1 hA.2.1.2 dL_law_2111 (t := 2112) rfl ?_
  refine J_callV hX [.int a1, .int a2] [] [.int q] (ctX13_bestOffer w1 a1 a2 n hq) miX13_bestOffer mvX13_bestOffer cb10 kModel q_2677 ⟨rfl, rfl, Nat.le_of_ble_eq_true rfl, Nat.le_of_ble_eq_true rfl⟩ rfl rfl (Nat.le_of_ble_eq_true rfl) ⟨Nat.le_trans (Nat.add_le_add_left (m := 30) (n := 1) (Nat.le_of_ble_eq_true rfl) cells) hc, Nat.le_trans (Nat.add_le_add_left (m := 3900) (n := 6) (Nat.le_of_ble_eq_true rfl) slots) hs9⟩ dL_law_2112 (t := 2115) rfl rfl ?_
  refine J_istore (lc2 := [(6, .int q), (5, .int k), (4, .int i), (3, .ref (adr G 16 0)), (2, .ref (adr G 15 0)), (1, .ref (adr G 0 0)), (0, .ref b)]) hX dL_law_2115 (Nat.le_of_ble_eq_true rfl) rfl (t := 2117) rfl ?_
  refine J_aload_n hX dL_law_2117 4 rfl (t := 2118) rfl ?_
  refine J_callV hX [] [] [.int (FX13_thrown w2)] (ctX13_thrown w2  rfl) miX13_thrown mvX13_thrown cb10 kModel q_2070 ⟨rfl, rfl, Nat.le_of_ble_eq_true rfl, Nat.le_of_ble_eq_true rfl⟩ rfl rfl (Nat.le_of_ble_eq_true rfl) ⟨Nat.le_trans (Nat.add_le_add_left (m := 30) (n := 1) (Nat.le_of_ble_eq_true rfl) cells) hc, Nat.le_trans (Nat.add_le_add_left (m := 3900) (n := 6) (Nat.le_of_ble_eq_true rfl) slots) hs9⟩ dL_law_2118 (t := 2121) rfl rfl ?_
  refine J_iload hX dL_law_2121 1 rfl (t := 2123) rfl ?_
  refine J_icmp_eq (tgt := 2128) hX dL_law_2123 (by decide) (t := 2126) rfl (fun z => ?_) (fun z => nomatch it_f hF z)
  replace hF := it_t hF z
  refine J_iload hX dL_law_2128 1 rfl (t := 2130) rfl ?_
  refine J_if_ne (tgt := 2145) hX dL_law_2130 (by decide) (t := 2133) rfl (fun z2 => ?_) (fun z2 => ?_)
  · replace hF := Option.some.inj (it_f hF z2)
    subst hF
    refine J_goto (tgt := 3183) hX dL_law_2145 (by decide) ?_
    refine J_sub (lc2 := [(4, .int i), (3, .ref (adr G 16 0)), (2, .ref (adr G 15 0)), (1, .ref (adr G 0 0)), (0, .ref b)]) [2, 3, 4, 5, 6] rfl ?_
    exact J_wid (Nat.add_le_add_left (m := 30) (n := 1) (Nat.le_of_ble_eq_true rfl) cells) (Nat.add_le_add_left (m := 3900) (n := 6) (Nat.le_of_ble_eq_true rfl) slots) (kk d0 hd0)
  · replace hF := it_t hF z2
    refine J_aload_n hX dL_law_2133 3 rfl (t := 2134) rfl ?_
    refine J_iconst (v := 0) hX dL_law_2134 (by decide) (t := 2135) rfl ?_
    refine J_lald (w := w2) (v := (w2 16).2 0 0) hX kOut (by decide) rfl dL_law_2135 (t := 2136) rfl ?_
    refine J_iload hX dL_law_2136 0 rfl (t := 2138) rfl ?_
    refine J_i2l hX dL_law_2138 (t := 2139) rfl ?_
    refine J_lcmp hX dL_law_2139 (t := 2140) rfl ?_
    refine J_if_eq (tgt := 2145) hX dL_law_2140 (by decide) (t := 2143) rfl (fun z3 => ?_) (fun z3 => nomatch it_f hF z3)
    replace hF := Option.some.inj (it_t hF z3)
    subst hF
    refine J_goto (tgt := 3183) hX dL_law_2145 (by decide) ?_
    refine J_sub (lc2 := [(4, .int i), (3, .ref (adr G 16 0)), (2, .ref (adr G 15 0)), (1, .ref (adr G 0 0)), (0, .ref b)]) [2, 3, 4, 5, 6] rfl ?_
    exact J_wid (Nat.add_le_add_left (m := 30) (n := 1) (Nat.le_of_ble_eq_true rfl) cells) (Nat.add_le_add_left (m := 3900) (n := 6) (Nat.le_of_ble_eq_true rfl) slots) (kk d0 hd0)
def FLc_44 (n : Nat) (w : Wd) (a1 a2 a3 a4 a5 : Int32) : Option Wd := bo1 (FX12_nextEvent n w) fun k => bo2 (FX13_nextEvent n w) fun q w2 => if k = q then some w2 else none
set_option maxHeartbeats 4000000 in
theorem cs_44 {G : GG} {p : Program} {l : Launch} {e : Env} {s : State} {m : MethodId} {args : Array Value} {below : List Frame} {meth : Method} {c : Code} {b L : Nat} {xs : Nat → Int32} {Q : State → Prop} {cells slots n : Nat} {i a1 a2 a3 a4 a5 : Int32} {w w9 : Wd} (hW : LW G p l s m args c b L xs) (hA : ARG L xs i a1 a2 a3 a4 a5) (hc : cells + 30 ≤ room_1.cells) (hs9 : slots + 3900 ≤ room_1.slots) (hF : FLc_44 n w a1 a2 a3 a4 a5 = some w9) (kk : LJ G p l e s m args below meth c b Q (cells + 30) (slots + 3900) 3183 i w9) : LJ G p l e s m args below meth c b Q cells slots 2148 i w := by
  intro d0 hd0
  obtain ⟨hX, hNC, hl, hs, hb⟩ := hW.drawn d0
  unfold FLc_44 at hF
  obtain ⟨k, hk, hF⟩ := bo1_e hF
  obtain ⟨q, w2, hq, hF⟩ := bo2_e hF
  refine J_aload_n hX dL_law_2148 3 rfl (t := 2149) rfl ?_
  refine J_callV hX [] [] [.int k] (ctX12_nextEvent w  n hk) miX12_nextEvent mvX12_nextEvent cb9 kEcho q_715 ⟨rfl, rfl, Nat.le_of_ble_eq_true rfl, Nat.le_of_ble_eq_true rfl⟩ rfl rfl (Nat.le_of_ble_eq_true rfl) ⟨Nat.le_trans (Nat.add_le_add_left (m := 30) (n := 0) (Nat.le_of_ble_eq_true rfl) cells) hc, Nat.le_trans (Nat.add_le_add_left (m := 3900) (n := 0) (Nat.le_of_ble_eq_true rfl) slots) hs9⟩ dL_law_2149 (t := 2152) rfl rfl ?_
  refine J_aload_n hX dL_law_2152 2 rfl (t := 2153) rfl ?_
  refine J_callV hX [] [.int k] [.int q, .int k] (ctX13_nextEvent w  n hq) miX13_nextEvent mvX13_nextEvent cb10 kModel q_2693 ⟨rfl, rfl, Nat.le_of_ble_eq_true rfl, Nat.le_of_ble_eq_true rfl⟩ rfl rfl (Nat.le_of_ble_eq_true rfl) ⟨Nat.le_trans (Nat.add_le_add_left (m := 30) (n := 0) (Nat.le_of_ble_eq_true rfl) cells) hc, Nat.le_trans (Nat.add_le_add_left (m := 3900) (n := 0) (Nat.le_of_ble_eq_true rfl) slots) hs9⟩ dL_law_2153 (t := 2156) rfl rfl ?_
  refine J_icmp_eq (tgt := 3183) hX dL_law_2156 (by decide) (t := 2159) rfl (fun z => ?_) (fun z => nomatch it_f hF z)
  replace hF := Option.some.inj (it_t hF z)
  subst hF
  exact J_wid (Nat.le_add_right cells 30) (Nat.le_add_right slots 3900) (kk d0 hd0)
def FLc_45 (n : Nat) (w : Wd) (a1 a2 a3 a4 a5 : Int32) : Option Wd := bo2 (FL_earnedAfter n w a1) fun k w1 => bo2 (FX13_earnedAfter n w1 a1) fun q w2 => if FX13_thrown w2 = k then (if k = 0 then (if lg_cmp ((w2 16).2 0 0) q.toInt64 = 0 then some w2 else none) else some w2) else none
set_option maxHeartbeats 4000000 in
theorem cs_45 {G : GG} {p : Program} {l : Launch} {e : Env} {s : State} {m : MethodId} {args : Array Value} {below : List Frame} {meth : Method} {c : Code} {b L : Nat} {xs : Nat → Int32} {Q : State → Prop} {cells slots n : Nat} {i a1 a2 a3 a4 a5 : Int32} {w w9 : Wd} (hW : LW G p l s m args c b L xs) (hA : ARG L xs i a1 a2 a3 a4 a5) (hc : cells + 30 ≤ room_1.cells) (hs9 : slots + 3900 ≤ room_1.slots) (hF : FLc_45 n w a1 a2 a3 a4 a5 = some w9) (kk : LJ G p l e s m args below meth c b Q (cells + 30) (slots + 3900) 3183 i w9) : LJ G p l e s m args below meth c b Q cells slots 2161 i w := by
  intro d0 hd0
  obtain ⟨hX, hNC, hl, hs, hb⟩ := hW.drawn d0
  unfold FLc_45 at hF
  obtain ⟨k, w1, hk, hF⟩ := bo2_e hF
  obtain ⟨q, w2, hq, hF⟩ := bo2_e hF
  refine J_aload_n hX dL_law_2161 3 rfl (t := 2162) rfl ?_
  refine J_aload_n hX dL_law_2162 4 rfl (t := 2163) rfl ?_
  refine J_iload hX dL_law_2163 0 rfl (t := 2165) rfl ?_
  refine J_iconst (v := 1) hX dL_law_2165 (by decide) (t := 2166) rfl ?_
  refine J_iadd hX dL_law_2166 (t := 2167) rfl ?_
  refine J_sld hX hs hb hA.1.1 hA.1.2 dL_law_2167 (t := 2168) rfl ?_
  refine J_aload_n hX dL_law_2168 1 rfl (t := 2169) rfl ?_
  refine J_callSW hX hNC [.ref (adr G 0 0), .int a1, .ref (adr G 16 0)] [] (ctL_earnedAfter hl w a1 n hk) miL_earnedAfter q_1532 q_1531 ⟨rfl, rfl, Nat.le_of_ble_eq_true rfl, Nat.le_of_ble_eq_true rfl⟩ rfl rfl (Nat.le_of_ble_eq_true rfl) ⟨Nat.le_trans (Nat.add_le_add_left (m := 30) (n := 1) (Nat.le_of_ble_eq_true rfl) cells) hc, Nat.le_trans (Nat.add_le_add_left (m := 3900) (n := 6) (Nat.le_of_ble_eq_true rfl) slots) hs9⟩ dL_law_2169 (t := 2172) rfl (fun v9 => J_pure fun hv9 => ?_)
  subst hv9
  refine J_istore (lc2 := [(5, .int k), (4, .int i), (3, .ref (adr G 16 0)), (2, .ref (adr G 15 0)), (1, .ref (adr G 0 0)), (0, .ref b)]) hX dL_law_2172 (Nat.le_of_ble_eq_true rfl) rfl (t := 2174) rfl ?_
  refine J_aload_n hX dL_law_2174 3 rfl (t := 2175) rfl ?_
  refine J_aload_n hX dL_law_2175 5 rfl (t := 2176) rfl ?_
  refine J_iload hX dL_law_2176 1 rfl (t := 2178) rfl ?_
  refine J_iconst (v := 1) hX dL_law_2178 (by decide) (t := 2179) rfl ?_
  refine J_iadd hX dL_law_2179 (t := 2180) rfl ?_
  refine J_sld hX hs hb hA.1.1 hA.1.2 dL_law_2180 (t := 2181) rfl ?_
  refine J_callV hX [.int a1] [] [.int q] (ctX13_earnedAfter w1 a1 n hq) miX13_earnedAfter mvX13_earnedAfter cb10 kModel q_2700 ⟨rfl, rfl, Nat.le_of_ble_eq_true rfl, Nat.le_of_ble_eq_true rfl⟩ rfl rfl (Nat.le_of_ble_eq_true rfl) ⟨Nat.le_trans (Nat.add_le_add_left (m := 30) (n := 1) (Nat.le_of_ble_eq_true rfl) cells) hc, Nat.le_trans (Nat.add_le_add_left (m := 3900) (n := 6) (Nat.le_of_ble_eq_true rfl) slots) hs9⟩ dL_law_2181 (t := 2184) rfl rfl ?_
  refine J_istore (lc2 := [(6, .int q), (5, .int k), (4, .int i), (3, .ref (adr G 16 0)), (2, .ref (adr G 15 0)), (1, .ref (adr G 0 0)), (0, .ref b)]) hX dL_law_2184 (Nat.le_of_ble_eq_true rfl) rfl (t := 2186) rfl ?_
  refine J_aload_n hX dL_law_2186 4 rfl (t := 2187) rfl ?_
  refine J_callV hX [] [] [.int (FX13_thrown w2)] (ctX13_thrown w2  rfl) miX13_thrown mvX13_thrown cb10 kModel q_2070 ⟨rfl, rfl, Nat.le_of_ble_eq_true rfl, Nat.le_of_ble_eq_true rfl⟩ rfl rfl (Nat.le_of_ble_eq_true rfl) ⟨Nat.le_trans (Nat.add_le_add_left (m := 30) (n := 1) (Nat.le_of_ble_eq_true rfl) cells) hc, Nat.le_trans (Nat.add_le_add_left (m := 3900) (n := 6) (Nat.le_of_ble_eq_true rfl) slots) hs9⟩ dL_law_2187 (t := 2190) rfl rfl ?_
  refine J_iload hX dL_law_2190 1 rfl (t := 2192) rfl ?_
  refine J_icmp_eq (tgt := 2197) hX dL_law_2192 (by decide) (t := 2195) rfl (fun z => ?_) (fun z => nomatch it_f hF z)
  replace hF := it_t hF z
  refine J_iload hX dL_law_2197 1 rfl (t := 2199) rfl ?_
  refine J_if_ne (tgt := 2214) hX dL_law_2199 (by decide) (t := 2202) rfl (fun z2 => ?_) (fun z2 => ?_)
  · replace hF := Option.some.inj (it_f hF z2)
    subst hF
    refine J_goto (tgt := 3183) hX dL_law_2214 (by decide) ?_
    refine J_sub (lc2 := [(4, .int i), (3, .ref (adr G 16 0)), (2, .ref (adr G 15 0)), (1, .ref (adr G 0 0)), (0, .ref b)]) [2, 3, 4, 5, 6] rfl ?_
    exact J_wid (Nat.add_le_add_left (m := 30) (n := 1) (Nat.le_of_ble_eq_true rfl) cells) (Nat.add_le_add_left (m := 3900) (n := 6) (Nat.le_of_ble_eq_true rfl) slots) (kk d0 hd0)
  · replace hF := it_t hF z2
    refine J_aload_n hX dL_law_2202 3 rfl (t := 2203) rfl ?_
    refine J_iconst (v := 0) hX dL_law_2203 (by decide) (t := 2204) rfl ?_
    refine J_lald (w := w2) (v := (w2 16).2 0 0) hX kOut (by decide) rfl dL_law_2204 (t := 2205) rfl ?_
    refine J_iload hX dL_law_2205 0 rfl (t := 2207) rfl ?_
    refine J_i2l hX dL_law_2207 (t := 2208) rfl ?_
    refine J_lcmp hX dL_law_2208 (t := 2209) rfl ?_
    refine J_if_eq (tgt := 2214) hX dL_law_2209 (by decide) (t := 2212) rfl (fun z3 => ?_) (fun z3 => nomatch it_f hF z3)
    replace hF := Option.some.inj (it_t hF z3)
    subst hF
    refine J_goto (tgt := 3183) hX dL_law_2214 (by decide) ?_
    refine J_sub (lc2 := [(4, .int i), (3, .ref (adr G 16 0)), (2, .ref (adr G 15 0)), (1, .ref (adr G 0 0)), (0, .ref b)]) [2, 3, 4, 5, 6] rfl ?_
    exact J_wid (Nat.add_le_add_left (m := 30) (n := 1) (Nat.le_of_ble_eq_true rfl) cells) (Nat.add_le_add_left (m := 3900) (n := 6) (Nat.le_of_ble_eq_true rfl) slots) (kk d0 hd0)
def FLc_46 (n : Nat) (w : Wd) (a1 a2 a3 a4 a5 : Int32) : Option Wd := bo2 (FL_finalState w a1) fun k w1 => bo2 (FX13_finalState w1 a1) fun q w2 => if FX13_thrown w2 = k then (if k = 0 then (if lg_cmp ((w2 16).2 0 0) q.toInt64 = 0 then some w2 else none) else some w2) else none
set_option maxHeartbeats 4000000 in
theorem cs_46 {G : GG} {p : Program} {l : Launch} {e : Env} {s : State} {m : MethodId} {args : Array Value} {below : List Frame} {meth : Method} {c : Code} {b L : Nat} {xs : Nat → Int32} {Q : State → Prop} {cells slots n : Nat} {i a1 a2 a3 a4 a5 : Int32} {w w9 : Wd} (hW : LW G p l s m args c b L xs) (hA : ARG L xs i a1 a2 a3 a4 a5) (hc : cells + 30 ≤ room_1.cells) (hs9 : slots + 3900 ≤ room_1.slots) (hF : FLc_46 n w a1 a2 a3 a4 a5 = some w9) (kk : LJ G p l e s m args below meth c b Q (cells + 30) (slots + 3900) 3183 i w9) : LJ G p l e s m args below meth c b Q cells slots 2217 i w := by
  intro d0 hd0
  obtain ⟨hX, hNC, hl, hs, hb⟩ := hW.drawn d0
  unfold FLc_46 at hF
  obtain ⟨k, w1, hk, hF⟩ := bo2_e hF
  obtain ⟨q, w2, hq, hF⟩ := bo2_e hF
  refine J_aload_n hX dL_law_2217 3 rfl (t := 2218) rfl ?_
  refine J_aload_n hX dL_law_2218 4 rfl (t := 2219) rfl ?_
  refine J_iload hX dL_law_2219 0 rfl (t := 2221) rfl ?_
  refine J_iconst (v := 1) hX dL_law_2221 (by decide) (t := 2222) rfl ?_
  refine J_iadd hX dL_law_2222 (t := 2223) rfl ?_
  refine J_sld hX hs hb hA.1.1 hA.1.2 dL_law_2223 (t := 2224) rfl ?_
  refine J_aload_n hX dL_law_2224 1 rfl (t := 2225) rfl ?_
  refine J_callSW hX hNC [.ref (adr G 0 0), .int a1, .ref (adr G 16 0)] [] (ctL_finalState hl w a1 hk) miL_finalState q_1548 q_1547 ⟨rfl, rfl, Nat.le_of_ble_eq_true rfl, Nat.le_of_ble_eq_true rfl⟩ rfl rfl (Nat.le_of_ble_eq_true rfl) ⟨Nat.le_trans (Nat.add_le_add_left (m := 30) (n := 1) (Nat.le_of_ble_eq_true rfl) cells) hc, Nat.le_trans (Nat.add_le_add_left (m := 3900) (n := 6) (Nat.le_of_ble_eq_true rfl) slots) hs9⟩ dL_law_2225 (t := 2228) rfl (fun v9 => J_pure fun hv9 => ?_)
  subst hv9
  refine J_istore (lc2 := [(5, .int k), (4, .int i), (3, .ref (adr G 16 0)), (2, .ref (adr G 15 0)), (1, .ref (adr G 0 0)), (0, .ref b)]) hX dL_law_2228 (Nat.le_of_ble_eq_true rfl) rfl (t := 2230) rfl ?_
  refine J_aload_n hX dL_law_2230 3 rfl (t := 2231) rfl ?_
  refine J_aload_n hX dL_law_2231 5 rfl (t := 2232) rfl ?_
  refine J_iload hX dL_law_2232 1 rfl (t := 2234) rfl ?_
  refine J_iconst (v := 1) hX dL_law_2234 (by decide) (t := 2235) rfl ?_
  refine J_iadd hX dL_law_2235 (t := 2236) rfl ?_
  refine J_sld hX hs hb hA.1.1 hA.1.2 dL_law_2236 (t := 2237) rfl ?_
  refine J_callV hX [.int a1] [] [.int q] (ctX13_finalState w1 a1 hq) miX13_finalState mvX13_finalState cb10 kModel q_2716 ⟨rfl, rfl, Nat.le_of_ble_eq_true rfl, Nat.le_of_ble_eq_true rfl⟩ rfl rfl (Nat.le_of_ble_eq_true rfl) ⟨Nat.le_trans (Nat.add_le_add_left (m := 30) (n := 1) (Nat.le_of_ble_eq_true rfl) cells) hc, Nat.le_trans (Nat.add_le_add_left (m := 3900) (n := 6) (Nat.le_of_ble_eq_true rfl) slots) hs9⟩ dL_law_2237 (t := 2240) rfl rfl ?_
  refine J_istore (lc2 := [(6, .int q), (5, .int k), (4, .int i), (3, .ref (adr G 16 0)), (2, .ref (adr G 15 0)), (1, .ref (adr G 0 0)), (0, .ref b)]) hX dL_law_2240 (Nat.le_of_ble_eq_true rfl) rfl (t := 2242) rfl ?_
  refine J_aload_n hX dL_law_2242 4 rfl (t := 2243) rfl ?_
  refine J_callV hX [] [] [.int (FX13_thrown w2)] (ctX13_thrown w2  rfl) miX13_thrown mvX13_thrown cb10 kModel q_2070 ⟨rfl, rfl, Nat.le_of_ble_eq_true rfl, Nat.le_of_ble_eq_true rfl⟩ rfl rfl (Nat.le_of_ble_eq_true rfl) ⟨Nat.le_trans (Nat.add_le_add_left (m := 30) (n := 1) (Nat.le_of_ble_eq_true rfl) cells) hc, Nat.le_trans (Nat.add_le_add_left (m := 3900) (n := 6) (Nat.le_of_ble_eq_true rfl) slots) hs9⟩ dL_law_2243 (t := 2246) rfl rfl ?_
  refine J_iload hX dL_law_2246 1 rfl (t := 2248) rfl ?_
  refine J_icmp_eq (tgt := 2253) hX dL_law_2248 (by decide) (t := 2251) rfl (fun z => ?_) (fun z => nomatch it_f hF z)
  replace hF := it_t hF z
  refine J_iload hX dL_law_2253 1 rfl (t := 2255) rfl ?_
  refine J_if_ne (tgt := 2270) hX dL_law_2255 (by decide) (t := 2258) rfl (fun z2 => ?_) (fun z2 => ?_)
  · replace hF := Option.some.inj (it_f hF z2)
    subst hF
    refine J_goto (tgt := 3183) hX dL_law_2270 (by decide) ?_
    refine J_sub (lc2 := [(4, .int i), (3, .ref (adr G 16 0)), (2, .ref (adr G 15 0)), (1, .ref (adr G 0 0)), (0, .ref b)]) [2, 3, 4, 5, 6] rfl ?_
    exact J_wid (Nat.add_le_add_left (m := 30) (n := 1) (Nat.le_of_ble_eq_true rfl) cells) (Nat.add_le_add_left (m := 3900) (n := 6) (Nat.le_of_ble_eq_true rfl) slots) (kk d0 hd0)
  · replace hF := it_t hF z2
    refine J_aload_n hX dL_law_2258 3 rfl (t := 2259) rfl ?_
    refine J_iconst (v := 0) hX dL_law_2259 (by decide) (t := 2260) rfl ?_
    refine J_lald (w := w2) (v := (w2 16).2 0 0) hX kOut (by decide) rfl dL_law_2260 (t := 2261) rfl ?_
    refine J_iload hX dL_law_2261 0 rfl (t := 2263) rfl ?_
    refine J_i2l hX dL_law_2263 (t := 2264) rfl ?_
    refine J_lcmp hX dL_law_2264 (t := 2265) rfl ?_
    refine J_if_eq (tgt := 2270) hX dL_law_2265 (by decide) (t := 2268) rfl (fun z3 => ?_) (fun z3 => nomatch it_f hF z3)
    replace hF := Option.some.inj (it_t hF z3)
    subst hF
    refine J_goto (tgt := 3183) hX dL_law_2270 (by decide) ?_
    refine J_sub (lc2 := [(4, .int i), (3, .ref (adr G 16 0)), (2, .ref (adr G 15 0)), (1, .ref (adr G 0 0)), (0, .ref b)]) [2, 3, 4, 5, 6] rfl ?_
    exact J_wid (Nat.add_le_add_left (m := 30) (n := 1) (Nat.le_of_ble_eq_true rfl) cells) (Nat.add_le_add_left (m := 3900) (n := 6) (Nat.le_of_ble_eq_true rfl) slots) (kk d0 hd0)
def FLc_47 (n : Nat) (w : Wd) (a1 a2 a3 a4 a5 : Int32) : Option Wd := bo1 (FX12_violations n w) fun k => bo2 (FX13_violations n w) fun q w2 => if k = q then some w2 else none
set_option maxHeartbeats 4000000 in
theorem cs_47 {G : GG} {p : Program} {l : Launch} {e : Env} {s : State} {m : MethodId} {args : Array Value} {below : List Frame} {meth : Method} {c : Code} {b L : Nat} {xs : Nat → Int32} {Q : State → Prop} {cells slots n : Nat} {i a1 a2 a3 a4 a5 : Int32} {w w9 : Wd} (hW : LW G p l s m args c b L xs) (hA : ARG L xs i a1 a2 a3 a4 a5) (hc : cells + 30 ≤ room_1.cells) (hs9 : slots + 3900 ≤ room_1.slots) (hF : FLc_47 n w a1 a2 a3 a4 a5 = some w9) (kk : LJ G p l e s m args below meth c b Q (cells + 30) (slots + 3900) 3183 i w9) : LJ G p l e s m args below meth c b Q cells slots 2273 i w := by
  intro d0 hd0
  obtain ⟨hX, hNC, hl, hs, hb⟩ := hW.drawn d0
  unfold FLc_47 at hF
  obtain ⟨k, hk, hF⟩ := bo1_e hF
  obtain ⟨q, w2, hq, hF⟩ := bo2_e hF
  refine J_aload_n hX dL_law_2273 3 rfl (t := 2274) rfl ?_
  refine J_callV hX [] [] [.int k] (ctX12_violations w  n hk) miX12_violations mvX12_violations cb9 kEcho q_734 ⟨rfl, rfl, Nat.le_of_ble_eq_true rfl, Nat.le_of_ble_eq_true rfl⟩ rfl rfl (Nat.le_of_ble_eq_true rfl) ⟨Nat.le_trans (Nat.add_le_add_left (m := 30) (n := 0) (Nat.le_of_ble_eq_true rfl) cells) hc, Nat.le_trans (Nat.add_le_add_left (m := 3900) (n := 0) (Nat.le_of_ble_eq_true rfl) slots) hs9⟩ dL_law_2274 (t := 2277) rfl rfl ?_
  refine J_aload_n hX dL_law_2277 2 rfl (t := 2278) rfl ?_
  refine J_callV hX [] [.int k] [.int q, .int k] (ctX13_violations w  n hq) miX13_violations mvX13_violations cb10 kModel q_2724 ⟨rfl, rfl, Nat.le_of_ble_eq_true rfl, Nat.le_of_ble_eq_true rfl⟩ rfl rfl (Nat.le_of_ble_eq_true rfl) ⟨Nat.le_trans (Nat.add_le_add_left (m := 30) (n := 0) (Nat.le_of_ble_eq_true rfl) cells) hc, Nat.le_trans (Nat.add_le_add_left (m := 3900) (n := 0) (Nat.le_of_ble_eq_true rfl) slots) hs9⟩ dL_law_2278 (t := 2281) rfl rfl ?_
  refine J_icmp_eq (tgt := 3183) hX dL_law_2281 (by decide) (t := 2284) rfl (fun z => ?_) (fun z => nomatch it_f hF z)
  replace hF := Option.some.inj (it_t hF z)
  subst hF
  exact J_wid (Nat.le_add_right cells 30) (Nat.le_add_right slots 3900) (kk d0 hd0)
def FLc_48 (n : Nat) (w : Wd) (a1 a2 a3 a4 a5 : Int32) : Option Wd := bo1 (F12_mean n w) fun q => bo2 (F13_mean n w) fun q2 w2 => if q = q2 then some w2 else none
set_option maxHeartbeats 4000000 in
theorem cs_48 {G : GG} {p : Program} {l : Launch} {e : Env} {s : State} {m : MethodId} {args : Array Value} {below : List Frame} {meth : Method} {c : Code} {b L : Nat} {xs : Nat → Int32} {Q : State → Prop} {cells slots n : Nat} {i a1 a2 a3 a4 a5 : Int32} {w w9 : Wd} (hW : LW G p l s m args c b L xs) (hA : ARG L xs i a1 a2 a3 a4 a5) (hc : cells + 30 ≤ room_1.cells) (hs9 : slots + 3900 ≤ room_1.slots) (hF : FLc_48 n w a1 a2 a3 a4 a5 = some w9) (kk : LJ G p l e s m args below meth c b Q (cells + 30) (slots + 3900) 3183 i w9) : LJ G p l e s m args below meth c b Q cells slots 2286 i w := by
  intro d0 hd0
  obtain ⟨hX, hNC, hl, hs, hb⟩ := hW.drawn d0
  unfold FLc_48 at hF
  obtain ⟨q, h1, hF⟩ := bo1_e hF
  obtain ⟨q2, w2, h2, hF⟩ := bo2_e hF
  by_cases z9 : q = q2
  · replace hF := Option.some.inj (it_t hF z9)
    subst hF
    subst z9
    refine J_aload_n hX dL_law_2286 3 rfl (t := 2287) rfl ?_
    refine J_callVD hd0 hX [] [] (ctX12_meanRating h1) miX12_meanRating mvX12_meanRating cb9 kEcho q_749 ⟨rfl, rfl, Nat.le_of_ble_eq_true rfl, Nat.le_of_ble_eq_true rfl⟩ rfl rfl (Nat.le_of_ble_eq_true rfl) ⟨Nat.le_trans (Nat.add_le_add_left (m := 30) (n := 0) (Nat.le_of_ble_eq_true rfl) cells) hc, Nat.le_trans (Nat.add_le_add_left (m := 3900) (n := 0) (Nat.le_of_ble_eq_true rfl) slots) hs9⟩ dL_law_2287 (t := 2290) rfl (fun v1 e1 he1 => J_pure fun hv1 => ?_)
    obtain ⟨r1, hv1, hr1⟩ := hv1
    subst hv1
    obtain ⟨hX, hNC, hl, hs, hb⟩ := hW.drawn e1
    refine J_dstore (lc2 := [(5, .double r1), (4, .int i), (3, .ref (adr G 16 0)), (2, .ref (adr G 15 0)), (1, .ref (adr G 0 0)), (0, .ref b)]) hX dL_law_2290 (Nat.le_of_ble_eq_true rfl) rfl (t := 2292) rfl ?_
    refine J_aload_n hX dL_law_2292 3 rfl (t := 2293) rfl ?_
    refine J_callVD he1 hX [] [] (ctX13_meanRating h2) miX13_meanRating mvX13_meanRating cb10 kModel q_2743 ⟨rfl, rfl, Nat.le_of_ble_eq_true rfl, Nat.le_of_ble_eq_true rfl⟩ rfl rfl (Nat.le_of_ble_eq_true rfl) ⟨Nat.le_trans (Nat.add_le_add_left (m := 30) (n := 0) (Nat.le_of_ble_eq_true rfl) cells) hc, Nat.le_trans (Nat.add_le_add_left (m := 3900) (n := 0) (Nat.le_of_ble_eq_true rfl) slots) hs9⟩ dL_law_2293 (t := 2296) rfl (fun v2 e2 he2 => J_pure fun hv2 => ?_)
    obtain ⟨r2, hv2, hr2⟩ := hv2
    subst hv2
    obtain ⟨hX, hNC, hl, hs, hb⟩ := hW.drawn e2
    refine J_dstore (lc2 := [(7, .double r2), (5, .double r1), (4, .int i), (3, .ref (adr G 16 0)), (2, .ref (adr G 15 0)), (1, .ref (adr G 0 0)), (0, .ref b)]) hX dL_law_2296 (Nat.le_of_ble_eq_true rfl) rfl (t := 2298) rfl ?_
    have hE := DVq_eq hr1 hr2
    refine J_dload hX dL_law_2298 1 rfl (t := 2300) rfl ?_
    refine J_dload hX dL_law_2300 0 rfl (t := 2302) rfl ?_
    refine J_dcmp hX dL_law_2302 (t := 2303) rfl ?_
    refine J_if_eq (tgt := 2324) hX dL_law_2303 (by decide) (t := 2306) rfl (fun z => ?_) (fun z => ?_)
    · refine J_goto (tgt := 3183) hX dL_law_2324 (by decide) ?_
      refine J_sub (lc2 := [(4, .int i), (3, .ref (adr G 16 0)), (2, .ref (adr G 15 0)), (1, .ref (adr G 0 0)), (0, .ref b)]) [2, 3, 4, 5, 6] rfl ?_
      exact J_wid (Nat.add_le_add_left (m := 30) (n := 0) (Nat.le_of_ble_eq_true rfl) cells) (Nat.add_le_add_left (m := 3900) (n := 0) (Nat.le_of_ble_eq_true rfl) slots) (kk e2 he2)
    · obtain ⟨n1, n2⟩ := hE.resolve_left z
      refine J_dload hX dL_law_2306 1 rfl (t := 2308) rfl ?_
      refine J_dload hX dL_law_2308 1 rfl (t := 2310) rfl ?_
      refine J_dcmp hX dL_law_2310 (t := 2311) rfl ?_
      refine J_if_eq (tgt := 2322) hX dL_law_2311 (by decide) (t := 2314) rfl (fun z => absurd z n1) (fun z => ?_)
      refine J_dload hX dL_law_2314 0 rfl (t := 2316) rfl ?_
      refine J_dload hX dL_law_2316 0 rfl (t := 2318) rfl ?_
      refine J_dcmp hX dL_law_2318 (t := 2319) rfl ?_
      refine J_if_ne (tgt := 2324) hX dL_law_2319 (by decide) (t := 2322) rfl (fun z => ?_) (fun z => absurd z n2)
      refine J_goto (tgt := 3183) hX dL_law_2324 (by decide) ?_
      refine J_sub (lc2 := [(4, .int i), (3, .ref (adr G 16 0)), (2, .ref (adr G 15 0)), (1, .ref (adr G 0 0)), (0, .ref b)]) [2, 3, 4, 5, 6] rfl ?_
      exact J_wid (Nat.add_le_add_left (m := 30) (n := 0) (Nat.le_of_ble_eq_true rfl) cells) (Nat.add_le_add_left (m := 3900) (n := 0) (Nat.le_of_ble_eq_true rfl) slots) (kk e2 he2)
  · exact nomatch it_f hF z9
def FLc_49 (n : Nat) (w : Wd) (a1 a2 a3 a4 a5 : Int32) : Option Wd := bo2 (F13_frac n w) fun q2 w2 => if F12_frac w = q2 then some w2 else none
set_option maxHeartbeats 4000000 in
theorem cs_49 {G : GG} {p : Program} {l : Launch} {e : Env} {s : State} {m : MethodId} {args : Array Value} {below : List Frame} {meth : Method} {c : Code} {b L : Nat} {xs : Nat → Int32} {Q : State → Prop} {cells slots n : Nat} {i a1 a2 a3 a4 a5 : Int32} {w w9 : Wd} (hW : LW G p l s m args c b L xs) (hA : ARG L xs i a1 a2 a3 a4 a5) (hc : cells + 30 ≤ room_1.cells) (hs9 : slots + 3900 ≤ room_1.slots) (hF : FLc_49 n w a1 a2 a3 a4 a5 = some w9) (kk : LJ G p l e s m args below meth c b Q (cells + 30) (slots + 3900) 3183 i w9) : LJ G p l e s m args below meth c b Q cells slots 2327 i w := by
  intro d0 hd0
  obtain ⟨hX, hNC, hl, hs, hb⟩ := hW.drawn d0
  unfold FLc_49 at hF
  obtain ⟨q2, w2, h2, hF⟩ := bo2_e hF
  by_cases z9 : F12_frac w = q2
  · replace hF := Option.some.inj (it_t hF z9)
    subst hF
    rw [← z9] at h2
    refine J_aload_n hX dL_law_2327 3 rfl (t := 2328) rfl ?_
    refine J_callVD hd0 hX [] [] (ctX12_heardFraction (w := w)) miX12_heardFraction mvX12_heardFraction cb9 kEcho q_757 ⟨rfl, rfl, Nat.le_of_ble_eq_true rfl, Nat.le_of_ble_eq_true rfl⟩ rfl rfl (Nat.le_of_ble_eq_true rfl) ⟨Nat.le_trans (Nat.add_le_add_left (m := 30) (n := 0) (Nat.le_of_ble_eq_true rfl) cells) hc, Nat.le_trans (Nat.add_le_add_left (m := 3900) (n := 0) (Nat.le_of_ble_eq_true rfl) slots) hs9⟩ dL_law_2328 (t := 2331) rfl (fun v1 e1 he1 => J_pure fun hv1 => ?_)
    obtain ⟨r1, hv1, hr1⟩ := hv1
    subst hv1
    obtain ⟨hX, hNC, hl, hs, hb⟩ := hW.drawn e1
    refine J_f2dD he1 hX dL_law_2331 (t := 2332) rfl (fun y1 g1 hy1 hg1 => ?_)
    obtain ⟨hX, hNC, hl, hs, hb⟩ := hW.drawn g1
    refine J_dstore (lc2 := [(5, .double y1), (4, .int i), (3, .ref (adr G 16 0)), (2, .ref (adr G 15 0)), (1, .ref (adr G 0 0)), (0, .ref b)]) hX dL_law_2332 (Nat.le_of_ble_eq_true rfl) rfl (t := 2334) rfl ?_
    refine J_aload_n hX dL_law_2334 3 rfl (t := 2335) rfl ?_
    refine J_callVD hg1 hX [] [] (ctX13_heardFraction h2) miX13_heardFraction mvX13_heardFraction cb10 kModel q_2747 ⟨rfl, rfl, Nat.le_of_ble_eq_true rfl, Nat.le_of_ble_eq_true rfl⟩ rfl rfl (Nat.le_of_ble_eq_true rfl) ⟨Nat.le_trans (Nat.add_le_add_left (m := 30) (n := 0) (Nat.le_of_ble_eq_true rfl) cells) hc, Nat.le_trans (Nat.add_le_add_left (m := 3900) (n := 0) (Nat.le_of_ble_eq_true rfl) slots) hs9⟩ dL_law_2335 (t := 2338) rfl (fun v2 e2 he2 => J_pure fun hv2 => ?_)
    obtain ⟨r2, hv2, hr2⟩ := hv2
    subst hv2
    obtain ⟨hX, hNC, hl, hs, hb⟩ := hW.drawn e2
    refine J_f2dD he2 hX dL_law_2338 (t := 2339) rfl (fun y2 g2 hy2 hg2 => ?_)
    obtain ⟨hX, hNC, hl, hs, hb⟩ := hW.drawn g2
    refine J_dstore (lc2 := [(7, .double y2), (5, .double y1), (4, .int i), (3, .ref (adr G 16 0)), (2, .ref (adr G 15 0)), (1, .ref (adr G 0 0)), (0, .ref b)]) hX dL_law_2339 (Nat.le_of_ble_eq_true rfl) rfl (t := 2341) rfl ?_
    have hE := FVq_eq hr1 hr2 hy1 hy2
    refine J_dload hX dL_law_2341 1 rfl (t := 2343) rfl ?_
    refine J_dload hX dL_law_2343 0 rfl (t := 2345) rfl ?_
    refine J_dcmp hX dL_law_2345 (t := 2346) rfl ?_
    refine J_if_eq (tgt := 2367) hX dL_law_2346 (by decide) (t := 2349) rfl (fun z => ?_) (fun z => ?_)
    · refine J_goto (tgt := 3183) hX dL_law_2367 (by decide) ?_
      refine J_sub (lc2 := [(4, .int i), (3, .ref (adr G 16 0)), (2, .ref (adr G 15 0)), (1, .ref (adr G 0 0)), (0, .ref b)]) [2, 3, 4, 5, 6] rfl ?_
      exact J_wid (Nat.add_le_add_left (m := 30) (n := 0) (Nat.le_of_ble_eq_true rfl) cells) (Nat.add_le_add_left (m := 3900) (n := 0) (Nat.le_of_ble_eq_true rfl) slots) (kk g2 hg2)
    · obtain ⟨n1, n2⟩ := hE.resolve_left z
      refine J_dload hX dL_law_2349 1 rfl (t := 2351) rfl ?_
      refine J_dload hX dL_law_2351 1 rfl (t := 2353) rfl ?_
      refine J_dcmp hX dL_law_2353 (t := 2354) rfl ?_
      refine J_if_eq (tgt := 2365) hX dL_law_2354 (by decide) (t := 2357) rfl (fun z => absurd z n1) (fun z => ?_)
      refine J_dload hX dL_law_2357 0 rfl (t := 2359) rfl ?_
      refine J_dload hX dL_law_2359 0 rfl (t := 2361) rfl ?_
      refine J_dcmp hX dL_law_2361 (t := 2362) rfl ?_
      refine J_if_ne (tgt := 2367) hX dL_law_2362 (by decide) (t := 2365) rfl (fun z => ?_) (fun z => absurd z n2)
      refine J_goto (tgt := 3183) hX dL_law_2367 (by decide) ?_
      refine J_sub (lc2 := [(4, .int i), (3, .ref (adr G 16 0)), (2, .ref (adr G 15 0)), (1, .ref (adr G 0 0)), (0, .ref b)]) [2, 3, 4, 5, 6] rfl ?_
      exact J_wid (Nat.add_le_add_left (m := 30) (n := 0) (Nat.le_of_ble_eq_true rfl) cells) (Nat.add_le_add_left (m := 3900) (n := 0) (Nat.le_of_ble_eq_true rfl) slots) (kk g2 hg2)
  · exact nomatch it_f hF z9
def FLc_50 (n : Nat) (w : Wd) (a1 a2 a3 a4 a5 : Int32) : Option Wd := bo2 (FL_addValley n w a1 a2 a3) fun k w1 => bo2 (FX13_addValley n w1 a1 a2 a3) fun q w2 => if FX13_thrown w2 = k then (if k = 0 then (if lg_cmp ((w2 16).2 0 0) q.toInt64 = 0 then some w2 else none) else some w2) else none
set_option maxHeartbeats 4000000 in
theorem cs_50 {G : GG} {p : Program} {l : Launch} {e : Env} {s : State} {m : MethodId} {args : Array Value} {below : List Frame} {meth : Method} {c : Code} {b L : Nat} {xs : Nat → Int32} {Q : State → Prop} {cells slots n : Nat} {i a1 a2 a3 a4 a5 : Int32} {w w9 : Wd} (hW : LW G p l s m args c b L xs) (hA : ARG L xs i a1 a2 a3 a4 a5) (hc : cells + 30 ≤ room_1.cells) (hs9 : slots + 3900 ≤ room_1.slots) (hF : FLc_50 n w a1 a2 a3 a4 a5 = some w9) (kk : LJ G p l e s m args below meth c b Q (cells + 30) (slots + 3900) 3183 i w9) : LJ G p l e s m args below meth c b Q cells slots 2370 i w := by
  intro d0 hd0
  obtain ⟨hX, hNC, hl, hs, hb⟩ := hW.drawn d0
  unfold FLc_50 at hF
  obtain ⟨k, w1, hk, hF⟩ := bo2_e hF
  obtain ⟨q, w2, hq, hF⟩ := bo2_e hF
  refine J_aload_n hX dL_law_2370 3 rfl (t := 2371) rfl ?_
  refine J_aload_n hX dL_law_2371 4 rfl (t := 2372) rfl ?_
  refine J_iload hX dL_law_2372 0 rfl (t := 2374) rfl ?_
  refine J_iconst (v := 1) hX dL_law_2374 (by decide) (t := 2375) rfl ?_
  refine J_iadd hX dL_law_2375 (t := 2376) rfl ?_
  refine J_sld hX hs hb hA.1.1 hA.1.2 dL_law_2376 (t := 2377) rfl ?_
  refine J_aload_n hX dL_law_2377 4 rfl (t := 2378) rfl ?_
  refine J_iload hX dL_law_2378 0 rfl (t := 2380) rfl ?_
  refine J_iconst (v := 2) hX dL_law_2380 (by decide) (t := 2381) rfl ?_
  refine J_iadd hX dL_law_2381 (t := 2382) rfl ?_
  refine J_sld hX hs hb hA.2.1.1 hA.2.1.2 dL_law_2382 (t := 2383) rfl ?_
  refine J_aload_n hX dL_law_2383 4 rfl (t := 2384) rfl ?_
  refine J_iload hX dL_law_2384 0 rfl (t := 2386) rfl ?_
  refine J_iconst (v := 3) hX dL_law_2386 (by decide) (t := 2387) rfl ?_
  refine J_iadd hX dL_law_2387 (t := 2388) rfl ?_
  refine J_sld hX hs hb hA.2.2.1.1 hA.2.2.1.2 dL_law_2388 (t := 2389) rfl ?_
  refine J_aload_n hX dL_law_2389 1 rfl (t := 2390) rfl ?_
  refine J_callSW hX hNC [.ref (adr G 0 0), .int a1, .int a2, .int a3, .ref (adr G 16 0)] [] (ctL_addValley hl w a1 a2 a3 n hk) miL_addValley q_1560 q_1559 ⟨rfl, rfl, Nat.le_of_ble_eq_true rfl, Nat.le_of_ble_eq_true rfl⟩ rfl rfl (Nat.le_of_ble_eq_true rfl) ⟨Nat.le_trans (Nat.add_le_add_left (m := 30) (n := 1) (Nat.le_of_ble_eq_true rfl) cells) hc, Nat.le_trans (Nat.add_le_add_left (m := 3900) (n := 6) (Nat.le_of_ble_eq_true rfl) slots) hs9⟩ dL_law_2390 (t := 2393) rfl (fun v9 => J_pure fun hv9 => ?_)
  subst hv9
  refine J_istore (lc2 := [(5, .int k), (4, .int i), (3, .ref (adr G 16 0)), (2, .ref (adr G 15 0)), (1, .ref (adr G 0 0)), (0, .ref b)]) hX dL_law_2393 (Nat.le_of_ble_eq_true rfl) rfl (t := 2395) rfl ?_
  refine J_aload_n hX dL_law_2395 3 rfl (t := 2396) rfl ?_
  refine J_aload_n hX dL_law_2396 5 rfl (t := 2397) rfl ?_
  refine J_iload hX dL_law_2397 1 rfl (t := 2399) rfl ?_
  refine J_iconst (v := 1) hX dL_law_2399 (by decide) (t := 2400) rfl ?_
  refine J_iadd hX dL_law_2400 (t := 2401) rfl ?_
  refine J_sld hX hs hb hA.1.1 hA.1.2 dL_law_2401 (t := 2402) rfl ?_
  refine J_aload_n hX dL_law_2402 5 rfl (t := 2403) rfl ?_
  refine J_iload hX dL_law_2403 1 rfl (t := 2405) rfl ?_
  refine J_iconst (v := 2) hX dL_law_2405 (by decide) (t := 2406) rfl ?_
  refine J_iadd hX dL_law_2406 (t := 2407) rfl ?_
  refine J_sld hX hs hb hA.2.1.1 hA.2.1.2 dL_law_2407 (t := 2408) rfl ?_
  refine J_aload_n hX dL_law_2408 5 rfl (t := 2409) rfl ?_
  refine J_iload hX dL_law_2409 1 rfl (t := 2411) rfl ?_
  refine J_iconst (v := 3) hX dL_law_2411 (by decide) (t := 2412) rfl ?_
  refine J_iadd hX dL_law_2412 (t := 2413) rfl ?_
  refine J_sld hX hs hb hA.2.2.1.1 hA.2.2.1.2 dL_law_2413 (t := 2414) rfl ?_
  refine J_callV hX [.int a1, .int a2, .int a3] [] [.int q] (ctX13_addValley w1 a1 a2 a3 n hq) miX13_addValley mvX13_addValley cb10 kModel q_2119 ⟨rfl, rfl, Nat.le_of_ble_eq_true rfl, Nat.le_of_ble_eq_true rfl⟩ rfl rfl (Nat.le_of_ble_eq_true rfl) ⟨Nat.le_trans (Nat.add_le_add_left (m := 30) (n := 1) (Nat.le_of_ble_eq_true rfl) cells) hc, Nat.le_trans (Nat.add_le_add_left (m := 3900) (n := 6) (Nat.le_of_ble_eq_true rfl) slots) hs9⟩ dL_law_2414 (t := 2417) rfl rfl ?_
  refine J_istore (lc2 := [(6, .int q), (5, .int k), (4, .int i), (3, .ref (adr G 16 0)), (2, .ref (adr G 15 0)), (1, .ref (adr G 0 0)), (0, .ref b)]) hX dL_law_2417 (Nat.le_of_ble_eq_true rfl) rfl (t := 2419) rfl ?_
  refine J_aload_n hX dL_law_2419 4 rfl (t := 2420) rfl ?_
  refine J_callV hX [] [] [.int (FX13_thrown w2)] (ctX13_thrown w2  rfl) miX13_thrown mvX13_thrown cb10 kModel q_2070 ⟨rfl, rfl, Nat.le_of_ble_eq_true rfl, Nat.le_of_ble_eq_true rfl⟩ rfl rfl (Nat.le_of_ble_eq_true rfl) ⟨Nat.le_trans (Nat.add_le_add_left (m := 30) (n := 1) (Nat.le_of_ble_eq_true rfl) cells) hc, Nat.le_trans (Nat.add_le_add_left (m := 3900) (n := 6) (Nat.le_of_ble_eq_true rfl) slots) hs9⟩ dL_law_2420 (t := 2423) rfl rfl ?_
  refine J_iload hX dL_law_2423 1 rfl (t := 2425) rfl ?_
  refine J_icmp_eq (tgt := 2430) hX dL_law_2425 (by decide) (t := 2428) rfl (fun z => ?_) (fun z => nomatch it_f hF z)
  replace hF := it_t hF z
  refine J_iload hX dL_law_2430 1 rfl (t := 2432) rfl ?_
  refine J_if_ne (tgt := 2447) hX dL_law_2432 (by decide) (t := 2435) rfl (fun z2 => ?_) (fun z2 => ?_)
  · replace hF := Option.some.inj (it_f hF z2)
    subst hF
    refine J_goto (tgt := 3183) hX dL_law_2447 (by decide) ?_
    refine J_sub (lc2 := [(4, .int i), (3, .ref (adr G 16 0)), (2, .ref (adr G 15 0)), (1, .ref (adr G 0 0)), (0, .ref b)]) [2, 3, 4, 5, 6] rfl ?_
    exact J_wid (Nat.add_le_add_left (m := 30) (n := 1) (Nat.le_of_ble_eq_true rfl) cells) (Nat.add_le_add_left (m := 3900) (n := 6) (Nat.le_of_ble_eq_true rfl) slots) (kk d0 hd0)
  · replace hF := it_t hF z2
    refine J_aload_n hX dL_law_2435 3 rfl (t := 2436) rfl ?_
    refine J_iconst (v := 0) hX dL_law_2436 (by decide) (t := 2437) rfl ?_
    refine J_lald (w := w2) (v := (w2 16).2 0 0) hX kOut (by decide) rfl dL_law_2437 (t := 2438) rfl ?_
    refine J_iload hX dL_law_2438 0 rfl (t := 2440) rfl ?_
    refine J_i2l hX dL_law_2440 (t := 2441) rfl ?_
    refine J_lcmp hX dL_law_2441 (t := 2442) rfl ?_
    refine J_if_eq (tgt := 2447) hX dL_law_2442 (by decide) (t := 2445) rfl (fun z3 => ?_) (fun z3 => nomatch it_f hF z3)
    replace hF := Option.some.inj (it_t hF z3)
    subst hF
    refine J_goto (tgt := 3183) hX dL_law_2447 (by decide) ?_
    refine J_sub (lc2 := [(4, .int i), (3, .ref (adr G 16 0)), (2, .ref (adr G 15 0)), (1, .ref (adr G 0 0)), (0, .ref b)]) [2, 3, 4, 5, 6] rfl ?_
    exact J_wid (Nat.add_le_add_left (m := 30) (n := 1) (Nat.le_of_ble_eq_true rfl) cells) (Nat.add_le_add_left (m := 3900) (n := 6) (Nat.le_of_ble_eq_true rfl) slots) (kk d0 hd0)
def FLc_51 (n : Nat) (w : Wd) (a1 a2 a3 a4 a5 : Int32) : Option Wd := bo2 (FL_addCustomer n w a1 a2) fun k w1 => bo2 (FX13_addCustomer n w1 a1 a2) fun q w2 => if FX13_thrown w2 = k then (if k = 0 then (if lg_cmp ((w2 16).2 0 0) q.toInt64 = 0 then some w2 else none) else some w2) else none
set_option maxHeartbeats 4000000 in
theorem cs_51 {G : GG} {p : Program} {l : Launch} {e : Env} {s : State} {m : MethodId} {args : Array Value} {below : List Frame} {meth : Method} {c : Code} {b L : Nat} {xs : Nat → Int32} {Q : State → Prop} {cells slots n : Nat} {i a1 a2 a3 a4 a5 : Int32} {w w9 : Wd} (hW : LW G p l s m args c b L xs) (hA : ARG L xs i a1 a2 a3 a4 a5) (hc : cells + 30 ≤ room_1.cells) (hs9 : slots + 3900 ≤ room_1.slots) (hF : FLc_51 n w a1 a2 a3 a4 a5 = some w9) (kk : LJ G p l e s m args below meth c b Q (cells + 30) (slots + 3900) 3183 i w9) : LJ G p l e s m args below meth c b Q cells slots 2450 i w := by
  intro d0 hd0
  obtain ⟨hX, hNC, hl, hs, hb⟩ := hW.drawn d0
  unfold FLc_51 at hF
  obtain ⟨k, w1, hk, hF⟩ := bo2_e hF
  obtain ⟨q, w2, hq, hF⟩ := bo2_e hF
  refine J_aload_n hX dL_law_2450 3 rfl (t := 2451) rfl ?_
  refine J_aload_n hX dL_law_2451 4 rfl (t := 2452) rfl ?_
  refine J_iload hX dL_law_2452 0 rfl (t := 2454) rfl ?_
  refine J_iconst (v := 1) hX dL_law_2454 (by decide) (t := 2455) rfl ?_
  refine J_iadd hX dL_law_2455 (t := 2456) rfl ?_
  refine J_sld hX hs hb hA.1.1 hA.1.2 dL_law_2456 (t := 2457) rfl ?_
  refine J_aload_n hX dL_law_2457 4 rfl (t := 2458) rfl ?_
  refine J_iload hX dL_law_2458 0 rfl (t := 2460) rfl ?_
  refine J_iconst (v := 2) hX dL_law_2460 (by decide) (t := 2461) rfl ?_
  refine J_iadd hX dL_law_2461 (t := 2462) rfl ?_
  refine J_sld hX hs hb hA.2.1.1 hA.2.1.2 dL_law_2462 (t := 2463) rfl ?_
  refine J_aload_n hX dL_law_2463 1 rfl (t := 2464) rfl ?_
  refine J_callSW hX hNC [.ref (adr G 0 0), .int a1, .int a2, .ref (adr G 16 0)] [] (ctL_addCustomer hl w a1 a2 n hk) miL_addCustomer q_1568 q_1567 ⟨rfl, rfl, Nat.le_of_ble_eq_true rfl, Nat.le_of_ble_eq_true rfl⟩ rfl rfl (Nat.le_of_ble_eq_true rfl) ⟨Nat.le_trans (Nat.add_le_add_left (m := 30) (n := 1) (Nat.le_of_ble_eq_true rfl) cells) hc, Nat.le_trans (Nat.add_le_add_left (m := 3900) (n := 6) (Nat.le_of_ble_eq_true rfl) slots) hs9⟩ dL_law_2464 (t := 2467) rfl (fun v9 => J_pure fun hv9 => ?_)
  subst hv9
  refine J_istore (lc2 := [(5, .int k), (4, .int i), (3, .ref (adr G 16 0)), (2, .ref (adr G 15 0)), (1, .ref (adr G 0 0)), (0, .ref b)]) hX dL_law_2467 (Nat.le_of_ble_eq_true rfl) rfl (t := 2469) rfl ?_
  refine J_aload_n hX dL_law_2469 3 rfl (t := 2470) rfl ?_
  refine J_aload_n hX dL_law_2470 5 rfl (t := 2471) rfl ?_
  refine J_iload hX dL_law_2471 1 rfl (t := 2473) rfl ?_
  refine J_iconst (v := 1) hX dL_law_2473 (by decide) (t := 2474) rfl ?_
  refine J_iadd hX dL_law_2474 (t := 2475) rfl ?_
  refine J_sld hX hs hb hA.1.1 hA.1.2 dL_law_2475 (t := 2476) rfl ?_
  refine J_aload_n hX dL_law_2476 5 rfl (t := 2477) rfl ?_
  refine J_iload hX dL_law_2477 1 rfl (t := 2479) rfl ?_
  refine J_iconst (v := 2) hX dL_law_2479 (by decide) (t := 2480) rfl ?_
  refine J_iadd hX dL_law_2480 (t := 2481) rfl ?_
  refine J_sld hX hs hb hA.2.1.1 hA.2.1.2 dL_law_2481 (t := 2482) rfl ?_
  refine J_callV hX [.int a1, .int a2] [] [.int q] (ctX13_addCustomer w1 a1 a2 n hq) miX13_addCustomer mvX13_addCustomer cb10 kModel q_2189 ⟨rfl, rfl, Nat.le_of_ble_eq_true rfl, Nat.le_of_ble_eq_true rfl⟩ rfl rfl (Nat.le_of_ble_eq_true rfl) ⟨Nat.le_trans (Nat.add_le_add_left (m := 30) (n := 1) (Nat.le_of_ble_eq_true rfl) cells) hc, Nat.le_trans (Nat.add_le_add_left (m := 3900) (n := 6) (Nat.le_of_ble_eq_true rfl) slots) hs9⟩ dL_law_2482 (t := 2485) rfl rfl ?_
  refine J_istore (lc2 := [(6, .int q), (5, .int k), (4, .int i), (3, .ref (adr G 16 0)), (2, .ref (adr G 15 0)), (1, .ref (adr G 0 0)), (0, .ref b)]) hX dL_law_2485 (Nat.le_of_ble_eq_true rfl) rfl (t := 2487) rfl ?_
  refine J_aload_n hX dL_law_2487 4 rfl (t := 2488) rfl ?_
  refine J_callV hX [] [] [.int (FX13_thrown w2)] (ctX13_thrown w2  rfl) miX13_thrown mvX13_thrown cb10 kModel q_2070 ⟨rfl, rfl, Nat.le_of_ble_eq_true rfl, Nat.le_of_ble_eq_true rfl⟩ rfl rfl (Nat.le_of_ble_eq_true rfl) ⟨Nat.le_trans (Nat.add_le_add_left (m := 30) (n := 1) (Nat.le_of_ble_eq_true rfl) cells) hc, Nat.le_trans (Nat.add_le_add_left (m := 3900) (n := 6) (Nat.le_of_ble_eq_true rfl) slots) hs9⟩ dL_law_2488 (t := 2491) rfl rfl ?_
  refine J_iload hX dL_law_2491 1 rfl (t := 2493) rfl ?_
  refine J_icmp_eq (tgt := 2498) hX dL_law_2493 (by decide) (t := 2496) rfl (fun z => ?_) (fun z => nomatch it_f hF z)
  replace hF := it_t hF z
  refine J_iload hX dL_law_2498 1 rfl (t := 2500) rfl ?_
  refine J_if_ne (tgt := 2515) hX dL_law_2500 (by decide) (t := 2503) rfl (fun z2 => ?_) (fun z2 => ?_)
  · replace hF := Option.some.inj (it_f hF z2)
    subst hF
    refine J_goto (tgt := 3183) hX dL_law_2515 (by decide) ?_
    refine J_sub (lc2 := [(4, .int i), (3, .ref (adr G 16 0)), (2, .ref (adr G 15 0)), (1, .ref (adr G 0 0)), (0, .ref b)]) [2, 3, 4, 5, 6] rfl ?_
    exact J_wid (Nat.add_le_add_left (m := 30) (n := 1) (Nat.le_of_ble_eq_true rfl) cells) (Nat.add_le_add_left (m := 3900) (n := 6) (Nat.le_of_ble_eq_true rfl) slots) (kk d0 hd0)
  · replace hF := it_t hF z2
    refine J_aload_n hX dL_law_2503 3 rfl (t := 2504) rfl ?_
    refine J_iconst (v := 0) hX dL_law_2504 (by decide) (t := 2505) rfl ?_
    refine J_lald (w := w2) (v := (w2 16).2 0 0) hX kOut (by decide) rfl dL_law_2505 (t := 2506) rfl ?_
    refine J_iload hX dL_law_2506 0 rfl (t := 2508) rfl ?_
    refine J_i2l hX dL_law_2508 (t := 2509) rfl ?_
    refine J_lcmp hX dL_law_2509 (t := 2510) rfl ?_
    refine J_if_eq (tgt := 2515) hX dL_law_2510 (by decide) (t := 2513) rfl (fun z3 => ?_) (fun z3 => nomatch it_f hF z3)
    replace hF := Option.some.inj (it_t hF z3)
    subst hF
    refine J_goto (tgt := 3183) hX dL_law_2515 (by decide) ?_
    refine J_sub (lc2 := [(4, .int i), (3, .ref (adr G 16 0)), (2, .ref (adr G 15 0)), (1, .ref (adr G 0 0)), (0, .ref b)]) [2, 3, 4, 5, 6] rfl ?_
    exact J_wid (Nat.add_le_add_left (m := 30) (n := 1) (Nat.le_of_ble_eq_true rfl) cells) (Nat.add_le_add_left (m := 3900) (n := 6) (Nat.le_of_ble_eq_true rfl) slots) (kk d0 hd0)
def FLc_52 (n : Nat) (w : Wd) (a1 a2 a3 a4 a5 : Int32) : Option Wd := bo2 (FL_shout n w a1 a2 a3 a4) fun k w1 => bo2 (FX13_shout n w1 a1 a2 a3 a4) fun q w2 => if FX13_thrown w2 = k then (if k = 0 then (if lg_cmp ((w2 16).2 0 0) q.toInt64 = 0 then some w2 else none) else some w2) else none
set_option maxHeartbeats 4000000 in
theorem cs_52 {G : GG} {p : Program} {l : Launch} {e : Env} {s : State} {m : MethodId} {args : Array Value} {below : List Frame} {meth : Method} {c : Code} {b L : Nat} {xs : Nat → Int32} {Q : State → Prop} {cells slots n : Nat} {i a1 a2 a3 a4 a5 : Int32} {w w9 : Wd} (hW : LW G p l s m args c b L xs) (hA : ARG L xs i a1 a2 a3 a4 a5) (hc : cells + 30 ≤ room_1.cells) (hs9 : slots + 3900 ≤ room_1.slots) (hF : FLc_52 n w a1 a2 a3 a4 a5 = some w9) (kk : LJ G p l e s m args below meth c b Q (cells + 30) (slots + 3900) 3183 i w9) : LJ G p l e s m args below meth c b Q cells slots 2518 i w := by
  intro d0 hd0
  obtain ⟨hX, hNC, hl, hs, hb⟩ := hW.drawn d0
  unfold FLc_52 at hF
  obtain ⟨k, w1, hk, hF⟩ := bo2_e hF
  obtain ⟨q, w2, hq, hF⟩ := bo2_e hF
  refine J_aload_n hX dL_law_2518 3 rfl (t := 2519) rfl ?_
  refine J_aload_n hX dL_law_2519 4 rfl (t := 2520) rfl ?_
  refine J_iload hX dL_law_2520 0 rfl (t := 2522) rfl ?_
  refine J_iconst (v := 1) hX dL_law_2522 (by decide) (t := 2523) rfl ?_
  refine J_iadd hX dL_law_2523 (t := 2524) rfl ?_
  refine J_sld hX hs hb hA.1.1 hA.1.2 dL_law_2524 (t := 2525) rfl ?_
  refine J_aload_n hX dL_law_2525 4 rfl (t := 2526) rfl ?_
  refine J_iload hX dL_law_2526 0 rfl (t := 2528) rfl ?_
  refine J_iconst (v := 2) hX dL_law_2528 (by decide) (t := 2529) rfl ?_
  refine J_iadd hX dL_law_2529 (t := 2530) rfl ?_
  refine J_sld hX hs hb hA.2.1.1 hA.2.1.2 dL_law_2530 (t := 2531) rfl ?_
  refine J_aload_n hX dL_law_2531 4 rfl (t := 2532) rfl ?_
  refine J_iload hX dL_law_2532 0 rfl (t := 2534) rfl ?_
  refine J_iconst (v := 3) hX dL_law_2534 (by decide) (t := 2535) rfl ?_
  refine J_iadd hX dL_law_2535 (t := 2536) rfl ?_
  refine J_sld hX hs hb hA.2.2.1.1 hA.2.2.1.2 dL_law_2536 (t := 2537) rfl ?_
  refine J_aload_n hX dL_law_2537 4 rfl (t := 2538) rfl ?_
  refine J_iload hX dL_law_2538 0 rfl (t := 2540) rfl ?_
  refine J_iconst (v := 4) hX dL_law_2540 (by decide) (t := 2541) rfl ?_
  refine J_iadd hX dL_law_2541 (t := 2542) rfl ?_
  refine J_sld hX hs hb hA.2.2.2.1.1 hA.2.2.2.1.2 dL_law_2542 (t := 2543) rfl ?_
  refine J_aload_n hX dL_law_2543 1 rfl (t := 2544) rfl ?_
  refine J_callSW hX hNC [.ref (adr G 0 0), .int a1, .int a2, .int a3, .int a4, .ref (adr G 16 0)] [] (ctL_shout hl w a1 a2 a3 a4 n hk) miL_shout q_1576 q_1575 ⟨rfl, rfl, Nat.le_of_ble_eq_true rfl, Nat.le_of_ble_eq_true rfl⟩ rfl rfl (Nat.le_of_ble_eq_true rfl) ⟨Nat.le_trans (Nat.add_le_add_left (m := 30) (n := 1) (Nat.le_of_ble_eq_true rfl) cells) hc, Nat.le_trans (Nat.add_le_add_left (m := 3900) (n := 6) (Nat.le_of_ble_eq_true rfl) slots) hs9⟩ dL_law_2544 (t := 2547) rfl (fun v9 => J_pure fun hv9 => ?_)
  subst hv9
  refine J_istore (lc2 := [(5, .int k), (4, .int i), (3, .ref (adr G 16 0)), (2, .ref (adr G 15 0)), (1, .ref (adr G 0 0)), (0, .ref b)]) hX dL_law_2547 (Nat.le_of_ble_eq_true rfl) rfl (t := 2549) rfl ?_
  refine J_aload_n hX dL_law_2549 3 rfl (t := 2550) rfl ?_
  refine J_aload_n hX dL_law_2550 5 rfl (t := 2551) rfl ?_
  refine J_iload hX dL_law_2551 1 rfl (t := 2553) rfl ?_
  refine J_iconst (v := 1) hX dL_law_2553 (by decide) (t := 2554) rfl ?_
  refine J_iadd hX dL_law_2554 (t := 2555) rfl ?_
  refine J_sld hX hs hb hA.1.1 hA.1.2 dL_law_2555 (t := 2556) rfl ?_
  refine J_aload_n hX dL_law_2556 5 rfl (t := 2557) rfl ?_
  refine J_iload hX dL_law_2557 1 rfl (t := 2559) rfl ?_
  refine J_iconst (v := 2) hX dL_law_2559 (by decide) (t := 2560) rfl ?_
  refine J_iadd hX dL_law_2560 (t := 2561) rfl ?_
  refine J_sld hX hs hb hA.2.1.1 hA.2.1.2 dL_law_2561 (t := 2562) rfl ?_
  refine J_aload_n hX dL_law_2562 5 rfl (t := 2563) rfl ?_
  refine J_iload hX dL_law_2563 1 rfl (t := 2565) rfl ?_
  refine J_iconst (v := 3) hX dL_law_2565 (by decide) (t := 2566) rfl ?_
  refine J_iadd hX dL_law_2566 (t := 2567) rfl ?_
  refine J_sld hX hs hb hA.2.2.1.1 hA.2.2.1.2 dL_law_2567 (t := 2568) rfl ?_
  refine J_aload_n hX dL_law_2568 5 rfl (t := 2569) rfl ?_
  refine J_iload hX dL_law_2569 1 rfl (t := 2571) rfl ?_
  refine J_iconst (v := 4) hX dL_law_2571 (by decide) (t := 2572) rfl ?_
  refine J_iadd hX dL_law_2572 (t := 2573) rfl ?_
  refine J_sld hX hs hb hA.2.2.2.1.1 hA.2.2.2.1.2 dL_law_2573 (t := 2574) rfl ?_
  refine J_callV hX [.int a1, .int a2, .int a3, .int a4] [] [.int q] (ctX13_shout w1 a1 a2 a3 a4 n hq) miX13_shout mvX13_shout cb10 kModel q_2205 ⟨rfl, rfl, Nat.le_of_ble_eq_true rfl, Nat.le_of_ble_eq_true rfl⟩ rfl rfl (Nat.le_of_ble_eq_true rfl) ⟨Nat.le_trans (Nat.add_le_add_left (m := 30) (n := 1) (Nat.le_of_ble_eq_true rfl) cells) hc, Nat.le_trans (Nat.add_le_add_left (m := 3900) (n := 6) (Nat.le_of_ble_eq_true rfl) slots) hs9⟩ dL_law_2574 (t := 2577) rfl rfl ?_
  refine J_istore (lc2 := [(6, .int q), (5, .int k), (4, .int i), (3, .ref (adr G 16 0)), (2, .ref (adr G 15 0)), (1, .ref (adr G 0 0)), (0, .ref b)]) hX dL_law_2577 (Nat.le_of_ble_eq_true rfl) rfl (t := 2579) rfl ?_
  refine J_aload_n hX dL_law_2579 4 rfl (t := 2580) rfl ?_
  refine J_callV hX [] [] [.int (FX13_thrown w2)] (ctX13_thrown w2  rfl) miX13_thrown mvX13_thrown cb10 kModel q_2070 ⟨rfl, rfl, Nat.le_of_ble_eq_true rfl, Nat.le_of_ble_eq_true rfl⟩ rfl rfl (Nat.le_of_ble_eq_true rfl) ⟨Nat.le_trans (Nat.add_le_add_left (m := 30) (n := 1) (Nat.le_of_ble_eq_true rfl) cells) hc, Nat.le_trans (Nat.add_le_add_left (m := 3900) (n := 6) (Nat.le_of_ble_eq_true rfl) slots) hs9⟩ dL_law_2580 (t := 2583) rfl rfl ?_
  refine J_iload hX dL_law_2583 1 rfl (t := 2585) rfl ?_
  refine J_icmp_eq (tgt := 2590) hX dL_law_2585 (by decide) (t := 2588) rfl (fun z => ?_) (fun z => nomatch it_f hF z)
  replace hF := it_t hF z
  refine J_iload hX dL_law_2590 1 rfl (t := 2592) rfl ?_
  refine J_if_ne (tgt := 2607) hX dL_law_2592 (by decide) (t := 2595) rfl (fun z2 => ?_) (fun z2 => ?_)
  · replace hF := Option.some.inj (it_f hF z2)
    subst hF
    refine J_goto (tgt := 3183) hX dL_law_2607 (by decide) ?_
    refine J_sub (lc2 := [(4, .int i), (3, .ref (adr G 16 0)), (2, .ref (adr G 15 0)), (1, .ref (adr G 0 0)), (0, .ref b)]) [2, 3, 4, 5, 6] rfl ?_
    exact J_wid (Nat.add_le_add_left (m := 30) (n := 1) (Nat.le_of_ble_eq_true rfl) cells) (Nat.add_le_add_left (m := 3900) (n := 6) (Nat.le_of_ble_eq_true rfl) slots) (kk d0 hd0)
  · replace hF := it_t hF z2
    refine J_aload_n hX dL_law_2595 3 rfl (t := 2596) rfl ?_
    refine J_iconst (v := 0) hX dL_law_2596 (by decide) (t := 2597) rfl ?_
    refine J_lald (w := w2) (v := (w2 16).2 0 0) hX kOut (by decide) rfl dL_law_2597 (t := 2598) rfl ?_
    refine J_iload hX dL_law_2598 0 rfl (t := 2600) rfl ?_
    refine J_i2l hX dL_law_2600 (t := 2601) rfl ?_
    refine J_lcmp hX dL_law_2601 (t := 2602) rfl ?_
    refine J_if_eq (tgt := 2607) hX dL_law_2602 (by decide) (t := 2605) rfl (fun z3 => ?_) (fun z3 => nomatch it_f hF z3)
    replace hF := Option.some.inj (it_t hF z3)
    subst hF
    refine J_goto (tgt := 3183) hX dL_law_2607 (by decide) ?_
    refine J_sub (lc2 := [(4, .int i), (3, .ref (adr G 16 0)), (2, .ref (adr G 15 0)), (1, .ref (adr G 0 0)), (0, .ref b)]) [2, 3, 4, 5, 6] rfl ?_
    exact J_wid (Nat.add_le_add_left (m := 30) (n := 1) (Nat.le_of_ble_eq_true rfl) cells) (Nat.add_le_add_left (m := 3900) (n := 6) (Nat.le_of_ble_eq_true rfl) slots) (kk d0 hd0)
def FLc_53 (n : Nat) (w : Wd) (a1 a2 a3 a4 a5 : Int32) : Option Wd := bo2 (FL_cancel n w a1) fun k w1 => bo2 (FX13_cancel n w1 a1) fun q w2 => if FX13_thrown w2 = k then (if k = 0 then (if lg_cmp ((w2 16).2 0 0) q.toInt64 = 0 then some w2 else none) else some w2) else none
set_option maxHeartbeats 4000000 in
theorem cs_53 {G : GG} {p : Program} {l : Launch} {e : Env} {s : State} {m : MethodId} {args : Array Value} {below : List Frame} {meth : Method} {c : Code} {b L : Nat} {xs : Nat → Int32} {Q : State → Prop} {cells slots n : Nat} {i a1 a2 a3 a4 a5 : Int32} {w w9 : Wd} (hW : LW G p l s m args c b L xs) (hA : ARG L xs i a1 a2 a3 a4 a5) (hc : cells + 30 ≤ room_1.cells) (hs9 : slots + 3900 ≤ room_1.slots) (hF : FLc_53 n w a1 a2 a3 a4 a5 = some w9) (kk : LJ G p l e s m args below meth c b Q (cells + 30) (slots + 3900) 3183 i w9) : LJ G p l e s m args below meth c b Q cells slots 2610 i w := by
  intro d0 hd0
  obtain ⟨hX, hNC, hl, hs, hb⟩ := hW.drawn d0
  unfold FLc_53 at hF
  obtain ⟨k, w1, hk, hF⟩ := bo2_e hF
  obtain ⟨q, w2, hq, hF⟩ := bo2_e hF
  refine J_aload_n hX dL_law_2610 3 rfl (t := 2611) rfl ?_
  refine J_aload_n hX dL_law_2611 4 rfl (t := 2612) rfl ?_
  refine J_iload hX dL_law_2612 0 rfl (t := 2614) rfl ?_
  refine J_iconst (v := 1) hX dL_law_2614 (by decide) (t := 2615) rfl ?_
  refine J_iadd hX dL_law_2615 (t := 2616) rfl ?_
  refine J_sld hX hs hb hA.1.1 hA.1.2 dL_law_2616 (t := 2617) rfl ?_
  refine J_aload_n hX dL_law_2617 1 rfl (t := 2618) rfl ?_
  refine J_callSW hX hNC [.ref (adr G 0 0), .int a1, .ref (adr G 16 0)] [] (ctL_cancel hl w a1 n hk) miL_cancel q_1591 q_1590 ⟨rfl, rfl, Nat.le_of_ble_eq_true rfl, Nat.le_of_ble_eq_true rfl⟩ rfl rfl (Nat.le_of_ble_eq_true rfl) ⟨Nat.le_trans (Nat.add_le_add_left (m := 30) (n := 1) (Nat.le_of_ble_eq_true rfl) cells) hc, Nat.le_trans (Nat.add_le_add_left (m := 3900) (n := 6) (Nat.le_of_ble_eq_true rfl) slots) hs9⟩ dL_law_2618 (t := 2621) rfl (fun v9 => J_pure fun hv9 => ?_)
  subst hv9
  refine J_istore (lc2 := [(5, .int k), (4, .int i), (3, .ref (adr G 16 0)), (2, .ref (adr G 15 0)), (1, .ref (adr G 0 0)), (0, .ref b)]) hX dL_law_2621 (Nat.le_of_ble_eq_true rfl) rfl (t := 2623) rfl ?_
  refine J_aload_n hX dL_law_2623 3 rfl (t := 2624) rfl ?_
  refine J_aload_n hX dL_law_2624 5 rfl (t := 2625) rfl ?_
  refine J_iload hX dL_law_2625 1 rfl (t := 2627) rfl ?_
  refine J_iconst (v := 1) hX dL_law_2627 (by decide) (t := 2628) rfl ?_
  refine J_iadd hX dL_law_2628 (t := 2629) rfl ?_
  refine J_sld hX hs hb hA.1.1 hA.1.2 dL_law_2629 (t := 2630) rfl ?_
  refine J_callV hX [.int a1] [] [.int q] (ctX13_cancel w1 a1 n hq) miX13_cancel mvX13_cancel cb10 kModel q_2256 ⟨rfl, rfl, Nat.le_of_ble_eq_true rfl, Nat.le_of_ble_eq_true rfl⟩ rfl rfl (Nat.le_of_ble_eq_true rfl) ⟨Nat.le_trans (Nat.add_le_add_left (m := 30) (n := 1) (Nat.le_of_ble_eq_true rfl) cells) hc, Nat.le_trans (Nat.add_le_add_left (m := 3900) (n := 6) (Nat.le_of_ble_eq_true rfl) slots) hs9⟩ dL_law_2630 (t := 2633) rfl rfl ?_
  refine J_istore (lc2 := [(6, .int q), (5, .int k), (4, .int i), (3, .ref (adr G 16 0)), (2, .ref (adr G 15 0)), (1, .ref (adr G 0 0)), (0, .ref b)]) hX dL_law_2633 (Nat.le_of_ble_eq_true rfl) rfl (t := 2635) rfl ?_
  refine J_aload_n hX dL_law_2635 4 rfl (t := 2636) rfl ?_
  refine J_callV hX [] [] [.int (FX13_thrown w2)] (ctX13_thrown w2  rfl) miX13_thrown mvX13_thrown cb10 kModel q_2070 ⟨rfl, rfl, Nat.le_of_ble_eq_true rfl, Nat.le_of_ble_eq_true rfl⟩ rfl rfl (Nat.le_of_ble_eq_true rfl) ⟨Nat.le_trans (Nat.add_le_add_left (m := 30) (n := 1) (Nat.le_of_ble_eq_true rfl) cells) hc, Nat.le_trans (Nat.add_le_add_left (m := 3900) (n := 6) (Nat.le_of_ble_eq_true rfl) slots) hs9⟩ dL_law_2636 (t := 2639) rfl rfl ?_
  refine J_iload hX dL_law_2639 1 rfl (t := 2641) rfl ?_
  refine J_icmp_eq (tgt := 2646) hX dL_law_2641 (by decide) (t := 2644) rfl (fun z => ?_) (fun z => nomatch it_f hF z)
  replace hF := it_t hF z
  refine J_iload hX dL_law_2646 1 rfl (t := 2648) rfl ?_
  refine J_if_ne (tgt := 2663) hX dL_law_2648 (by decide) (t := 2651) rfl (fun z2 => ?_) (fun z2 => ?_)
  · replace hF := Option.some.inj (it_f hF z2)
    subst hF
    refine J_goto (tgt := 3183) hX dL_law_2663 (by decide) ?_
    refine J_sub (lc2 := [(4, .int i), (3, .ref (adr G 16 0)), (2, .ref (adr G 15 0)), (1, .ref (adr G 0 0)), (0, .ref b)]) [2, 3, 4, 5, 6] rfl ?_
    exact J_wid (Nat.add_le_add_left (m := 30) (n := 1) (Nat.le_of_ble_eq_true rfl) cells) (Nat.add_le_add_left (m := 3900) (n := 6) (Nat.le_of_ble_eq_true rfl) slots) (kk d0 hd0)
  · replace hF := it_t hF z2
    refine J_aload_n hX dL_law_2651 3 rfl (t := 2652) rfl ?_
    refine J_iconst (v := 0) hX dL_law_2652 (by decide) (t := 2653) rfl ?_
    refine J_lald (w := w2) (v := (w2 16).2 0 0) hX kOut (by decide) rfl dL_law_2653 (t := 2654) rfl ?_
    refine J_iload hX dL_law_2654 0 rfl (t := 2656) rfl ?_
    refine J_i2l hX dL_law_2656 (t := 2657) rfl ?_
    refine J_lcmp hX dL_law_2657 (t := 2658) rfl ?_
    refine J_if_eq (tgt := 2663) hX dL_law_2658 (by decide) (t := 2661) rfl (fun z3 => ?_) (fun z3 => nomatch it_f hF z3)
    replace hF := Option.some.inj (it_t hF z3)
    subst hF
    refine J_goto (tgt := 3183) hX dL_law_2663 (by decide) ?_
    refine J_sub (lc2 := [(4, .int i), (3, .ref (adr G 16 0)), (2, .ref (adr G 15 0)), (1, .ref (adr G 0 0)), (0, .ref b)]) [2, 3, 4, 5, 6] rfl ?_
    exact J_wid (Nat.add_le_add_left (m := 30) (n := 1) (Nat.le_of_ble_eq_true rfl) cells) (Nat.add_le_add_left (m := 3900) (n := 6) (Nat.le_of_ble_eq_true rfl) slots) (kk d0 hd0)
def FLc_54 (n : Nat) (w : Wd) (a1 a2 a3 a4 a5 : Int32) : Option Wd := bo2 (FL_fake n w a1) fun k w1 => bo2 (FX13_fake n w1 a1) fun q w2 => if FX13_thrown w2 = k then (if k = 0 then (if lg_cmp ((w2 16).2 0 0) q.toInt64 = 0 then some w2 else none) else some w2) else none
set_option maxHeartbeats 4000000 in
theorem cs_54 {G : GG} {p : Program} {l : Launch} {e : Env} {s : State} {m : MethodId} {args : Array Value} {below : List Frame} {meth : Method} {c : Code} {b L : Nat} {xs : Nat → Int32} {Q : State → Prop} {cells slots n : Nat} {i a1 a2 a3 a4 a5 : Int32} {w w9 : Wd} (hW : LW G p l s m args c b L xs) (hA : ARG L xs i a1 a2 a3 a4 a5) (hc : cells + 30 ≤ room_1.cells) (hs9 : slots + 3900 ≤ room_1.slots) (hF : FLc_54 n w a1 a2 a3 a4 a5 = some w9) (kk : LJ G p l e s m args below meth c b Q (cells + 30) (slots + 3900) 3183 i w9) : LJ G p l e s m args below meth c b Q cells slots 2666 i w := by
  intro d0 hd0
  obtain ⟨hX, hNC, hl, hs, hb⟩ := hW.drawn d0
  unfold FLc_54 at hF
  obtain ⟨k, w1, hk, hF⟩ := bo2_e hF
  obtain ⟨q, w2, hq, hF⟩ := bo2_e hF
  refine J_aload_n hX dL_law_2666 3 rfl (t := 2667) rfl ?_
  refine J_aload_n hX dL_law_2667 4 rfl (t := 2668) rfl ?_
  refine J_iload hX dL_law_2668 0 rfl (t := 2670) rfl ?_
  refine J_iconst (v := 1) hX dL_law_2670 (by decide) (t := 2671) rfl ?_
  refine J_iadd hX dL_law_2671 (t := 2672) rfl ?_
  refine J_sld hX hs hb hA.1.1 hA.1.2 dL_law_2672 (t := 2673) rfl ?_
  refine J_aload_n hX dL_law_2673 1 rfl (t := 2674) rfl ?_
  refine J_callSW hX hNC [.ref (adr G 0 0), .int a1, .ref (adr G 16 0)] [] (ctL_fake hl w a1 n hk) miL_fake q_1600 q_1599 ⟨rfl, rfl, Nat.le_of_ble_eq_true rfl, Nat.le_of_ble_eq_true rfl⟩ rfl rfl (Nat.le_of_ble_eq_true rfl) ⟨Nat.le_trans (Nat.add_le_add_left (m := 30) (n := 1) (Nat.le_of_ble_eq_true rfl) cells) hc, Nat.le_trans (Nat.add_le_add_left (m := 3900) (n := 6) (Nat.le_of_ble_eq_true rfl) slots) hs9⟩ dL_law_2674 (t := 2677) rfl (fun v9 => J_pure fun hv9 => ?_)
  subst hv9
  refine J_istore (lc2 := [(5, .int k), (4, .int i), (3, .ref (adr G 16 0)), (2, .ref (adr G 15 0)), (1, .ref (adr G 0 0)), (0, .ref b)]) hX dL_law_2677 (Nat.le_of_ble_eq_true rfl) rfl (t := 2679) rfl ?_
  refine J_aload_n hX dL_law_2679 3 rfl (t := 2680) rfl ?_
  refine J_aload_n hX dL_law_2680 5 rfl (t := 2681) rfl ?_
  refine J_iload hX dL_law_2681 1 rfl (t := 2683) rfl ?_
  refine J_iconst (v := 1) hX dL_law_2683 (by decide) (t := 2684) rfl ?_
  refine J_iadd hX dL_law_2684 (t := 2685) rfl ?_
  refine J_sld hX hs hb hA.1.1 hA.1.2 dL_law_2685 (t := 2686) rfl ?_
  refine J_callV hX [.int a1] [] [.int q] (ctX13_fake w1 a1 n hq) miX13_fake mvX13_fake cb10 kModel q_2280 ⟨rfl, rfl, Nat.le_of_ble_eq_true rfl, Nat.le_of_ble_eq_true rfl⟩ rfl rfl (Nat.le_of_ble_eq_true rfl) ⟨Nat.le_trans (Nat.add_le_add_left (m := 30) (n := 1) (Nat.le_of_ble_eq_true rfl) cells) hc, Nat.le_trans (Nat.add_le_add_left (m := 3900) (n := 6) (Nat.le_of_ble_eq_true rfl) slots) hs9⟩ dL_law_2686 (t := 2689) rfl rfl ?_
  refine J_istore (lc2 := [(6, .int q), (5, .int k), (4, .int i), (3, .ref (adr G 16 0)), (2, .ref (adr G 15 0)), (1, .ref (adr G 0 0)), (0, .ref b)]) hX dL_law_2689 (Nat.le_of_ble_eq_true rfl) rfl (t := 2691) rfl ?_
  refine J_aload_n hX dL_law_2691 4 rfl (t := 2692) rfl ?_
  refine J_callV hX [] [] [.int (FX13_thrown w2)] (ctX13_thrown w2  rfl) miX13_thrown mvX13_thrown cb10 kModel q_2070 ⟨rfl, rfl, Nat.le_of_ble_eq_true rfl, Nat.le_of_ble_eq_true rfl⟩ rfl rfl (Nat.le_of_ble_eq_true rfl) ⟨Nat.le_trans (Nat.add_le_add_left (m := 30) (n := 1) (Nat.le_of_ble_eq_true rfl) cells) hc, Nat.le_trans (Nat.add_le_add_left (m := 3900) (n := 6) (Nat.le_of_ble_eq_true rfl) slots) hs9⟩ dL_law_2692 (t := 2695) rfl rfl ?_
  refine J_iload hX dL_law_2695 1 rfl (t := 2697) rfl ?_
  refine J_icmp_eq (tgt := 2702) hX dL_law_2697 (by decide) (t := 2700) rfl (fun z => ?_) (fun z => nomatch it_f hF z)
  replace hF := it_t hF z
  refine J_iload hX dL_law_2702 1 rfl (t := 2704) rfl ?_
  refine J_if_ne (tgt := 2719) hX dL_law_2704 (by decide) (t := 2707) rfl (fun z2 => ?_) (fun z2 => ?_)
  · replace hF := Option.some.inj (it_f hF z2)
    subst hF
    refine J_goto (tgt := 3183) hX dL_law_2719 (by decide) ?_
    refine J_sub (lc2 := [(4, .int i), (3, .ref (adr G 16 0)), (2, .ref (adr G 15 0)), (1, .ref (adr G 0 0)), (0, .ref b)]) [2, 3, 4, 5, 6] rfl ?_
    exact J_wid (Nat.add_le_add_left (m := 30) (n := 1) (Nat.le_of_ble_eq_true rfl) cells) (Nat.add_le_add_left (m := 3900) (n := 6) (Nat.le_of_ble_eq_true rfl) slots) (kk d0 hd0)
  · replace hF := it_t hF z2
    refine J_aload_n hX dL_law_2707 3 rfl (t := 2708) rfl ?_
    refine J_iconst (v := 0) hX dL_law_2708 (by decide) (t := 2709) rfl ?_
    refine J_lald (w := w2) (v := (w2 16).2 0 0) hX kOut (by decide) rfl dL_law_2709 (t := 2710) rfl ?_
    refine J_iload hX dL_law_2710 0 rfl (t := 2712) rfl ?_
    refine J_i2l hX dL_law_2712 (t := 2713) rfl ?_
    refine J_lcmp hX dL_law_2713 (t := 2714) rfl ?_
    refine J_if_eq (tgt := 2719) hX dL_law_2714 (by decide) (t := 2717) rfl (fun z3 => ?_) (fun z3 => nomatch it_f hF z3)
    replace hF := Option.some.inj (it_t hF z3)
    subst hF
    refine J_goto (tgt := 3183) hX dL_law_2719 (by decide) ?_
    refine J_sub (lc2 := [(4, .int i), (3, .ref (adr G 16 0)), (2, .ref (adr G 15 0)), (1, .ref (adr G 0 0)), (0, .ref b)]) [2, 3, 4, 5, 6] rfl ?_
    exact J_wid (Nat.add_le_add_left (m := 30) (n := 1) (Nat.le_of_ble_eq_true rfl) cells) (Nat.add_le_add_left (m := 3900) (n := 6) (Nat.le_of_ble_eq_true rfl) slots) (kk d0 hd0)
def FLc_55 (n : Nat) (w : Wd) (a1 a2 a3 a4 a5 : Int32) : Option Wd := bo2 (FL_setFog n w a1 a2) fun k w1 => bo2 (FX13_setFog n w1 a1 a2) fun q w2 => if FX13_thrown w2 = k then (if k = 0 then (if lg_cmp ((w2 16).2 0 0) q.toInt64 = 0 then some w2 else none) else some w2) else none
set_option maxHeartbeats 4000000 in
theorem cs_55 {G : GG} {p : Program} {l : Launch} {e : Env} {s : State} {m : MethodId} {args : Array Value} {below : List Frame} {meth : Method} {c : Code} {b L : Nat} {xs : Nat → Int32} {Q : State → Prop} {cells slots n : Nat} {i a1 a2 a3 a4 a5 : Int32} {w w9 : Wd} (hW : LW G p l s m args c b L xs) (hA : ARG L xs i a1 a2 a3 a4 a5) (hc : cells + 30 ≤ room_1.cells) (hs9 : slots + 3900 ≤ room_1.slots) (hF : FLc_55 n w a1 a2 a3 a4 a5 = some w9) (kk : LJ G p l e s m args below meth c b Q (cells + 30) (slots + 3900) 3183 i w9) : LJ G p l e s m args below meth c b Q cells slots 2722 i w := by
  intro d0 hd0
  obtain ⟨hX, hNC, hl, hs, hb⟩ := hW.drawn d0
  unfold FLc_55 at hF
  obtain ⟨k, w1, hk, hF⟩ := bo2_e hF
  obtain ⟨q, w2, hq, hF⟩ := bo2_e hF
  refine J_aload_n hX dL_law_2722 3 rfl (t := 2723) rfl ?_
  refine J_aload_n hX dL_law_2723 4 rfl (t := 2724) rfl ?_
  refine J_iload hX dL_law_2724 0 rfl (t := 2726) rfl ?_
  refine J_iconst (v := 1) hX dL_law_2726 (by decide) (t := 2727) rfl ?_
  refine J_iadd hX dL_law_2727 (t := 2728) rfl ?_
  refine J_sld hX hs hb hA.1.1 hA.1.2 dL_law_2728 (t := 2729) rfl ?_
  refine J_aload_n hX dL_law_2729 4 rfl (t := 2730) rfl ?_
  refine J_iload hX dL_law_2730 0 rfl (t := 2732) rfl ?_
  refine J_iconst (v := 2) hX dL_law_2732 (by decide) (t := 2733) rfl ?_
  refine J_iadd hX dL_law_2733 (t := 2734) rfl ?_
  refine J_sld hX hs hb hA.2.1.1 hA.2.1.2 dL_law_2734 (t := 2735) rfl ?_
  refine J_aload_n hX dL_law_2735 1 rfl (t := 2736) rfl ?_
  refine J_callSW hX hNC [.ref (adr G 0 0), .int a1, .int a2, .ref (adr G 16 0)] [] (ctL_setFog hl w a1 a2 n hk) miL_setFog q_1608 q_1607 ⟨rfl, rfl, Nat.le_of_ble_eq_true rfl, Nat.le_of_ble_eq_true rfl⟩ rfl rfl (Nat.le_of_ble_eq_true rfl) ⟨Nat.le_trans (Nat.add_le_add_left (m := 30) (n := 1) (Nat.le_of_ble_eq_true rfl) cells) hc, Nat.le_trans (Nat.add_le_add_left (m := 3900) (n := 6) (Nat.le_of_ble_eq_true rfl) slots) hs9⟩ dL_law_2736 (t := 2739) rfl (fun v9 => J_pure fun hv9 => ?_)
  subst hv9
  refine J_istore (lc2 := [(5, .int k), (4, .int i), (3, .ref (adr G 16 0)), (2, .ref (adr G 15 0)), (1, .ref (adr G 0 0)), (0, .ref b)]) hX dL_law_2739 (Nat.le_of_ble_eq_true rfl) rfl (t := 2741) rfl ?_
  refine J_aload_n hX dL_law_2741 3 rfl (t := 2742) rfl ?_
  refine J_aload_n hX dL_law_2742 5 rfl (t := 2743) rfl ?_
  refine J_iload hX dL_law_2743 1 rfl (t := 2745) rfl ?_
  refine J_iconst (v := 1) hX dL_law_2745 (by decide) (t := 2746) rfl ?_
  refine J_iadd hX dL_law_2746 (t := 2747) rfl ?_
  refine J_sld hX hs hb hA.1.1 hA.1.2 dL_law_2747 (t := 2748) rfl ?_
  refine J_aload_n hX dL_law_2748 5 rfl (t := 2749) rfl ?_
  refine J_iload hX dL_law_2749 1 rfl (t := 2751) rfl ?_
  refine J_iconst (v := 2) hX dL_law_2751 (by decide) (t := 2752) rfl ?_
  refine J_iadd hX dL_law_2752 (t := 2753) rfl ?_
  refine J_sld hX hs hb hA.2.1.1 hA.2.1.2 dL_law_2753 (t := 2754) rfl ?_
  refine J_callV hX [.int a1, .int a2] [] [.int q] (ctX13_setFog w1 a1 a2 n hq) miX13_setFog mvX13_setFog cb10 kModel q_2304 ⟨rfl, rfl, Nat.le_of_ble_eq_true rfl, Nat.le_of_ble_eq_true rfl⟩ rfl rfl (Nat.le_of_ble_eq_true rfl) ⟨Nat.le_trans (Nat.add_le_add_left (m := 30) (n := 1) (Nat.le_of_ble_eq_true rfl) cells) hc, Nat.le_trans (Nat.add_le_add_left (m := 3900) (n := 6) (Nat.le_of_ble_eq_true rfl) slots) hs9⟩ dL_law_2754 (t := 2757) rfl rfl ?_
  refine J_istore (lc2 := [(6, .int q), (5, .int k), (4, .int i), (3, .ref (adr G 16 0)), (2, .ref (adr G 15 0)), (1, .ref (adr G 0 0)), (0, .ref b)]) hX dL_law_2757 (Nat.le_of_ble_eq_true rfl) rfl (t := 2759) rfl ?_
  refine J_aload_n hX dL_law_2759 4 rfl (t := 2760) rfl ?_
  refine J_callV hX [] [] [.int (FX13_thrown w2)] (ctX13_thrown w2  rfl) miX13_thrown mvX13_thrown cb10 kModel q_2070 ⟨rfl, rfl, Nat.le_of_ble_eq_true rfl, Nat.le_of_ble_eq_true rfl⟩ rfl rfl (Nat.le_of_ble_eq_true rfl) ⟨Nat.le_trans (Nat.add_le_add_left (m := 30) (n := 1) (Nat.le_of_ble_eq_true rfl) cells) hc, Nat.le_trans (Nat.add_le_add_left (m := 3900) (n := 6) (Nat.le_of_ble_eq_true rfl) slots) hs9⟩ dL_law_2760 (t := 2763) rfl rfl ?_
  refine J_iload hX dL_law_2763 1 rfl (t := 2765) rfl ?_
  refine J_icmp_eq (tgt := 2770) hX dL_law_2765 (by decide) (t := 2768) rfl (fun z => ?_) (fun z => nomatch it_f hF z)
  replace hF := it_t hF z
  refine J_iload hX dL_law_2770 1 rfl (t := 2772) rfl ?_
  refine J_if_ne (tgt := 2787) hX dL_law_2772 (by decide) (t := 2775) rfl (fun z2 => ?_) (fun z2 => ?_)
  · replace hF := Option.some.inj (it_f hF z2)
    subst hF
    refine J_goto (tgt := 3183) hX dL_law_2787 (by decide) ?_
    refine J_sub (lc2 := [(4, .int i), (3, .ref (adr G 16 0)), (2, .ref (adr G 15 0)), (1, .ref (adr G 0 0)), (0, .ref b)]) [2, 3, 4, 5, 6] rfl ?_
    exact J_wid (Nat.add_le_add_left (m := 30) (n := 1) (Nat.le_of_ble_eq_true rfl) cells) (Nat.add_le_add_left (m := 3900) (n := 6) (Nat.le_of_ble_eq_true rfl) slots) (kk d0 hd0)
  · replace hF := it_t hF z2
    refine J_aload_n hX dL_law_2775 3 rfl (t := 2776) rfl ?_
    refine J_iconst (v := 0) hX dL_law_2776 (by decide) (t := 2777) rfl ?_
    refine J_lald (w := w2) (v := (w2 16).2 0 0) hX kOut (by decide) rfl dL_law_2777 (t := 2778) rfl ?_
    refine J_iload hX dL_law_2778 0 rfl (t := 2780) rfl ?_
    refine J_i2l hX dL_law_2780 (t := 2781) rfl ?_
    refine J_lcmp hX dL_law_2781 (t := 2782) rfl ?_
    refine J_if_eq (tgt := 2787) hX dL_law_2782 (by decide) (t := 2785) rfl (fun z3 => ?_) (fun z3 => nomatch it_f hF z3)
    replace hF := Option.some.inj (it_t hF z3)
    subst hF
    refine J_goto (tgt := 3183) hX dL_law_2787 (by decide) ?_
    refine J_sub (lc2 := [(4, .int i), (3, .ref (adr G 16 0)), (2, .ref (adr G 15 0)), (1, .ref (adr G 0 0)), (0, .ref b)]) [2, 3, 4, 5, 6] rfl ?_
    exact J_wid (Nat.add_le_add_left (m := 30) (n := 1) (Nat.le_of_ble_eq_true rfl) cells) (Nat.add_le_add_left (m := 3900) (n := 6) (Nat.le_of_ble_eq_true rfl) slots) (kk d0 hd0)
def FLc_56 (n : Nat) (w : Wd) (a1 a2 a3 a4 a5 : Int32) : Option Wd := bo2 (FL_setPrice n w a1 a2) fun k w1 => bo2 (FX13_setPrice n w1 a1 a2) fun q w2 => if FX13_thrown w2 = k then (if k = 0 then (if lg_cmp ((w2 16).2 0 0) q.toInt64 = 0 then some w2 else none) else some w2) else none
set_option maxHeartbeats 4000000 in
theorem cs_56 {G : GG} {p : Program} {l : Launch} {e : Env} {s : State} {m : MethodId} {args : Array Value} {below : List Frame} {meth : Method} {c : Code} {b L : Nat} {xs : Nat → Int32} {Q : State → Prop} {cells slots n : Nat} {i a1 a2 a3 a4 a5 : Int32} {w w9 : Wd} (hW : LW G p l s m args c b L xs) (hA : ARG L xs i a1 a2 a3 a4 a5) (hc : cells + 30 ≤ room_1.cells) (hs9 : slots + 3900 ≤ room_1.slots) (hF : FLc_56 n w a1 a2 a3 a4 a5 = some w9) (kk : LJ G p l e s m args below meth c b Q (cells + 30) (slots + 3900) 3183 i w9) : LJ G p l e s m args below meth c b Q cells slots 2790 i w := by
  intro d0 hd0
  obtain ⟨hX, hNC, hl, hs, hb⟩ := hW.drawn d0
  unfold FLc_56 at hF
  obtain ⟨k, w1, hk, hF⟩ := bo2_e hF
  obtain ⟨q, w2, hq, hF⟩ := bo2_e hF
  refine J_aload_n hX dL_law_2790 3 rfl (t := 2791) rfl ?_
  refine J_aload_n hX dL_law_2791 4 rfl (t := 2792) rfl ?_
  refine J_iload hX dL_law_2792 0 rfl (t := 2794) rfl ?_
  refine J_iconst (v := 1) hX dL_law_2794 (by decide) (t := 2795) rfl ?_
  refine J_iadd hX dL_law_2795 (t := 2796) rfl ?_
  refine J_sld hX hs hb hA.1.1 hA.1.2 dL_law_2796 (t := 2797) rfl ?_
  refine J_aload_n hX dL_law_2797 4 rfl (t := 2798) rfl ?_
  refine J_iload hX dL_law_2798 0 rfl (t := 2800) rfl ?_
  refine J_iconst (v := 2) hX dL_law_2800 (by decide) (t := 2801) rfl ?_
  refine J_iadd hX dL_law_2801 (t := 2802) rfl ?_
  refine J_sld hX hs hb hA.2.1.1 hA.2.1.2 dL_law_2802 (t := 2803) rfl ?_
  refine J_aload_n hX dL_law_2803 1 rfl (t := 2804) rfl ?_
  refine J_callSW hX hNC [.ref (adr G 0 0), .int a1, .int a2, .ref (adr G 16 0)] [] (ctL_setPrice hl w a1 a2 n hk) miL_setPrice q_1617 q_1616 ⟨rfl, rfl, Nat.le_of_ble_eq_true rfl, Nat.le_of_ble_eq_true rfl⟩ rfl rfl (Nat.le_of_ble_eq_true rfl) ⟨Nat.le_trans (Nat.add_le_add_left (m := 30) (n := 1) (Nat.le_of_ble_eq_true rfl) cells) hc, Nat.le_trans (Nat.add_le_add_left (m := 3900) (n := 6) (Nat.le_of_ble_eq_true rfl) slots) hs9⟩ dL_law_2804 (t := 2807) rfl (fun v9 => J_pure fun hv9 => ?_)
  subst hv9
  refine J_istore (lc2 := [(5, .int k), (4, .int i), (3, .ref (adr G 16 0)), (2, .ref (adr G 15 0)), (1, .ref (adr G 0 0)), (0, .ref b)]) hX dL_law_2807 (Nat.le_of_ble_eq_true rfl) rfl (t := 2809) rfl ?_
  refine J_aload_n hX dL_law_2809 3 rfl (t := 2810) rfl ?_
  refine J_aload_n hX dL_law_2810 5 rfl (t := 2811) rfl ?_
  refine J_iload hX dL_law_2811 1 rfl (t := 2813) rfl ?_
  refine J_iconst (v := 1) hX dL_law_2813 (by decide) (t := 2814) rfl ?_
  refine J_iadd hX dL_law_2814 (t := 2815) rfl ?_
  refine J_sld hX hs hb hA.1.1 hA.1.2 dL_law_2815 (t := 2816) rfl ?_
  refine J_aload_n hX dL_law_2816 5 rfl (t := 2817) rfl ?_
  refine J_iload hX dL_law_2817 1 rfl (t := 2819) rfl ?_
  refine J_iconst (v := 2) hX dL_law_2819 (by decide) (t := 2820) rfl ?_
  refine J_iadd hX dL_law_2820 (t := 2821) rfl ?_
  refine J_sld hX hs hb hA.2.1.1 hA.2.1.2 dL_law_2821 (t := 2822) rfl ?_
  refine J_callV hX [.int a1, .int a2] [] [.int q] (ctX13_setPrice w1 a1 a2 n hq) miX13_setPrice mvX13_setPrice cb10 kModel q_2316 ⟨rfl, rfl, Nat.le_of_ble_eq_true rfl, Nat.le_of_ble_eq_true rfl⟩ rfl rfl (Nat.le_of_ble_eq_true rfl) ⟨Nat.le_trans (Nat.add_le_add_left (m := 30) (n := 1) (Nat.le_of_ble_eq_true rfl) cells) hc, Nat.le_trans (Nat.add_le_add_left (m := 3900) (n := 6) (Nat.le_of_ble_eq_true rfl) slots) hs9⟩ dL_law_2822 (t := 2825) rfl rfl ?_
  refine J_istore (lc2 := [(6, .int q), (5, .int k), (4, .int i), (3, .ref (adr G 16 0)), (2, .ref (adr G 15 0)), (1, .ref (adr G 0 0)), (0, .ref b)]) hX dL_law_2825 (Nat.le_of_ble_eq_true rfl) rfl (t := 2827) rfl ?_
  refine J_aload_n hX dL_law_2827 4 rfl (t := 2828) rfl ?_
  refine J_callV hX [] [] [.int (FX13_thrown w2)] (ctX13_thrown w2  rfl) miX13_thrown mvX13_thrown cb10 kModel q_2070 ⟨rfl, rfl, Nat.le_of_ble_eq_true rfl, Nat.le_of_ble_eq_true rfl⟩ rfl rfl (Nat.le_of_ble_eq_true rfl) ⟨Nat.le_trans (Nat.add_le_add_left (m := 30) (n := 1) (Nat.le_of_ble_eq_true rfl) cells) hc, Nat.le_trans (Nat.add_le_add_left (m := 3900) (n := 6) (Nat.le_of_ble_eq_true rfl) slots) hs9⟩ dL_law_2828 (t := 2831) rfl rfl ?_
  refine J_iload hX dL_law_2831 1 rfl (t := 2833) rfl ?_
  refine J_icmp_eq (tgt := 2838) hX dL_law_2833 (by decide) (t := 2836) rfl (fun z => ?_) (fun z => nomatch it_f hF z)
  replace hF := it_t hF z
  refine J_iload hX dL_law_2838 1 rfl (t := 2840) rfl ?_
  refine J_if_ne (tgt := 2855) hX dL_law_2840 (by decide) (t := 2843) rfl (fun z2 => ?_) (fun z2 => ?_)
  · replace hF := Option.some.inj (it_f hF z2)
    subst hF
    refine J_goto (tgt := 3183) hX dL_law_2855 (by decide) ?_
    refine J_sub (lc2 := [(4, .int i), (3, .ref (adr G 16 0)), (2, .ref (adr G 15 0)), (1, .ref (adr G 0 0)), (0, .ref b)]) [2, 3, 4, 5, 6] rfl ?_
    exact J_wid (Nat.add_le_add_left (m := 30) (n := 1) (Nat.le_of_ble_eq_true rfl) cells) (Nat.add_le_add_left (m := 3900) (n := 6) (Nat.le_of_ble_eq_true rfl) slots) (kk d0 hd0)
  · replace hF := it_t hF z2
    refine J_aload_n hX dL_law_2843 3 rfl (t := 2844) rfl ?_
    refine J_iconst (v := 0) hX dL_law_2844 (by decide) (t := 2845) rfl ?_
    refine J_lald (w := w2) (v := (w2 16).2 0 0) hX kOut (by decide) rfl dL_law_2845 (t := 2846) rfl ?_
    refine J_iload hX dL_law_2846 0 rfl (t := 2848) rfl ?_
    refine J_i2l hX dL_law_2848 (t := 2849) rfl ?_
    refine J_lcmp hX dL_law_2849 (t := 2850) rfl ?_
    refine J_if_eq (tgt := 2855) hX dL_law_2850 (by decide) (t := 2853) rfl (fun z3 => ?_) (fun z3 => nomatch it_f hF z3)
    replace hF := Option.some.inj (it_t hF z3)
    subst hF
    refine J_goto (tgt := 3183) hX dL_law_2855 (by decide) ?_
    refine J_sub (lc2 := [(4, .int i), (3, .ref (adr G 16 0)), (2, .ref (adr G 15 0)), (1, .ref (adr G 0 0)), (0, .ref b)]) [2, 3, 4, 5, 6] rfl ?_
    exact J_wid (Nat.add_le_add_left (m := 30) (n := 1) (Nat.le_of_ble_eq_true rfl) cells) (Nat.add_le_add_left (m := 3900) (n := 6) (Nat.le_of_ble_eq_true rfl) slots) (kk d0 hd0)
def FLc_57 (n : Nat) (w : Wd) (a1 a2 a3 a4 a5 : Int32) : Option Wd := bo2 (FL_setWell n w a1) fun k w1 => bo2 (FX13_setWell n w1 a1) fun q w2 => if FX13_thrown w2 = k then (if k = 0 then (if lg_cmp ((w2 16).2 0 0) q.toInt64 = 0 then some w2 else none) else some w2) else none
set_option maxHeartbeats 4000000 in
theorem cs_57 {G : GG} {p : Program} {l : Launch} {e : Env} {s : State} {m : MethodId} {args : Array Value} {below : List Frame} {meth : Method} {c : Code} {b L : Nat} {xs : Nat → Int32} {Q : State → Prop} {cells slots n : Nat} {i a1 a2 a3 a4 a5 : Int32} {w w9 : Wd} (hW : LW G p l s m args c b L xs) (hA : ARG L xs i a1 a2 a3 a4 a5) (hc : cells + 30 ≤ room_1.cells) (hs9 : slots + 3900 ≤ room_1.slots) (hF : FLc_57 n w a1 a2 a3 a4 a5 = some w9) (kk : LJ G p l e s m args below meth c b Q (cells + 30) (slots + 3900) 3183 i w9) : LJ G p l e s m args below meth c b Q cells slots 2858 i w := by
  intro d0 hd0
  obtain ⟨hX, hNC, hl, hs, hb⟩ := hW.drawn d0
  unfold FLc_57 at hF
  obtain ⟨k, w1, hk, hF⟩ := bo2_e hF
  obtain ⟨q, w2, hq, hF⟩ := bo2_e hF
  refine J_aload_n hX dL_law_2858 3 rfl (t := 2859) rfl ?_
  refine J_aload_n hX dL_law_2859 4 rfl (t := 2860) rfl ?_
  refine J_iload hX dL_law_2860 0 rfl (t := 2862) rfl ?_
  refine J_iconst (v := 1) hX dL_law_2862 (by decide) (t := 2863) rfl ?_
  refine J_iadd hX dL_law_2863 (t := 2864) rfl ?_
  refine J_sld hX hs hb hA.1.1 hA.1.2 dL_law_2864 (t := 2865) rfl ?_
  refine J_aload_n hX dL_law_2865 1 rfl (t := 2866) rfl ?_
  refine J_callSW hX hNC [.ref (adr G 0 0), .int a1, .ref (adr G 16 0)] [] (ctL_setWell hl w a1 n hk) miL_setWell q_1626 q_1625 ⟨rfl, rfl, Nat.le_of_ble_eq_true rfl, Nat.le_of_ble_eq_true rfl⟩ rfl rfl (Nat.le_of_ble_eq_true rfl) ⟨Nat.le_trans (Nat.add_le_add_left (m := 30) (n := 1) (Nat.le_of_ble_eq_true rfl) cells) hc, Nat.le_trans (Nat.add_le_add_left (m := 3900) (n := 6) (Nat.le_of_ble_eq_true rfl) slots) hs9⟩ dL_law_2866 (t := 2869) rfl (fun v9 => J_pure fun hv9 => ?_)
  subst hv9
  refine J_istore (lc2 := [(5, .int k), (4, .int i), (3, .ref (adr G 16 0)), (2, .ref (adr G 15 0)), (1, .ref (adr G 0 0)), (0, .ref b)]) hX dL_law_2869 (Nat.le_of_ble_eq_true rfl) rfl (t := 2871) rfl ?_
  refine J_aload_n hX dL_law_2871 3 rfl (t := 2872) rfl ?_
  refine J_aload_n hX dL_law_2872 5 rfl (t := 2873) rfl ?_
  refine J_iload hX dL_law_2873 1 rfl (t := 2875) rfl ?_
  refine J_iconst (v := 1) hX dL_law_2875 (by decide) (t := 2876) rfl ?_
  refine J_iadd hX dL_law_2876 (t := 2877) rfl ?_
  refine J_sld hX hs hb hA.1.1 hA.1.2 dL_law_2877 (t := 2878) rfl ?_
  refine J_callV hX [.int a1] [] [.int q] (ctX13_setWell w1 a1 n hq) miX13_setWell mvX13_setWell cb10 kModel q_2320 ⟨rfl, rfl, Nat.le_of_ble_eq_true rfl, Nat.le_of_ble_eq_true rfl⟩ rfl rfl (Nat.le_of_ble_eq_true rfl) ⟨Nat.le_trans (Nat.add_le_add_left (m := 30) (n := 1) (Nat.le_of_ble_eq_true rfl) cells) hc, Nat.le_trans (Nat.add_le_add_left (m := 3900) (n := 6) (Nat.le_of_ble_eq_true rfl) slots) hs9⟩ dL_law_2878 (t := 2881) rfl rfl ?_
  refine J_istore (lc2 := [(6, .int q), (5, .int k), (4, .int i), (3, .ref (adr G 16 0)), (2, .ref (adr G 15 0)), (1, .ref (adr G 0 0)), (0, .ref b)]) hX dL_law_2881 (Nat.le_of_ble_eq_true rfl) rfl (t := 2883) rfl ?_
  refine J_aload_n hX dL_law_2883 4 rfl (t := 2884) rfl ?_
  refine J_callV hX [] [] [.int (FX13_thrown w2)] (ctX13_thrown w2  rfl) miX13_thrown mvX13_thrown cb10 kModel q_2070 ⟨rfl, rfl, Nat.le_of_ble_eq_true rfl, Nat.le_of_ble_eq_true rfl⟩ rfl rfl (Nat.le_of_ble_eq_true rfl) ⟨Nat.le_trans (Nat.add_le_add_left (m := 30) (n := 1) (Nat.le_of_ble_eq_true rfl) cells) hc, Nat.le_trans (Nat.add_le_add_left (m := 3900) (n := 6) (Nat.le_of_ble_eq_true rfl) slots) hs9⟩ dL_law_2884 (t := 2887) rfl rfl ?_
  refine J_iload hX dL_law_2887 1 rfl (t := 2889) rfl ?_
  refine J_icmp_eq (tgt := 2894) hX dL_law_2889 (by decide) (t := 2892) rfl (fun z => ?_) (fun z => nomatch it_f hF z)
  replace hF := it_t hF z
  refine J_iload hX dL_law_2894 1 rfl (t := 2896) rfl ?_
  refine J_if_ne (tgt := 2911) hX dL_law_2896 (by decide) (t := 2899) rfl (fun z2 => ?_) (fun z2 => ?_)
  · replace hF := Option.some.inj (it_f hF z2)
    subst hF
    refine J_goto (tgt := 3183) hX dL_law_2911 (by decide) ?_
    refine J_sub (lc2 := [(4, .int i), (3, .ref (adr G 16 0)), (2, .ref (adr G 15 0)), (1, .ref (adr G 0 0)), (0, .ref b)]) [2, 3, 4, 5, 6] rfl ?_
    exact J_wid (Nat.add_le_add_left (m := 30) (n := 1) (Nat.le_of_ble_eq_true rfl) cells) (Nat.add_le_add_left (m := 3900) (n := 6) (Nat.le_of_ble_eq_true rfl) slots) (kk d0 hd0)
  · replace hF := it_t hF z2
    refine J_aload_n hX dL_law_2899 3 rfl (t := 2900) rfl ?_
    refine J_iconst (v := 0) hX dL_law_2900 (by decide) (t := 2901) rfl ?_
    refine J_lald (w := w2) (v := (w2 16).2 0 0) hX kOut (by decide) rfl dL_law_2901 (t := 2902) rfl ?_
    refine J_iload hX dL_law_2902 0 rfl (t := 2904) rfl ?_
    refine J_i2l hX dL_law_2904 (t := 2905) rfl ?_
    refine J_lcmp hX dL_law_2905 (t := 2906) rfl ?_
    refine J_if_eq (tgt := 2911) hX dL_law_2906 (by decide) (t := 2909) rfl (fun z3 => ?_) (fun z3 => nomatch it_f hF z3)
    replace hF := Option.some.inj (it_t hF z3)
    subst hF
    refine J_goto (tgt := 3183) hX dL_law_2911 (by decide) ?_
    refine J_sub (lc2 := [(4, .int i), (3, .ref (adr G 16 0)), (2, .ref (adr G 15 0)), (1, .ref (adr G 0 0)), (0, .ref b)]) [2, 3, 4, 5, 6] rfl ?_
    exact J_wid (Nat.add_le_add_left (m := 30) (n := 1) (Nat.le_of_ble_eq_true rfl) cells) (Nat.add_le_add_left (m := 3900) (n := 6) (Nat.le_of_ble_eq_true rfl) slots) (kk d0 hd0)
def FLc_58 (n : Nat) (w : Wd) (a1 a2 a3 a4 a5 : Int32) : Option Wd := bo2 (FL_pass n w a1) fun k w1 => bo2 (FX13_pass n w1 a1) fun q w2 => if FX13_thrown w2 = k then (if k = 0 then (if lg_cmp ((w2 16).2 0 0) q.toInt64 = 0 then some w2 else none) else some w2) else none
set_option maxHeartbeats 4000000 in
theorem cs_58 {G : GG} {p : Program} {l : Launch} {e : Env} {s : State} {m : MethodId} {args : Array Value} {below : List Frame} {meth : Method} {c : Code} {b L : Nat} {xs : Nat → Int32} {Q : State → Prop} {cells slots n : Nat} {i a1 a2 a3 a4 a5 : Int32} {w w9 : Wd} (hW : LW G p l s m args c b L xs) (hA : ARG L xs i a1 a2 a3 a4 a5) (hc : cells + 30 ≤ room_1.cells) (hs9 : slots + 3900 ≤ room_1.slots) (hF : FLc_58 n w a1 a2 a3 a4 a5 = some w9) (kk : LJ G p l e s m args below meth c b Q (cells + 30) (slots + 3900) 3183 i w9) : LJ G p l e s m args below meth c b Q cells slots 2914 i w := by
  intro d0 hd0
  obtain ⟨hX, hNC, hl, hs, hb⟩ := hW.drawn d0
  unfold FLc_58 at hF
  obtain ⟨k, w1, hk, hF⟩ := bo2_e hF
  obtain ⟨q, w2, hq, hF⟩ := bo2_e hF
  refine J_aload_n hX dL_law_2914 3 rfl (t := 2915) rfl ?_
  refine J_aload_n hX dL_law_2915 4 rfl (t := 2916) rfl ?_
  refine J_iload hX dL_law_2916 0 rfl (t := 2918) rfl ?_
  refine J_iconst (v := 1) hX dL_law_2918 (by decide) (t := 2919) rfl ?_
  refine J_iadd hX dL_law_2919 (t := 2920) rfl ?_
  refine J_sld hX hs hb hA.1.1 hA.1.2 dL_law_2920 (t := 2921) rfl ?_
  refine J_aload_n hX dL_law_2921 1 rfl (t := 2922) rfl ?_
  refine J_callSW hX hNC [.ref (adr G 0 0), .int a1, .ref (adr G 16 0)] [] (ctL_pass hl w a1 n hk) miL_pass q_1635 q_1634 ⟨rfl, rfl, Nat.le_of_ble_eq_true rfl, Nat.le_of_ble_eq_true rfl⟩ rfl rfl (Nat.le_of_ble_eq_true rfl) ⟨Nat.le_trans (Nat.add_le_add_left (m := 30) (n := 1) (Nat.le_of_ble_eq_true rfl) cells) hc, Nat.le_trans (Nat.add_le_add_left (m := 3900) (n := 6) (Nat.le_of_ble_eq_true rfl) slots) hs9⟩ dL_law_2922 (t := 2925) rfl (fun v9 => J_pure fun hv9 => ?_)
  subst hv9
  refine J_istore (lc2 := [(5, .int k), (4, .int i), (3, .ref (adr G 16 0)), (2, .ref (adr G 15 0)), (1, .ref (adr G 0 0)), (0, .ref b)]) hX dL_law_2925 (Nat.le_of_ble_eq_true rfl) rfl (t := 2927) rfl ?_
  refine J_aload_n hX dL_law_2927 3 rfl (t := 2928) rfl ?_
  refine J_aload_n hX dL_law_2928 5 rfl (t := 2929) rfl ?_
  refine J_iload hX dL_law_2929 1 rfl (t := 2931) rfl ?_
  refine J_iconst (v := 1) hX dL_law_2931 (by decide) (t := 2932) rfl ?_
  refine J_iadd hX dL_law_2932 (t := 2933) rfl ?_
  refine J_sld hX hs hb hA.1.1 hA.1.2 dL_law_2933 (t := 2934) rfl ?_
  refine J_callV hX [.int a1] [] [.int q] (ctX13_pass w1 a1 n hq) miX13_pass mvX13_pass cb10 kModel q_2327 ⟨rfl, rfl, Nat.le_of_ble_eq_true rfl, Nat.le_of_ble_eq_true rfl⟩ rfl rfl (Nat.le_of_ble_eq_true rfl) ⟨Nat.le_trans (Nat.add_le_add_left (m := 30) (n := 1) (Nat.le_of_ble_eq_true rfl) cells) hc, Nat.le_trans (Nat.add_le_add_left (m := 3900) (n := 6) (Nat.le_of_ble_eq_true rfl) slots) hs9⟩ dL_law_2934 (t := 2937) rfl rfl ?_
  refine J_istore (lc2 := [(6, .int q), (5, .int k), (4, .int i), (3, .ref (adr G 16 0)), (2, .ref (adr G 15 0)), (1, .ref (adr G 0 0)), (0, .ref b)]) hX dL_law_2937 (Nat.le_of_ble_eq_true rfl) rfl (t := 2939) rfl ?_
  refine J_aload_n hX dL_law_2939 4 rfl (t := 2940) rfl ?_
  refine J_callV hX [] [] [.int (FX13_thrown w2)] (ctX13_thrown w2  rfl) miX13_thrown mvX13_thrown cb10 kModel q_2070 ⟨rfl, rfl, Nat.le_of_ble_eq_true rfl, Nat.le_of_ble_eq_true rfl⟩ rfl rfl (Nat.le_of_ble_eq_true rfl) ⟨Nat.le_trans (Nat.add_le_add_left (m := 30) (n := 1) (Nat.le_of_ble_eq_true rfl) cells) hc, Nat.le_trans (Nat.add_le_add_left (m := 3900) (n := 6) (Nat.le_of_ble_eq_true rfl) slots) hs9⟩ dL_law_2940 (t := 2943) rfl rfl ?_
  refine J_iload hX dL_law_2943 1 rfl (t := 2945) rfl ?_
  refine J_icmp_eq (tgt := 2950) hX dL_law_2945 (by decide) (t := 2948) rfl (fun z => ?_) (fun z => nomatch it_f hF z)
  replace hF := it_t hF z
  refine J_iload hX dL_law_2950 1 rfl (t := 2952) rfl ?_
  refine J_if_ne (tgt := 2967) hX dL_law_2952 (by decide) (t := 2955) rfl (fun z2 => ?_) (fun z2 => ?_)
  · replace hF := Option.some.inj (it_f hF z2)
    subst hF
    refine J_goto (tgt := 3183) hX dL_law_2967 (by decide) ?_
    refine J_sub (lc2 := [(4, .int i), (3, .ref (adr G 16 0)), (2, .ref (adr G 15 0)), (1, .ref (adr G 0 0)), (0, .ref b)]) [2, 3, 4, 5, 6] rfl ?_
    exact J_wid (Nat.add_le_add_left (m := 30) (n := 1) (Nat.le_of_ble_eq_true rfl) cells) (Nat.add_le_add_left (m := 3900) (n := 6) (Nat.le_of_ble_eq_true rfl) slots) (kk d0 hd0)
  · replace hF := it_t hF z2
    refine J_aload_n hX dL_law_2955 3 rfl (t := 2956) rfl ?_
    refine J_iconst (v := 0) hX dL_law_2956 (by decide) (t := 2957) rfl ?_
    refine J_lald (w := w2) (v := (w2 16).2 0 0) hX kOut (by decide) rfl dL_law_2957 (t := 2958) rfl ?_
    refine J_iload hX dL_law_2958 0 rfl (t := 2960) rfl ?_
    refine J_i2l hX dL_law_2960 (t := 2961) rfl ?_
    refine J_lcmp hX dL_law_2961 (t := 2962) rfl ?_
    refine J_if_eq (tgt := 2967) hX dL_law_2962 (by decide) (t := 2965) rfl (fun z3 => ?_) (fun z3 => nomatch it_f hF z3)
    replace hF := Option.some.inj (it_t hF z3)
    subst hF
    refine J_goto (tgt := 3183) hX dL_law_2967 (by decide) ?_
    refine J_sub (lc2 := [(4, .int i), (3, .ref (adr G 16 0)), (2, .ref (adr G 15 0)), (1, .ref (adr G 0 0)), (0, .ref b)]) [2, 3, 4, 5, 6] rfl ?_
    exact J_wid (Nat.add_le_add_left (m := 30) (n := 1) (Nat.le_of_ble_eq_true rfl) cells) (Nat.add_le_add_left (m := 3900) (n := 6) (Nat.le_of_ble_eq_true rfl) slots) (kk d0 hd0)
def FLc_59 (n : Nat) (w : Wd) (a1 a2 a3 a4 a5 : Int32) : Option Wd := bo2 (FL_undo n w) fun k w1 => bo2 (FX13_undo n w1) fun q w2 => if FX13_thrown w2 = k then (if k = 0 then (if lg_cmp ((w2 16).2 0 0) q.toInt64 = 0 then some w2 else none) else some w2) else none
set_option maxHeartbeats 4000000 in
theorem cs_59 {G : GG} {p : Program} {l : Launch} {e : Env} {s : State} {m : MethodId} {args : Array Value} {below : List Frame} {meth : Method} {c : Code} {b L : Nat} {xs : Nat → Int32} {Q : State → Prop} {cells slots n : Nat} {i a1 a2 a3 a4 a5 : Int32} {w w9 : Wd} (hW : LW G p l s m args c b L xs) (hA : ARG L xs i a1 a2 a3 a4 a5) (hc : cells + 30 ≤ room_1.cells) (hs9 : slots + 3900 ≤ room_1.slots) (hF : FLc_59 n w a1 a2 a3 a4 a5 = some w9) (kk : LJ G p l e s m args below meth c b Q (cells + 30) (slots + 3900) 3183 i w9) : LJ G p l e s m args below meth c b Q cells slots 2970 i w := by
  intro d0 hd0
  obtain ⟨hX, hNC, hl, hs, hb⟩ := hW.drawn d0
  unfold FLc_59 at hF
  obtain ⟨k, w1, hk, hF⟩ := bo2_e hF
  obtain ⟨q, w2, hq, hF⟩ := bo2_e hF
  refine J_aload_n hX dL_law_2970 3 rfl (t := 2971) rfl ?_
  refine J_aload_n hX dL_law_2971 1 rfl (t := 2972) rfl ?_
  refine J_callSW hX hNC [.ref (adr G 0 0), .ref (adr G 16 0)] [] (ctL_undo hl w  n hk) miL_undo q_1644 q_1643 ⟨rfl, rfl, Nat.le_of_ble_eq_true rfl, Nat.le_of_ble_eq_true rfl⟩ rfl rfl (Nat.le_of_ble_eq_true rfl) ⟨Nat.le_trans (Nat.add_le_add_left (m := 30) (n := 1) (Nat.le_of_ble_eq_true rfl) cells) hc, Nat.le_trans (Nat.add_le_add_left (m := 3900) (n := 6) (Nat.le_of_ble_eq_true rfl) slots) hs9⟩ dL_law_2972 (t := 2975) rfl (fun v9 => J_pure fun hv9 => ?_)
  subst hv9
  refine J_istore (lc2 := [(5, .int k), (4, .int i), (3, .ref (adr G 16 0)), (2, .ref (adr G 15 0)), (1, .ref (adr G 0 0)), (0, .ref b)]) hX dL_law_2975 (Nat.le_of_ble_eq_true rfl) rfl (t := 2977) rfl ?_
  refine J_aload_n hX dL_law_2977 3 rfl (t := 2978) rfl ?_
  refine J_callV hX [] [] [.int q] (ctX13_undo w1  n hq) miX13_undo mvX13_undo cb10 kModel q_2104 ⟨rfl, rfl, Nat.le_of_ble_eq_true rfl, Nat.le_of_ble_eq_true rfl⟩ rfl rfl (Nat.le_of_ble_eq_true rfl) ⟨Nat.le_trans (Nat.add_le_add_left (m := 30) (n := 1) (Nat.le_of_ble_eq_true rfl) cells) hc, Nat.le_trans (Nat.add_le_add_left (m := 3900) (n := 6) (Nat.le_of_ble_eq_true rfl) slots) hs9⟩ dL_law_2978 (t := 2981) rfl rfl ?_
  refine J_istore (lc2 := [(6, .int q), (5, .int k), (4, .int i), (3, .ref (adr G 16 0)), (2, .ref (adr G 15 0)), (1, .ref (adr G 0 0)), (0, .ref b)]) hX dL_law_2981 (Nat.le_of_ble_eq_true rfl) rfl (t := 2983) rfl ?_
  refine J_aload_n hX dL_law_2983 4 rfl (t := 2984) rfl ?_
  refine J_callV hX [] [] [.int (FX13_thrown w2)] (ctX13_thrown w2  rfl) miX13_thrown mvX13_thrown cb10 kModel q_2070 ⟨rfl, rfl, Nat.le_of_ble_eq_true rfl, Nat.le_of_ble_eq_true rfl⟩ rfl rfl (Nat.le_of_ble_eq_true rfl) ⟨Nat.le_trans (Nat.add_le_add_left (m := 30) (n := 1) (Nat.le_of_ble_eq_true rfl) cells) hc, Nat.le_trans (Nat.add_le_add_left (m := 3900) (n := 6) (Nat.le_of_ble_eq_true rfl) slots) hs9⟩ dL_law_2984 (t := 2987) rfl rfl ?_
  refine J_iload hX dL_law_2987 1 rfl (t := 2989) rfl ?_
  refine J_icmp_eq (tgt := 2994) hX dL_law_2989 (by decide) (t := 2992) rfl (fun z => ?_) (fun z => nomatch it_f hF z)
  replace hF := it_t hF z
  refine J_iload hX dL_law_2994 1 rfl (t := 2996) rfl ?_
  refine J_if_ne (tgt := 3011) hX dL_law_2996 (by decide) (t := 2999) rfl (fun z2 => ?_) (fun z2 => ?_)
  · replace hF := Option.some.inj (it_f hF z2)
    subst hF
    refine J_goto (tgt := 3183) hX dL_law_3011 (by decide) ?_
    refine J_sub (lc2 := [(4, .int i), (3, .ref (adr G 16 0)), (2, .ref (adr G 15 0)), (1, .ref (adr G 0 0)), (0, .ref b)]) [2, 3, 4, 5, 6] rfl ?_
    exact J_wid (Nat.add_le_add_left (m := 30) (n := 1) (Nat.le_of_ble_eq_true rfl) cells) (Nat.add_le_add_left (m := 3900) (n := 6) (Nat.le_of_ble_eq_true rfl) slots) (kk d0 hd0)
  · replace hF := it_t hF z2
    refine J_aload_n hX dL_law_2999 3 rfl (t := 3000) rfl ?_
    refine J_iconst (v := 0) hX dL_law_3000 (by decide) (t := 3001) rfl ?_
    refine J_lald (w := w2) (v := (w2 16).2 0 0) hX kOut (by decide) rfl dL_law_3001 (t := 3002) rfl ?_
    refine J_iload hX dL_law_3002 0 rfl (t := 3004) rfl ?_
    refine J_i2l hX dL_law_3004 (t := 3005) rfl ?_
    refine J_lcmp hX dL_law_3005 (t := 3006) rfl ?_
    refine J_if_eq (tgt := 3011) hX dL_law_3006 (by decide) (t := 3009) rfl (fun z3 => ?_) (fun z3 => nomatch it_f hF z3)
    replace hF := Option.some.inj (it_t hF z3)
    subst hF
    refine J_goto (tgt := 3183) hX dL_law_3011 (by decide) ?_
    refine J_sub (lc2 := [(4, .int i), (3, .ref (adr G 16 0)), (2, .ref (adr G 15 0)), (1, .ref (adr G 0 0)), (0, .ref b)]) [2, 3, 4, 5, 6] rfl ?_
    exact J_wid (Nat.add_le_add_left (m := 30) (n := 1) (Nat.le_of_ble_eq_true rfl) cells) (Nat.add_le_add_left (m := 3900) (n := 6) (Nat.le_of_ble_eq_true rfl) slots) (kk d0 hd0)
def FLc_60 (n : Nat) (w : Wd) (a1 a2 a3 a4 a5 : Int32) : Option Wd := bo2 (FL_printReceipt w a1) fun k w1 => bo2 (FX13_printReceipt n w1 a1) fun q w2 => if FX13_thrown w2 = k then (if k = 0 then (if lg_cmp ((w2 16).2 0 0) q.toInt64 = 0 then some w2 else none) else some w2) else none
set_option maxHeartbeats 4000000 in
theorem cs_60 {G : GG} {p : Program} {l : Launch} {e : Env} {s : State} {m : MethodId} {args : Array Value} {below : List Frame} {meth : Method} {c : Code} {b L : Nat} {xs : Nat → Int32} {Q : State → Prop} {cells slots n : Nat} {i a1 a2 a3 a4 a5 : Int32} {w w9 : Wd} (hW : LW G p l s m args c b L xs) (hA : ARG L xs i a1 a2 a3 a4 a5) (hc : cells + 30 ≤ room_1.cells) (hs9 : slots + 3900 ≤ room_1.slots) (hF : FLc_60 n w a1 a2 a3 a4 a5 = some w9) (kk : LJ G p l e s m args below meth c b Q (cells + 30) (slots + 3900) 3183 i w9) : LJ G p l e s m args below meth c b Q cells slots 3014 i w := by
  intro d0 hd0
  obtain ⟨hX, hNC, hl, hs, hb⟩ := hW.drawn d0
  unfold FLc_60 at hF
  obtain ⟨k, w1, hk, hF⟩ := bo2_e hF
  obtain ⟨q, w2, hq, hF⟩ := bo2_e hF
  refine J_aload_n hX dL_law_3014 3 rfl (t := 3015) rfl ?_
  refine J_aload_n hX dL_law_3015 4 rfl (t := 3016) rfl ?_
  refine J_iload hX dL_law_3016 0 rfl (t := 3018) rfl ?_
  refine J_iconst (v := 1) hX dL_law_3018 (by decide) (t := 3019) rfl ?_
  refine J_iadd hX dL_law_3019 (t := 3020) rfl ?_
  refine J_sld hX hs hb hA.1.1 hA.1.2 dL_law_3020 (t := 3021) rfl ?_
  refine J_aload_n hX dL_law_3021 1 rfl (t := 3022) rfl ?_
  refine J_callSW hX hNC [.ref (adr G 0 0), .int a1, .ref (adr G 16 0)] [] (ctL_printReceipt hl w a1 hk) miL_printReceipt q_1655 q_1654 ⟨rfl, rfl, Nat.le_of_ble_eq_true rfl, Nat.le_of_ble_eq_true rfl⟩ rfl rfl (Nat.le_of_ble_eq_true rfl) ⟨Nat.le_trans (Nat.add_le_add_left (m := 30) (n := 30) (Nat.le_of_ble_eq_true rfl) cells) hc, Nat.le_trans (Nat.add_le_add_left (m := 3900) (n := 3900) (Nat.le_of_ble_eq_true rfl) slots) hs9⟩ dL_law_3022 (t := 3025) rfl (fun v9 => J_pure fun hv9 => ?_)
  subst hv9
  refine J_istore (lc2 := [(5, .int k), (4, .int i), (3, .ref (adr G 16 0)), (2, .ref (adr G 15 0)), (1, .ref (adr G 0 0)), (0, .ref b)]) hX dL_law_3025 (Nat.le_of_ble_eq_true rfl) rfl (t := 3027) rfl ?_
  refine J_aload_n hX dL_law_3027 3 rfl (t := 3028) rfl ?_
  refine J_aload_n hX dL_law_3028 5 rfl (t := 3029) rfl ?_
  refine J_iload hX dL_law_3029 1 rfl (t := 3031) rfl ?_
  refine J_iconst (v := 1) hX dL_law_3031 (by decide) (t := 3032) rfl ?_
  refine J_iadd hX dL_law_3032 (t := 3033) rfl ?_
  refine J_sld hX hs hb hA.1.1 hA.1.2 dL_law_3033 (t := 3034) rfl ?_
  refine J_callV hX [.int a1] [] [.int q] (ctX13_printReceipt w1 a1 n hq) miX13_printReceipt mvX13_printReceipt cb10 kModel q_2797 ⟨rfl, rfl, Nat.le_of_ble_eq_true rfl, Nat.le_of_ble_eq_true rfl⟩ rfl rfl (Nat.le_of_ble_eq_true rfl) ⟨Nat.le_trans (Nat.add_le_add_left (m := 30) (n := 30) (Nat.le_of_ble_eq_true rfl) cells) hc, Nat.le_trans (Nat.add_le_add_left (m := 3900) (n := 3900) (Nat.le_of_ble_eq_true rfl) slots) hs9⟩ dL_law_3034 (t := 3037) rfl rfl ?_
  refine J_istore (lc2 := [(6, .int q), (5, .int k), (4, .int i), (3, .ref (adr G 16 0)), (2, .ref (adr G 15 0)), (1, .ref (adr G 0 0)), (0, .ref b)]) hX dL_law_3037 (Nat.le_of_ble_eq_true rfl) rfl (t := 3039) rfl ?_
  refine J_aload_n hX dL_law_3039 4 rfl (t := 3040) rfl ?_
  refine J_callV hX [] [] [.int (FX13_thrown w2)] (ctX13_thrown w2  rfl) miX13_thrown mvX13_thrown cb10 kModel q_2070 ⟨rfl, rfl, Nat.le_of_ble_eq_true rfl, Nat.le_of_ble_eq_true rfl⟩ rfl rfl (Nat.le_of_ble_eq_true rfl) ⟨Nat.le_trans (Nat.add_le_add_left (m := 30) (n := 30) (Nat.le_of_ble_eq_true rfl) cells) hc, Nat.le_trans (Nat.add_le_add_left (m := 3900) (n := 3900) (Nat.le_of_ble_eq_true rfl) slots) hs9⟩ dL_law_3040 (t := 3043) rfl rfl ?_
  refine J_iload hX dL_law_3043 1 rfl (t := 3045) rfl ?_
  refine J_icmp_eq (tgt := 3050) hX dL_law_3045 (by decide) (t := 3048) rfl (fun z => ?_) (fun z => nomatch it_f hF z)
  replace hF := it_t hF z
  refine J_iload hX dL_law_3050 1 rfl (t := 3052) rfl ?_
  refine J_if_ne (tgt := 3067) hX dL_law_3052 (by decide) (t := 3055) rfl (fun z2 => ?_) (fun z2 => ?_)
  · replace hF := Option.some.inj (it_f hF z2)
    subst hF
    refine J_goto (tgt := 3183) hX dL_law_3067 (by decide) ?_
    refine J_sub (lc2 := [(4, .int i), (3, .ref (adr G 16 0)), (2, .ref (adr G 15 0)), (1, .ref (adr G 0 0)), (0, .ref b)]) [2, 3, 4, 5, 6] rfl ?_
    exact J_wid (Nat.add_le_add_left (m := 30) (n := 30) (Nat.le_of_ble_eq_true rfl) cells) (Nat.add_le_add_left (m := 3900) (n := 3900) (Nat.le_of_ble_eq_true rfl) slots) (kk d0 hd0)
  · replace hF := it_t hF z2
    refine J_aload_n hX dL_law_3055 3 rfl (t := 3056) rfl ?_
    refine J_iconst (v := 0) hX dL_law_3056 (by decide) (t := 3057) rfl ?_
    refine J_lald (w := w2) (v := (w2 16).2 0 0) hX kOut (by decide) rfl dL_law_3057 (t := 3058) rfl ?_
    refine J_iload hX dL_law_3058 0 rfl (t := 3060) rfl ?_
    refine J_i2l hX dL_law_3060 (t := 3061) rfl ?_
    refine J_lcmp hX dL_law_3061 (t := 3062) rfl ?_
    refine J_if_eq (tgt := 3067) hX dL_law_3062 (by decide) (t := 3065) rfl (fun z3 => ?_) (fun z3 => nomatch it_f hF z3)
    replace hF := Option.some.inj (it_t hF z3)
    subst hF
    refine J_goto (tgt := 3183) hX dL_law_3067 (by decide) ?_
    refine J_sub (lc2 := [(4, .int i), (3, .ref (adr G 16 0)), (2, .ref (adr G 15 0)), (1, .ref (adr G 0 0)), (0, .ref b)]) [2, 3, 4, 5, 6] rfl ?_
    exact J_wid (Nat.add_le_add_left (m := 30) (n := 30) (Nat.le_of_ble_eq_true rfl) cells) (Nat.add_le_add_left (m := 3900) (n := 3900) (Nat.le_of_ble_eq_true rfl) slots) (kk d0 hd0)
def FLc_61 (n : Nat) (w : Wd) (a1 a2 a3 a4 a5 : Int32) : Option Wd := bo2 (FL_outputByte w a1) fun k w1 => bo2 (FX13_outputByte w1 a1) fun q w2 => if FX13_thrown w2 = k then (if k = 0 then (if lg_cmp ((w2 16).2 0 0) q.toInt64 = 0 then some w2 else none) else some w2) else none
set_option maxHeartbeats 4000000 in
theorem cs_61 {G : GG} {p : Program} {l : Launch} {e : Env} {s : State} {m : MethodId} {args : Array Value} {below : List Frame} {meth : Method} {c : Code} {b L : Nat} {xs : Nat → Int32} {Q : State → Prop} {cells slots n : Nat} {i a1 a2 a3 a4 a5 : Int32} {w w9 : Wd} (hW : LW G p l s m args c b L xs) (hA : ARG L xs i a1 a2 a3 a4 a5) (hc : cells + 30 ≤ room_1.cells) (hs9 : slots + 3900 ≤ room_1.slots) (hF : FLc_61 n w a1 a2 a3 a4 a5 = some w9) (kk : LJ G p l e s m args below meth c b Q (cells + 30) (slots + 3900) 3183 i w9) : LJ G p l e s m args below meth c b Q cells slots 3070 i w := by
  intro d0 hd0
  obtain ⟨hX, hNC, hl, hs, hb⟩ := hW.drawn d0
  unfold FLc_61 at hF
  obtain ⟨k, w1, hk, hF⟩ := bo2_e hF
  obtain ⟨q, w2, hq, hF⟩ := bo2_e hF
  refine J_aload_n hX dL_law_3070 3 rfl (t := 3071) rfl ?_
  refine J_aload_n hX dL_law_3071 4 rfl (t := 3072) rfl ?_
  refine J_iload hX dL_law_3072 0 rfl (t := 3074) rfl ?_
  refine J_iconst (v := 1) hX dL_law_3074 (by decide) (t := 3075) rfl ?_
  refine J_iadd hX dL_law_3075 (t := 3076) rfl ?_
  refine J_sld hX hs hb hA.1.1 hA.1.2 dL_law_3076 (t := 3077) rfl ?_
  refine J_aload_n hX dL_law_3077 1 rfl (t := 3078) rfl ?_
  refine J_callSW hX hNC [.ref (adr G 0 0), .int a1, .ref (adr G 16 0)] [] (ctL_outputByte hl w a1 hk) miL_outputByte q_1934 q_1933 ⟨rfl, rfl, Nat.le_of_ble_eq_true rfl, Nat.le_of_ble_eq_true rfl⟩ rfl rfl (Nat.le_of_ble_eq_true rfl) ⟨Nat.le_trans (Nat.add_le_add_left (m := 30) (n := 1) (Nat.le_of_ble_eq_true rfl) cells) hc, Nat.le_trans (Nat.add_le_add_left (m := 3900) (n := 6) (Nat.le_of_ble_eq_true rfl) slots) hs9⟩ dL_law_3078 (t := 3081) rfl (fun v9 => J_pure fun hv9 => ?_)
  subst hv9
  refine J_istore (lc2 := [(5, .int k), (4, .int i), (3, .ref (adr G 16 0)), (2, .ref (adr G 15 0)), (1, .ref (adr G 0 0)), (0, .ref b)]) hX dL_law_3081 (Nat.le_of_ble_eq_true rfl) rfl (t := 3083) rfl ?_
  refine J_aload_n hX dL_law_3083 3 rfl (t := 3084) rfl ?_
  refine J_aload_n hX dL_law_3084 5 rfl (t := 3085) rfl ?_
  refine J_iload hX dL_law_3085 1 rfl (t := 3087) rfl ?_
  refine J_iconst (v := 1) hX dL_law_3087 (by decide) (t := 3088) rfl ?_
  refine J_iadd hX dL_law_3088 (t := 3089) rfl ?_
  refine J_sld hX hs hb hA.1.1 hA.1.2 dL_law_3089 (t := 3090) rfl ?_
  refine J_callV hX [.int a1] [] [.int q] (ctX13_outputByte w1 a1 hq) miX13_outputByte mvX13_outputByte cb10 kModel q_2824 ⟨rfl, rfl, Nat.le_of_ble_eq_true rfl, Nat.le_of_ble_eq_true rfl⟩ rfl rfl (Nat.le_of_ble_eq_true rfl) ⟨Nat.le_trans (Nat.add_le_add_left (m := 30) (n := 1) (Nat.le_of_ble_eq_true rfl) cells) hc, Nat.le_trans (Nat.add_le_add_left (m := 3900) (n := 6) (Nat.le_of_ble_eq_true rfl) slots) hs9⟩ dL_law_3090 (t := 3093) rfl rfl ?_
  refine J_istore (lc2 := [(6, .int q), (5, .int k), (4, .int i), (3, .ref (adr G 16 0)), (2, .ref (adr G 15 0)), (1, .ref (adr G 0 0)), (0, .ref b)]) hX dL_law_3093 (Nat.le_of_ble_eq_true rfl) rfl (t := 3095) rfl ?_
  refine J_aload_n hX dL_law_3095 4 rfl (t := 3096) rfl ?_
  refine J_callV hX [] [] [.int (FX13_thrown w2)] (ctX13_thrown w2  rfl) miX13_thrown mvX13_thrown cb10 kModel q_2070 ⟨rfl, rfl, Nat.le_of_ble_eq_true rfl, Nat.le_of_ble_eq_true rfl⟩ rfl rfl (Nat.le_of_ble_eq_true rfl) ⟨Nat.le_trans (Nat.add_le_add_left (m := 30) (n := 1) (Nat.le_of_ble_eq_true rfl) cells) hc, Nat.le_trans (Nat.add_le_add_left (m := 3900) (n := 6) (Nat.le_of_ble_eq_true rfl) slots) hs9⟩ dL_law_3096 (t := 3099) rfl rfl ?_
  refine J_iload hX dL_law_3099 1 rfl (t := 3101) rfl ?_
  refine J_icmp_eq (tgt := 3106) hX dL_law_3101 (by decide) (t := 3104) rfl (fun z => ?_) (fun z => nomatch it_f hF z)
  replace hF := it_t hF z
  refine J_iload hX dL_law_3106 1 rfl (t := 3108) rfl ?_
  refine J_if_ne (tgt := 3123) hX dL_law_3108 (by decide) (t := 3111) rfl (fun z2 => ?_) (fun z2 => ?_)
  · replace hF := Option.some.inj (it_f hF z2)
    subst hF
    refine J_goto (tgt := 3183) hX dL_law_3123 (by decide) ?_
    refine J_sub (lc2 := [(4, .int i), (3, .ref (adr G 16 0)), (2, .ref (adr G 15 0)), (1, .ref (adr G 0 0)), (0, .ref b)]) [2, 3, 4, 5, 6] rfl ?_
    exact J_wid (Nat.add_le_add_left (m := 30) (n := 1) (Nat.le_of_ble_eq_true rfl) cells) (Nat.add_le_add_left (m := 3900) (n := 6) (Nat.le_of_ble_eq_true rfl) slots) (kk d0 hd0)
  · replace hF := it_t hF z2
    refine J_aload_n hX dL_law_3111 3 rfl (t := 3112) rfl ?_
    refine J_iconst (v := 0) hX dL_law_3112 (by decide) (t := 3113) rfl ?_
    refine J_lald (w := w2) (v := (w2 16).2 0 0) hX kOut (by decide) rfl dL_law_3113 (t := 3114) rfl ?_
    refine J_iload hX dL_law_3114 0 rfl (t := 3116) rfl ?_
    refine J_i2l hX dL_law_3116 (t := 3117) rfl ?_
    refine J_lcmp hX dL_law_3117 (t := 3118) rfl ?_
    refine J_if_eq (tgt := 3123) hX dL_law_3118 (by decide) (t := 3121) rfl (fun z3 => ?_) (fun z3 => nomatch it_f hF z3)
    replace hF := Option.some.inj (it_t hF z3)
    subst hF
    refine J_goto (tgt := 3183) hX dL_law_3123 (by decide) ?_
    refine J_sub (lc2 := [(4, .int i), (3, .ref (adr G 16 0)), (2, .ref (adr G 15 0)), (1, .ref (adr G 0 0)), (0, .ref b)]) [2, 3, 4, 5, 6] rfl ?_
    exact J_wid (Nat.add_le_add_left (m := 30) (n := 1) (Nat.le_of_ble_eq_true rfl) cells) (Nat.add_le_add_left (m := 3900) (n := 6) (Nat.le_of_ble_eq_true rfl) slots) (kk d0 hd0)
def FLc_62 (n : Nat) (w : Wd) (a1 a2 a3 a4 a5 : Int32) : Option Wd := bo2 (FX12_saveState n w) fun k w1 => bo2 (FX13_saveState n w1) fun q w2 => if k = q then some w2 else none
set_option maxHeartbeats 4000000 in
theorem cs_62 {G : GG} {p : Program} {l : Launch} {e : Env} {s : State} {m : MethodId} {args : Array Value} {below : List Frame} {meth : Method} {c : Code} {b L : Nat} {xs : Nat → Int32} {Q : State → Prop} {cells slots n : Nat} {i a1 a2 a3 a4 a5 : Int32} {w w9 : Wd} (hW : LW G p l s m args c b L xs) (hA : ARG L xs i a1 a2 a3 a4 a5) (hc : cells + 30 ≤ room_1.cells) (hs9 : slots + 3900 ≤ room_1.slots) (hF : FLc_62 n w a1 a2 a3 a4 a5 = some w9) (kk : LJ G p l e s m args below meth c b Q (cells + 30) (slots + 3900) 3183 i w9) : LJ G p l e s m args below meth c b Q cells slots 3126 i w := by
  intro d0 hd0
  obtain ⟨hX, hNC, hl, hs, hb⟩ := hW.drawn d0
  unfold FLc_62 at hF
  obtain ⟨k, w1, hk, hF⟩ := bo2_e hF
  obtain ⟨q, w2, hq, hF⟩ := bo2_e hF
  refine J_aload_n hX dL_law_3126 3 rfl (t := 3127) rfl ?_
  refine J_callV hX [] [] [.int k] (ctX12_saveState w  n hk) miX12_saveState mvX12_saveState cb9 kEcho q_761 ⟨rfl, rfl, Nat.le_of_ble_eq_true rfl, Nat.le_of_ble_eq_true rfl⟩ rfl rfl (Nat.le_of_ble_eq_true rfl) ⟨Nat.le_trans (Nat.add_le_add_left (m := 30) (n := 0) (Nat.le_of_ble_eq_true rfl) cells) hc, Nat.le_trans (Nat.add_le_add_left (m := 3900) (n := 0) (Nat.le_of_ble_eq_true rfl) slots) hs9⟩ dL_law_3127 (t := 3130) rfl rfl ?_
  refine J_aload_n hX dL_law_3130 2 rfl (t := 3131) rfl ?_
  refine J_callV hX [] [.int k] [.int q, .int k] (ctX13_saveState w1  n hq) miX13_saveState mvX13_saveState cb10 kModel q_2111 ⟨rfl, rfl, Nat.le_of_ble_eq_true rfl, Nat.le_of_ble_eq_true rfl⟩ rfl rfl (Nat.le_of_ble_eq_true rfl) ⟨Nat.le_trans (Nat.add_le_add_left (m := 30) (n := 0) (Nat.le_of_ble_eq_true rfl) cells) hc, Nat.le_trans (Nat.add_le_add_left (m := 3900) (n := 0) (Nat.le_of_ble_eq_true rfl) slots) hs9⟩ dL_law_3131 (t := 3134) rfl rfl ?_
  refine J_icmp_eq (tgt := 3183) hX dL_law_3134 (by decide) (t := 3137) rfl (fun z => ?_) (fun z => nomatch it_f hF z)
  replace hF := Option.some.inj (it_t hF z)
  subst hF
  exact J_wid (Nat.le_add_right cells 30) (Nat.le_add_right slots 3900) (kk d0 hd0)
def FLc_63 (n : Nat) (w : Wd) (a1 a2 a3 a4 a5 : Int32) : Option Wd := bo2 (FL_restoreState n w) fun k w1 => bo2 (FX13_restoreState n w1) fun q w2 => if FX13_thrown w2 = k then (if k = 0 then (if lg_cmp ((w2 16).2 0 0) q.toInt64 = 0 then some w2 else none) else some w2) else none
set_option maxHeartbeats 4000000 in
theorem cs_63 {G : GG} {p : Program} {l : Launch} {e : Env} {s : State} {m : MethodId} {args : Array Value} {below : List Frame} {meth : Method} {c : Code} {b L : Nat} {xs : Nat → Int32} {Q : State → Prop} {cells slots n : Nat} {i a1 a2 a3 a4 a5 : Int32} {w w9 : Wd} (hW : LW G p l s m args c b L xs) (hA : ARG L xs i a1 a2 a3 a4 a5) (hc : cells + 30 ≤ room_1.cells) (hs9 : slots + 3900 ≤ room_1.slots) (hF : FLc_63 n w a1 a2 a3 a4 a5 = some w9) (kk : LJ G p l e s m args below meth c b Q (cells + 30) (slots + 3900) 3183 i w9) : LJ G p l e s m args below meth c b Q cells slots 3139 i w := by
  intro d0 hd0
  obtain ⟨hX, hNC, hl, hs, hb⟩ := hW.drawn d0
  unfold FLc_63 at hF
  obtain ⟨k, w1, hk, hF⟩ := bo2_e hF
  obtain ⟨q, w2, hq, hF⟩ := bo2_e hF
  refine J_aload_n hX dL_law_3139 3 rfl (t := 3140) rfl ?_
  refine J_aload_n hX dL_law_3140 1 rfl (t := 3141) rfl ?_
  refine J_callSW hX hNC [.ref (adr G 0 0), .ref (adr G 16 0)] [] (ctL_restoreState hl w  n hk) miL_restoreState q_1951 q_1950 ⟨rfl, rfl, Nat.le_of_ble_eq_true rfl, Nat.le_of_ble_eq_true rfl⟩ rfl rfl (Nat.le_of_ble_eq_true rfl) ⟨Nat.le_trans (Nat.add_le_add_left (m := 30) (n := 1) (Nat.le_of_ble_eq_true rfl) cells) hc, Nat.le_trans (Nat.add_le_add_left (m := 3900) (n := 6) (Nat.le_of_ble_eq_true rfl) slots) hs9⟩ dL_law_3141 (t := 3144) rfl (fun v9 => J_pure fun hv9 => ?_)
  subst hv9
  refine J_istore (lc2 := [(5, .int k), (4, .int i), (3, .ref (adr G 16 0)), (2, .ref (adr G 15 0)), (1, .ref (adr G 0 0)), (0, .ref b)]) hX dL_law_3144 (Nat.le_of_ble_eq_true rfl) rfl (t := 3146) rfl ?_
  refine J_aload_n hX dL_law_3146 3 rfl (t := 3147) rfl ?_
  refine J_callV hX [] [] [.int q] (ctX13_restoreState w1  n hq) miX13_restoreState mvX13_restoreState cb10 kModel q_2115 ⟨rfl, rfl, Nat.le_of_ble_eq_true rfl, Nat.le_of_ble_eq_true rfl⟩ rfl rfl (Nat.le_of_ble_eq_true rfl) ⟨Nat.le_trans (Nat.add_le_add_left (m := 30) (n := 1) (Nat.le_of_ble_eq_true rfl) cells) hc, Nat.le_trans (Nat.add_le_add_left (m := 3900) (n := 6) (Nat.le_of_ble_eq_true rfl) slots) hs9⟩ dL_law_3147 (t := 3150) rfl rfl ?_
  refine J_istore (lc2 := [(6, .int q), (5, .int k), (4, .int i), (3, .ref (adr G 16 0)), (2, .ref (adr G 15 0)), (1, .ref (adr G 0 0)), (0, .ref b)]) hX dL_law_3150 (Nat.le_of_ble_eq_true rfl) rfl (t := 3152) rfl ?_
  refine J_aload_n hX dL_law_3152 4 rfl (t := 3153) rfl ?_
  refine J_callV hX [] [] [.int (FX13_thrown w2)] (ctX13_thrown w2  rfl) miX13_thrown mvX13_thrown cb10 kModel q_2070 ⟨rfl, rfl, Nat.le_of_ble_eq_true rfl, Nat.le_of_ble_eq_true rfl⟩ rfl rfl (Nat.le_of_ble_eq_true rfl) ⟨Nat.le_trans (Nat.add_le_add_left (m := 30) (n := 1) (Nat.le_of_ble_eq_true rfl) cells) hc, Nat.le_trans (Nat.add_le_add_left (m := 3900) (n := 6) (Nat.le_of_ble_eq_true rfl) slots) hs9⟩ dL_law_3153 (t := 3156) rfl rfl ?_
  refine J_iload hX dL_law_3156 1 rfl (t := 3158) rfl ?_
  refine J_icmp_eq (tgt := 3163) hX dL_law_3158 (by decide) (t := 3161) rfl (fun z => ?_) (fun z => nomatch it_f hF z)
  replace hF := it_t hF z
  refine J_iload hX dL_law_3163 1 rfl (t := 3165) rfl ?_
  refine J_if_ne (tgt := 3180) hX dL_law_3165 (by decide) (t := 3168) rfl (fun z2 => ?_) (fun z2 => ?_)
  · replace hF := Option.some.inj (it_f hF z2)
    subst hF
    refine J_goto (tgt := 3183) hX dL_law_3180 (by decide) ?_
    refine J_sub (lc2 := [(4, .int i), (3, .ref (adr G 16 0)), (2, .ref (adr G 15 0)), (1, .ref (adr G 0 0)), (0, .ref b)]) [2, 3, 4, 5, 6] rfl ?_
    exact J_wid (Nat.add_le_add_left (m := 30) (n := 1) (Nat.le_of_ble_eq_true rfl) cells) (Nat.add_le_add_left (m := 3900) (n := 6) (Nat.le_of_ble_eq_true rfl) slots) (kk d0 hd0)
  · replace hF := it_t hF z2
    refine J_aload_n hX dL_law_3168 3 rfl (t := 3169) rfl ?_
    refine J_iconst (v := 0) hX dL_law_3169 (by decide) (t := 3170) rfl ?_
    refine J_lald (w := w2) (v := (w2 16).2 0 0) hX kOut (by decide) rfl dL_law_3170 (t := 3171) rfl ?_
    refine J_iload hX dL_law_3171 0 rfl (t := 3173) rfl ?_
    refine J_i2l hX dL_law_3173 (t := 3174) rfl ?_
    refine J_lcmp hX dL_law_3174 (t := 3175) rfl ?_
    refine J_if_eq (tgt := 3180) hX dL_law_3175 (by decide) (t := 3178) rfl (fun z3 => ?_) (fun z3 => nomatch it_f hF z3)
    replace hF := Option.some.inj (it_t hF z3)
    subst hF
    refine J_goto (tgt := 3183) hX dL_law_3180 (by decide) ?_
    refine J_sub (lc2 := [(4, .int i), (3, .ref (adr G 16 0)), (2, .ref (adr G 15 0)), (1, .ref (adr G 0 0)), (0, .ref b)]) [2, 3, 4, 5, 6] rfl ?_
    exact J_wid (Nat.add_le_add_left (m := 30) (n := 1) (Nat.le_of_ble_eq_true rfl) cells) (Nat.add_le_add_left (m := 3900) (n := 6) (Nat.le_of_ble_eq_true rfl) slots) (kk d0 hd0)
