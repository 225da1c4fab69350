theorem dL_law_23 : decode cL_law 23 = .ok (.iload 4, 2) := by decide +kernel
theorem dL_law_25 : decode cL_law 25 = .ok (.aload_n 0, 1) := by decide +kernel
theorem dL_law_26 : decode cL_law 26 = .ok (.arraylength, 1) := by decide +kernel
theorem dL_law_27 : decode cL_law 27 = .ok (.bipush 6, 2) := by decide +kernel
theorem dL_law_29 : decode cL_law 29 = .ok (.isub, 1) := by decide +kernel
theorem dL_law_30 : decode cL_law 30 = .ok (.if_icmp .gt 1840, 3) := by decide +kernel
theorem dL_law_33 : decode cL_law 33 = .ok (.aload_n 0, 1) := by decide +kernel
theorem dL_law_34 : decode cL_law 34 = .ok (.iload 4, 2) := by decide +kernel
theorem dL_law_36 : decode cL_law 36 = .ok (.iaload, 1) := by decide +kernel
theorem dL_law_37 : decode cL_law 37 = .ok (.bipush 63, 2) := by decide +kernel
theorem dL_law_39 : decode cL_law 39 = .ok (.iand, 1) := by decide +kernel
theorem dL_law_40 : decode cL_law 40 = .ok (.tableswitch 1824 0 47 #[208, 233, 270, 319, 356, 393, 466, 491, 528, 565, 614, 651, 688, 725, 762, 799, 824, 849, 874, 899, 912, 937, 962, 999, 1037, 1063, 1100, 1125, 1150, 1163, 1176, 1201, 1238, 1251, 1276, 1313, 1338, 1375, 1424, 1437, 1450, 1475, 1536, 1585, 1634, 1701, 1774, 1799], 208) := by decide +kernel
theorem dL_law_1674 : decode cL_law 1674 = .ok (.aload_n 1, 1) := by decide +kernel
theorem dL_law_1675 : decode cL_law 1675 = .ok (.aload_n 0, 1) := by decide +kernel
theorem dL_law_1676 : decode cL_law 1676 = .ok (.iload 4, 2) := by decide +kernel
theorem dL_law_1678 : decode cL_law 1678 = .ok (.iconst 1, 1) := by decide +kernel
theorem dL_law_1679 : decode cL_law 1679 = .ok (.iadd, 1) := by decide +kernel
theorem dL_law_1680 : decode cL_law 1680 = .ok (.iaload, 1) := by decide +kernel
theorem dL_law_1681 : decode cL_law 1681 = .ok (.aload_n 0, 1) := by decide +kernel
theorem dL_law_1682 : decode cL_law 1682 = .ok (.iload 4, 2) := by decide +kernel
theorem dL_law_1684 : decode cL_law 1684 = .ok (.iconst 2, 1) := by decide +kernel
theorem dL_law_1685 : decode cL_law 1685 = .ok (.iadd, 1) := by decide +kernel
theorem dL_law_1686 : decode cL_law 1686 = .ok (.iaload, 1) := by decide +kernel
theorem dL_law_1687 : decode cL_law 1687 = .ok (.aload_n 3, 1) := by decide +kernel
theorem dL_law_1688 : decode cL_law 1688 = .ok (.invokestatic 204, 3) := by decide +kernel
theorem dL_law_1691 : decode cL_law 1691 = .ok (.istore 5, 2) := by decide +kernel
theorem dL_law_1693 : decode cL_law 1693 = .ok (.aload_n 2, 1) := by decide +kernel
theorem dL_law_1694 : decode cL_law 1694 = .ok (.aload_n 0, 1) := by decide +kernel
theorem dL_law_1695 : decode cL_law 1695 = .ok (.iload 4, 2) := by decide +kernel
theorem dL_law_1697 : decode cL_law 1697 = .ok (.iconst 1, 1) := by decide +kernel
theorem dL_law_1698 : decode cL_law 1698 = .ok (.iadd, 1) := by decide +kernel
theorem dL_law_1699 : decode cL_law 1699 = .ok (.iaload, 1) := by decide +kernel
theorem dL_law_1700 : decode cL_law 1700 = .ok (.aload_n 0, 1) := by decide +kernel
theorem dL_law_1701 : decode cL_law 1701 = .ok (.iload 4, 2) := by decide +kernel
theorem dL_law_1703 : decode cL_law 1703 = .ok (.iconst 2, 1) := by decide +kernel
theorem dL_law_1704 : decode cL_law 1704 = .ok (.iadd, 1) := by decide +kernel
theorem dL_law_1705 : decode cL_law 1705 = .ok (.iaload, 1) := by decide +kernel
theorem dL_law_1706 : decode cL_law 1706 = .ok (.invokevirtual 209, 3) := by decide +kernel
theorem dL_law_1709 : decode cL_law 1709 = .ok (.lstore 6, 2) := by decide +kernel
theorem dL_law_1711 : decode cL_law 1711 = .ok (.aload_n 2, 1) := by decide +kernel
theorem dL_law_1712 : decode cL_law 1712 = .ok (.invokevirtual 210, 3) := by decide +kernel
theorem dL_law_1715 : decode cL_law 1715 = .ok (.iload 5, 2) := by decide +kernel
theorem dL_law_1717 : decode cL_law 1717 = .ok (.if_icmp .eq 5, 3) := by decide +kernel
theorem dL_law_1722 : decode cL_law 1722 = .ok (.iload 5, 2) := by decide +kernel
theorem dL_law_1724 : decode cL_law 1724 = .ok (.ifCond .ne 14, 3) := by decide +kernel
theorem dL_law_1727 : decode cL_law 1727 = .ok (.aload_n 3, 1) := by decide +kernel
theorem dL_law_1728 : decode cL_law 1728 = .ok (.iconst 0, 1) := by decide +kernel
theorem dL_law_1729 : decode cL_law 1729 = .ok (.laload, 1) := by decide +kernel
theorem dL_law_1730 : decode cL_law 1730 = .ok (.lload 6, 2) := by decide +kernel
theorem dL_law_1732 : decode cL_law 1732 = .ok (.lcmp, 1) := by decide +kernel
theorem dL_law_1733 : decode cL_law 1733 = .ok (.ifCond .eq 5, 3) := by decide +kernel
theorem dL_law_1738 : decode cL_law 1738 = .ok (.goto 126, 3) := by decide +kernel
theorem dL_law_1741 : decode cL_law 1741 = .ok (.aload_n 1, 1) := by decide +kernel
theorem dL_law_1742 : decode cL_law 1742 = .ok (.aload_n 0, 1) := by decide +kernel
theorem dL_law_1743 : decode cL_law 1743 = .ok (.iload 4, 2) := by decide +kernel
theorem dL_law_1745 : decode cL_law 1745 = .ok (.iconst 1, 1) := by decide +kernel
theorem dL_law_1746 : decode cL_law 1746 = .ok (.iadd, 1) := by decide +kernel
theorem dL_law_1747 : decode cL_law 1747 = .ok (.iaload, 1) := by decide +kernel
theorem dL_law_1748 : decode cL_law 1748 = .ok (.aload_n 0, 1) := by decide +kernel
theorem dL_law_1749 : decode cL_law 1749 = .ok (.iload 4, 2) := by decide +kernel
theorem dL_law_1751 : decode cL_law 1751 = .ok (.iconst 2, 1) := by decide +kernel
theorem dL_law_1752 : decode cL_law 1752 = .ok (.iadd, 1) := by decide +kernel
theorem dL_law_1753 : decode cL_law 1753 = .ok (.iaload, 1) := by decide +kernel
theorem dL_law_1754 : decode cL_law 1754 = .ok (.aload_n 0, 1) := by decide +kernel
theorem dL_law_1755 : decode cL_law 1755 = .ok (.iload 4, 2) := by decide +kernel
theorem dL_law_1757 : decode cL_law 1757 = .ok (.iconst 3, 1) := by decide +kernel
theorem dL_law_1758 : decode cL_law 1758 = .ok (.iadd, 1) := by decide +kernel
theorem dL_law_1759 : decode cL_law 1759 = .ok (.iaload, 1) := by decide +kernel
theorem dL_law_1760 : decode cL_law 1760 = .ok (.aload_n 0, 1) := by decide +kernel
theorem dL_law_1761 : decode cL_law 1761 = .ok (.iload 4, 2) := by decide +kernel
theorem dL_law_1763 : decode cL_law 1763 = .ok (.iconst 4, 1) := by decide +kernel
theorem dL_law_1764 : decode cL_law 1764 = .ok (.iadd, 1) := by decide +kernel
theorem dL_law_1765 : decode cL_law 1765 = .ok (.iaload, 1) := by decide +kernel
theorem dL_law_1766 : decode cL_law 1766 = .ok (.aload_n 0, 1) := by decide +kernel
theorem dL_law_1767 : decode cL_law 1767 = .ok (.iload 4, 2) := by decide +kernel
theorem dL_law_1769 : decode cL_law 1769 = .ok (.iconst 5, 1) := by decide +kernel
theorem dL_law_1770 : decode cL_law 1770 = .ok (.iadd, 1) := by decide +kernel
theorem dL_law_1771 : decode cL_law 1771 = .ok (.iaload, 1) := by decide +kernel
theorem dL_law_1772 : decode cL_law 1772 = .ok (.invokevirtual 213, 3) := by decide +kernel
theorem dL_law_1775 : decode cL_law 1775 = .ok (.aload_n 2, 1) := by decide +kernel
theorem dL_law_1776 : decode cL_law 1776 = .ok (.aload_n 0, 1) := by decide +kernel
theorem dL_law_1777 : decode cL_law 1777 = .ok (.iload 4, 2) := by decide +kernel
theorem dL_law_1779 : decode cL_law 1779 = .ok (.iconst 1, 1) := by decide +kernel
theorem dL_law_1780 : decode cL_law 1780 = .ok (.iadd, 1) := by decide +kernel
theorem dL_law_1781 : decode cL_law 1781 = .ok (.iaload, 1) := by decide +kernel
theorem dL_law_1782 : decode cL_law 1782 = .ok (.aload_n 0, 1) := by decide +kernel
theorem dL_law_1783 : decode cL_law 1783 = .ok (.iload 4, 2) := by decide +kernel
theorem dL_law_1785 : decode cL_law 1785 = .ok (.iconst 2, 1) := by decide +kernel
theorem dL_law_1786 : decode cL_law 1786 = .ok (.iadd, 1) := by decide +kernel
theorem dL_law_1787 : decode cL_law 1787 = .ok (.iaload, 1) := by decide +kernel
theorem dL_law_1788 : decode cL_law 1788 = .ok (.aload_n 0, 1) := by decide +kernel
theorem dL_law_1789 : decode cL_law 1789 = .ok (.iload 4, 2) := by decide +kernel
theorem dL_law_1791 : decode cL_law 1791 = .ok (.iconst 3, 1) := by decide +kernel
theorem dL_law_1792 : decode cL_law 1792 = .ok (.iadd, 1) := by decide +kernel
theorem dL_law_1793 : decode cL_law 1793 = .ok (.iaload, 1) := by decide +kernel
theorem dL_law_1794 : decode cL_law 1794 = .ok (.aload_n 0, 1) := by decide +kernel
theorem dL_law_1795 : decode cL_law 1795 = .ok (.iload 4, 2) := by decide +kernel
theorem dL_law_1797 : decode cL_law 1797 = .ok (.iconst 4, 1) := by decide +kernel
theorem dL_law_1798 : decode cL_law 1798 = .ok (.iadd, 1) := by decide +kernel
theorem dL_law_1799 : decode cL_law 1799 = .ok (.iaload, 1) := by decide +kernel
theorem dL_law_1800 : decode cL_law 1800 = .ok (.aload_n 0, 1) := by decide +kernel
theorem dL_law_1801 : decode cL_law 1801 = .ok (.iload 4, 2) := by decide +kernel
theorem dL_law_1803 : decode cL_law 1803 = .ok (.iconst 5, 1) := by decide +kernel
theorem dL_law_1804 : decode cL_law 1804 = .ok (.iadd, 1) := by decide +kernel
theorem dL_law_1805 : decode cL_law 1805 = .ok (.iaload, 1) := by decide +kernel
theorem dL_law_1806 : decode cL_law 1806 = .ok (.invokevirtual 216, 3) := by decide +kernel
theorem dL_law_1809 : decode cL_law 1809 = .ok (.if_icmp .eq 55, 3) := by decide +kernel
theorem dL_law_1814 : decode cL_law 1814 = .ok (.aload_n 1, 1) := by decide +kernel
theorem dL_law_1815 : decode cL_law 1815 = .ok (.aload_n 0, 1) := by decide +kernel
theorem dL_law_1816 : decode cL_law 1816 = .ok (.iload 4, 2) := by decide +kernel
theorem dL_law_1818 : decode cL_law 1818 = .ok (.iconst 1, 1) := by decide +kernel
theorem dL_law_1819 : decode cL_law 1819 = .ok (.iadd, 1) := by decide +kernel
theorem dL_law_1820 : decode cL_law 1820 = .ok (.iaload, 1) := by decide +kernel
theorem dL_law_1821 : decode cL_law 1821 = .ok (.invokevirtual 217, 3) := by decide +kernel
theorem dL_law_1824 : decode cL_law 1824 = .ok (.aload_n 2, 1) := by decide +kernel
theorem dL_law_1825 : decode cL_law 1825 = .ok (.aload_n 0, 1) := by decide +kernel
theorem dL_law_1826 : decode cL_law 1826 = .ok (.iload 4, 2) := by decide +kernel
theorem dL_law_1828 : decode cL_law 1828 = .ok (.iconst 1, 1) := by decide +kernel
theorem dL_law_1829 : decode cL_law 1829 = .ok (.iadd, 1) := by decide +kernel
theorem dL_law_1830 : decode cL_law 1830 = .ok (.iaload, 1) := by decide +kernel
theorem dL_law_1831 : decode cL_law 1831 = .ok (.invokevirtual 220, 3) := by decide +kernel
theorem dL_law_1834 : decode cL_law 1834 = .ok (.if_icmp .eq 30, 3) := by decide +kernel
theorem dL_law_1839 : decode cL_law 1839 = .ok (.aload_n 1, 1) := by decide +kernel
theorem dL_law_1840 : decode cL_law 1840 = .ok (.aload_n 0, 1) := by decide +kernel
theorem dL_law_1841 : decode cL_law 1841 = .ok (.iload 4, 2) := by decide +kernel
theorem dL_law_1843 : decode cL_law 1843 = .ok (.iconst 1, 1) := by decide +kernel
theorem dL_law_1844 : decode cL_law 1844 = .ok (.iadd, 1) := by decide +kernel
theorem dL_law_1845 : decode cL_law 1845 = .ok (.iaload, 1) := by decide +kernel
theorem dL_law_1846 : decode cL_law 1846 = .ok (.invokevirtual 221, 3) := by decide +kernel
theorem dL_law_1849 : decode cL_law 1849 = .ok (.aload_n 2, 1) := by decide +kernel
theorem dL_law_1850 : decode cL_law 1850 = .ok (.aload_n 0, 1) := by decide +kernel
theorem dL_law_1851 : decode cL_law 1851 = .ok (.iload 4, 2) := by decide +kernel
theorem dL_law_1853 : decode cL_law 1853 = .ok (.iconst 1, 1) := by decide +kernel
theorem dL_law_1854 : decode cL_law 1854 = .ok (.iadd, 1) := by decide +kernel
theorem dL_law_1855 : decode cL_law 1855 = .ok (.iaload, 1) := by decide +kernel
theorem dL_law_1856 : decode cL_law 1856 = .ok (.invokevirtual 224, 3) := by decide +kernel
theorem dL_law_1859 : decode cL_law 1859 = .ok (.if_icmp .eq 5, 3) := by decide +kernel
theorem dL_law_1864 : decode cL_law 1864 = .ok (.iinc 4 6, 3) := by decide +kernel
theorem dL_law_1867 : decode cL_law 1867 = .ok (.goto (-1844), 3) := by decide +kernel
theorem dL_law_1870 : decode cL_law 1870 = .ok (.iconst 1, 1) := by decide +kernel
theorem dL_law_1871 : decode cL_law 1871 = .ok (.ireturn, 1) := by decide +kernel
/-! the law's cases 44 .. 47 -/
/-- calls of methods with tables of their own that may throw -/
theorem kTV {p : Program} {l : Launch} {e : Env} {R : Room} {s : State} {m : MethodId} {args : Array Value} {below : List Frame} {meth : Method} {c : Code} {H : Heap} {locs : List Loc} {cells slots : Nat} {cc : ByteArray} {pc nL : Nat} {ret : Option FieldType} {own : String} {ls : Array Slot} {rest : List Value} {D : va_G} {ct : Nat → ClassId} {B : Nat} {Hb : Heap} {S : St} {sa : Nat → Nat}
    (C0 : XC D ct p s m args meth c cc nL ret own) (hE : EK sa B s) (hS : va_S (AB B) s.heap H locs) {y : MethodName} {bytes : ByteArray} {maxL fr lo n index mc ms k ci : Nat} {rt : Option FieldType} {hh : List (Nat × Nat × Nat × Nat)} {C : String} {As st : List Value} {Qc : Array Value → State → Outcome → State → Prop} {XCq : String → State → State → Prop}
    (hM : vx_Met l y (Cond.codeWith y bytes maxL rt hh :: tG) { frames := fr, cells := mc, slots := ms, locals := lo } (va_Pc (.ref (B + k) :: As) (fun U => MPK D ct B Hb S U ∧ EK sa B U)) Qc XCq mc ms (AB B))
    (hw : Cond.codeWith y bytes maxL rt hh ∈ tG ∧ Cond.methodLink own index y ∈ tG ∧ Cond.instanceMethod y ∈ tG ∧ Cond.selects C y y ∈ tG ∧ Cond.initialized C ∈ tG)
    (hd : y.cls = C ∧ y.cls ≠ "java/lang/invoke/MethodHandle" ∧ y.cls ≠ "java/lang/invoke/VarHandle" ∧ (parseMethodDescriptor y.desc).map (fun d => d.parameters.length) = some n) (hR : fr + 1 ≤ R.frames ∧ 8 + (maxL + 11) + lo ≤ R.locals)
    (hP : MP D ct B Hb S H) {fs : List Value} (he : lay B ct S k = some (.inr (ci, fs))) {T : u_T} {N : Nat} (hc : vwCl[ci]? = some (C, T, N)) (hn : As.length = n) (hsize : ls.size = nL) (hst : st = As.reverse ++ .ref (B + k) :: rest) (hcat : (rest.map fun v => v.category).sum ≤ 8) (hdg : decode cc pc = .ok (.invokevirtual index, 3)) (hf : cells + mc ≤ R.cells ∧ slots + ms ≤ R.slots) :
    vx_Run p l e R s m args below meth c H locs cells slots mc ms (F0 m pc ls st) rest (Qc (.ref (B + k) :: As).toArray) XCq (AB B) := by
  obtain ⟨hx, hb, hr, hml, hown, hts, hK, hlocks, hN⟩ := id C0
  obtain ⟨w1, w2, w3, w4, w5⟩ := hw
  refine vx_runVX (As := As) (rest := rest) (Ts := tG) (own := own) ⟨hx, hb, hml, hown, hts⟩ hM (vx_cwVW n hts (tG_gi (fun w hw => ?_)) rfl rfl rfl hd hR) ⟨ek_blind, mpk_recv C0 hP he hc, ek_pre C0 hE hS hP⟩ rfl hn hsize hst (lv_room hcat) hdg hf
  rcases List.mem_append.mp hw with h | h
  · simp only [List.mem_cons, List.not_mem_nil, or_false] at h
    rcases h with rfl | rfl | rfl | rfl
    · exact w2
    · exact w3
    · exact w4
    · exact w5
  · rcases List.mem_cons.mp h with rfl | h
    · exact w1
    · exact h
theorem kTS {p : Program} {l : Launch} {e : Env} {R : Room} {s : State} {m : MethodId} {args : Array Value} {below : List Frame} {meth : Method} {c : Code} {H : Heap} {locs : List Loc} {cells slots : Nat} {cc : ByteArray} {pc nL : Nat} {ret : Option FieldType} {own : String} {ls : Array Slot} {rest : List Value} {D : va_G} {ct : Nat → ClassId} {B : Nat} {Hb : Heap} {S : St} {sa : Nat → Nat}
    (C0 : XC D ct p s m args meth c cc nL ret own) (hE : EK sa B s) (hS : va_S (AB B) s.heap H locs) {y : MethodName} {bytes : ByteArray} {maxL fr lo n index mc ms : Nat} {rt : Option FieldType} {hh : List (Nat × Nat × Nat × Nat)} {As st : List Value} {Qc : Array Value → State → Outcome → State → Prop} {XCq : String → State → State → Prop}
    (hM : vx_Met l y (Cond.codeWith y bytes maxL rt hh :: tG) { frames := fr, cells := mc, slots := ms, locals := lo } (va_Pc As (fun U => MPK D ct B Hb S U ∧ EK sa B U)) Qc XCq mc ms (AB B))
    (hw : Cond.codeWith y bytes maxL rt hh ∈ tG ∧ Cond.methodLink own index y ∈ tG ∧ Cond.static y ∈ tG ∧ Cond.initialized y.cls ∈ tG)
    (hd : y.cls ≠ "java/lang/invoke/MethodHandle" ∧ y.cls ≠ "java/lang/invoke/VarHandle" ∧ (parseMethodDescriptor y.desc).map (fun d => d.parameters.length) = some n) (hR : fr + 1 ≤ R.frames ∧ 8 + (maxL + 11) + lo ≤ R.locals)
    (hP : MP D ct B Hb S H) (hn : As.length = n) (hsize : ls.size = nL) (hst : st = As.reverse ++ rest) (hcat : (rest.map fun v => v.category).sum ≤ 8) (hdg : decode cc pc = .ok (.invokestatic index, 3)) (hf : cells + mc ≤ R.cells ∧ slots + ms ≤ R.slots) :
    vx_Run p l e R s m args below meth c H locs cells slots mc ms (F0 m pc ls st) rest (Qc As.toArray) XCq (AB B) := by
  obtain ⟨hx, hb, hr, hml, hown, hts, hK, hlocks, hN⟩ := id C0
  obtain ⟨w1, w2, w3, w4⟩ := hw
  refine vx_runSX (As := As) (rest := rest) (Ts := tG) (own := own) ⟨hx, hb, hml, hown, hts⟩ hM (vx_cwSW n hts (tG_gi (fun w hw => ?_)) rfl rfl rfl hd hR) ⟨ek_blind, ek_pre C0 hE hS hP⟩ rfl hn hsize hst (lv_room hcat) hdg hf
  rcases List.mem_append.mp hw with h | h
  · simp only [List.mem_cons, List.not_mem_nil, or_false] at h
    rcases h with rfl | rfl | rfl
    · exact w2
    · exact w3
    · exact w4
  · rcases List.mem_cons.mp h with rfl | h
    · exact w1
    · exact h
section LAW
variable {p : Program} {e : Env} {s : State} {m : MethodId} {below : List Frame} {meth : Method} {c : Code} {l : Launch} {D : va_G} {ct : Nat → ClassId} {B b L : Nat} {xs : Nat → Int32} {adK adV sa : Nat → Nat} {S : St} {T : TT} {im : Option TT} {sh : Nat → Sh} {H : Heap} {locs : List Loc} {ls : Array Slot} {cells slots : Nat} {Q : State → Prop} {iv : Int32}
set_option maxRecDepth 100000 in
set_option maxHeartbeats 4000000 in
theorem L_45 (A : LH p s m meth c D ct B b L xs adK adV sa) (c0 : IC S (T, im, sh)) (g0 : IR S (T, im, sh)) (hP : MP D ct B s.heap S H) (hS : va_S (AB B) s.heap H locs) (hl : lv_has ls 8 (LV b B iv)) (hin : ∀ j : Nat, j < 6 → vp_in (iv + nI j) L) (hc : cells + 50 ≤ room_1.cells) (hs : slots + 100 ≤ room_1.slots) (fin : FIN p e s m below meth c l D ct B b cells slots Q iv) : W p l e room_1 s m #[Value.ref b] below meth c H locs cells slots Q (F0 m 1741 ls []) := by
  obtain ⟨hx, hb, hr, hml, hown, hts, hK, hlocks, hN⟩ := id A.1
  obtain ⟨r, S1, S2, M2, f1, f2, c2, g2⟩ := J_copy c0 g0 (xs (iv + nI 1).toNatClampNeg) (xs (iv + nI 2).toNatClampNeg) (xs (iv + nI 3).toNatClampNeg) (xs (iv + nI 4).toNatClampNeg) (xs (iv + nI 5).toNatClampNeg)
  refine lv_aload_n hx hb dL_law_1741 rfl (lv_at hl 1 rfl) ?_
  refine ar A hS hl (v := nI 1) dL_law_1742 dL_law_1743 dL_law_1745 (by decide) dL_law_1746 dL_law_1747 (hin 1 (by decide)) ?_
  refine ar A hS hl (v := nI 2) dL_law_1748 dL_law_1749 dL_law_1751 (by decide) dL_law_1752 dL_law_1753 (hin 2 (by decide)) ?_
  refine ar A hS hl (v := nI 3) dL_law_1754 dL_law_1755 dL_law_1757 (by decide) dL_law_1758 dL_law_1759 (hin 3 (by decide)) ?_
  refine ar A hS hl (v := nI 4) dL_law_1760 dL_law_1761 dL_law_1763 (by decide) dL_law_1764 dL_law_1765 (hin 4 (by decide)) ?_
  refine ar A hS hl (v := nI 5) dL_law_1766 dL_law_1767 dL_law_1769 (by decide) dL_law_1770 dL_law_1771 (hin 5 (by decide)) ?_
  refine n_Iw (kV (As := [.int (xs (iv + nI 1).toNatClampNeg), .int (xs (iv + nI 2).toNatClampNeg), .int (xs (iv + nI 3).toNatClampNeg), .int (xs (iv + nI 4).toNatClampNeg), .int (xs (iv + nI 5).toNatClampNeg)]) A.1 (c_X11_copy l (xs (iv + nI 1).toNatClampNeg) (xs (iv + nI 2).toNatClampNeg) (xs (iv + nI 3).toNatClampNeg) (xs (iv + nI 4).toNatClampNeg) (xs (iv + nI 5).toNatClampNeg) f1) ⟨wd_959, wd_956, wd_957, wd_958, wd_1⟩ kd_X11_copy ⟨Nat.le_of_ble_eq_true rfl, Nat.le_of_ble_eq_true rfl⟩ hP (lay_X11 B ct S) rfl rfl hl.1 rfl (Nat.le_of_ble_eq_true rfl) dL_law_1772 ⟨by omega, by omega⟩) hS (fun H locs hP hS => ?_)
  refine lv_aload_n hx hb dL_law_1775 rfl (lv_at hl 2 rfl) ?_
  refine ar A hS hl (v := nI 1) dL_law_1776 dL_law_1777 dL_law_1779 (by decide) dL_law_1780 dL_law_1781 (hin 1 (by decide)) ?_
  refine ar A hS hl (v := nI 2) dL_law_1782 dL_law_1783 dL_law_1785 (by decide) dL_law_1786 dL_law_1787 (hin 2 (by decide)) ?_
  refine ar A hS hl (v := nI 3) dL_law_1788 dL_law_1789 dL_law_1791 (by decide) dL_law_1792 dL_law_1793 (hin 3 (by decide)) ?_
  refine ar A hS hl (v := nI 4) dL_law_1794 dL_law_1795 dL_law_1797 (by decide) dL_law_1798 dL_law_1799 (hin 4 (by decide)) ?_
  refine ar A hS hl (v := nI 5) dL_law_1800 dL_law_1801 dL_law_1803 (by decide) dL_law_1804 dL_law_1805 (hin 5 (by decide)) ?_
  refine n_Iw (kV (As := [.int (xs (iv + nI 1).toNatClampNeg), .int (xs (iv + nI 2).toNatClampNeg), .int (xs (iv + nI 3).toNatClampNeg), .int (xs (iv + nI 4).toNatClampNeg), .int (xs (iv + nI 5).toNatClampNeg)]) A.1 (c_X12_copy l (xs (iv + nI 1).toNatClampNeg) (xs (iv + nI 2).toNatClampNeg) (xs (iv + nI 3).toNatClampNeg) (xs (iv + nI 4).toNatClampNeg) (xs (iv + nI 5).toNatClampNeg) f2) ⟨wd_1786, wd_1783, wd_1784, wd_1785, wd_6⟩ kd_X12_copy ⟨Nat.le_of_ble_eq_true rfl, Nat.le_of_ble_eq_true rfl⟩ hP (lay_X12 B ct S1) rfl rfl hl.1 rfl (Nat.le_of_ble_eq_true rfl) dL_law_1806 ⟨by omega, by omega⟩) hS (fun H locs hP hS => ?_)
  refine lv_icmp_eq (tgt := 1864) hx hb dL_law_1809 (by decide) (fun _ => ?_) (fun q => absurd rfl q)
  exact W.widen (by omega) (by omega) (fin _ _ _ _ _ c2 g2 hP hS hl)
set_option maxRecDepth 100000 in
set_option maxHeartbeats 4000000 in
theorem L_46 (A : LH p s m meth c D ct B b L xs adK adV sa) (c0 : IC S (T, im, sh)) (g0 : IR S (T, im, sh)) (hP : MP D ct B s.heap S H) (hS : va_S (AB B) s.heap H locs) (hl : lv_has ls 8 (LV b B iv)) (hin : ∀ j : Nat, j < 6 → vp_in (iv + nI j) L) (hc : cells + 50 ≤ room_1.cells) (hs : slots + 100 ≤ room_1.slots) (fin : FIN p e s m below meth c l D ct B b cells slots Q iv) : W p l e room_1 s m #[Value.ref b] below meth c H locs cells slots Q (F0 m 1814 ls []) := by
  obtain ⟨hx, hb, hr, hml, hown, hts, hK, hlocks, hN⟩ := id A.1
  obtain ⟨r, S2, f1, f2, c2, g2⟩ := J_cost c0 g0 (xs (iv + nI 1).toNatClampNeg)
  refine lv_aload_n hx hb dL_law_1814 rfl (lv_at hl 1 rfl) ?_
  refine ar A hS hl (v := nI 1) dL_law_1815 dL_law_1816 dL_law_1818 (by decide) dL_law_1819 dL_law_1820 (hin 1 (by decide)) ?_
  refine n_I (kV (As := [.int (xs (iv + nI 1).toNatClampNeg)]) A.1 (c_X11_cost l (xs (iv + nI 1).toNatClampNeg) f1) ⟨wd_963, wd_960, wd_961, wd_962, wd_1⟩ kd_X11_cost ⟨Nat.le_of_ble_eq_true rfl, Nat.le_of_ble_eq_true rfl⟩ hP (lay_X11 B ct S) rfl rfl hl.1 rfl (Nat.le_of_ble_eq_true rfl) dL_law_1821 ⟨by omega, by omega⟩) hS (fun H locs hP hS => ?_)
  refine lv_aload_n hx hb dL_law_1824 rfl (lv_at hl 2 rfl) ?_
  refine ar A hS hl (v := nI 1) dL_law_1825 dL_law_1826 dL_law_1828 (by decide) dL_law_1829 dL_law_1830 (hin 1 (by decide)) ?_
  refine n_Iw (kV (As := [.int (xs (iv + nI 1).toNatClampNeg)]) A.1 (c_X12_cost l (xs (iv + nI 1).toNatClampNeg) f2) ⟨wd_1790, wd_1787, wd_1788, wd_1789, wd_6⟩ kd_X12_cost ⟨Nat.le_of_ble_eq_true rfl, Nat.le_of_ble_eq_true rfl⟩ hP (lay_X12 B ct S) rfl rfl hl.1 rfl (Nat.le_of_ble_eq_true rfl) dL_law_1831 ⟨by omega, by omega⟩) hS (fun H locs hP hS => ?_)
  refine lv_icmp_eq (tgt := 1864) hx hb dL_law_1834 (by decide) (fun _ => ?_) (fun q => absurd rfl q)
  exact W.widen (by omega) (by omega) (fin _ _ _ _ _ c2 g2 hP hS hl)
set_option maxRecDepth 100000 in
set_option maxHeartbeats 4000000 in
theorem L_47 (hlt : l.stackTraces = false) (A : LH p s m meth c D ct B b L xs adK adV sa) (c0 : IC S (T, im, sh)) (g0 : IR S (T, im, sh)) (hP : MP D ct B s.heap S H) (hS : va_S (AB B) s.heap H locs) (hl : lv_has ls 8 (LV b B iv)) (hin : ∀ j : Nat, j < 6 → vp_in (iv + nI j) L) (hc : cells + 50 ≤ room_1.cells) (hs : slots + 100 ≤ room_1.slots) (fin : FIN p e s m below meth c l D ct B b cells slots Q iv) : W p l e room_1 s m #[Value.ref b] below meth c H locs cells slots Q (F0 m 1839 ls []) := by
  obtain ⟨hx, hb, hr, hml, hown, hts, hK, hlocks, hN⟩ := id A.1
  obtain ⟨r, f1, fx⟩ := J_toss c0 (xs (iv + nI 1).toNatClampNeg)
  refine lv_aload_n hx hb dL_law_1839 rfl (lv_at hl 1 rfl) ?_
  refine ar A hS hl (v := nI 1) dL_law_1840 dL_law_1841 dL_law_1843 (by decide) dL_law_1844 dL_law_1845 (hin 1 (by decide)) ?_
  refine vx_calli (kTV (As := [.int (xs (iv + nI 1).toNatClampNeg)]) A.1 A.2.2.1 hS (c_X11_toss hlt (xs (iv + nI 1).toNatClampNeg) f1) ⟨w_codeT, wd_997, wd_998, wd_999, wd_1⟩ kd_X11_toss ⟨Nat.le_of_ble_eq_true rfl, Nat.le_of_ble_eq_true rfl⟩ hP (lay_X11 B ct S) rfl rfl hl.1 rfl (Nat.le_of_ble_eq_true rfl) dL_law_1846 ⟨by omega, by omega⟩) hS (fun _ _ h => h) (fun _ h => h) (fun _ _ h => h.elim) (fun E ce q9 u t H1 locs1 ht _ hu hB _ _ hS1 hce hcv hcl => hu.elim) (fun r9 u t H1 locs1 ht _ hp hB _ _ hS1 => ?_)
  obtain ⟨rfl, hu⟩ := hp
  have hM : MP D ct B s.heap (stp S u) H1 := ht ▸ hB.1
  obtain ⟨S2, f2, g2, up2⟩ := fx (stp S u) (IR_stp g0 u)
  have c2 := IC_up up2 (IC_stp c0 hu)
  refine lv_aload_n hx hb dL_law_1849 rfl (lv_at hl 2 rfl) ?_
  refine ar A hS1 hl (v := nI 1) dL_law_1850 dL_law_1851 dL_law_1853 (by decide) dL_law_1854 dL_law_1855 (hin 1 (by decide)) ?_
  refine n_Iw (kV (As := [.int (xs (iv + nI 1).toNatClampNeg)]) A.1 (c_X12_toss l (xs (iv + nI 1).toNatClampNeg) f2) ⟨wd_1797, wd_1794, wd_1795, wd_1796, wd_6⟩ kd_X12_toss ⟨Nat.le_of_ble_eq_true rfl, Nat.le_of_ble_eq_true rfl⟩ hM (lay_X12 B ct (stp S u)) rfl rfl hl.1 rfl (Nat.le_of_ble_eq_true rfl) dL_law_1856 ⟨by omega, by omega⟩) hS1 (fun H locs hP hS => ?_)
  refine lv_icmp_eq (tgt := 1864) hx hb dL_law_1859 (by decide) (fun _ => ?_) (fun q => absurd rfl q)
  exact W.widen (by omega) (by omega) (fin _ _ _ _ _ c2 g2 hP hS hl)
set_option maxRecDepth 100000 in
set_option maxHeartbeats 4000000 in
theorem L_44 (hlt : l.stackTraces = false) (A : LH p s m meth c D ct B b L xs adK adV sa) (c0 : IC S (T, im, sh)) (g0 : IR S (T, im, sh)) (hP : MP D ct B s.heap S H) (hS : va_S (AB B) s.heap H locs) (hl : lv_has ls 8 (LV b B iv)) (hin : ∀ j : Nat, j < 6 → vp_in (iv + nI j) L) (hc : cells + 50 ≤ room_1.cells) (hs : slots + 100 ≤ room_1.slots) (fin : FIN p e s m below meth c l D ct B b cells slots Q iv) : W p l e room_1 s m #[Value.ref b] below meth c H locs cells slots Q (F0 m 1674 ls []) := by
  obtain ⟨hx, hb, hr, hml, hown, hts, hK, hlocks, hN⟩ := id A.1
  obtain ⟨o, f1, fx⟩ := J_element c0 (xs (iv + nI 1).toNatClampNeg) (xs (iv + nI 2).toNatClampNeg)
  refine lv_aload_n hx hb dL_law_1674 rfl (lv_at hl 1 rfl) ?_
  refine ar A hS hl (v := nI 1) dL_law_1675 dL_law_1676 dL_law_1678 (by decide) dL_law_1679 dL_law_1680 (hin 1 (by decide)) ?_
  refine ar A hS hl (v := nI 2) dL_law_1681 dL_law_1682 dL_law_1684 (by decide) dL_law_1685 dL_law_1686 (hin 2 (by decide)) ?_
  refine lv_aload_n hx hb dL_law_1687 rfl (lv_at hl 3 rfl) ?_
  refine vx_calli (kTS (As := [.ref (B + 0), .int (xs (iv + nI 1).toNatClampNeg), .int (xs (iv + nI 2).toNatClampNeg), .ref (B + 182)]) A.1 A.2.2.1 hS (c_L_element hlt (xs (iv + nI 1).toNatClampNeg) (xs (iv + nI 2).toNatClampNeg) f1) ⟨w_codeE, wd_1121, wd_1122, wd_0⟩ kd_L_element ⟨Nat.le_of_ble_eq_true rfl, Nat.le_of_ble_eq_true rfl⟩ hP rfl hl.1 rfl (Nat.le_of_ble_eq_true rfl) dL_law_1688 ⟨by omega, by omega⟩) hS (fun _ _ h => h) (fun _ h => h) (fun _ _ h => h.elim) (fun E ce q9 u t H1 locs1 ht _ hu hB _ _ hS1 hce hcv hcl => hu.elim) (fun r9 u t H1 locs1 ht _ hp hB _ _ hS1 => ?_)
  obtain ⟨rfl, hu⟩ := hp
  have hM : MP D ct B s.heap (elS o S u) H1 := ht ▸ hB.1
  obtain ⟨bv, S2, f2, g2, up2, e28, ev, e182⟩ := fx (elS o S u) (IR_elS g0 o u)
  have c2 := IC_up up2 (IC_elS c0 o hu)
  refine lv_istore (lv' := (5, .int (elC o)) :: LV b B iv) hx hb dL_law_1691 hl (by decide) rfl (fun ls hl5 => ?_)
  have hl : lv_has ls 8 (LV b B iv) := lv_sub hl5 [1, 2, 3, 4, 5] rfl
  refine lv_aload_n hx hb dL_law_1693 rfl (lv_at hl 2 rfl) ?_
  refine ar A hS1 hl (v := nI 1) dL_law_1694 dL_law_1695 dL_law_1697 (by decide) dL_law_1698 dL_law_1699 (hin 1 (by decide)) ?_
  refine ar A hS1 hl (v := nI 2) dL_law_1700 dL_law_1701 dL_law_1703 (by decide) dL_law_1704 dL_law_1705 (hin 2 (by decide)) ?_
  refine n_Lw (kV (As := [.int (xs (iv + nI 1).toNatClampNeg), .int (xs (iv + nI 2).toNatClampNeg)]) A.1 (c_X12_element l (xs (iv + nI 1).toNatClampNeg) (xs (iv + nI 2).toNatClampNeg) f2) ⟨wd_1782, wd_1779, wd_1780, wd_1781, wd_6⟩ kd_X12_element ⟨Nat.le_of_ble_eq_true rfl, Nat.le_of_ble_eq_true rfl⟩ hM (lay_X12 B ct (elS o S u)) rfl rfl hl.1 rfl (Nat.le_of_ble_eq_true rfl) dL_law_1706 ⟨by omega, by omega⟩) hS1 (fun H locs hP hS => ?_)
  refine lv_lstore (lv' := (6, .long bv) :: (5, .int (elC o)) :: LV b B iv) hx hb dL_law_1709 hl5 (by decide) rfl (fun ls hl6 => ?_)
  have hl : lv_has ls 8 (LV b B iv) := lv_sub hl6 [2, 3, 4, 5, 6] rfl
  refine lv_aload_n hx hb dL_law_1711 rfl (lv_at hl 2 rfl) ?_
  refine n_I (kV (As := []) A.1 (c_X12_thrown l (S := S2) (V := elC o) (by unfold L_X12_thrown b_X12_thrown_0; rw [← e28])) ⟨wd_1342, wd_1339, wd_1340, wd_1341, wd_6⟩ kd_X12_thrown ⟨Nat.le_of_ble_eq_true rfl, Nat.le_of_ble_eq_true rfl⟩ hP (lay_X12 B ct S2) rfl rfl hl.1 rfl (Nat.le_of_ble_eq_true rfl) dL_law_1712 ⟨by omega, by omega⟩) hS (fun H locs hP hS => ?_)
  refine lv_iload hx hb dL_law_1715 (lv_at hl6 1 rfl) ?_
  refine lv_icmp_eq (tgt := 1722) hx hb dL_law_1717 (by decide) (fun _ => ?_) (fun q => absurd rfl q)
  refine lv_iload hx hb dL_law_1722 (lv_at hl6 1 rfl) ?_
  have out : ∀ (cells' slots' : Nat), cells' ≤ cells + 50 → slots' ≤ slots + 100 → W p l e room_1 s m #[Value.ref b] below meth c H locs cells' slots' Q (F0 m 1738 ls []) := fun cells' slots' hc' hs' => by
    refine lv_goto (tgt := 1864) hx hb dL_law_1738 (by decide) ?_
    exact W.widen hc' hs' (fin _ _ _ _ _ c2 g2 hP hS hl)
  refine lv_if_ne (tgt := 1738) hx hb dL_law_1724 (by decide) (fun _ => out _ _ (by omega) (by omega)) (fun q => ?_)
  refine lv_aload_n hx hb dL_law_1727 rfl (lv_at hl 3 rfl) ?_
  refine lv_iconst (v := 0) hx hb dL_law_1728 (by decide) ?_
  refine x_lald A.1 hP (lay_182 B ct S2) (by decide) dL_law_1729 ?_
  refine lv_lload hx hb dL_law_1730 (lv_at hl6 0 rfl) ?_
  refine W.lcmp hx hb dL_law_1732 ?_
  have e0 : lg_cmp (gl S2 182 (0 : Int32).toNatClampNeg) bv = 0 := by
    have : gl S2 182 0 = bv := by
      rw [e182]
      cases o with
      | inl E =>
        exfalso
        have q' : elC (.inl E) = 0 := by simpa using q
        unfold elC at q'
        dsimp only at q'
        split at q'
        · exact absurd q' (by decide)
        · exact absurd q' (by decide)
      | inr v => rw [ev v rfl]; show gl (sl S 182 0 v) 182 0 = v; rw [gl_sl_s]; unfold vp_updL; rw [if_pos rfl]
    show lg_cmp (gl S2 182 0) bv = 0
    rw [this]; exact lcmp_0 bv
  rw [e0]
  refine lv_if_eq (tgt := 1738) hx hb dL_law_1733 (by decide) (fun _ => out _ _ (by omega) (by omega)) (fun q => absurd rfl q)
set_option maxRecDepth 100000 in
set_option maxHeartbeats 4000000 in
theorem L_sw (hlt : l.stackTraces = false) (A : LH p s m meth c D ct B b L xs adK adV sa) (c0 : IC S (T, im, sh)) (g0 : IR S (T, im, sh)) (hP : MP D ct B s.heap S H) (hS : va_S (AB B) s.heap H locs) (hl : lv_has ls 8 (LV b B iv)) (hin : ∀ j : Nat, j < 6 → vp_in (iv + nI j) L) (hc : cells + 50 ≤ room_1.cells) (hs : slots + 100 ≤ room_1.slots) (fin : FIN p e s m below meth c l D ct B b cells slots Q iv) (x : Int32) : W p l e room_1 s m #[Value.ref b] below meth c H locs cells slots Q (F0 m 40 ls [.int x]) := by
  obtain ⟨hx, hb, hr, hml, hown, hts, hK, hlocks, hN⟩ := id A.1
  by_cases h : x.toInt < 0 ∨ 47 < x.toInt
  · refine lv_tableOut (tgt := 1864) hx hb dL_law_40 h (by decide) ?_
    exact W.widen (by omega) (by omega) (fin _ _ _ _ _ c0 g0 hP hS hl)
  have h1 : ¬ x.toInt < 0 := fun q => h (Or.inl q)
  have h2 : ¬ (47 : Int) < x.toInt := fun q => h (Or.inr q)
  exact match x.toInt.toNat, (show x.toInt.toNat < 48 by omega), (show x.toInt = (x.toInt.toNat : Int) by omega) with
  | 0, _, e => by
    have e : x.toInt = 0 := e
    exact lv_tableIn (off := 208) (tgt := 248) hx hb dL_law_40 h1 h2 (by rw [e]; decide) (by decide) (L_0 A c0 g0 hP hS hl hin hc hs fin)
  | 1, _, e => by
    have e : x.toInt = 1 := e
    exact lv_tableIn (off := 233) (tgt := 273) hx hb dL_law_40 h1 h2 (by rw [e]; decide) (by decide) (L_1 A c0 g0 hP hS hl hin hc hs fin)
  | 2, _, e => by
    have e : x.toInt = 2 := e
    exact lv_tableIn (off := 270) (tgt := 310) hx hb dL_law_40 h1 h2 (by rw [e]; decide) (by decide) (L_2 A c0 g0 hP hS hl hin hc hs fin)
  | 3, _, e => by
    have e : x.toInt = 3 := e
    exact lv_tableIn (off := 319) (tgt := 359) hx hb dL_law_40 h1 h2 (by rw [e]; decide) (by decide) (L_3 A c0 g0 hP hS hl hin hc hs fin)
  | 4, _, e => by
    have e : x.toInt = 4 := e
    exact lv_tableIn (off := 356) (tgt := 396) hx hb dL_law_40 h1 h2 (by rw [e]; decide) (by decide) (L_4 A c0 g0 hP hS hl hin hc hs fin)
  | 5, _, e => by
    have e : x.toInt = 5 := e
    exact lv_tableIn (off := 393) (tgt := 433) hx hb dL_law_40 h1 h2 (by rw [e]; decide) (by decide) (L_5 A c0 g0 hP hS hl hin hc hs fin)
  | 6, _, e => by
    have e : x.toInt = 6 := e
    exact lv_tableIn (off := 466) (tgt := 506) hx hb dL_law_40 h1 h2 (by rw [e]; decide) (by decide) (L_6 A c0 g0 hP hS hl hin hc hs fin)
  | 7, _, e => by
    have e : x.toInt = 7 := e
    exact lv_tableIn (off := 491) (tgt := 531) hx hb dL_law_40 h1 h2 (by rw [e]; decide) (by decide) (L_7 A c0 g0 hP hS hl hin hc hs fin)
  | 8, _, e => by
    have e : x.toInt = 8 := e
    exact lv_tableIn (off := 528) (tgt := 568) hx hb dL_law_40 h1 h2 (by rw [e]; decide) (by decide) (L_8 A c0 g0 hP hS hl hin hc hs fin)
  | 9, _, e => by
    have e : x.toInt = 9 := e
    exact lv_tableIn (off := 565) (tgt := 605) hx hb dL_law_40 h1 h2 (by rw [e]; decide) (by decide) (L_9 A c0 g0 hP hS hl hin hc hs fin)
  | 10, _, e => by
    have e : x.toInt = 10 := e
    exact lv_tableIn (off := 614) (tgt := 654) hx hb dL_law_40 h1 h2 (by rw [e]; decide) (by decide) (L_10 A c0 g0 hP hS hl hin hc hs fin)
  | 11, _, e => by
    have e : x.toInt = 11 := e
    exact lv_tableIn (off := 651) (tgt := 691) hx hb dL_law_40 h1 h2 (by rw [e]; decide) (by decide) (L_11 A c0 g0 hP hS hl hin hc hs fin)
  | 12, _, e => by
    have e : x.toInt = 12 := e
    exact lv_tableIn (off := 688) (tgt := 728) hx hb dL_law_40 h1 h2 (by rw [e]; decide) (by decide) (L_12 A c0 g0 hP hS hl hin hc hs fin)
  | 13, _, e => by
    have e : x.toInt = 13 := e
    exact lv_tableIn (off := 725) (tgt := 765) hx hb dL_law_40 h1 h2 (by rw [e]; decide) (by decide) (L_13 A c0 g0 hP hS hl hin hc hs fin)
  | 14, _, e => by
    have e : x.toInt = 14 := e
    exact lv_tableIn (off := 762) (tgt := 802) hx hb dL_law_40 h1 h2 (by rw [e]; decide) (by decide) (L_14 A c0 g0 hP hS hl hin hc hs fin)
  | 15, _, e => by
    have e : x.toInt = 15 := e
    exact lv_tableIn (off := 799) (tgt := 839) hx hb dL_law_40 h1 h2 (by rw [e]; decide) (by decide) (L_15 A c0 g0 hP hS hl hin hc hs fin)
  | 16, _, e => by
    have e : x.toInt = 16 := e
    exact lv_tableIn (off := 824) (tgt := 864) hx hb dL_law_40 h1 h2 (by rw [e]; decide) (by decide) (L_16 A c0 g0 hP hS hl hin hc hs fin)
  | 17, _, e => by
    have e : x.toInt = 17 := e
    exact lv_tableIn (off := 849) (tgt := 889) hx hb dL_law_40 h1 h2 (by rw [e]; decide) (by decide) (L_17 A c0 g0 hP hS hl hin hc hs fin)
  | 18, _, e => by
    have e : x.toInt = 18 := e
    exact lv_tableIn (off := 874) (tgt := 914) hx hb dL_law_40 h1 h2 (by rw [e]; decide) (by decide) (L_18 A c0 g0 hP hS hl hin hc hs fin)
  | 19, _, e => by
    have e : x.toInt = 19 := e
    exact lv_tableIn (off := 899) (tgt := 939) hx hb dL_law_40 h1 h2 (by rw [e]; decide) (by decide) (L_19 A c0 g0 hP hS hl hin hc hs fin)
  | 20, _, e => by
    have e : x.toInt = 20 := e
    exact lv_tableIn (off := 912) (tgt := 952) hx hb dL_law_40 h1 h2 (by rw [e]; decide) (by decide) (L_20 A c0 g0 hP hS hl hin hc hs fin)
  | 21, _, e => by
    have e : x.toInt = 21 := e
    exact lv_tableIn (off := 937) (tgt := 977) hx hb dL_law_40 h1 h2 (by rw [e]; decide) (by decide) (L_21 A c0 g0 hP hS hl hin hc hs fin)
  | 22, _, e => by
    have e : x.toInt = 22 := e
    exact lv_tableIn (off := 962) (tgt := 1002) hx hb dL_law_40 h1 h2 (by rw [e]; decide) (by decide) (L_22 A c0 g0 hP hS hl hin hc hs fin)
  | 23, _, e => by
    have e : x.toInt = 23 := e
    exact lv_tableIn (off := 999) (tgt := 1039) hx hb dL_law_40 h1 h2 (by rw [e]; decide) (by decide) (L_23 A c0 g0 hP hS hl hin hc hs fin)
  | 24, _, e => by
    have e : x.toInt = 24 := e
    exact lv_tableIn (off := 1037) (tgt := 1077) hx hb dL_law_40 h1 h2 (by rw [e]; decide) (by decide) (L_24 A c0 g0 hP hS hl hin hc hs fin)
  | 25, _, e => by
    have e : x.toInt = 25 := e
    exact lv_tableIn (off := 1063) (tgt := 1103) hx hb dL_law_40 h1 h2 (by rw [e]; decide) (by decide) (L_25 A c0 g0 hP hS hl hin hc hs fin)
  | 26, _, e => by
    have e : x.toInt = 26 := e
    exact lv_tableIn (off := 1100) (tgt := 1140) hx hb dL_law_40 h1 h2 (by rw [e]; decide) (by decide) (L_26 A c0 g0 hP hS hl hin hc hs fin)
  | 27, _, e => by
    have e : x.toInt = 27 := e
    exact lv_tableIn (off := 1125) (tgt := 1165) hx hb dL_law_40 h1 h2 (by rw [e]; decide) (by decide) (L_27 A c0 g0 hP hS hl hin hc hs fin)
  | 28, _, e => by
    have e : x.toInt = 28 := e
    exact lv_tableIn (off := 1150) (tgt := 1190) hx hb dL_law_40 h1 h2 (by rw [e]; decide) (by decide) (L_28 A c0 g0 hP hS hl hin hc hs fin)
  | 29, _, e => by
    have e : x.toInt = 29 := e
    exact lv_tableIn (off := 1163) (tgt := 1203) hx hb dL_law_40 h1 h2 (by rw [e]; decide) (by decide) (L_29 A c0 g0 hP hS hl hin hc hs fin)
  | 30, _, e => by
    have e : x.toInt = 30 := e
    exact lv_tableIn (off := 1176) (tgt := 1216) hx hb dL_law_40 h1 h2 (by rw [e]; decide) (by decide) (L_30 A c0 g0 hP hS hl hin hc hs fin)
  | 31, _, e => by
    have e : x.toInt = 31 := e
    exact lv_tableIn (off := 1201) (tgt := 1241) hx hb dL_law_40 h1 h2 (by rw [e]; decide) (by decide) (L_31 A c0 g0 hP hS hl hin hc hs fin)
  | 32, _, e => by
    have e : x.toInt = 32 := e
    exact lv_tableIn (off := 1238) (tgt := 1278) hx hb dL_law_40 h1 h2 (by rw [e]; decide) (by decide) (L_32 A c0 g0 hP hS hl hin hc hs fin)
  | 33, _, e => by
    have e : x.toInt = 33 := e
    exact lv_tableIn (off := 1251) (tgt := 1291) hx hb dL_law_40 h1 h2 (by rw [e]; decide) (by decide) (L_33 A c0 g0 hP hS hl hin hc hs fin)
  | 34, _, e => by
    have e : x.toInt = 34 := e
    exact lv_tableIn (off := 1276) (tgt := 1316) hx hb dL_law_40 h1 h2 (by rw [e]; decide) (by decide) (L_34 A c0 g0 hP hS hl hin hc hs fin)
  | 35, _, e => by
    have e : x.toInt = 35 := e
    exact lv_tableIn (off := 1313) (tgt := 1353) hx hb dL_law_40 h1 h2 (by rw [e]; decide) (by decide) (L_35 A c0 g0 hP hS hl hin hc hs fin)
  | 36, _, e => by
    have e : x.toInt = 36 := e
    exact lv_tableIn (off := 1338) (tgt := 1378) hx hb dL_law_40 h1 h2 (by rw [e]; decide) (by decide) (L_36 A c0 g0 hP hS hl hin hc hs fin)
  | 37, _, e => by
    have e : x.toInt = 37 := e
    exact lv_tableIn (off := 1375) (tgt := 1415) hx hb dL_law_40 h1 h2 (by rw [e]; decide) (by decide) (L_37 A c0 g0 hP hS hl hin hc hs fin)
  | 38, _, e => by
    have e : x.toInt = 38 := e
    exact lv_tableIn (off := 1424) (tgt := 1464) hx hb dL_law_40 h1 h2 (by rw [e]; decide) (by decide) (L_38 A c0 g0 hP hS hl hin hc hs fin)
  | 39, _, e => by
    have e : x.toInt = 39 := e
    exact lv_tableIn (off := 1437) (tgt := 1477) hx hb dL_law_40 h1 h2 (by rw [e]; decide) (by decide) (L_39 A c0 g0 hP hS hl hin hc hs fin)
  | 40, _, e => by
    have e : x.toInt = 40 := e
    exact lv_tableIn (off := 1450) (tgt := 1490) hx hb dL_law_40 h1 h2 (by rw [e]; decide) (by decide) (L_40 A c0 g0 hP hS hl hin hc hs fin)
  | 41, _, e => by
    have e : x.toInt = 41 := e
    exact lv_tableIn (off := 1475) (tgt := 1515) hx hb dL_law_40 h1 h2 (by rw [e]; decide) (by decide) (L_41 A c0 g0 hP hS hl hin hc hs fin)
  | 42, _, e => by
    have e : x.toInt = 42 := e
    exact lv_tableIn (off := 1536) (tgt := 1576) hx hb dL_law_40 h1 h2 (by rw [e]; decide) (by decide) (L_42 A c0 g0 hP hS hl hin hc hs fin)
  | 43, _, e => by
    have e : x.toInt = 43 := e
    exact lv_tableIn (off := 1585) (tgt := 1625) hx hb dL_law_40 h1 h2 (by rw [e]; decide) (by decide) (L_43 A c0 g0 hP hS hl hin hc hs fin)
  | 44, _, e => by
    have e : x.toInt = 44 := e
    exact lv_tableIn (off := 1634) (tgt := 1674) hx hb dL_law_40 h1 h2 (by rw [e]; decide) (by decide) (L_44 hlt A c0 g0 hP hS hl hin hc hs fin)
  | 45, _, e => by
    have e : x.toInt = 45 := e
    exact lv_tableIn (off := 1701) (tgt := 1741) hx hb dL_law_40 h1 h2 (by rw [e]; decide) (by decide) (L_45 A c0 g0 hP hS hl hin hc hs fin)
  | 46, _, e => by
    have e : x.toInt = 46 := e
    exact lv_tableIn (off := 1774) (tgt := 1814) hx hb dL_law_40 h1 h2 (by rw [e]; decide) (by decide) (L_46 A c0 g0 hP hS hl hin hc hs fin)
  | 47, _, e => by
    have e : x.toInt = 47 := e
    exact lv_tableIn (off := 1799) (tgt := 1839) hx hb dL_law_40 h1 h2 (by rw [e]; decide) (by decide) (L_47 hlt A c0 g0 hP hS hl hin hc hs fin)
  | n + 48, hn, _ => absurd hn (by omega)
/-- script[i] of the loop's head -/
theorem in_add {i L j : Nat} (h : i + 6 ≤ L) (hL : L ≤ 3072) (hj : j < 6) : vp_in (nI i + nI j) L := by
  rw [nI_add]
  intro q
  rcases q with q | q
  · exact nI_pos (by omega) q
  · rw [nI_clamp (by omega)] at q
    omega
theorem nI_sub6 {i L : Nat} (h : i ≤ L) (h2 : ¬ i + 6 ≤ L) (hL : L ≤ 3072) : nI L - 6 < nI i := by
  by_cases w : 6 ≤ L
  · have e : nI L - 6 = nI (L - 6) := by
      have e2 : nI L = nI (L - 6) + nI 6 := by
        rw [nI_add]
        congr 1
        omega
      rw [e2]
      exact Int32.add_sub_cancel _ _
    rw [e]
    exact nI_lt (by omega) (by omega)
  · have h0 : (0 : Int32) ≤ nI i := n0_le (by omega)
    have h1 : nI L - 6 < 0 := by
      rcases (show L = 0 ∨ L = 1 ∨ L = 2 ∨ L = 3 ∨ L = 4 ∨ L = 5 by omega) with rfl | rfl | rfl | rfl | rfl | rfl <;> decide
    exact Int32.lt_of_lt_of_le h1 h0
set_option maxRecDepth 100000 in
set_option maxHeartbeats 4000000 in
theorem L_loop (hlt : l.stackTraces = false) (A : LH p s m meth c D ct B b L xs adK adV sa) (hL : L ≤ 3072) (hB : s.heap.size ≤ B) :
    ∀ (n i : Nat) {S : St} {M : MM} {H : Heap} {locs : List Loc} {ls : Array Slot} {cells slots : Nat}, i ≤ L → L < i + 6 * n → cells + 50 * n ≤ 601024 → slots + 100 * n ≤ 7293034 → IC S M → IR S M → MP D ct B s.heap S H → va_S (AB B) s.heap H locs → lv_has ls 8 (LV b B (nI i)) →
      W p l e room_1 s m #[Value.ref b] below meth c H locs cells slots (lw_Z below #[Value.ref b] s) (F0 m 23 ls []) := by
  obtain ⟨hx, hb, hr, hml, hown, hts, hK, hlocks, hN⟩ := id A.1
  have hbA : ¬ AB B b := Nat.not_le.mpr A.2.2.2.2.2
  intro n
  induction n with
  | zero => intro i S M H locs ls cells slots h1 h2; omega
  | succ n ih =>
    intro i S M H locs ls cells slots h1 h2 hc hs c0 g0 hP hS hl
    obtain ⟨T, im, sh⟩ := M
    refine lv_iload hx hb dL_law_23 (lv_at hl 4 rfl) ?_
    refine lv_aload_n hx hb dL_law_25 rfl (lv_at hl 0 rfl) ?_
    refine va_slen hx hb A.2.2.2.1 A.2.2.2.2.1 hbA hS dL_law_26 ?_
    refine lv_bipush (v := 6) hx hb dL_law_27 (by decide) ?_
    refine lv_isub hx hb dL_law_29 ?_
    refine lv_icmp_gt (tgt := 1870) hx hb dL_law_30 (by decide) (fun q => ?_) (fun q => ?_)
    · refine lv_iconst (v := 1) hx hb dL_law_1870 (by decide) ?_
      refine va_forget (fun q hq => Nat.le_trans hB (hS.2.2 q hq)) ?_
      exact W.widen (k := 601024) (n := 7293034) (by omega) (by omega) (lw_ret hx hb hr hlocks dL_law_1871)
    · have h6 : i + 6 ≤ L := by
        by_cases w : i + 6 ≤ L
        · exact w
        · exact absurd (nI_sub6 h1 w hL) q
      refine lv_aload_n hx hb dL_law_33 rfl (lv_at hl 0 rfl) ?_
      refine lv_iload hx hb dL_law_34 (lv_at hl 4 rfl) ?_
      refine va_sld hx hb A.2.2.2.1 A.2.2.2.2.1 hbA hS (by have := in_add (j := 0) h6 hL (by decide); rwa [show nI i + nI 0 = nI i from Int32.add_zero _] at this) dL_law_36 ?_
      refine lv_bipush (v := 63) hx hb dL_law_37 (by decide) ?_
      refine lv_iand hx hb dL_law_39 ?_
      refine L_sw hlt A c0 g0 hP hS hl (fun j hj => in_add h6 hL hj) (by show cells + 50 ≤ 601024; omega) (by show slots + 100 ≤ 7293034; omega) (fun S' M' H' locs' ls' c2 g2 hP2 hS2 hl2 => ?_) _
      refine lv_iinc (k := 4) (v := nI (i + 6)) (lv' := [(4, .int (nI (i + 6))), (0, .ref b), (1, .ref (B + 0)), (2, .ref (B + 136)), (3, .ref (B + 182))]) hx hb dL_law_1864 hl2 rfl (nI_add i 6) (by decide) rfl (fun ls hl3 => ?_)
      have hl3 : lv_has ls 8 (LV b B (nI (i + 6))) := lv_sub hl3 [1, 2, 3, 4, 0] rfl
      refine lv_goto (tgt := 23) hx hb dL_law_1867 (by decide) ?_
      exact ih (i + 6) h6 (by omega) (by omega) (by omega) c2 g2 hP2 hS2 hl3
end LAW
