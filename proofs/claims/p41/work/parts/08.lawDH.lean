set_option maxRecDepth 100000 in
theorem zk_801L : zck 1797 (cL_law.data.toList.drop 1797) [(1797, .iconst 1, 1), (1798, .iadd, 1), (1799, .iaload, 1), (1800, .invokevirtual 185, 3), (1803, .if_icmp .eq 33, 3), (1806, .iconst 0, 1), (1807, .ireturn, 1), (1808, .aload_n 1, 1), (1809, .aload_n 0, 1), (1810, .iload 4, 2), (1812, .iconst 1, 1), (1813, .iadd, 1)] = true := by decide +kernel
theorem zr_801L : decode cL_law 1797 = .ok (.iconst 1, 1) ∧ decode cL_law 1798 = .ok (.iadd, 1) ∧ decode cL_law 1799 = .ok (.iaload, 1) ∧ decode cL_law 1800 = .ok (.invokevirtual 185, 3) ∧ decode cL_law 1803 = .ok (.if_icmp .eq 33, 3) ∧ decode cL_law 1806 = .ok (.iconst 0, 1) ∧ decode cL_law 1807 = .ok (.ireturn, 1) ∧ decode cL_law 1808 = .ok (.aload_n 1, 1) ∧ decode cL_law 1809 = .ok (.aload_n 0, 1) ∧ decode cL_law 1810 = .ok (.iload 4, 2) ∧ decode cL_law 1812 = .ok (.iconst 1, 1) ∧ decode cL_law 1813 = .ok (.iadd, 1) ∧ True := zj_of zk_801L
abbrev dL_law_1797 := zr_801L.1
abbrev dL_law_1798 := zr_801L.2.1
abbrev dL_law_1799 := zr_801L.2.2.1
abbrev dL_law_1800 := zr_801L.2.2.2.1
abbrev dL_law_1803 := zr_801L.2.2.2.2.1
abbrev dL_law_1808 := zr_801L.2.2.2.2.2.2.2.1
abbrev dL_law_1809 := zr_801L.2.2.2.2.2.2.2.2.1
abbrev dL_law_1810 := zr_801L.2.2.2.2.2.2.2.2.2.1
abbrev dL_law_1812 := zr_801L.2.2.2.2.2.2.2.2.2.2.1
abbrev dL_law_1813 := zr_801L.2.2.2.2.2.2.2.2.2.2.2.1
set_option maxRecDepth 100000 in
theorem zk_802L : zck 1814 (cL_law.data.toList.drop 1814) [(1814, .iaload, 1), (1815, .aload_n 3, 1), (1816, .invokestatic 186, 3), (1819, .istore 5, 2), (1821, .aload_n 2, 1), (1822, .aload_n 0, 1), (1823, .iload 4, 2), (1825, .iconst 1, 1), (1826, .iadd, 1), (1827, .iaload, 1), (1828, .invokevirtual 191, 3), (1831, .lstore 6, 2)] = true := by decide +kernel
theorem zr_802L : decode cL_law 1814 = .ok (.iaload, 1) ∧ decode cL_law 1815 = .ok (.aload_n 3, 1) ∧ decode cL_law 1816 = .ok (.invokestatic 186, 3) ∧ decode cL_law 1819 = .ok (.istore 5, 2) ∧ decode cL_law 1821 = .ok (.aload_n 2, 1) ∧ decode cL_law 1822 = .ok (.aload_n 0, 1) ∧ decode cL_law 1823 = .ok (.iload 4, 2) ∧ decode cL_law 1825 = .ok (.iconst 1, 1) ∧ decode cL_law 1826 = .ok (.iadd, 1) ∧ decode cL_law 1827 = .ok (.iaload, 1) ∧ decode cL_law 1828 = .ok (.invokevirtual 191, 3) ∧ decode cL_law 1831 = .ok (.lstore 6, 2) ∧ True := zj_of zk_802L
abbrev dL_law_1814 := zr_802L.1
abbrev dL_law_1815 := zr_802L.2.1
abbrev dL_law_1816 := zr_802L.2.2.1
abbrev dL_law_1819 := zr_802L.2.2.2.1
abbrev dL_law_1821 := zr_802L.2.2.2.2.1
abbrev dL_law_1822 := zr_802L.2.2.2.2.2.1
abbrev dL_law_1823 := zr_802L.2.2.2.2.2.2.1
abbrev dL_law_1825 := zr_802L.2.2.2.2.2.2.2.1
abbrev dL_law_1826 := zr_802L.2.2.2.2.2.2.2.2.1
abbrev dL_law_1827 := zr_802L.2.2.2.2.2.2.2.2.2.1
abbrev dL_law_1828 := zr_802L.2.2.2.2.2.2.2.2.2.2.1
abbrev dL_law_1831 := zr_802L.2.2.2.2.2.2.2.2.2.2.2.1
set_option maxRecDepth 100000 in
theorem zk_803L : zck 1833 (cL_law.data.toList.drop 1833) [(1833, .goto 3, 3), (1836, .iinc 4 6, 3), (1839, .goto (-1816), 3), (1842, .iconst 1, 1), (1843, .ireturn, 1)] = true := by decide +kernel
theorem zr_803L : decode cL_law 1833 = .ok (.goto 3, 3) ∧ decode cL_law 1836 = .ok (.iinc 4 6, 3) ∧ decode cL_law 1839 = .ok (.goto (-1816), 3) ∧ decode cL_law 1842 = .ok (.iconst 1, 1) ∧ decode cL_law 1843 = .ok (.ireturn, 1) ∧ True := zj_of zk_803L
abbrev dL_law_1833 := zr_803L.1
abbrev dL_law_1836 := zr_803L.2.1
abbrev dL_law_1839 := zr_803L.2.2.1
abbrev dL_law_1842 := zr_803L.2.2.2.1
abbrev dL_law_1843 := zr_803L.2.2.2.2.1
