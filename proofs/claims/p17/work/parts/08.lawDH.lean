set_option maxRecDepth 100000 in
theorem zk_349L : zck 1796 (cL_law.data.toList.drop 1796) [(1796, .iload 4, 2), (1798, .iconst 1, 1), (1799, .iadd, 1), (1800, .iaload, 1), (1801, .invokevirtual 185, 3), (1804, .pop, 1), (1805, .goto 31, 3), (1808, .aload_n 1, 1), (1809, .aload_n 0, 1), (1810, .iload 4, 2), (1812, .iconst 1, 1), (1813, .iadd, 1), (1814, .iaload, 1), (1815, .aload_n 3, 1), (1816, .invokestatic 186, 3), (1819, .istore 5, 2), (1821, .aload_n 2, 1), (1822, .aload_n 0, 1), (1823, .iload 4, 2), (1825, .iconst 1, 1), (1826, .iadd, 1), (1827, .iaload, 1), (1828, .invokevirtual 191, 3), (1831, .lstore 6, 2), (1833, .goto 3, 3), (1836, .iinc 4 6, 3), (1839, .goto (-1816), 3), (1842, .iconst 1, 1), (1843, .ireturn, 1)] = true := by decide +kernel
theorem dL_law_1796 : decode cL_law 1796 = .ok (.iload 4, 2) := zk_of zk_349L 0 rfl
theorem dL_law_1798 : decode cL_law 1798 = .ok (.iconst 1, 1) := zk_of zk_349L 1 rfl
theorem dL_law_1799 : decode cL_law 1799 = .ok (.iadd, 1) := zk_of zk_349L 2 rfl
theorem dL_law_1800 : decode cL_law 1800 = .ok (.iaload, 1) := zk_of zk_349L 3 rfl
theorem dL_law_1801 : decode cL_law 1801 = .ok (.invokevirtual 185, 3) := zk_of zk_349L 4 rfl
theorem dL_law_1804 : decode cL_law 1804 = .ok (.pop, 1) := zk_of zk_349L 5 rfl
theorem dL_law_1805 : decode cL_law 1805 = .ok (.goto 31, 3) := zk_of zk_349L 6 rfl
theorem dL_law_1808 : decode cL_law 1808 = .ok (.aload_n 1, 1) := zk_of zk_349L 7 rfl
theorem dL_law_1809 : decode cL_law 1809 = .ok (.aload_n 0, 1) := zk_of zk_349L 8 rfl
theorem dL_law_1810 : decode cL_law 1810 = .ok (.iload 4, 2) := zk_of zk_349L 9 rfl
theorem dL_law_1812 : decode cL_law 1812 = .ok (.iconst 1, 1) := zk_of zk_349L 10 rfl
theorem dL_law_1813 : decode cL_law 1813 = .ok (.iadd, 1) := zk_of zk_349L 11 rfl
theorem dL_law_1814 : decode cL_law 1814 = .ok (.iaload, 1) := zk_of zk_349L 12 rfl
theorem dL_law_1815 : decode cL_law 1815 = .ok (.aload_n 3, 1) := zk_of zk_349L 13 rfl
theorem dL_law_1816 : decode cL_law 1816 = .ok (.invokestatic 186, 3) := zk_of zk_349L 14 rfl
theorem dL_law_1819 : decode cL_law 1819 = .ok (.istore 5, 2) := zk_of zk_349L 15 rfl
theorem dL_law_1821 : decode cL_law 1821 = .ok (.aload_n 2, 1) := zk_of zk_349L 16 rfl
theorem dL_law_1822 : decode cL_law 1822 = .ok (.aload_n 0, 1) := zk_of zk_349L 17 rfl
theorem dL_law_1823 : decode cL_law 1823 = .ok (.iload 4, 2) := zk_of zk_349L 18 rfl
theorem dL_law_1825 : decode cL_law 1825 = .ok (.iconst 1, 1) := zk_of zk_349L 19 rfl
theorem dL_law_1826 : decode cL_law 1826 = .ok (.iadd, 1) := zk_of zk_349L 20 rfl
theorem dL_law_1827 : decode cL_law 1827 = .ok (.iaload, 1) := zk_of zk_349L 21 rfl
theorem dL_law_1828 : decode cL_law 1828 = .ok (.invokevirtual 191, 3) := zk_of zk_349L 22 rfl
theorem dL_law_1831 : decode cL_law 1831 = .ok (.lstore 6, 2) := zk_of zk_349L 23 rfl
theorem dL_law_1833 : decode cL_law 1833 = .ok (.goto 3, 3) := zk_of zk_349L 24 rfl
theorem dL_law_1836 : decode cL_law 1836 = .ok (.iinc 4 6, 3) := zk_of zk_349L 25 rfl
theorem dL_law_1839 : decode cL_law 1839 = .ok (.goto (-1816), 3) := zk_of zk_349L 26 rfl
theorem dL_law_1842 : decode cL_law 1842 = .ok (.iconst 1, 1) := zk_of zk_349L 27 rfl
theorem dL_law_1843 : decode cL_law 1843 = .ok (.ireturn, 1) := zk_of zk_349L 28 rfl
