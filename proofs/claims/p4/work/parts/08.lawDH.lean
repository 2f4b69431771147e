theorem dL_law_1796 : decode cL_law 1796 = .ok (.iload 4, 2) := by decide +kernel
theorem dL_law_1798 : decode cL_law 1798 = .ok (.iconst 1, 1) := by decide +kernel
theorem dL_law_1799 : decode cL_law 1799 = .ok (.iadd, 1) := by decide +kernel
theorem dL_law_1800 : decode cL_law 1800 = .ok (.iaload, 1) := by decide +kernel
theorem dL_law_1801 : decode cL_law 1801 = .ok (.invokevirtual 185, 3) := by decide +kernel
theorem dL_law_1804 : decode cL_law 1804 = .ok (.pop, 1) := by decide +kernel
theorem dL_law_1805 : decode cL_law 1805 = .ok (.goto 31, 3) := by decide +kernel
theorem dL_law_1808 : decode cL_law 1808 = .ok (.aload_n 1, 1) := by decide +kernel
theorem dL_law_1809 : decode cL_law 1809 = .ok (.aload_n 0, 1) := by decide +kernel
theorem dL_law_1810 : decode cL_law 1810 = .ok (.iload 4, 2) := by decide +kernel
theorem dL_law_1812 : decode cL_law 1812 = .ok (.iconst 1, 1) := by decide +kernel
theorem dL_law_1813 : decode cL_law 1813 = .ok (.iadd, 1) := by decide +kernel
theorem dL_law_1814 : decode cL_law 1814 = .ok (.iaload, 1) := by decide +kernel
theorem dL_law_1815 : decode cL_law 1815 = .ok (.aload_n 3, 1) := by decide +kernel
theorem dL_law_1816 : decode cL_law 1816 = .ok (.invokestatic 186, 3) := by decide +kernel
theorem dL_law_1819 : decode cL_law 1819 = .ok (.istore 5, 2) := by decide +kernel
theorem dL_law_1821 : decode cL_law 1821 = .ok (.aload_n 2, 1) := by decide +kernel
theorem dL_law_1822 : decode cL_law 1822 = .ok (.aload_n 0, 1) := by decide +kernel
theorem dL_law_1823 : decode cL_law 1823 = .ok (.iload 4, 2) := by decide +kernel
theorem dL_law_1825 : decode cL_law 1825 = .ok (.iconst 1, 1) := by decide +kernel
theorem dL_law_1826 : decode cL_law 1826 = .ok (.iadd, 1) := by decide +kernel
theorem dL_law_1827 : decode cL_law 1827 = .ok (.iaload, 1) := by decide +kernel
theorem dL_law_1828 : decode cL_law 1828 = .ok (.invokevirtual 191, 3) := by decide +kernel
theorem dL_law_1831 : decode cL_law 1831 = .ok (.lstore 6, 2) := by decide +kernel
theorem dL_law_1833 : decode cL_law 1833 = .ok (.goto 3, 3) := by decide +kernel
theorem dL_law_1836 : decode cL_law 1836 = .ok (.iinc 4 6, 3) := by decide +kernel
theorem dL_law_1839 : decode cL_law 1839 = .ok (.goto (-1816), 3) := by decide +kernel
theorem dL_law_1842 : decode cL_law 1842 = .ok (.iconst 1, 1) := by decide +kernel
theorem dL_law_1843 : decode cL_law 1843 = .ok (.ireturn, 1) := by decide +kernel
