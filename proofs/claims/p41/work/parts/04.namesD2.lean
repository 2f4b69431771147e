set_option maxRecDepth 100000 in
theorem zk_491 : zck 85 (cX9_triesBits.data.toList.drop 85) [(85, .iload 4, 2), (87, .iaload, 1), (88, .iastore, 1), (89, .iinc 4 1, 3), (92, .goto (-31), 3), (95, .bipush 7, 2), (97, .istore 4, 2), (99, .iload 4, 2), (101, .ifCond .lt 94, 3), (104, .iload_n 2, 1), (105, .iload 4, 2), (107, .ishr, 1)] = true := by decide +kernel
theorem zr_491 : decode cX9_triesBits 85 = .ok (.iload 4, 2) ∧ decode cX9_triesBits 87 = .ok (.iaload, 1) ∧ decode cX9_triesBits 88 = .ok (.iastore, 1) ∧ decode cX9_triesBits 89 = .ok (.iinc 4 1, 3) ∧ decode cX9_triesBits 92 = .ok (.goto (-31), 3) ∧ decode cX9_triesBits 95 = .ok (.bipush 7, 2) ∧ decode cX9_triesBits 97 = .ok (.istore 4, 2) ∧ decode cX9_triesBits 99 = .ok (.iload 4, 2) ∧ decode cX9_triesBits 101 = .ok (.ifCond .lt 94, 3) ∧ decode cX9_triesBits 104 = .ok (.iload_n 2, 1) ∧ decode cX9_triesBits 105 = .ok (.iload 4, 2) ∧ decode cX9_triesBits 107 = .ok (.ishr, 1) ∧ True := zj_of zk_491
abbrev dX9_triesBits_85 := zr_491.1
abbrev dX9_triesBits_87 := zr_491.2.1
abbrev dX9_triesBits_88 := zr_491.2.2.1
abbrev dX9_triesBits_89 := zr_491.2.2.2.1
abbrev dX9_triesBits_92 := zr_491.2.2.2.2.1
abbrev dX9_triesBits_95 := zr_491.2.2.2.2.2.1
abbrev dX9_triesBits_97 := zr_491.2.2.2.2.2.2.1
abbrev dX9_triesBits_99 := zr_491.2.2.2.2.2.2.2.1
abbrev dX9_triesBits_101 := zr_491.2.2.2.2.2.2.2.2.1
abbrev dX9_triesBits_104 := zr_491.2.2.2.2.2.2.2.2.2.1
abbrev dX9_triesBits_105 := zr_491.2.2.2.2.2.2.2.2.2.2.1
abbrev dX9_triesBits_107 := zr_491.2.2.2.2.2.2.2.2.2.2.2.1
set_option maxRecDepth 100000 in
theorem zk_492 : zck 108 (cX9_triesBits.data.toList.drop 108) [(108, .iconst 1, 1), (109, .iand, 1), (110, .ifCond .ne 79, 3), (113, .aload_n 0, 1), (114, .getfield 70, 3), (117, .iload_n 1, 1), (118, .iload 4, 2), (120, .iastore, 1), (121, .aload_n 0, 1), (122, .iload 4, 2), (124, .invokevirtual 156, 3), (127, .istore 5, 2)] = true := by decide +kernel
theorem zr_492 : decode cX9_triesBits 108 = .ok (.iconst 1, 1) ∧ decode cX9_triesBits 109 = .ok (.iand, 1) ∧ decode cX9_triesBits 110 = .ok (.ifCond .ne 79, 3) ∧ decode cX9_triesBits 113 = .ok (.aload_n 0, 1) ∧ decode cX9_triesBits 114 = .ok (.getfield 70, 3) ∧ decode cX9_triesBits 117 = .ok (.iload_n 1, 1) ∧ decode cX9_triesBits 118 = .ok (.iload 4, 2) ∧ decode cX9_triesBits 120 = .ok (.iastore, 1) ∧ decode cX9_triesBits 121 = .ok (.aload_n 0, 1) ∧ decode cX9_triesBits 122 = .ok (.iload 4, 2) ∧ decode cX9_triesBits 124 = .ok (.invokevirtual 156, 3) ∧ decode cX9_triesBits 127 = .ok (.istore 5, 2) ∧ True := zj_of zk_492
abbrev dX9_triesBits_108 := zr_492.1
abbrev dX9_triesBits_109 := zr_492.2.1
abbrev dX9_triesBits_110 := zr_492.2.2.1
abbrev dX9_triesBits_113 := zr_492.2.2.2.1
abbrev dX9_triesBits_114 := zr_492.2.2.2.2.1
abbrev dX9_triesBits_117 := zr_492.2.2.2.2.2.1
abbrev dX9_triesBits_118 := zr_492.2.2.2.2.2.2.1
abbrev dX9_triesBits_120 := zr_492.2.2.2.2.2.2.2.1
abbrev dX9_triesBits_121 := zr_492.2.2.2.2.2.2.2.2.1
abbrev dX9_triesBits_122 := zr_492.2.2.2.2.2.2.2.2.2.1
abbrev dX9_triesBits_124 := zr_492.2.2.2.2.2.2.2.2.2.2.1
abbrev dX9_triesBits_127 := zr_492.2.2.2.2.2.2.2.2.2.2.2.1
set_option maxRecDepth 100000 in
theorem zk_493 : zck 129 (cX9_triesBits.data.toList.drop 129) [(129, .aload_n 0, 1), (130, .iload 4, 2), (132, .invokevirtual 118, 3), (135, .aload_n 0, 1), (136, .iload_n 1, 1), (137, .iconst 1, 1), (138, .iadd, 1), (139, .iload_n 2, 1), (140, .iconst 1, 1), (141, .iload 4, 2), (143, .ishl, 1), (144, .ior, 1)] = true := by decide +kernel
theorem zr_493 : decode cX9_triesBits 129 = .ok (.aload_n 0, 1) ∧ decode cX9_triesBits 130 = .ok (.iload 4, 2) ∧ decode cX9_triesBits 132 = .ok (.invokevirtual 118, 3) ∧ decode cX9_triesBits 135 = .ok (.aload_n 0, 1) ∧ decode cX9_triesBits 136 = .ok (.iload_n 1, 1) ∧ decode cX9_triesBits 137 = .ok (.iconst 1, 1) ∧ decode cX9_triesBits 138 = .ok (.iadd, 1) ∧ decode cX9_triesBits 139 = .ok (.iload_n 2, 1) ∧ decode cX9_triesBits 140 = .ok (.iconst 1, 1) ∧ decode cX9_triesBits 141 = .ok (.iload 4, 2) ∧ decode cX9_triesBits 143 = .ok (.ishl, 1) ∧ decode cX9_triesBits 144 = .ok (.ior, 1) ∧ True := zj_of zk_493
abbrev dX9_triesBits_129 := zr_493.1
abbrev dX9_triesBits_130 := zr_493.2.1
abbrev dX9_triesBits_132 := zr_493.2.2.1
abbrev dX9_triesBits_135 := zr_493.2.2.2.1
abbrev dX9_triesBits_136 := zr_493.2.2.2.2.1
abbrev dX9_triesBits_137 := zr_493.2.2.2.2.2.1
abbrev dX9_triesBits_138 := zr_493.2.2.2.2.2.2.1
abbrev dX9_triesBits_139 := zr_493.2.2.2.2.2.2.2.1
abbrev dX9_triesBits_140 := zr_493.2.2.2.2.2.2.2.2.1
abbrev dX9_triesBits_141 := zr_493.2.2.2.2.2.2.2.2.2.1
abbrev dX9_triesBits_143 := zr_493.2.2.2.2.2.2.2.2.2.2.1
abbrev dX9_triesBits_144 := zr_493.2.2.2.2.2.2.2.2.2.2.2.1
set_option maxRecDepth 100000 in
theorem zk_494 : zck 145 (cX9_triesBits.data.toList.drop 145) [(145, .iload_n 3, 1), (146, .iload 5, 2), (148, .iadd, 1), (149, .invokevirtual 165, 3), (152, .iconst 0, 1), (153, .istore 6, 2), (155, .iload 6, 2), (157, .aload_n 0, 1), (158, .getfield 88, 3), (161, .if_icmp .ge 28, 3), (164, .aload_n 0, 1), (165, .getfield 58, 3)] = true := by decide +kernel
theorem zr_494 : decode cX9_triesBits 145 = .ok (.iload_n 3, 1) ∧ decode cX9_triesBits 146 = .ok (.iload 5, 2) ∧ decode cX9_triesBits 148 = .ok (.iadd, 1) ∧ decode cX9_triesBits 149 = .ok (.invokevirtual 165, 3) ∧ decode cX9_triesBits 152 = .ok (.iconst 0, 1) ∧ decode cX9_triesBits 153 = .ok (.istore 6, 2) ∧ decode cX9_triesBits 155 = .ok (.iload 6, 2) ∧ decode cX9_triesBits 157 = .ok (.aload_n 0, 1) ∧ decode cX9_triesBits 158 = .ok (.getfield 88, 3) ∧ decode cX9_triesBits 161 = .ok (.if_icmp .ge 28, 3) ∧ decode cX9_triesBits 164 = .ok (.aload_n 0, 1) ∧ decode cX9_triesBits 165 = .ok (.getfield 58, 3) ∧ True := zj_of zk_494
abbrev dX9_triesBits_145 := zr_494.1
abbrev dX9_triesBits_146 := zr_494.2.1
abbrev dX9_triesBits_148 := zr_494.2.2.1
abbrev dX9_triesBits_149 := zr_494.2.2.2.1
abbrev dX9_triesBits_152 := zr_494.2.2.2.2.1
abbrev dX9_triesBits_153 := zr_494.2.2.2.2.2.1
abbrev dX9_triesBits_155 := zr_494.2.2.2.2.2.2.1
abbrev dX9_triesBits_157 := zr_494.2.2.2.2.2.2.2.1
abbrev dX9_triesBits_158 := zr_494.2.2.2.2.2.2.2.2.1
abbrev dX9_triesBits_161 := zr_494.2.2.2.2.2.2.2.2.2.1
abbrev dX9_triesBits_164 := zr_494.2.2.2.2.2.2.2.2.2.2.1
abbrev dX9_triesBits_165 := zr_494.2.2.2.2.2.2.2.2.2.2.2.1
set_option maxRecDepth 100000 in
theorem zk_495 : zck 168 (cX9_triesBits.data.toList.drop 168) [(168, .iload 6, 2), (170, .aload_n 0, 1), (171, .getfield 67, 3), (174, .bipush 64, 2), (176, .iload_n 1, 1), (177, .imul, 1), (178, .iload 6, 2), (180, .iadd, 1), (181, .iaload, 1), (182, .iastore, 1), (183, .iinc 6 1, 3), (186, .goto (-31), 3)] = true := by decide +kernel
theorem zr_495 : decode cX9_triesBits 168 = .ok (.iload 6, 2) ∧ decode cX9_triesBits 170 = .ok (.aload_n 0, 1) ∧ decode cX9_triesBits 171 = .ok (.getfield 67, 3) ∧ decode cX9_triesBits 174 = .ok (.bipush 64, 2) ∧ decode cX9_triesBits 176 = .ok (.iload_n 1, 1) ∧ decode cX9_triesBits 177 = .ok (.imul, 1) ∧ decode cX9_triesBits 178 = .ok (.iload 6, 2) ∧ decode cX9_triesBits 180 = .ok (.iadd, 1) ∧ decode cX9_triesBits 181 = .ok (.iaload, 1) ∧ decode cX9_triesBits 182 = .ok (.iastore, 1) ∧ decode cX9_triesBits 183 = .ok (.iinc 6 1, 3) ∧ decode cX9_triesBits 186 = .ok (.goto (-31), 3) ∧ True := zj_of zk_495
abbrev dX9_triesBits_168 := zr_495.1
abbrev dX9_triesBits_170 := zr_495.2.1
abbrev dX9_triesBits_171 := zr_495.2.2.1
abbrev dX9_triesBits_174 := zr_495.2.2.2.1
abbrev dX9_triesBits_176 := zr_495.2.2.2.2.1
abbrev dX9_triesBits_177 := zr_495.2.2.2.2.2.1
abbrev dX9_triesBits_178 := zr_495.2.2.2.2.2.2.1
abbrev dX9_triesBits_180 := zr_495.2.2.2.2.2.2.2.1
abbrev dX9_triesBits_181 := zr_495.2.2.2.2.2.2.2.2.1
abbrev dX9_triesBits_182 := zr_495.2.2.2.2.2.2.2.2.2.1
abbrev dX9_triesBits_183 := zr_495.2.2.2.2.2.2.2.2.2.2.1
abbrev dX9_triesBits_186 := zr_495.2.2.2.2.2.2.2.2.2.2.2.1
set_option maxRecDepth 100000 in
theorem zk_496 : zck 189 (cX9_triesBits.data.toList.drop 189) [(189, .iinc 4 (-1), 3), (192, .goto (-93), 3), (195, .return_, 1)] = true := by decide +kernel
theorem zr_496 : decode cX9_triesBits 189 = .ok (.iinc 4 (-1), 3) ∧ decode cX9_triesBits 192 = .ok (.goto (-93), 3) ∧ decode cX9_triesBits 195 = .ok (.return_, 1) ∧ True := zj_of zk_496
abbrev dX9_triesBits_189 := zr_496.1
abbrev dX9_triesBits_192 := zr_496.2.1
abbrev dX9_triesBits_195 := zr_496.2.2.1
set_option maxRecDepth 100000 in
theorem zk_497 : zck 0 (cX9_thrift.data.toList.drop 0) [(0, .aload_n 0, 1), (1, .iconst 0, 1), (2, .putfield 1, 3), (5, .aload_n 0, 1), (6, .invokevirtual 115, 3), (9, .aload_n 0, 1), (10, .iconst (-1), 1), (11, .putfield 162, 3), (14, .aload_n 0, 1), (15, .iconst 0, 1), (16, .iconst 0, 1), (17, .iconst 0, 1)] = true := by decide +kernel
theorem zr_497 : decode cX9_thrift 0 = .ok (.aload_n 0, 1) ∧ decode cX9_thrift 1 = .ok (.iconst 0, 1) ∧ decode cX9_thrift 2 = .ok (.putfield 1, 3) ∧ decode cX9_thrift 5 = .ok (.aload_n 0, 1) ∧ decode cX9_thrift 6 = .ok (.invokevirtual 115, 3) ∧ decode cX9_thrift 9 = .ok (.aload_n 0, 1) ∧ decode cX9_thrift 10 = .ok (.iconst (-1), 1) ∧ decode cX9_thrift 11 = .ok (.putfield 162, 3) ∧ decode cX9_thrift 14 = .ok (.aload_n 0, 1) ∧ decode cX9_thrift 15 = .ok (.iconst 0, 1) ∧ decode cX9_thrift 16 = .ok (.iconst 0, 1) ∧ decode cX9_thrift 17 = .ok (.iconst 0, 1) ∧ True := zj_of zk_497
abbrev dX9_thrift_0 := zr_497.1
abbrev dX9_thrift_1 := zr_497.2.1
abbrev dX9_thrift_2 := zr_497.2.2.1
abbrev dX9_thrift_5 := zr_497.2.2.2.1
abbrev dX9_thrift_6 := zr_497.2.2.2.2.1
abbrev dX9_thrift_9 := zr_497.2.2.2.2.2.1
abbrev dX9_thrift_10 := zr_497.2.2.2.2.2.2.1
abbrev dX9_thrift_11 := zr_497.2.2.2.2.2.2.2.1
abbrev dX9_thrift_14 := zr_497.2.2.2.2.2.2.2.2.1
abbrev dX9_thrift_15 := zr_497.2.2.2.2.2.2.2.2.2.1
abbrev dX9_thrift_16 := zr_497.2.2.2.2.2.2.2.2.2.2.1
abbrev dX9_thrift_17 := zr_497.2.2.2.2.2.2.2.2.2.2.2.1
set_option maxRecDepth 100000 in
theorem zk_498 : zck 18 (cX9_thrift.data.toList.drop 18) [(18, .invokevirtual 165, 3), (21, .aload_n 0, 1), (22, .iconst 0, 1), (23, .putfield 11, 3), (26, .iconst 0, 1), (27, .istore_n 1, 1), (28, .iload_n 1, 1), (29, .bipush 8, 2), (31, .if_icmp .ge 20, 3), (34, .aload_n 0, 1), (35, .aload_n 0, 1), (36, .getfield 73, 3)] = true := by decide +kernel
theorem zr_498 : decode cX9_thrift 18 = .ok (.invokevirtual 165, 3) ∧ decode cX9_thrift 21 = .ok (.aload_n 0, 1) ∧ decode cX9_thrift 22 = .ok (.iconst 0, 1) ∧ decode cX9_thrift 23 = .ok (.putfield 11, 3) ∧ decode cX9_thrift 26 = .ok (.iconst 0, 1) ∧ decode cX9_thrift 27 = .ok (.istore_n 1, 1) ∧ decode cX9_thrift 28 = .ok (.iload_n 1, 1) ∧ decode cX9_thrift 29 = .ok (.bipush 8, 2) ∧ decode cX9_thrift 31 = .ok (.if_icmp .ge 20, 3) ∧ decode cX9_thrift 34 = .ok (.aload_n 0, 1) ∧ decode cX9_thrift 35 = .ok (.aload_n 0, 1) ∧ decode cX9_thrift 36 = .ok (.getfield 73, 3) ∧ True := zj_of zk_498
abbrev dX9_thrift_18 := zr_498.1
abbrev dX9_thrift_21 := zr_498.2.1
abbrev dX9_thrift_22 := zr_498.2.2.1
abbrev dX9_thrift_23 := zr_498.2.2.2.1
abbrev dX9_thrift_26 := zr_498.2.2.2.2.1
abbrev dX9_thrift_27 := zr_498.2.2.2.2.2.1
abbrev dX9_thrift_28 := zr_498.2.2.2.2.2.2.1
abbrev dX9_thrift_29 := zr_498.2.2.2.2.2.2.2.1
abbrev dX9_thrift_31 := zr_498.2.2.2.2.2.2.2.2.1
abbrev dX9_thrift_34 := zr_498.2.2.2.2.2.2.2.2.2.1
abbrev dX9_thrift_35 := zr_498.2.2.2.2.2.2.2.2.2.2.1
abbrev dX9_thrift_36 := zr_498.2.2.2.2.2.2.2.2.2.2.2.1
set_option maxRecDepth 100000 in
theorem zk_499 : zck 39 (cX9_thrift.data.toList.drop 39) [(39, .iload_n 1, 1), (40, .iaload, 1), (41, .i2l, 1), (42, .invokevirtual 142, 3), (45, .iinc 1 1, 3), (48, .goto (-20), 3), (51, .aload_n 0, 1), (52, .getfield 162, 3), (55, .ireturn, 1)] = true := by decide +kernel
theorem zr_499 : decode cX9_thrift 39 = .ok (.iload_n 1, 1) ∧ decode cX9_thrift 40 = .ok (.iaload, 1) ∧ decode cX9_thrift 41 = .ok (.i2l, 1) ∧ decode cX9_thrift 42 = .ok (.invokevirtual 142, 3) ∧ decode cX9_thrift 45 = .ok (.iinc 1 1, 3) ∧ decode cX9_thrift 48 = .ok (.goto (-20), 3) ∧ decode cX9_thrift 51 = .ok (.aload_n 0, 1) ∧ decode cX9_thrift 52 = .ok (.getfield 162, 3) ∧ decode cX9_thrift 55 = .ok (.ireturn, 1) ∧ True := zj_of zk_499
abbrev dX9_thrift_39 := zr_499.1
abbrev dX9_thrift_40 := zr_499.2.1
abbrev dX9_thrift_41 := zr_499.2.2.1
abbrev dX9_thrift_42 := zr_499.2.2.2.1
abbrev dX9_thrift_45 := zr_499.2.2.2.2.1
abbrev dX9_thrift_48 := zr_499.2.2.2.2.2.1
abbrev dX9_thrift_51 := zr_499.2.2.2.2.2.2.1
abbrev dX9_thrift_52 := zr_499.2.2.2.2.2.2.2.1
abbrev dX9_thrift_55 := zr_499.2.2.2.2.2.2.2.2.1
set_option maxRecDepth 100000 in
theorem zk_500 : zck 0 (cX9_counts.data.toList.drop 0) [(0, .iconst 0, 1), (1, .istore 4, 2), (3, .iload 4, 2), (5, .sipush 256, 3), (8, .if_icmp .ge 23, 3), (11, .aload_n 0, 1), (12, .getfield 76, 3), (15, .sipush 256, 3), (18, .iload_n 1, 1), (19, .imul, 1), (20, .iload 4, 2), (22, .iadd, 1)] = true := by decide +kernel
theorem zr_500 : decode cX9_counts 0 = .ok (.iconst 0, 1) ∧ decode cX9_counts 1 = .ok (.istore 4, 2) ∧ decode cX9_counts 3 = .ok (.iload 4, 2) ∧ decode cX9_counts 5 = .ok (.sipush 256, 3) ∧ decode cX9_counts 8 = .ok (.if_icmp .ge 23, 3) ∧ decode cX9_counts 11 = .ok (.aload_n 0, 1) ∧ decode cX9_counts 12 = .ok (.getfield 76, 3) ∧ decode cX9_counts 15 = .ok (.sipush 256, 3) ∧ decode cX9_counts 18 = .ok (.iload_n 1, 1) ∧ decode cX9_counts 19 = .ok (.imul, 1) ∧ decode cX9_counts 20 = .ok (.iload 4, 2) ∧ decode cX9_counts 22 = .ok (.iadd, 1) ∧ True := zj_of zk_500
abbrev dX9_counts_0 := zr_500.1
abbrev dX9_counts_1 := zr_500.2.1
abbrev dX9_counts_3 := zr_500.2.2.1
abbrev dX9_counts_5 := zr_500.2.2.2.1
abbrev dX9_counts_8 := zr_500.2.2.2.2.1
abbrev dX9_counts_11 := zr_500.2.2.2.2.2.1
abbrev dX9_counts_12 := zr_500.2.2.2.2.2.2.1
abbrev dX9_counts_15 := zr_500.2.2.2.2.2.2.2.1
abbrev dX9_counts_18 := zr_500.2.2.2.2.2.2.2.2.1
abbrev dX9_counts_19 := zr_500.2.2.2.2.2.2.2.2.2.1
abbrev dX9_counts_20 := zr_500.2.2.2.2.2.2.2.2.2.2.1
abbrev dX9_counts_22 := zr_500.2.2.2.2.2.2.2.2.2.2.2.1
set_option maxRecDepth 100000 in
theorem zk_501 : zck 23 (cX9_counts.data.toList.drop 23) [(23, .iconst 0, 1), (24, .iastore, 1), (25, .iinc 4 1, 3), (28, .goto (-25), 3), (31, .iload_n 2, 1), (32, .istore 4, 2), (34, .iload 4, 2), (36, .iload_n 3, 1), (37, .if_icmp .ge 31, 3), (40, .aload_n 0, 1), (41, .getfield 76, 3), (44, .sipush 256, 3)] = true := by decide +kernel
theorem zr_501 : decode cX9_counts 23 = .ok (.iconst 0, 1) ∧ decode cX9_counts 24 = .ok (.iastore, 1) ∧ decode cX9_counts 25 = .ok (.iinc 4 1, 3) ∧ decode cX9_counts 28 = .ok (.goto (-25), 3) ∧ decode cX9_counts 31 = .ok (.iload_n 2, 1) ∧ decode cX9_counts 32 = .ok (.istore 4, 2) ∧ decode cX9_counts 34 = .ok (.iload 4, 2) ∧ decode cX9_counts 36 = .ok (.iload_n 3, 1) ∧ decode cX9_counts 37 = .ok (.if_icmp .ge 31, 3) ∧ decode cX9_counts 40 = .ok (.aload_n 0, 1) ∧ decode cX9_counts 41 = .ok (.getfield 76, 3) ∧ decode cX9_counts 44 = .ok (.sipush 256, 3) ∧ True := zj_of zk_501
abbrev dX9_counts_23 := zr_501.1
abbrev dX9_counts_24 := zr_501.2.1
abbrev dX9_counts_25 := zr_501.2.2.1
abbrev dX9_counts_28 := zr_501.2.2.2.1
abbrev dX9_counts_31 := zr_501.2.2.2.2.1
abbrev dX9_counts_32 := zr_501.2.2.2.2.2.1
abbrev dX9_counts_34 := zr_501.2.2.2.2.2.2.1
abbrev dX9_counts_36 := zr_501.2.2.2.2.2.2.2.1
abbrev dX9_counts_37 := zr_501.2.2.2.2.2.2.2.2.1
abbrev dX9_counts_40 := zr_501.2.2.2.2.2.2.2.2.2.1
abbrev dX9_counts_41 := zr_501.2.2.2.2.2.2.2.2.2.2.1
abbrev dX9_counts_44 := zr_501.2.2.2.2.2.2.2.2.2.2.2.1
set_option maxRecDepth 100000 in
theorem zk_502 : zck 47 (cX9_counts.data.toList.drop 47) [(47, .iload_n 1, 1), (48, .imul, 1), (49, .aload_n 0, 1), (50, .getfield 49, 3), (53, .iload 4, 2), (55, .iaload, 1), (56, .iadd, 1), (57, .dup2, 1), (58, .iaload, 1), (59, .iconst 1, 1), (60, .iadd, 1), (61, .iastore, 1)] = true := by decide +kernel
theorem zr_502 : decode cX9_counts 47 = .ok (.iload_n 1, 1) ∧ decode cX9_counts 48 = .ok (.imul, 1) ∧ decode cX9_counts 49 = .ok (.aload_n 0, 1) ∧ decode cX9_counts 50 = .ok (.getfield 49, 3) ∧ decode cX9_counts 53 = .ok (.iload 4, 2) ∧ decode cX9_counts 55 = .ok (.iaload, 1) ∧ decode cX9_counts 56 = .ok (.iadd, 1) ∧ decode cX9_counts 57 = .ok (.dup2, 1) ∧ decode cX9_counts 58 = .ok (.iaload, 1) ∧ decode cX9_counts 59 = .ok (.iconst 1, 1) ∧ decode cX9_counts 60 = .ok (.iadd, 1) ∧ decode cX9_counts 61 = .ok (.iastore, 1) ∧ True := zj_of zk_502
abbrev dX9_counts_47 := zr_502.1
abbrev dX9_counts_48 := zr_502.2.1
abbrev dX9_counts_49 := zr_502.2.2.1
abbrev dX9_counts_50 := zr_502.2.2.2.1
abbrev dX9_counts_53 := zr_502.2.2.2.2.1
abbrev dX9_counts_55 := zr_502.2.2.2.2.2.1
abbrev dX9_counts_56 := zr_502.2.2.2.2.2.2.1
abbrev dX9_counts_57 := zr_502.2.2.2.2.2.2.2.1
abbrev dX9_counts_58 := zr_502.2.2.2.2.2.2.2.2.1
abbrev dX9_counts_59 := zr_502.2.2.2.2.2.2.2.2.2.1
abbrev dX9_counts_60 := zr_502.2.2.2.2.2.2.2.2.2.2.1
abbrev dX9_counts_61 := zr_502.2.2.2.2.2.2.2.2.2.2.2.1
set_option maxRecDepth 100000 in
theorem zk_503 : zck 62 (cX9_counts.data.toList.drop 62) [(62, .iinc 4 1, 3), (65, .goto (-31), 3), (68, .return_, 1)] = true := by decide +kernel
theorem zr_503 : decode cX9_counts 62 = .ok (.iinc 4 1, 3) ∧ decode cX9_counts 65 = .ok (.goto (-31), 3) ∧ decode cX9_counts 68 = .ok (.return_, 1) ∧ True := zj_of zk_503
abbrev dX9_counts_62 := zr_503.1
abbrev dX9_counts_65 := zr_503.2.1
abbrev dX9_counts_68 := zr_503.2.2.1
set_option maxRecDepth 100000 in
theorem zk_504 : zck 0 (cX9_times.data.toList.drop 0) [(0, .aload_n 0, 1), (1, .getfield 76, 3), (4, .sipush 256, 3), (7, .iload_n 1, 1), (8, .imul, 1), (9, .iload_n 2, 1), (10, .iadd, 1), (11, .iaload, 1), (12, .ireturn, 1)] = true := by decide +kernel
theorem zr_504 : decode cX9_times 0 = .ok (.aload_n 0, 1) ∧ decode cX9_times 1 = .ok (.getfield 76, 3) ∧ decode cX9_times 4 = .ok (.sipush 256, 3) ∧ decode cX9_times 7 = .ok (.iload_n 1, 1) ∧ decode cX9_times 8 = .ok (.imul, 1) ∧ decode cX9_times 9 = .ok (.iload_n 2, 1) ∧ decode cX9_times 10 = .ok (.iadd, 1) ∧ decode cX9_times 11 = .ok (.iaload, 1) ∧ decode cX9_times 12 = .ok (.ireturn, 1) ∧ True := zj_of zk_504
abbrev dX9_times_0 := zr_504.1
abbrev dX9_times_1 := zr_504.2.1
abbrev dX9_times_4 := zr_504.2.2.1
abbrev dX9_times_7 := zr_504.2.2.2.1
abbrev dX9_times_8 := zr_504.2.2.2.2.1
abbrev dX9_times_9 := zr_504.2.2.2.2.2.1
abbrev dX9_times_10 := zr_504.2.2.2.2.2.2.1
abbrev dX9_times_11 := zr_504.2.2.2.2.2.2.2.1
abbrev dX9_times_12 := zr_504.2.2.2.2.2.2.2.2.1
set_option maxRecDepth 100000 in
theorem zk_505 : zck 0 (cX9_sorts.data.toList.drop 0) [(0, .aload_n 0, 1), (1, .iconst 0, 1), (2, .iload_n 1, 1), (3, .iload_n 2, 1), (4, .invokevirtual 169, 3), (7, .aload_n 0, 1), (8, .iconst 0, 1), (9, .putfield 172, 3), (12, .iconst 0, 1), (13, .istore_n 3, 1), (14, .iload_n 3, 1), (15, .sipush 256, 3)] = true := by decide +kernel
theorem zr_505 : decode cX9_sorts 0 = .ok (.aload_n 0, 1) ∧ decode cX9_sorts 1 = .ok (.iconst 0, 1) ∧ decode cX9_sorts 2 = .ok (.iload_n 1, 1) ∧ decode cX9_sorts 3 = .ok (.iload_n 2, 1) ∧ decode cX9_sorts 4 = .ok (.invokevirtual 169, 3) ∧ decode cX9_sorts 7 = .ok (.aload_n 0, 1) ∧ decode cX9_sorts 8 = .ok (.iconst 0, 1) ∧ decode cX9_sorts 9 = .ok (.putfield 172, 3) ∧ decode cX9_sorts 12 = .ok (.iconst 0, 1) ∧ decode cX9_sorts 13 = .ok (.istore_n 3, 1) ∧ decode cX9_sorts 14 = .ok (.iload_n 3, 1) ∧ decode cX9_sorts 15 = .ok (.sipush 256, 3) ∧ True := zj_of zk_505
abbrev dX9_sorts_0 := zr_505.1
abbrev dX9_sorts_1 := zr_505.2.1
abbrev dX9_sorts_2 := zr_505.2.2.1
abbrev dX9_sorts_3 := zr_505.2.2.2.1
abbrev dX9_sorts_4 := zr_505.2.2.2.2.1
abbrev dX9_sorts_7 := zr_505.2.2.2.2.2.1
abbrev dX9_sorts_8 := zr_505.2.2.2.2.2.2.1
abbrev dX9_sorts_9 := zr_505.2.2.2.2.2.2.2.1
abbrev dX9_sorts_12 := zr_505.2.2.2.2.2.2.2.2.1
abbrev dX9_sorts_13 := zr_505.2.2.2.2.2.2.2.2.2.1
abbrev dX9_sorts_14 := zr_505.2.2.2.2.2.2.2.2.2.2.1
abbrev dX9_sorts_15 := zr_505.2.2.2.2.2.2.2.2.2.2.2.1
set_option maxRecDepth 100000 in
theorem zk_506 : zck 18 (cX9_sorts.data.toList.drop 18) [(18, .if_icmp .ge 49, 3), (21, .iconst 0, 1), (22, .istore 4, 2), (24, .iload 4, 2), (26, .aload_n 0, 1), (27, .iconst 0, 1), (28, .iload_n 3, 1), (29, .invokevirtual 175, 3), (32, .if_icmp .ge 29, 3), (35, .aload_n 0, 1), (36, .getfield 79, 3), (39, .aload_n 0, 1)] = true := by decide +kernel
theorem zr_506 : decode cX9_sorts 18 = .ok (.if_icmp .ge 49, 3) ∧ decode cX9_sorts 21 = .ok (.iconst 0, 1) ∧ decode cX9_sorts 22 = .ok (.istore 4, 2) ∧ decode cX9_sorts 24 = .ok (.iload 4, 2) ∧ decode cX9_sorts 26 = .ok (.aload_n 0, 1) ∧ decode cX9_sorts 27 = .ok (.iconst 0, 1) ∧ decode cX9_sorts 28 = .ok (.iload_n 3, 1) ∧ decode cX9_sorts 29 = .ok (.invokevirtual 175, 3) ∧ decode cX9_sorts 32 = .ok (.if_icmp .ge 29, 3) ∧ decode cX9_sorts 35 = .ok (.aload_n 0, 1) ∧ decode cX9_sorts 36 = .ok (.getfield 79, 3) ∧ decode cX9_sorts 39 = .ok (.aload_n 0, 1) ∧ True := zj_of zk_506
abbrev dX9_sorts_18 := zr_506.1
abbrev dX9_sorts_21 := zr_506.2.1
abbrev dX9_sorts_22 := zr_506.2.2.1
abbrev dX9_sorts_24 := zr_506.2.2.2.1
abbrev dX9_sorts_26 := zr_506.2.2.2.2.1
abbrev dX9_sorts_27 := zr_506.2.2.2.2.2.1
abbrev dX9_sorts_28 := zr_506.2.2.2.2.2.2.1
abbrev dX9_sorts_29 := zr_506.2.2.2.2.2.2.2.1
abbrev dX9_sorts_32 := zr_506.2.2.2.2.2.2.2.2.1
abbrev dX9_sorts_35 := zr_506.2.2.2.2.2.2.2.2.2.1
abbrev dX9_sorts_36 := zr_506.2.2.2.2.2.2.2.2.2.2.1
abbrev dX9_sorts_39 := zr_506.2.2.2.2.2.2.2.2.2.2.2.1
set_option maxRecDepth 100000 in
theorem zk_507 : zck 40 (cX9_sorts.data.toList.drop 40) [(40, .getfield 172, 3), (43, .iload_n 3, 1), (44, .iastore, 1), (45, .aload_n 0, 1), (46, .dup, 1), (47, .getfield 172, 3), (50, .iconst 1, 1), (51, .iadd, 1), (52, .putfield 172, 3), (55, .iinc 4 1, 3), (58, .goto (-34), 3), (61, .iinc 3 1, 3)] = true := by decide +kernel
theorem zr_507 : decode cX9_sorts 40 = .ok (.getfield 172, 3) ∧ decode cX9_sorts 43 = .ok (.iload_n 3, 1) ∧ decode cX9_sorts 44 = .ok (.iastore, 1) ∧ decode cX9_sorts 45 = .ok (.aload_n 0, 1) ∧ decode cX9_sorts 46 = .ok (.dup, 1) ∧ decode cX9_sorts 47 = .ok (.getfield 172, 3) ∧ decode cX9_sorts 50 = .ok (.iconst 1, 1) ∧ decode cX9_sorts 51 = .ok (.iadd, 1) ∧ decode cX9_sorts 52 = .ok (.putfield 172, 3) ∧ decode cX9_sorts 55 = .ok (.iinc 4 1, 3) ∧ decode cX9_sorts 58 = .ok (.goto (-34), 3) ∧ decode cX9_sorts 61 = .ok (.iinc 3 1, 3) ∧ True := zj_of zk_507
abbrev dX9_sorts_40 := zr_507.1
abbrev dX9_sorts_43 := zr_507.2.1
abbrev dX9_sorts_44 := zr_507.2.2.1
abbrev dX9_sorts_45 := zr_507.2.2.2.1
abbrev dX9_sorts_46 := zr_507.2.2.2.2.1
abbrev dX9_sorts_47 := zr_507.2.2.2.2.2.1
abbrev dX9_sorts_50 := zr_507.2.2.2.2.2.2.1
abbrev dX9_sorts_51 := zr_507.2.2.2.2.2.2.2.1
abbrev dX9_sorts_52 := zr_507.2.2.2.2.2.2.2.2.1
abbrev dX9_sorts_55 := zr_507.2.2.2.2.2.2.2.2.2.1
abbrev dX9_sorts_58 := zr_507.2.2.2.2.2.2.2.2.2.2.1
abbrev dX9_sorts_61 := zr_507.2.2.2.2.2.2.2.2.2.2.2.1
set_option maxRecDepth 100000 in
theorem zk_508 : zck 64 (cX9_sorts.data.toList.drop 64) [(64, .goto (-50), 3), (67, .return_, 1)] = true := by decide +kernel
theorem zr_508 : decode cX9_sorts 64 = .ok (.goto (-50), 3) ∧ decode cX9_sorts 67 = .ok (.return_, 1) ∧ True := zj_of zk_508
abbrev dX9_sorts_64 := zr_508.1
abbrev dX9_sorts_67 := zr_508.2.1
set_option maxRecDepth 100000 in
theorem zk_509 : zck 0 (cX9_kth.data.toList.drop 0) [(0, .aload_n 0, 1), (1, .iconst 0, 1), (2, .putfield 1, 3), (5, .aload_n 0, 1), (6, .iload_n 1, 1), (7, .iload_n 2, 1), (8, .invokevirtual 150, 3), (11, .ifCond .eq 7, 3), (14, .iload_n 3, 1), (15, .ifCond .ge 5, 3), (18, .iconst (-1), 1), (19, .ireturn, 1)] = true := by decide +kernel
theorem zr_509 : decode cX9_kth 0 = .ok (.aload_n 0, 1) ∧ decode cX9_kth 1 = .ok (.iconst 0, 1) ∧ decode cX9_kth 2 = .ok (.putfield 1, 3) ∧ decode cX9_kth 5 = .ok (.aload_n 0, 1) ∧ decode cX9_kth 6 = .ok (.iload_n 1, 1) ∧ decode cX9_kth 7 = .ok (.iload_n 2, 1) ∧ decode cX9_kth 8 = .ok (.invokevirtual 150, 3) ∧ decode cX9_kth 11 = .ok (.ifCond .eq 7, 3) ∧ decode cX9_kth 14 = .ok (.iload_n 3, 1) ∧ decode cX9_kth 15 = .ok (.ifCond .ge 5, 3) ∧ decode cX9_kth 18 = .ok (.iconst (-1), 1) ∧ decode cX9_kth 19 = .ok (.ireturn, 1) ∧ True := zj_of zk_509
abbrev dX9_kth_0 := zr_509.1
abbrev dX9_kth_1 := zr_509.2.1
abbrev dX9_kth_2 := zr_509.2.2.1
abbrev dX9_kth_5 := zr_509.2.2.2.1
abbrev dX9_kth_6 := zr_509.2.2.2.2.1
abbrev dX9_kth_7 := zr_509.2.2.2.2.2.1
abbrev dX9_kth_8 := zr_509.2.2.2.2.2.2.1
abbrev dX9_kth_11 := zr_509.2.2.2.2.2.2.2.1
abbrev dX9_kth_14 := zr_509.2.2.2.2.2.2.2.2.1
abbrev dX9_kth_15 := zr_509.2.2.2.2.2.2.2.2.2.1
abbrev dX9_kth_18 := zr_509.2.2.2.2.2.2.2.2.2.2.1
abbrev dX9_kth_19 := zr_509.2.2.2.2.2.2.2.2.2.2.2.1
set_option maxRecDepth 100000 in
theorem zk_510 : zck 20 (cX9_kth.data.toList.drop 20) [(20, .iload_n 3, 1), (21, .iload_n 2, 1), (22, .iload_n 1, 1), (23, .isub, 1), (24, .if_icmp .lt 6, 3), (27, .bipush (-2), 2), (29, .ireturn, 1), (30, .aload_n 0, 1), (31, .iload_n 1, 1), (32, .iload_n 2, 1), (33, .invokevirtual 178, 3), (36, .aload_n 0, 1)] = true := by decide +kernel
theorem zr_510 : decode cX9_kth 20 = .ok (.iload_n 3, 1) ∧ decode cX9_kth 21 = .ok (.iload_n 2, 1) ∧ decode cX9_kth 22 = .ok (.iload_n 1, 1) ∧ decode cX9_kth 23 = .ok (.isub, 1) ∧ decode cX9_kth 24 = .ok (.if_icmp .lt 6, 3) ∧ decode cX9_kth 27 = .ok (.bipush (-2), 2) ∧ decode cX9_kth 29 = .ok (.ireturn, 1) ∧ decode cX9_kth 30 = .ok (.aload_n 0, 1) ∧ decode cX9_kth 31 = .ok (.iload_n 1, 1) ∧ decode cX9_kth 32 = .ok (.iload_n 2, 1) ∧ decode cX9_kth 33 = .ok (.invokevirtual 178, 3) ∧ decode cX9_kth 36 = .ok (.aload_n 0, 1) ∧ True := zj_of zk_510
abbrev dX9_kth_20 := zr_510.1
abbrev dX9_kth_21 := zr_510.2.1
abbrev dX9_kth_22 := zr_510.2.2.1
abbrev dX9_kth_23 := zr_510.2.2.2.1
abbrev dX9_kth_24 := zr_510.2.2.2.2.1
abbrev dX9_kth_27 := zr_510.2.2.2.2.2.1
abbrev dX9_kth_29 := zr_510.2.2.2.2.2.2.1
abbrev dX9_kth_30 := zr_510.2.2.2.2.2.2.2.1
abbrev dX9_kth_31 := zr_510.2.2.2.2.2.2.2.2.1
abbrev dX9_kth_32 := zr_510.2.2.2.2.2.2.2.2.2.1
abbrev dX9_kth_33 := zr_510.2.2.2.2.2.2.2.2.2.2.1
abbrev dX9_kth_36 := zr_510.2.2.2.2.2.2.2.2.2.2.2.1
set_option maxRecDepth 100000 in
theorem zk_511 : zck 37 (cX9_kth.data.toList.drop 37) [(37, .getfield 79, 3), (40, .iload_n 3, 1), (41, .iaload, 1), (42, .istore 4, 2), (44, .iload_n 1, 1), (45, .istore 5, 2), (47, .aload_n 0, 1), (48, .getfield 49, 3), (51, .iload 5, 2), (53, .iaload, 1), (54, .iload 4, 2), (56, .if_icmp .eq 9, 3)] = true := by decide +kernel
theorem zr_511 : decode cX9_kth 37 = .ok (.getfield 79, 3) ∧ decode cX9_kth 40 = .ok (.iload_n 3, 1) ∧ decode cX9_kth 41 = .ok (.iaload, 1) ∧ decode cX9_kth 42 = .ok (.istore 4, 2) ∧ decode cX9_kth 44 = .ok (.iload_n 1, 1) ∧ decode cX9_kth 45 = .ok (.istore 5, 2) ∧ decode cX9_kth 47 = .ok (.aload_n 0, 1) ∧ decode cX9_kth 48 = .ok (.getfield 49, 3) ∧ decode cX9_kth 51 = .ok (.iload 5, 2) ∧ decode cX9_kth 53 = .ok (.iaload, 1) ∧ decode cX9_kth 54 = .ok (.iload 4, 2) ∧ decode cX9_kth 56 = .ok (.if_icmp .eq 9, 3) ∧ True := zj_of zk_511
abbrev dX9_kth_37 := zr_511.1
abbrev dX9_kth_40 := zr_511.2.1
abbrev dX9_kth_41 := zr_511.2.2.1
abbrev dX9_kth_42 := zr_511.2.2.2.1
abbrev dX9_kth_44 := zr_511.2.2.2.2.1
abbrev dX9_kth_45 := zr_511.2.2.2.2.2.1
abbrev dX9_kth_47 := zr_511.2.2.2.2.2.2.1
abbrev dX9_kth_48 := zr_511.2.2.2.2.2.2.2.1
abbrev dX9_kth_51 := zr_511.2.2.2.2.2.2.2.2.1
abbrev dX9_kth_53 := zr_511.2.2.2.2.2.2.2.2.2.1
abbrev dX9_kth_54 := zr_511.2.2.2.2.2.2.2.2.2.2.1
abbrev dX9_kth_56 := zr_511.2.2.2.2.2.2.2.2.2.2.2.1
set_option maxRecDepth 100000 in
theorem zk_512 : zck 59 (cX9_kth.data.toList.drop 59) [(59, .iinc 5 1, 3), (62, .goto (-15), 3), (65, .aload_n 0, 1), (66, .iconst 0, 1), (67, .putfield 11, 3), (70, .aload_n 0, 1), (71, .aload_n 0, 1), (72, .iconst 0, 1), (73, .iload 4, 2), (75, .invokevirtual 175, 3), (78, .i2l, 1), (79, .invokevirtual 142, 3)] = true := by decide +kernel
theorem zr_512 : decode cX9_kth 59 = .ok (.iinc 5 1, 3) ∧ decode cX9_kth 62 = .ok (.goto (-15), 3) ∧ decode cX9_kth 65 = .ok (.aload_n 0, 1) ∧ decode cX9_kth 66 = .ok (.iconst 0, 1) ∧ decode cX9_kth 67 = .ok (.putfield 11, 3) ∧ decode cX9_kth 70 = .ok (.aload_n 0, 1) ∧ decode cX9_kth 71 = .ok (.aload_n 0, 1) ∧ decode cX9_kth 72 = .ok (.iconst 0, 1) ∧ decode cX9_kth 73 = .ok (.iload 4, 2) ∧ decode cX9_kth 75 = .ok (.invokevirtual 175, 3) ∧ decode cX9_kth 78 = .ok (.i2l, 1) ∧ decode cX9_kth 79 = .ok (.invokevirtual 142, 3) ∧ True := zj_of zk_512
abbrev dX9_kth_59 := zr_512.1
abbrev dX9_kth_62 := zr_512.2.1
abbrev dX9_kth_65 := zr_512.2.2.1
abbrev dX9_kth_66 := zr_512.2.2.2.1
abbrev dX9_kth_67 := zr_512.2.2.2.2.1
abbrev dX9_kth_70 := zr_512.2.2.2.2.2.1
abbrev dX9_kth_71 := zr_512.2.2.2.2.2.2.1
abbrev dX9_kth_72 := zr_512.2.2.2.2.2.2.2.1
abbrev dX9_kth_73 := zr_512.2.2.2.2.2.2.2.2.1
abbrev dX9_kth_75 := zr_512.2.2.2.2.2.2.2.2.2.1
abbrev dX9_kth_78 := zr_512.2.2.2.2.2.2.2.2.2.2.1
abbrev dX9_kth_79 := zr_512.2.2.2.2.2.2.2.2.2.2.2.1
set_option maxRecDepth 100000 in
theorem zk_513 : zck 82 (cX9_kth.data.toList.drop 82) [(82, .aload_n 0, 1), (83, .iload 5, 2), (85, .i2l, 1), (86, .invokevirtual 142, 3), (89, .iload 4, 2), (91, .ireturn, 1)] = true := by decide +kernel
theorem zr_513 : decode cX9_kth 82 = .ok (.aload_n 0, 1) ∧ decode cX9_kth 83 = .ok (.iload 5, 2) ∧ decode cX9_kth 85 = .ok (.i2l, 1) ∧ decode cX9_kth 86 = .ok (.invokevirtual 142, 3) ∧ decode cX9_kth 89 = .ok (.iload 4, 2) ∧ decode cX9_kth 91 = .ok (.ireturn, 1) ∧ True := zj_of zk_513
abbrev dX9_kth_82 := zr_513.1
abbrev dX9_kth_83 := zr_513.2.1
abbrev dX9_kth_85 := zr_513.2.2.1
abbrev dX9_kth_86 := zr_513.2.2.2.1
abbrev dX9_kth_89 := zr_513.2.2.2.2.1
abbrev dX9_kth_91 := zr_513.2.2.2.2.2.1
set_option maxRecDepth 100000 in
theorem zk_514 : zck 0 (cX9_rank.data.toList.drop 0) [(0, .aload_n 0, 1), (1, .iconst 0, 1), (2, .putfield 1, 3), (5, .iload_n 1, 1), (6, .invokestatic 129, 3), (9, .ifCond .eq 17, 3), (12, .iload_n 2, 1), (13, .i2l, 1), (14, .lconst 0, 1), (15, .aload_n 0, 1), (16, .getfield 88, 3), (19, .i2l, 1)] = true := by decide +kernel
theorem zr_514 : decode cX9_rank 0 = .ok (.aload_n 0, 1) ∧ decode cX9_rank 1 = .ok (.iconst 0, 1) ∧ decode cX9_rank 2 = .ok (.putfield 1, 3) ∧ decode cX9_rank 5 = .ok (.iload_n 1, 1) ∧ decode cX9_rank 6 = .ok (.invokestatic 129, 3) ∧ decode cX9_rank 9 = .ok (.ifCond .eq 17, 3) ∧ decode cX9_rank 12 = .ok (.iload_n 2, 1) ∧ decode cX9_rank 13 = .ok (.i2l, 1) ∧ decode cX9_rank 14 = .ok (.lconst 0, 1) ∧ decode cX9_rank 15 = .ok (.aload_n 0, 1) ∧ decode cX9_rank 16 = .ok (.getfield 88, 3) ∧ decode cX9_rank 19 = .ok (.i2l, 1) ∧ True := zj_of zk_514
abbrev dX9_rank_0 := zr_514.1
abbrev dX9_rank_1 := zr_514.2.1
abbrev dX9_rank_2 := zr_514.2.2.1
abbrev dX9_rank_5 := zr_514.2.2.2.1
abbrev dX9_rank_6 := zr_514.2.2.2.2.1
abbrev dX9_rank_9 := zr_514.2.2.2.2.2.1
abbrev dX9_rank_12 := zr_514.2.2.2.2.2.2.1
abbrev dX9_rank_13 := zr_514.2.2.2.2.2.2.2.1
abbrev dX9_rank_14 := zr_514.2.2.2.2.2.2.2.2.1
abbrev dX9_rank_15 := zr_514.2.2.2.2.2.2.2.2.2.1
abbrev dX9_rank_16 := zr_514.2.2.2.2.2.2.2.2.2.2.1
abbrev dX9_rank_19 := zr_514.2.2.2.2.2.2.2.2.2.2.2.1
set_option maxRecDepth 100000 in
theorem zk_515 : zck 20 (cX9_rank.data.toList.drop 20) [(20, .invokestatic 21, 3), (23, .ifCond .ne 5, 3), (26, .iconst (-1), 1), (27, .ireturn, 1), (28, .aload_n 0, 1), (29, .iconst 0, 1), (30, .iconst 0, 1), (31, .iload_n 2, 1), (32, .invokevirtual 169, 3), (35, .aload_n 0, 1), (36, .iconst 0, 1), (37, .iload_n 1, 1)] = true := by decide +kernel
theorem zr_515 : decode cX9_rank 20 = .ok (.invokestatic 21, 3) ∧ decode cX9_rank 23 = .ok (.ifCond .ne 5, 3) ∧ decode cX9_rank 26 = .ok (.iconst (-1), 1) ∧ decode cX9_rank 27 = .ok (.ireturn, 1) ∧ decode cX9_rank 28 = .ok (.aload_n 0, 1) ∧ decode cX9_rank 29 = .ok (.iconst 0, 1) ∧ decode cX9_rank 30 = .ok (.iconst 0, 1) ∧ decode cX9_rank 31 = .ok (.iload_n 2, 1) ∧ decode cX9_rank 32 = .ok (.invokevirtual 169, 3) ∧ decode cX9_rank 35 = .ok (.aload_n 0, 1) ∧ decode cX9_rank 36 = .ok (.iconst 0, 1) ∧ decode cX9_rank 37 = .ok (.iload_n 1, 1) ∧ True := zj_of zk_515
abbrev dX9_rank_20 := zr_515.1
abbrev dX9_rank_23 := zr_515.2.1
abbrev dX9_rank_26 := zr_515.2.2.1
abbrev dX9_rank_27 := zr_515.2.2.2.1
abbrev dX9_rank_28 := zr_515.2.2.2.2.1
abbrev dX9_rank_29 := zr_515.2.2.2.2.2.1
abbrev dX9_rank_30 := zr_515.2.2.2.2.2.2.1
abbrev dX9_rank_31 := zr_515.2.2.2.2.2.2.2.1
abbrev dX9_rank_32 := zr_515.2.2.2.2.2.2.2.2.1
abbrev dX9_rank_35 := zr_515.2.2.2.2.2.2.2.2.2.1
abbrev dX9_rank_36 := zr_515.2.2.2.2.2.2.2.2.2.2.1
abbrev dX9_rank_37 := zr_515.2.2.2.2.2.2.2.2.2.2.2.1
set_option maxRecDepth 100000 in
theorem zk_516 : zck 38 (cX9_rank.data.toList.drop 38) [(38, .invokevirtual 175, 3), (41, .ireturn, 1)] = true := by decide +kernel
theorem zr_516 : decode cX9_rank 38 = .ok (.invokevirtual 175, 3) ∧ decode cX9_rank 41 = .ok (.ireturn, 1) ∧ True := zj_of zk_516
abbrev dX9_rank_38 := zr_516.1
abbrev dX9_rank_41 := zr_516.2.1
set_option maxRecDepth 100000 in
theorem zk_517 : zck 0 (cX9_select.data.toList.drop 0) [(0, .aload_n 0, 1), (1, .iconst 0, 1), (2, .putfield 1, 3), (5, .iload_n 1, 1), (6, .invokestatic 129, 3), (9, .ifCond .eq 7, 3), (12, .iload_n 2, 1), (13, .ifCond .ge 5, 3), (16, .iconst (-1), 1), (17, .ireturn, 1), (18, .iload_n 2, 1), (19, .istore_n 3, 1)] = true := by decide +kernel
theorem zr_517 : decode cX9_select 0 = .ok (.aload_n 0, 1) ∧ decode cX9_select 1 = .ok (.iconst 0, 1) ∧ decode cX9_select 2 = .ok (.putfield 1, 3) ∧ decode cX9_select 5 = .ok (.iload_n 1, 1) ∧ decode cX9_select 6 = .ok (.invokestatic 129, 3) ∧ decode cX9_select 9 = .ok (.ifCond .eq 7, 3) ∧ decode cX9_select 12 = .ok (.iload_n 2, 1) ∧ decode cX9_select 13 = .ok (.ifCond .ge 5, 3) ∧ decode cX9_select 16 = .ok (.iconst (-1), 1) ∧ decode cX9_select 17 = .ok (.ireturn, 1) ∧ decode cX9_select 18 = .ok (.iload_n 2, 1) ∧ decode cX9_select 19 = .ok (.istore_n 3, 1) ∧ True := zj_of zk_517
abbrev dX9_select_0 := zr_517.1
abbrev dX9_select_1 := zr_517.2.1
abbrev dX9_select_2 := zr_517.2.2.1
abbrev dX9_select_5 := zr_517.2.2.2.1
abbrev dX9_select_6 := zr_517.2.2.2.2.1
abbrev dX9_select_9 := zr_517.2.2.2.2.2.1
abbrev dX9_select_12 := zr_517.2.2.2.2.2.2.1
abbrev dX9_select_13 := zr_517.2.2.2.2.2.2.2.1
abbrev dX9_select_16 := zr_517.2.2.2.2.2.2.2.2.1
abbrev dX9_select_17 := zr_517.2.2.2.2.2.2.2.2.2.1
abbrev dX9_select_18 := zr_517.2.2.2.2.2.2.2.2.2.2.1
abbrev dX9_select_19 := zr_517.2.2.2.2.2.2.2.2.2.2.2.1
set_option maxRecDepth 100000 in
theorem zk_518 : zck 20 (cX9_select.data.toList.drop 20) [(20, .iconst 0, 1), (21, .istore 4, 2), (23, .iload 4, 2), (25, .aload_n 0, 1), (26, .getfield 88, 3), (29, .if_icmp .ge 30, 3), (32, .aload_n 0, 1), (33, .getfield 49, 3), (36, .iload 4, 2), (38, .iaload, 1), (39, .iload_n 1, 1), (40, .if_icmp .ne 13, 3)] = true := by decide +kernel
theorem zr_518 : decode cX9_select 20 = .ok (.iconst 0, 1) ∧ decode cX9_select 21 = .ok (.istore 4, 2) ∧ decode cX9_select 23 = .ok (.iload 4, 2) ∧ decode cX9_select 25 = .ok (.aload_n 0, 1) ∧ decode cX9_select 26 = .ok (.getfield 88, 3) ∧ decode cX9_select 29 = .ok (.if_icmp .ge 30, 3) ∧ decode cX9_select 32 = .ok (.aload_n 0, 1) ∧ decode cX9_select 33 = .ok (.getfield 49, 3) ∧ decode cX9_select 36 = .ok (.iload 4, 2) ∧ decode cX9_select 38 = .ok (.iaload, 1) ∧ decode cX9_select 39 = .ok (.iload_n 1, 1) ∧ decode cX9_select 40 = .ok (.if_icmp .ne 13, 3) ∧ True := zj_of zk_518
abbrev dX9_select_20 := zr_518.1
abbrev dX9_select_21 := zr_518.2.1
abbrev dX9_select_23 := zr_518.2.2.1
abbrev dX9_select_25 := zr_518.2.2.2.1
abbrev dX9_select_26 := zr_518.2.2.2.2.1
abbrev dX9_select_29 := zr_518.2.2.2.2.2.1
abbrev dX9_select_32 := zr_518.2.2.2.2.2.2.1
abbrev dX9_select_33 := zr_518.2.2.2.2.2.2.2.1
abbrev dX9_select_36 := zr_518.2.2.2.2.2.2.2.2.1
abbrev dX9_select_38 := zr_518.2.2.2.2.2.2.2.2.2.1
abbrev dX9_select_39 := zr_518.2.2.2.2.2.2.2.2.2.2.1
abbrev dX9_select_40 := zr_518.2.2.2.2.2.2.2.2.2.2.2.1
set_option maxRecDepth 100000 in
theorem zk_519 : zck 43 (cX9_select.data.toList.drop 43) [(43, .iload_n 3, 1), (44, .ifCond .ne 6, 3), (47, .iload 4, 2), (49, .ireturn, 1), (50, .iinc 3 (-1), 3), (53, .iinc 4 1, 3), (56, .goto (-33), 3), (59, .bipush (-2), 2), (61, .ireturn, 1)] = true := by decide +kernel
theorem zr_519 : decode cX9_select 43 = .ok (.iload_n 3, 1) ∧ decode cX9_select 44 = .ok (.ifCond .ne 6, 3) ∧ decode cX9_select 47 = .ok (.iload 4, 2) ∧ decode cX9_select 49 = .ok (.ireturn, 1) ∧ decode cX9_select 50 = .ok (.iinc 3 (-1), 3) ∧ decode cX9_select 53 = .ok (.iinc 4 1, 3) ∧ decode cX9_select 56 = .ok (.goto (-33), 3) ∧ decode cX9_select 59 = .ok (.bipush (-2), 2) ∧ decode cX9_select 61 = .ok (.ireturn, 1) ∧ True := zj_of zk_519
abbrev dX9_select_43 := zr_519.1
abbrev dX9_select_44 := zr_519.2.1
abbrev dX9_select_47 := zr_519.2.2.1
abbrev dX9_select_49 := zr_519.2.2.2.1
abbrev dX9_select_50 := zr_519.2.2.2.2.1
abbrev dX9_select_53 := zr_519.2.2.2.2.2.1
abbrev dX9_select_56 := zr_519.2.2.2.2.2.2.1
abbrev dX9_select_59 := zr_519.2.2.2.2.2.2.2.1
abbrev dX9_select_61 := zr_519.2.2.2.2.2.2.2.2.1
set_option maxRecDepth 100000 in
theorem zk_520 : zck 0 (cX9_within.data.toList.drop 0) [(0, .iconst 0, 1), (1, .istore 4, 2), (3, .iconst 0, 1), (4, .iload_n 2, 1), (5, .invokestatic 181, 3), (8, .istore 5, 2), (10, .iload 5, 2), (12, .iload_n 3, 1), (13, .sipush 255, 3), (16, .invokestatic 186, 3), (19, .if_icmp .gt 21, 3), (22, .iload 4, 2)] = true := by decide +kernel
theorem zr_520 : decode cX9_within 0 = .ok (.iconst 0, 1) ∧ decode cX9_within 1 = .ok (.istore 4, 2) ∧ decode cX9_within 3 = .ok (.iconst 0, 1) ∧ decode cX9_within 4 = .ok (.iload_n 2, 1) ∧ decode cX9_within 5 = .ok (.invokestatic 181, 3) ∧ decode cX9_within 8 = .ok (.istore 5, 2) ∧ decode cX9_within 10 = .ok (.iload 5, 2) ∧ decode cX9_within 12 = .ok (.iload_n 3, 1) ∧ decode cX9_within 13 = .ok (.sipush 255, 3) ∧ decode cX9_within 16 = .ok (.invokestatic 186, 3) ∧ decode cX9_within 19 = .ok (.if_icmp .gt 21, 3) ∧ decode cX9_within 22 = .ok (.iload 4, 2) ∧ True := zj_of zk_520
abbrev dX9_within_0 := zr_520.1
abbrev dX9_within_1 := zr_520.2.1
abbrev dX9_within_3 := zr_520.2.2.1
abbrev dX9_within_4 := zr_520.2.2.2.1
abbrev dX9_within_5 := zr_520.2.2.2.2.1
abbrev dX9_within_8 := zr_520.2.2.2.2.2.1
abbrev dX9_within_10 := zr_520.2.2.2.2.2.2.1
abbrev dX9_within_12 := zr_520.2.2.2.2.2.2.2.1
abbrev dX9_within_13 := zr_520.2.2.2.2.2.2.2.2.1
abbrev dX9_within_16 := zr_520.2.2.2.2.2.2.2.2.2.1
abbrev dX9_within_19 := zr_520.2.2.2.2.2.2.2.2.2.2.1
abbrev dX9_within_22 := zr_520.2.2.2.2.2.2.2.2.2.2.2.1
set_option maxRecDepth 100000 in
theorem zk_521 : zck 24 (cX9_within.data.toList.drop 24) [(24, .aload_n 0, 1), (25, .iload_n 1, 1), (26, .iload 5, 2), (28, .invokevirtual 175, 3), (31, .iadd, 1), (32, .istore 4, 2), (34, .iinc 5 1, 3), (37, .goto (-27), 3), (40, .iload 4, 2), (42, .ireturn, 1)] = true := by decide +kernel
theorem zr_521 : decode cX9_within 24 = .ok (.aload_n 0, 1) ∧ decode cX9_within 25 = .ok (.iload_n 1, 1) ∧ decode cX9_within 26 = .ok (.iload 5, 2) ∧ decode cX9_within 28 = .ok (.invokevirtual 175, 3) ∧ decode cX9_within 31 = .ok (.iadd, 1) ∧ decode cX9_within 32 = .ok (.istore 4, 2) ∧ decode cX9_within 34 = .ok (.iinc 5 1, 3) ∧ decode cX9_within 37 = .ok (.goto (-27), 3) ∧ decode cX9_within 40 = .ok (.iload 4, 2) ∧ decode cX9_within 42 = .ok (.ireturn, 1) ∧ True := zj_of zk_521
abbrev dX9_within_24 := zr_521.1
abbrev dX9_within_25 := zr_521.2.1
abbrev dX9_within_26 := zr_521.2.2.1
abbrev dX9_within_28 := zr_521.2.2.2.1
abbrev dX9_within_31 := zr_521.2.2.2.2.1
abbrev dX9_within_32 := zr_521.2.2.2.2.2.1
abbrev dX9_within_34 := zr_521.2.2.2.2.2.2.1
abbrev dX9_within_37 := zr_521.2.2.2.2.2.2.2.1
abbrev dX9_within_40 := zr_521.2.2.2.2.2.2.2.2.1
abbrev dX9_within_42 := zr_521.2.2.2.2.2.2.2.2.2.1
set_option maxRecDepth 100000 in
theorem zk_522 : zck 0 (cX9_visits.data.toList.drop 0) [(0, .iload_n 1, 1), (1, .iload_n 2, 1), (2, .iadd, 1), (3, .iconst 1, 1), (4, .isub, 1), (5, .istore 5, 2), (7, .iload_n 1, 1), (8, .iload 4, 2), (10, .if_icmp .gt 20, 3), (13, .iload 5, 2), (15, .iload_n 3, 1), (16, .if_icmp .lt 14, 3)] = true := by decide +kernel
theorem zr_522 : decode cX9_visits 0 = .ok (.iload_n 1, 1) ∧ decode cX9_visits 1 = .ok (.iload_n 2, 1) ∧ decode cX9_visits 2 = .ok (.iadd, 1) ∧ decode cX9_visits 3 = .ok (.iconst 1, 1) ∧ decode cX9_visits 4 = .ok (.isub, 1) ∧ decode cX9_visits 5 = .ok (.istore 5, 2) ∧ decode cX9_visits 7 = .ok (.iload_n 1, 1) ∧ decode cX9_visits 8 = .ok (.iload 4, 2) ∧ decode cX9_visits 10 = .ok (.if_icmp .gt 20, 3) ∧ decode cX9_visits 13 = .ok (.iload 5, 2) ∧ decode cX9_visits 15 = .ok (.iload_n 3, 1) ∧ decode cX9_visits 16 = .ok (.if_icmp .lt 14, 3) ∧ True := zj_of zk_522
abbrev dX9_visits_0 := zr_522.1
abbrev dX9_visits_1 := zr_522.2.1
abbrev dX9_visits_2 := zr_522.2.2.1
abbrev dX9_visits_3 := zr_522.2.2.2.1
abbrev dX9_visits_4 := zr_522.2.2.2.2.1
abbrev dX9_visits_5 := zr_522.2.2.2.2.2.1
abbrev dX9_visits_7 := zr_522.2.2.2.2.2.2.1
abbrev dX9_visits_8 := zr_522.2.2.2.2.2.2.2.1
abbrev dX9_visits_10 := zr_522.2.2.2.2.2.2.2.2.1
abbrev dX9_visits_13 := zr_522.2.2.2.2.2.2.2.2.2.1
abbrev dX9_visits_15 := zr_522.2.2.2.2.2.2.2.2.2.2.1
abbrev dX9_visits_16 := zr_522.2.2.2.2.2.2.2.2.2.2.2.1
set_option maxRecDepth 100000 in
theorem zk_523 : zck 19 (cX9_visits.data.toList.drop 19) [(19, .aload_n 0, 1), (20, .iconst 0, 1), (21, .iload_n 1, 1), (22, .iload 5, 2), (24, .invokevirtual 189, 3), (27, .ifCond .ne 5, 3), (30, .iconst 0, 1), (31, .ireturn, 1), (32, .iload_n 1, 1), (33, .iload_n 3, 1), (34, .if_icmp .lt 12, 3), (37, .iload 5, 2)] = true := by decide +kernel
theorem zr_523 : decode cX9_visits 19 = .ok (.aload_n 0, 1) ∧ decode cX9_visits 20 = .ok (.iconst 0, 1) ∧ decode cX9_visits 21 = .ok (.iload_n 1, 1) ∧ decode cX9_visits 22 = .ok (.iload 5, 2) ∧ decode cX9_visits 24 = .ok (.invokevirtual 189, 3) ∧ decode cX9_visits 27 = .ok (.ifCond .ne 5, 3) ∧ decode cX9_visits 30 = .ok (.iconst 0, 1) ∧ decode cX9_visits 31 = .ok (.ireturn, 1) ∧ decode cX9_visits 32 = .ok (.iload_n 1, 1) ∧ decode cX9_visits 33 = .ok (.iload_n 3, 1) ∧ decode cX9_visits 34 = .ok (.if_icmp .lt 12, 3) ∧ decode cX9_visits 37 = .ok (.iload 5, 2) ∧ True := zj_of zk_523
abbrev dX9_visits_19 := zr_523.1
abbrev dX9_visits_20 := zr_523.2.1
abbrev dX9_visits_21 := zr_523.2.2.1
abbrev dX9_visits_22 := zr_523.2.2.2.1
abbrev dX9_visits_24 := zr_523.2.2.2.2.1
abbrev dX9_visits_27 := zr_523.2.2.2.2.2.1
abbrev dX9_visits_30 := zr_523.2.2.2.2.2.2.1
abbrev dX9_visits_31 := zr_523.2.2.2.2.2.2.2.1
abbrev dX9_visits_32 := zr_523.2.2.2.2.2.2.2.2.1
abbrev dX9_visits_33 := zr_523.2.2.2.2.2.2.2.2.2.1
abbrev dX9_visits_34 := zr_523.2.2.2.2.2.2.2.2.2.2.1
abbrev dX9_visits_37 := zr_523.2.2.2.2.2.2.2.2.2.2.2.1
set_option maxRecDepth 100000 in
theorem zk_524 : zck 39 (cX9_visits.data.toList.drop 39) [(39, .iload 4, 2), (41, .if_icmp .gt 5, 3), (44, .iconst 1, 1), (45, .ireturn, 1), (46, .iconst 1, 1), (47, .aload_n 0, 1), (48, .iload_n 1, 1), (49, .iload_n 2, 1), (50, .iconst 2, 1), (51, .idiv, 1), (52, .iload_n 3, 1), (53, .iload 4, 2)] = true := by decide +kernel
theorem zr_524 : decode cX9_visits 39 = .ok (.iload 4, 2) ∧ decode cX9_visits 41 = .ok (.if_icmp .gt 5, 3) ∧ decode cX9_visits 44 = .ok (.iconst 1, 1) ∧ decode cX9_visits 45 = .ok (.ireturn, 1) ∧ decode cX9_visits 46 = .ok (.iconst 1, 1) ∧ decode cX9_visits 47 = .ok (.aload_n 0, 1) ∧ decode cX9_visits 48 = .ok (.iload_n 1, 1) ∧ decode cX9_visits 49 = .ok (.iload_n 2, 1) ∧ decode cX9_visits 50 = .ok (.iconst 2, 1) ∧ decode cX9_visits 51 = .ok (.idiv, 1) ∧ decode cX9_visits 52 = .ok (.iload_n 3, 1) ∧ decode cX9_visits 53 = .ok (.iload 4, 2) ∧ True := zj_of zk_524
abbrev dX9_visits_39 := zr_524.1
abbrev dX9_visits_41 := zr_524.2.1
abbrev dX9_visits_44 := zr_524.2.2.1
abbrev dX9_visits_45 := zr_524.2.2.2.1
abbrev dX9_visits_46 := zr_524.2.2.2.2.1
abbrev dX9_visits_47 := zr_524.2.2.2.2.2.1
abbrev dX9_visits_48 := zr_524.2.2.2.2.2.2.1
abbrev dX9_visits_49 := zr_524.2.2.2.2.2.2.2.1
abbrev dX9_visits_50 := zr_524.2.2.2.2.2.2.2.2.1
abbrev dX9_visits_51 := zr_524.2.2.2.2.2.2.2.2.2.1
abbrev dX9_visits_52 := zr_524.2.2.2.2.2.2.2.2.2.2.1
abbrev dX9_visits_53 := zr_524.2.2.2.2.2.2.2.2.2.2.2.1
set_option maxRecDepth 100000 in
theorem zk_525 : zck 55 (cX9_visits.data.toList.drop 55) [(55, .invokevirtual 192, 3), (58, .iadd, 1), (59, .aload_n 0, 1), (60, .iload_n 1, 1), (61, .iload_n 2, 1), (62, .iconst 2, 1), (63, .idiv, 1), (64, .iadd, 1), (65, .iload_n 2, 1), (66, .iconst 2, 1), (67, .idiv, 1), (68, .iload_n 3, 1)] = true := by decide +kernel
theorem zr_525 : decode cX9_visits 55 = .ok (.invokevirtual 192, 3) ∧ decode cX9_visits 58 = .ok (.iadd, 1) ∧ decode cX9_visits 59 = .ok (.aload_n 0, 1) ∧ decode cX9_visits 60 = .ok (.iload_n 1, 1) ∧ decode cX9_visits 61 = .ok (.iload_n 2, 1) ∧ decode cX9_visits 62 = .ok (.iconst 2, 1) ∧ decode cX9_visits 63 = .ok (.idiv, 1) ∧ decode cX9_visits 64 = .ok (.iadd, 1) ∧ decode cX9_visits 65 = .ok (.iload_n 2, 1) ∧ decode cX9_visits 66 = .ok (.iconst 2, 1) ∧ decode cX9_visits 67 = .ok (.idiv, 1) ∧ decode cX9_visits 68 = .ok (.iload_n 3, 1) ∧ True := zj_of zk_525
abbrev dX9_visits_55 := zr_525.1
abbrev dX9_visits_58 := zr_525.2.1
abbrev dX9_visits_59 := zr_525.2.2.1
abbrev dX9_visits_60 := zr_525.2.2.2.1
abbrev dX9_visits_61 := zr_525.2.2.2.2.1
abbrev dX9_visits_62 := zr_525.2.2.2.2.2.1
abbrev dX9_visits_63 := zr_525.2.2.2.2.2.2.1
abbrev dX9_visits_64 := zr_525.2.2.2.2.2.2.2.1
abbrev dX9_visits_65 := zr_525.2.2.2.2.2.2.2.2.1
abbrev dX9_visits_66 := zr_525.2.2.2.2.2.2.2.2.2.1
abbrev dX9_visits_67 := zr_525.2.2.2.2.2.2.2.2.2.2.1
abbrev dX9_visits_68 := zr_525.2.2.2.2.2.2.2.2.2.2.2.1
set_option maxRecDepth 100000 in
theorem zk_526 : zck 69 (cX9_visits.data.toList.drop 69) [(69, .iload 4, 2), (71, .invokevirtual 192, 3), (74, .iadd, 1), (75, .ireturn, 1)] = true := by decide +kernel
theorem zr_526 : decode cX9_visits 69 = .ok (.iload 4, 2) ∧ decode cX9_visits 71 = .ok (.invokevirtual 192, 3) ∧ decode cX9_visits 74 = .ok (.iadd, 1) ∧ decode cX9_visits 75 = .ok (.ireturn, 1) ∧ True := zj_of zk_526
abbrev dX9_visits_69 := zr_526.1
abbrev dX9_visits_71 := zr_526.2.1
abbrev dX9_visits_74 := zr_526.2.2.1
abbrev dX9_visits_75 := zr_526.2.2.2.1
set_option maxRecDepth 100000 in
theorem zk_527 : zck 0 (cX9_band.data.toList.drop 0) [(0, .aload_n 0, 1), (1, .iconst 0, 1), (2, .putfield 1, 3), (5, .aload_n 0, 1), (6, .iload_n 1, 1), (7, .iload_n 2, 1), (8, .invokevirtual 150, 3), (11, .ifCond .eq 24, 3), (14, .iload_n 3, 1), (15, .invokestatic 129, 3), (18, .ifCond .eq 17, 3), (21, .iload 4, 2)] = true := by decide +kernel
theorem zr_527 : decode cX9_band 0 = .ok (.aload_n 0, 1) ∧ decode cX9_band 1 = .ok (.iconst 0, 1) ∧ decode cX9_band 2 = .ok (.putfield 1, 3) ∧ decode cX9_band 5 = .ok (.aload_n 0, 1) ∧ decode cX9_band 6 = .ok (.iload_n 1, 1) ∧ decode cX9_band 7 = .ok (.iload_n 2, 1) ∧ decode cX9_band 8 = .ok (.invokevirtual 150, 3) ∧ decode cX9_band 11 = .ok (.ifCond .eq 24, 3) ∧ decode cX9_band 14 = .ok (.iload_n 3, 1) ∧ decode cX9_band 15 = .ok (.invokestatic 129, 3) ∧ decode cX9_band 18 = .ok (.ifCond .eq 17, 3) ∧ decode cX9_band 21 = .ok (.iload 4, 2) ∧ True := zj_of zk_527
abbrev dX9_band_0 := zr_527.1
abbrev dX9_band_1 := zr_527.2.1
abbrev dX9_band_2 := zr_527.2.2.1
abbrev dX9_band_5 := zr_527.2.2.2.1
abbrev dX9_band_6 := zr_527.2.2.2.2.1
abbrev dX9_band_7 := zr_527.2.2.2.2.2.1
abbrev dX9_band_8 := zr_527.2.2.2.2.2.2.1
abbrev dX9_band_11 := zr_527.2.2.2.2.2.2.2.1
abbrev dX9_band_14 := zr_527.2.2.2.2.2.2.2.2.1
abbrev dX9_band_15 := zr_527.2.2.2.2.2.2.2.2.2.1
abbrev dX9_band_18 := zr_527.2.2.2.2.2.2.2.2.2.2.1
abbrev dX9_band_21 := zr_527.2.2.2.2.2.2.2.2.2.2.2.1
set_option maxRecDepth 100000 in
theorem zk_528 : zck 23 (cX9_band.data.toList.drop 23) [(23, .invokestatic 129, 3), (26, .ifCond .eq 9, 3), (29, .iload_n 3, 1), (30, .iload 4, 2), (32, .if_icmp .le 5, 3), (35, .iconst (-1), 1), (36, .ireturn, 1), (37, .aload_n 0, 1), (38, .iconst 0, 1), (39, .iload_n 1, 1), (40, .iload_n 2, 1), (41, .invokevirtual 169, 3)] = true := by decide +kernel
theorem zr_528 : decode cX9_band 23 = .ok (.invokestatic 129, 3) ∧ decode cX9_band 26 = .ok (.ifCond .eq 9, 3) ∧ decode cX9_band 29 = .ok (.iload_n 3, 1) ∧ decode cX9_band 30 = .ok (.iload 4, 2) ∧ decode cX9_band 32 = .ok (.if_icmp .le 5, 3) ∧ decode cX9_band 35 = .ok (.iconst (-1), 1) ∧ decode cX9_band 36 = .ok (.ireturn, 1) ∧ decode cX9_band 37 = .ok (.aload_n 0, 1) ∧ decode cX9_band 38 = .ok (.iconst 0, 1) ∧ decode cX9_band 39 = .ok (.iload_n 1, 1) ∧ decode cX9_band 40 = .ok (.iload_n 2, 1) ∧ decode cX9_band 41 = .ok (.invokevirtual 169, 3) ∧ True := zj_of zk_528
abbrev dX9_band_23 := zr_528.1
abbrev dX9_band_26 := zr_528.2.1
abbrev dX9_band_29 := zr_528.2.2.1
abbrev dX9_band_30 := zr_528.2.2.2.1
abbrev dX9_band_32 := zr_528.2.2.2.2.1
abbrev dX9_band_35 := zr_528.2.2.2.2.2.1
abbrev dX9_band_36 := zr_528.2.2.2.2.2.2.1
abbrev dX9_band_37 := zr_528.2.2.2.2.2.2.2.1
abbrev dX9_band_38 := zr_528.2.2.2.2.2.2.2.2.1
abbrev dX9_band_39 := zr_528.2.2.2.2.2.2.2.2.2.1
abbrev dX9_band_40 := zr_528.2.2.2.2.2.2.2.2.2.2.1
abbrev dX9_band_41 := zr_528.2.2.2.2.2.2.2.2.2.2.2.1
set_option maxRecDepth 100000 in
theorem zk_529 : zck 44 (cX9_band.data.toList.drop 44) [(44, .aload_n 0, 1), (45, .iconst 0, 1), (46, .putfield 11, 3), (49, .aload_n 0, 1), (50, .aload_n 0, 1), (51, .iconst 0, 1), (52, .sipush 256, 3), (55, .iload_n 3, 1), (56, .iload 4, 2), (58, .invokevirtual 192, 3), (61, .i2l, 1), (62, .invokevirtual 142, 3)] = true := by decide +kernel
theorem zr_529 : decode cX9_band 44 = .ok (.aload_n 0, 1) ∧ decode cX9_band 45 = .ok (.iconst 0, 1) ∧ decode cX9_band 46 = .ok (.putfield 11, 3) ∧ decode cX9_band 49 = .ok (.aload_n 0, 1) ∧ decode cX9_band 50 = .ok (.aload_n 0, 1) ∧ decode cX9_band 51 = .ok (.iconst 0, 1) ∧ decode cX9_band 52 = .ok (.sipush 256, 3) ∧ decode cX9_band 55 = .ok (.iload_n 3, 1) ∧ decode cX9_band 56 = .ok (.iload 4, 2) ∧ decode cX9_band 58 = .ok (.invokevirtual 192, 3) ∧ decode cX9_band 61 = .ok (.i2l, 1) ∧ decode cX9_band 62 = .ok (.invokevirtual 142, 3) ∧ True := zj_of zk_529
abbrev dX9_band_44 := zr_529.1
abbrev dX9_band_45 := zr_529.2.1
abbrev dX9_band_46 := zr_529.2.2.1
abbrev dX9_band_49 := zr_529.2.2.2.1
abbrev dX9_band_50 := zr_529.2.2.2.2.1
abbrev dX9_band_51 := zr_529.2.2.2.2.2.1
abbrev dX9_band_52 := zr_529.2.2.2.2.2.2.1
abbrev dX9_band_55 := zr_529.2.2.2.2.2.2.2.1
abbrev dX9_band_56 := zr_529.2.2.2.2.2.2.2.2.1
abbrev dX9_band_58 := zr_529.2.2.2.2.2.2.2.2.2.1
abbrev dX9_band_61 := zr_529.2.2.2.2.2.2.2.2.2.2.1
abbrev dX9_band_62 := zr_529.2.2.2.2.2.2.2.2.2.2.2.1
set_option maxRecDepth 100000 in
theorem zk_530 : zck 65 (cX9_band.data.toList.drop 65) [(65, .aload_n 0, 1), (66, .iconst 0, 1), (67, .iload_n 3, 1), (68, .iload 4, 2), (70, .invokevirtual 189, 3), (73, .ireturn, 1)] = true := by decide +kernel
theorem zr_530 : decode cX9_band 65 = .ok (.aload_n 0, 1) ∧ decode cX9_band 66 = .ok (.iconst 0, 1) ∧ decode cX9_band 67 = .ok (.iload_n 3, 1) ∧ decode cX9_band 68 = .ok (.iload 4, 2) ∧ decode cX9_band 70 = .ok (.invokevirtual 189, 3) ∧ decode cX9_band 73 = .ok (.ireturn, 1) ∧ True := zj_of zk_530
abbrev dX9_band_65 := zr_530.1
abbrev dX9_band_66 := zr_530.2.1
abbrev dX9_band_67 := zr_530.2.2.1
abbrev dX9_band_68 := zr_530.2.2.2.1
abbrev dX9_band_70 := zr_530.2.2.2.2.1
abbrev dX9_band_73 := zr_530.2.2.2.2.2.1
set_option maxRecDepth 100000 in
theorem zk_531 : zck 0 (cX9_below.data.toList.drop 0) [(0, .aload_n 0, 1), (1, .iconst 0, 1), (2, .putfield 1, 3), (5, .aload_n 0, 1), (6, .iload_n 1, 1), (7, .iload_n 2, 1), (8, .invokevirtual 150, 3), (11, .ifCond .eq 15, 3), (14, .iload_n 3, 1), (15, .i2l, 1), (16, .lconst 1, 1), (17, .ldc2_w 196, 3)] = true := by decide +kernel
theorem zr_531 : decode cX9_below 0 = .ok (.aload_n 0, 1) ∧ decode cX9_below 1 = .ok (.iconst 0, 1) ∧ decode cX9_below 2 = .ok (.putfield 1, 3) ∧ decode cX9_below 5 = .ok (.aload_n 0, 1) ∧ decode cX9_below 6 = .ok (.iload_n 1, 1) ∧ decode cX9_below 7 = .ok (.iload_n 2, 1) ∧ decode cX9_below 8 = .ok (.invokevirtual 150, 3) ∧ decode cX9_below 11 = .ok (.ifCond .eq 15, 3) ∧ decode cX9_below 14 = .ok (.iload_n 3, 1) ∧ decode cX9_below 15 = .ok (.i2l, 1) ∧ decode cX9_below 16 = .ok (.lconst 1, 1) ∧ decode cX9_below 17 = .ok (.ldc2_w 196, 3) ∧ True := zj_of zk_531
abbrev dX9_below_0 := zr_531.1
abbrev dX9_below_1 := zr_531.2.1
abbrev dX9_below_2 := zr_531.2.2.1
abbrev dX9_below_5 := zr_531.2.2.2.1
abbrev dX9_below_6 := zr_531.2.2.2.2.1
abbrev dX9_below_7 := zr_531.2.2.2.2.2.1
abbrev dX9_below_8 := zr_531.2.2.2.2.2.2.1
abbrev dX9_below_11 := zr_531.2.2.2.2.2.2.2.1
abbrev dX9_below_14 := zr_531.2.2.2.2.2.2.2.2.1
abbrev dX9_below_15 := zr_531.2.2.2.2.2.2.2.2.2.1
abbrev dX9_below_16 := zr_531.2.2.2.2.2.2.2.2.2.2.1
abbrev dX9_below_17 := zr_531.2.2.2.2.2.2.2.2.2.2.2.1
set_option maxRecDepth 100000 in
theorem zk_532 : zck 20 (cX9_below.data.toList.drop 20) [(20, .invokestatic 21, 3), (23, .ifCond .ne 5, 3), (26, .iconst (-1), 1), (27, .ireturn, 1), (28, .aload_n 0, 1), (29, .iconst 0, 1), (30, .iload_n 1, 1), (31, .iload_n 2, 1), (32, .invokevirtual 169, 3), (35, .iload_n 3, 1), (36, .iconst 1, 1), (37, .isub, 1)] = true := by decide +kernel
theorem zr_532 : decode cX9_below 20 = .ok (.invokestatic 21, 3) ∧ decode cX9_below 23 = .ok (.ifCond .ne 5, 3) ∧ decode cX9_below 26 = .ok (.iconst (-1), 1) ∧ decode cX9_below 27 = .ok (.ireturn, 1) ∧ decode cX9_below 28 = .ok (.aload_n 0, 1) ∧ decode cX9_below 29 = .ok (.iconst 0, 1) ∧ decode cX9_below 30 = .ok (.iload_n 1, 1) ∧ decode cX9_below 31 = .ok (.iload_n 2, 1) ∧ decode cX9_below 32 = .ok (.invokevirtual 169, 3) ∧ decode cX9_below 35 = .ok (.iload_n 3, 1) ∧ decode cX9_below 36 = .ok (.iconst 1, 1) ∧ decode cX9_below 37 = .ok (.isub, 1) ∧ True := zj_of zk_532
abbrev dX9_below_20 := zr_532.1
abbrev dX9_below_23 := zr_532.2.1
abbrev dX9_below_26 := zr_532.2.2.1
abbrev dX9_below_27 := zr_532.2.2.2.1
abbrev dX9_below_28 := zr_532.2.2.2.2.1
abbrev dX9_below_29 := zr_532.2.2.2.2.2.1
abbrev dX9_below_30 := zr_532.2.2.2.2.2.2.1
abbrev dX9_below_31 := zr_532.2.2.2.2.2.2.2.1
abbrev dX9_below_32 := zr_532.2.2.2.2.2.2.2.2.1
abbrev dX9_below_35 := zr_532.2.2.2.2.2.2.2.2.2.1
abbrev dX9_below_36 := zr_532.2.2.2.2.2.2.2.2.2.2.1
abbrev dX9_below_37 := zr_532.2.2.2.2.2.2.2.2.2.2.2.1
set_option maxRecDepth 100000 in
theorem zk_533 : zck 38 (cX9_below.data.toList.drop 38) [(38, .istore 4, 2), (40, .iload 4, 2), (42, .ifCond .lt 39, 3), (45, .aload_n 0, 1), (46, .iconst 0, 1), (47, .iload 4, 2), (49, .invokevirtual 175, 3), (52, .ifCond .le 23, 3), (55, .aload_n 0, 1), (56, .iconst 0, 1), (57, .putfield 11, 3), (60, .aload_n 0, 1)] = true := by decide +kernel
theorem zr_533 : decode cX9_below 38 = .ok (.istore 4, 2) ∧ decode cX9_below 40 = .ok (.iload 4, 2) ∧ decode cX9_below 42 = .ok (.ifCond .lt 39, 3) ∧ decode cX9_below 45 = .ok (.aload_n 0, 1) ∧ decode cX9_below 46 = .ok (.iconst 0, 1) ∧ decode cX9_below 47 = .ok (.iload 4, 2) ∧ decode cX9_below 49 = .ok (.invokevirtual 175, 3) ∧ decode cX9_below 52 = .ok (.ifCond .le 23, 3) ∧ decode cX9_below 55 = .ok (.aload_n 0, 1) ∧ decode cX9_below 56 = .ok (.iconst 0, 1) ∧ decode cX9_below 57 = .ok (.putfield 11, 3) ∧ decode cX9_below 60 = .ok (.aload_n 0, 1) ∧ True := zj_of zk_533
abbrev dX9_below_38 := zr_533.1
abbrev dX9_below_40 := zr_533.2.1
abbrev dX9_below_42 := zr_533.2.2.1
abbrev dX9_below_45 := zr_533.2.2.2.1
abbrev dX9_below_46 := zr_533.2.2.2.2.1
abbrev dX9_below_47 := zr_533.2.2.2.2.2.1
abbrev dX9_below_49 := zr_533.2.2.2.2.2.2.1
abbrev dX9_below_52 := zr_533.2.2.2.2.2.2.2.1
abbrev dX9_below_55 := zr_533.2.2.2.2.2.2.2.2.1
abbrev dX9_below_56 := zr_533.2.2.2.2.2.2.2.2.2.1
abbrev dX9_below_57 := zr_533.2.2.2.2.2.2.2.2.2.2.1
abbrev dX9_below_60 := zr_533.2.2.2.2.2.2.2.2.2.2.2.1
set_option maxRecDepth 100000 in
theorem zk_534 : zck 61 (cX9_below.data.toList.drop 61) [(61, .aload_n 0, 1), (62, .iconst 0, 1), (63, .iload 4, 2), (65, .invokevirtual 175, 3), (68, .i2l, 1), (69, .invokevirtual 142, 3), (72, .iload 4, 2), (74, .ireturn, 1), (75, .iinc 4 (-1), 3), (78, .goto (-38), 3), (81, .bipush (-2), 2), (83, .ireturn, 1)] = true := by decide +kernel
theorem zr_534 : decode cX9_below 61 = .ok (.aload_n 0, 1) ∧ decode cX9_below 62 = .ok (.iconst 0, 1) ∧ decode cX9_below 63 = .ok (.iload 4, 2) ∧ decode cX9_below 65 = .ok (.invokevirtual 175, 3) ∧ decode cX9_below 68 = .ok (.i2l, 1) ∧ decode cX9_below 69 = .ok (.invokevirtual 142, 3) ∧ decode cX9_below 72 = .ok (.iload 4, 2) ∧ decode cX9_below 74 = .ok (.ireturn, 1) ∧ decode cX9_below 75 = .ok (.iinc 4 (-1), 3) ∧ decode cX9_below 78 = .ok (.goto (-38), 3) ∧ decode cX9_below 81 = .ok (.bipush (-2), 2) ∧ decode cX9_below 83 = .ok (.ireturn, 1) ∧ True := zj_of zk_534
abbrev dX9_below_61 := zr_534.1
abbrev dX9_below_62 := zr_534.2.1
abbrev dX9_below_63 := zr_534.2.2.1
abbrev dX9_below_65 := zr_534.2.2.2.1
abbrev dX9_below_68 := zr_534.2.2.2.2.1
abbrev dX9_below_69 := zr_534.2.2.2.2.2.1
abbrev dX9_below_72 := zr_534.2.2.2.2.2.2.1
abbrev dX9_below_74 := zr_534.2.2.2.2.2.2.2.1
abbrev dX9_below_75 := zr_534.2.2.2.2.2.2.2.2.1
abbrev dX9_below_78 := zr_534.2.2.2.2.2.2.2.2.2.1
abbrev dX9_below_81 := zr_534.2.2.2.2.2.2.2.2.2.2.1
abbrev dX9_below_83 := zr_534.2.2.2.2.2.2.2.2.2.2.2.1
set_option maxRecDepth 100000 in
theorem zk_535 : zck 0 (cX9_above.data.toList.drop 0) [(0, .aload_n 0, 1), (1, .iconst 0, 1), (2, .putfield 1, 3), (5, .aload_n 0, 1), (6, .iload_n 1, 1), (7, .iload_n 2, 1), (8, .invokevirtual 150, 3), (11, .ifCond .eq 17, 3), (14, .iload_n 3, 1), (15, .i2l, 1), (16, .ldc2_w 198, 3), (19, .ldc2_w 200, 3)] = true := by decide +kernel
theorem zr_535 : decode cX9_above 0 = .ok (.aload_n 0, 1) ∧ decode cX9_above 1 = .ok (.iconst 0, 1) ∧ decode cX9_above 2 = .ok (.putfield 1, 3) ∧ decode cX9_above 5 = .ok (.aload_n 0, 1) ∧ decode cX9_above 6 = .ok (.iload_n 1, 1) ∧ decode cX9_above 7 = .ok (.iload_n 2, 1) ∧ decode cX9_above 8 = .ok (.invokevirtual 150, 3) ∧ decode cX9_above 11 = .ok (.ifCond .eq 17, 3) ∧ decode cX9_above 14 = .ok (.iload_n 3, 1) ∧ decode cX9_above 15 = .ok (.i2l, 1) ∧ decode cX9_above 16 = .ok (.ldc2_w 198, 3) ∧ decode cX9_above 19 = .ok (.ldc2_w 200, 3) ∧ True := zj_of zk_535
abbrev dX9_above_0 := zr_535.1
abbrev dX9_above_1 := zr_535.2.1
abbrev dX9_above_2 := zr_535.2.2.1
abbrev dX9_above_5 := zr_535.2.2.2.1
abbrev dX9_above_6 := zr_535.2.2.2.2.1
abbrev dX9_above_7 := zr_535.2.2.2.2.2.1
abbrev dX9_above_8 := zr_535.2.2.2.2.2.2.1
abbrev dX9_above_11 := zr_535.2.2.2.2.2.2.2.1
abbrev dX9_above_14 := zr_535.2.2.2.2.2.2.2.2.1
abbrev dX9_above_15 := zr_535.2.2.2.2.2.2.2.2.2.1
abbrev dX9_above_16 := zr_535.2.2.2.2.2.2.2.2.2.2.1
abbrev dX9_above_19 := zr_535.2.2.2.2.2.2.2.2.2.2.2.1
set_option maxRecDepth 100000 in
theorem zk_536 : zck 22 (cX9_above.data.toList.drop 22) [(22, .invokestatic 21, 3), (25, .ifCond .ne 5, 3), (28, .iconst (-1), 1), (29, .ireturn, 1), (30, .aload_n 0, 1), (31, .iconst 0, 1), (32, .iload_n 1, 1), (33, .iload_n 2, 1), (34, .invokevirtual 169, 3), (37, .iload_n 3, 1), (38, .iconst 1, 1), (39, .iadd, 1)] = true := by decide +kernel
theorem zr_536 : decode cX9_above 22 = .ok (.invokestatic 21, 3) ∧ decode cX9_above 25 = .ok (.ifCond .ne 5, 3) ∧ decode cX9_above 28 = .ok (.iconst (-1), 1) ∧ decode cX9_above 29 = .ok (.ireturn, 1) ∧ decode cX9_above 30 = .ok (.aload_n 0, 1) ∧ decode cX9_above 31 = .ok (.iconst 0, 1) ∧ decode cX9_above 32 = .ok (.iload_n 1, 1) ∧ decode cX9_above 33 = .ok (.iload_n 2, 1) ∧ decode cX9_above 34 = .ok (.invokevirtual 169, 3) ∧ decode cX9_above 37 = .ok (.iload_n 3, 1) ∧ decode cX9_above 38 = .ok (.iconst 1, 1) ∧ decode cX9_above 39 = .ok (.iadd, 1) ∧ True := zj_of zk_536
abbrev dX9_above_22 := zr_536.1
abbrev dX9_above_25 := zr_536.2.1
abbrev dX9_above_28 := zr_536.2.2.1
abbrev dX9_above_29 := zr_536.2.2.2.1
abbrev dX9_above_30 := zr_536.2.2.2.2.1
abbrev dX9_above_31 := zr_536.2.2.2.2.2.1
abbrev dX9_above_32 := zr_536.2.2.2.2.2.2.1
abbrev dX9_above_33 := zr_536.2.2.2.2.2.2.2.1
abbrev dX9_above_34 := zr_536.2.2.2.2.2.2.2.2.1
abbrev dX9_above_37 := zr_536.2.2.2.2.2.2.2.2.2.1
abbrev dX9_above_38 := zr_536.2.2.2.2.2.2.2.2.2.2.1
abbrev dX9_above_39 := zr_536.2.2.2.2.2.2.2.2.2.2.2.1
set_option maxRecDepth 100000 in
theorem zk_537 : zck 40 (cX9_above.data.toList.drop 40) [(40, .istore 4, 2), (42, .iload 4, 2), (44, .sipush 256, 3), (47, .if_icmp .ge 39, 3), (50, .aload_n 0, 1), (51, .iconst 0, 1), (52, .iload 4, 2), (54, .invokevirtual 175, 3), (57, .ifCond .le 23, 3), (60, .aload_n 0, 1), (61, .iconst 0, 1), (62, .putfield 11, 3)] = true := by decide +kernel
theorem zr_537 : decode cX9_above 40 = .ok (.istore 4, 2) ∧ decode cX9_above 42 = .ok (.iload 4, 2) ∧ decode cX9_above 44 = .ok (.sipush 256, 3) ∧ decode cX9_above 47 = .ok (.if_icmp .ge 39, 3) ∧ decode cX9_above 50 = .ok (.aload_n 0, 1) ∧ decode cX9_above 51 = .ok (.iconst 0, 1) ∧ decode cX9_above 52 = .ok (.iload 4, 2) ∧ decode cX9_above 54 = .ok (.invokevirtual 175, 3) ∧ decode cX9_above 57 = .ok (.ifCond .le 23, 3) ∧ decode cX9_above 60 = .ok (.aload_n 0, 1) ∧ decode cX9_above 61 = .ok (.iconst 0, 1) ∧ decode cX9_above 62 = .ok (.putfield 11, 3) ∧ True := zj_of zk_537
abbrev dX9_above_40 := zr_537.1
abbrev dX9_above_42 := zr_537.2.1
abbrev dX9_above_44 := zr_537.2.2.1
abbrev dX9_above_47 := zr_537.2.2.2.1
abbrev dX9_above_50 := zr_537.2.2.2.2.1
abbrev dX9_above_51 := zr_537.2.2.2.2.2.1
abbrev dX9_above_52 := zr_537.2.2.2.2.2.2.1
abbrev dX9_above_54 := zr_537.2.2.2.2.2.2.2.1
abbrev dX9_above_57 := zr_537.2.2.2.2.2.2.2.2.1
abbrev dX9_above_60 := zr_537.2.2.2.2.2.2.2.2.2.1
abbrev dX9_above_61 := zr_537.2.2.2.2.2.2.2.2.2.2.1
abbrev dX9_above_62 := zr_537.2.2.2.2.2.2.2.2.2.2.2.1
set_option maxRecDepth 100000 in
theorem zk_538 : zck 65 (cX9_above.data.toList.drop 65) [(65, .aload_n 0, 1), (66, .aload_n 0, 1), (67, .iconst 0, 1), (68, .iload 4, 2), (70, .invokevirtual 175, 3), (73, .i2l, 1), (74, .invokevirtual 142, 3), (77, .iload 4, 2), (79, .ireturn, 1), (80, .iinc 4 1, 3), (83, .goto (-41), 3), (86, .bipush (-2), 2)] = true := by decide +kernel
theorem zr_538 : decode cX9_above 65 = .ok (.aload_n 0, 1) ∧ decode cX9_above 66 = .ok (.aload_n 0, 1) ∧ decode cX9_above 67 = .ok (.iconst 0, 1) ∧ decode cX9_above 68 = .ok (.iload 4, 2) ∧ decode cX9_above 70 = .ok (.invokevirtual 175, 3) ∧ decode cX9_above 73 = .ok (.i2l, 1) ∧ decode cX9_above 74 = .ok (.invokevirtual 142, 3) ∧ decode cX9_above 77 = .ok (.iload 4, 2) ∧ decode cX9_above 79 = .ok (.ireturn, 1) ∧ decode cX9_above 80 = .ok (.iinc 4 1, 3) ∧ decode cX9_above 83 = .ok (.goto (-41), 3) ∧ decode cX9_above 86 = .ok (.bipush (-2), 2) ∧ True := zj_of zk_538
abbrev dX9_above_65 := zr_538.1
abbrev dX9_above_66 := zr_538.2.1
abbrev dX9_above_67 := zr_538.2.2.1
abbrev dX9_above_68 := zr_538.2.2.2.1
abbrev dX9_above_70 := zr_538.2.2.2.2.1
abbrev dX9_above_73 := zr_538.2.2.2.2.2.1
abbrev dX9_above_74 := zr_538.2.2.2.2.2.2.1
abbrev dX9_above_77 := zr_538.2.2.2.2.2.2.2.1
abbrev dX9_above_79 := zr_538.2.2.2.2.2.2.2.2.1
abbrev dX9_above_80 := zr_538.2.2.2.2.2.2.2.2.2.1
abbrev dX9_above_83 := zr_538.2.2.2.2.2.2.2.2.2.2.1
abbrev dX9_above_86 := zr_538.2.2.2.2.2.2.2.2.2.2.2.1
set_option maxRecDepth 100000 in
theorem zk_539 : zck 88 (cX9_above.data.toList.drop 88) [(88, .ireturn, 1)] = true := by decide +kernel
theorem zr_539 : decode cX9_above 88 = .ok (.ireturn, 1) ∧ True := zj_of zk_539
abbrev dX9_above_88 := zr_539.1
set_option maxRecDepth 100000 in
theorem zk_540 : zck 0 (cX9_sums.data.toList.drop 0) [(0, .aload_n 0, 1), (1, .iconst 0, 1), (2, .putfield 1, 3), (5, .aload_n 0, 1), (6, .iload_n 1, 1), (7, .iload_n 2, 1), (8, .invokevirtual 150, 3), (11, .ifCond .eq 7, 3), (14, .iload_n 3, 1), (15, .ifCond .ge 5, 3), (18, .iconst (-1), 1), (19, .ireturn, 1)] = true := by decide +kernel
theorem zr_540 : decode cX9_sums 0 = .ok (.aload_n 0, 1) ∧ decode cX9_sums 1 = .ok (.iconst 0, 1) ∧ decode cX9_sums 2 = .ok (.putfield 1, 3) ∧ decode cX9_sums 5 = .ok (.aload_n 0, 1) ∧ decode cX9_sums 6 = .ok (.iload_n 1, 1) ∧ decode cX9_sums 7 = .ok (.iload_n 2, 1) ∧ decode cX9_sums 8 = .ok (.invokevirtual 150, 3) ∧ decode cX9_sums 11 = .ok (.ifCond .eq 7, 3) ∧ decode cX9_sums 14 = .ok (.iload_n 3, 1) ∧ decode cX9_sums 15 = .ok (.ifCond .ge 5, 3) ∧ decode cX9_sums 18 = .ok (.iconst (-1), 1) ∧ decode cX9_sums 19 = .ok (.ireturn, 1) ∧ True := zj_of zk_540
abbrev dX9_sums_0 := zr_540.1
abbrev dX9_sums_1 := zr_540.2.1
abbrev dX9_sums_2 := zr_540.2.2.1
abbrev dX9_sums_5 := zr_540.2.2.2.1
abbrev dX9_sums_6 := zr_540.2.2.2.2.1
abbrev dX9_sums_7 := zr_540.2.2.2.2.2.1
abbrev dX9_sums_8 := zr_540.2.2.2.2.2.2.1
abbrev dX9_sums_11 := zr_540.2.2.2.2.2.2.2.1
abbrev dX9_sums_14 := zr_540.2.2.2.2.2.2.2.2.1
abbrev dX9_sums_15 := zr_540.2.2.2.2.2.2.2.2.2.1
abbrev dX9_sums_18 := zr_540.2.2.2.2.2.2.2.2.2.2.1
abbrev dX9_sums_19 := zr_540.2.2.2.2.2.2.2.2.2.2.2.1
set_option maxRecDepth 100000 in
theorem zk_541 : zck 20 (cX9_sums.data.toList.drop 20) [(20, .iload_n 3, 1), (21, .iload_n 2, 1), (22, .iload_n 1, 1), (23, .isub, 1), (24, .if_icmp .le 6, 3), (27, .bipush (-2), 2), (29, .ireturn, 1), (30, .aload_n 0, 1), (31, .iload_n 1, 1), (32, .iload_n 2, 1), (33, .invokevirtual 178, 3), (36, .iconst 0, 1)] = true := by decide +kernel
theorem zr_541 : decode cX9_sums 20 = .ok (.iload_n 3, 1) ∧ decode cX9_sums 21 = .ok (.iload_n 2, 1) ∧ decode cX9_sums 22 = .ok (.iload_n 1, 1) ∧ decode cX9_sums 23 = .ok (.isub, 1) ∧ decode cX9_sums 24 = .ok (.if_icmp .le 6, 3) ∧ decode cX9_sums 27 = .ok (.bipush (-2), 2) ∧ decode cX9_sums 29 = .ok (.ireturn, 1) ∧ decode cX9_sums 30 = .ok (.aload_n 0, 1) ∧ decode cX9_sums 31 = .ok (.iload_n 1, 1) ∧ decode cX9_sums 32 = .ok (.iload_n 2, 1) ∧ decode cX9_sums 33 = .ok (.invokevirtual 178, 3) ∧ decode cX9_sums 36 = .ok (.iconst 0, 1) ∧ True := zj_of zk_541
abbrev dX9_sums_20 := zr_541.1
abbrev dX9_sums_21 := zr_541.2.1
abbrev dX9_sums_22 := zr_541.2.2.1
abbrev dX9_sums_23 := zr_541.2.2.2.1
abbrev dX9_sums_24 := zr_541.2.2.2.2.1
abbrev dX9_sums_27 := zr_541.2.2.2.2.2.1
abbrev dX9_sums_29 := zr_541.2.2.2.2.2.2.1
abbrev dX9_sums_30 := zr_541.2.2.2.2.2.2.2.1
abbrev dX9_sums_31 := zr_541.2.2.2.2.2.2.2.2.1
abbrev dX9_sums_32 := zr_541.2.2.2.2.2.2.2.2.2.1
abbrev dX9_sums_33 := zr_541.2.2.2.2.2.2.2.2.2.2.1
abbrev dX9_sums_36 := zr_541.2.2.2.2.2.2.2.2.2.2.2.1
set_option maxRecDepth 100000 in
theorem zk_542 : zck 37 (cX9_sums.data.toList.drop 37) [(37, .istore 4, 2), (39, .iconst 0, 1), (40, .istore 5, 2), (42, .iconst 0, 1), (43, .istore 6, 2), (45, .iload 6, 2), (47, .iload_n 3, 1), (48, .if_icmp .ge 40, 3), (51, .iload 4, 2), (53, .aload_n 0, 1), (54, .getfield 79, 3), (57, .iload 6, 2)] = true := by decide +kernel
theorem zr_542 : decode cX9_sums 37 = .ok (.istore 4, 2) ∧ decode cX9_sums 39 = .ok (.iconst 0, 1) ∧ decode cX9_sums 40 = .ok (.istore 5, 2) ∧ decode cX9_sums 42 = .ok (.iconst 0, 1) ∧ decode cX9_sums 43 = .ok (.istore 6, 2) ∧ decode cX9_sums 45 = .ok (.iload 6, 2) ∧ decode cX9_sums 47 = .ok (.iload_n 3, 1) ∧ decode cX9_sums 48 = .ok (.if_icmp .ge 40, 3) ∧ decode cX9_sums 51 = .ok (.iload 4, 2) ∧ decode cX9_sums 53 = .ok (.aload_n 0, 1) ∧ decode cX9_sums 54 = .ok (.getfield 79, 3) ∧ decode cX9_sums 57 = .ok (.iload 6, 2) ∧ True := zj_of zk_542
abbrev dX9_sums_37 := zr_542.1
abbrev dX9_sums_39 := zr_542.2.1
abbrev dX9_sums_40 := zr_542.2.2.1
abbrev dX9_sums_42 := zr_542.2.2.2.1
abbrev dX9_sums_43 := zr_542.2.2.2.2.1
abbrev dX9_sums_45 := zr_542.2.2.2.2.2.1
abbrev dX9_sums_47 := zr_542.2.2.2.2.2.2.1
abbrev dX9_sums_48 := zr_542.2.2.2.2.2.2.2.1
abbrev dX9_sums_51 := zr_542.2.2.2.2.2.2.2.2.1
abbrev dX9_sums_53 := zr_542.2.2.2.2.2.2.2.2.2.1
abbrev dX9_sums_54 := zr_542.2.2.2.2.2.2.2.2.2.2.1
abbrev dX9_sums_57 := zr_542.2.2.2.2.2.2.2.2.2.2.2.1
set_option maxRecDepth 100000 in
theorem zk_543 : zck 59 (cX9_sums.data.toList.drop 59) [(59, .iaload, 1), (60, .iadd, 1), (61, .istore 4, 2), (63, .iload 5, 2), (65, .aload_n 0, 1), (66, .getfield 79, 3), (69, .aload_n 0, 1), (70, .getfield 172, 3), (73, .iconst 1, 1), (74, .isub, 1), (75, .iload 6, 2), (77, .isub, 1)] = true := by decide +kernel
theorem zr_543 : decode cX9_sums 59 = .ok (.iaload, 1) ∧ decode cX9_sums 60 = .ok (.iadd, 1) ∧ decode cX9_sums 61 = .ok (.istore 4, 2) ∧ decode cX9_sums 63 = .ok (.iload 5, 2) ∧ decode cX9_sums 65 = .ok (.aload_n 0, 1) ∧ decode cX9_sums 66 = .ok (.getfield 79, 3) ∧ decode cX9_sums 69 = .ok (.aload_n 0, 1) ∧ decode cX9_sums 70 = .ok (.getfield 172, 3) ∧ decode cX9_sums 73 = .ok (.iconst 1, 1) ∧ decode cX9_sums 74 = .ok (.isub, 1) ∧ decode cX9_sums 75 = .ok (.iload 6, 2) ∧ decode cX9_sums 77 = .ok (.isub, 1) ∧ True := zj_of zk_543
abbrev dX9_sums_59 := zr_543.1
abbrev dX9_sums_60 := zr_543.2.1
abbrev dX9_sums_61 := zr_543.2.2.1
abbrev dX9_sums_63 := zr_543.2.2.2.1
abbrev dX9_sums_65 := zr_543.2.2.2.2.1
abbrev dX9_sums_66 := zr_543.2.2.2.2.2.1
abbrev dX9_sums_69 := zr_543.2.2.2.2.2.2.1
abbrev dX9_sums_70 := zr_543.2.2.2.2.2.2.2.1
abbrev dX9_sums_73 := zr_543.2.2.2.2.2.2.2.2.1
abbrev dX9_sums_74 := zr_543.2.2.2.2.2.2.2.2.2.1
abbrev dX9_sums_75 := zr_543.2.2.2.2.2.2.2.2.2.2.1
abbrev dX9_sums_77 := zr_543.2.2.2.2.2.2.2.2.2.2.2.1
set_option maxRecDepth 100000 in
theorem zk_544 : zck 78 (cX9_sums.data.toList.drop 78) [(78, .iaload, 1), (79, .iadd, 1), (80, .istore 5, 2), (82, .iinc 6 1, 3), (85, .goto (-40), 3), (88, .aload_n 0, 1), (89, .iconst 0, 1), (90, .putfield 11, 3), (93, .aload_n 0, 1), (94, .iload 5, 2), (96, .i2l, 1), (97, .invokevirtual 142, 3)] = true := by decide +kernel
theorem zr_544 : decode cX9_sums 78 = .ok (.iaload, 1) ∧ decode cX9_sums 79 = .ok (.iadd, 1) ∧ decode cX9_sums 80 = .ok (.istore 5, 2) ∧ decode cX9_sums 82 = .ok (.iinc 6 1, 3) ∧ decode cX9_sums 85 = .ok (.goto (-40), 3) ∧ decode cX9_sums 88 = .ok (.aload_n 0, 1) ∧ decode cX9_sums 89 = .ok (.iconst 0, 1) ∧ decode cX9_sums 90 = .ok (.putfield 11, 3) ∧ decode cX9_sums 93 = .ok (.aload_n 0, 1) ∧ decode cX9_sums 94 = .ok (.iload 5, 2) ∧ decode cX9_sums 96 = .ok (.i2l, 1) ∧ decode cX9_sums 97 = .ok (.invokevirtual 142, 3) ∧ True := zj_of zk_544
abbrev dX9_sums_78 := zr_544.1
abbrev dX9_sums_79 := zr_544.2.1
abbrev dX9_sums_80 := zr_544.2.2.1
abbrev dX9_sums_82 := zr_544.2.2.2.1
abbrev dX9_sums_85 := zr_544.2.2.2.2.1
abbrev dX9_sums_88 := zr_544.2.2.2.2.2.1
abbrev dX9_sums_89 := zr_544.2.2.2.2.2.2.1
abbrev dX9_sums_90 := zr_544.2.2.2.2.2.2.2.1
abbrev dX9_sums_93 := zr_544.2.2.2.2.2.2.2.2.1
abbrev dX9_sums_94 := zr_544.2.2.2.2.2.2.2.2.2.1
abbrev dX9_sums_96 := zr_544.2.2.2.2.2.2.2.2.2.2.1
abbrev dX9_sums_97 := zr_544.2.2.2.2.2.2.2.2.2.2.2.1
set_option maxRecDepth 100000 in
theorem zk_545 : zck 100 (cX9_sums.data.toList.drop 100) [(100, .iload 4, 2), (102, .ireturn, 1)] = true := by decide +kernel
theorem zr_545 : decode cX9_sums 100 = .ok (.iload 4, 2) ∧ decode cX9_sums 102 = .ok (.ireturn, 1) ∧ True := zj_of zk_545
abbrev dX9_sums_100 := zr_545.1
abbrev dX9_sums_102 := zr_545.2.1
set_option maxRecDepth 100000 in
theorem zk_546 : zck 0 (cX9_nodes.data.toList.drop 0) [(0, .iconst 0, 1), (1, .istore_n 3, 1), (2, .sipush 256, 3), (5, .istore 4, 2), (7, .iload 4, 2), (9, .ifCond .le 88, 3), (12, .iconst 0, 1), (13, .istore 5, 2), (15, .iload 5, 2), (17, .sipush 256, 3), (20, .if_icmp .ge 68, 3), (23, .aload_n 0, 1)] = true := by decide +kernel
theorem zr_546 : decode cX9_nodes 0 = .ok (.iconst 0, 1) ∧ decode cX9_nodes 1 = .ok (.istore_n 3, 1) ∧ decode cX9_nodes 2 = .ok (.sipush 256, 3) ∧ decode cX9_nodes 5 = .ok (.istore 4, 2) ∧ decode cX9_nodes 7 = .ok (.iload 4, 2) ∧ decode cX9_nodes 9 = .ok (.ifCond .le 88, 3) ∧ decode cX9_nodes 12 = .ok (.iconst 0, 1) ∧ decode cX9_nodes 13 = .ok (.istore 5, 2) ∧ decode cX9_nodes 15 = .ok (.iload 5, 2) ∧ decode cX9_nodes 17 = .ok (.sipush 256, 3) ∧ decode cX9_nodes 20 = .ok (.if_icmp .ge 68, 3) ∧ decode cX9_nodes 23 = .ok (.aload_n 0, 1) ∧ True := zj_of zk_546
abbrev dX9_nodes_0 := zr_546.1
abbrev dX9_nodes_1 := zr_546.2.1
abbrev dX9_nodes_2 := zr_546.2.2.1
abbrev dX9_nodes_5 := zr_546.2.2.2.1
abbrev dX9_nodes_7 := zr_546.2.2.2.2.1
abbrev dX9_nodes_9 := zr_546.2.2.2.2.2.1
abbrev dX9_nodes_12 := zr_546.2.2.2.2.2.2.1
abbrev dX9_nodes_13 := zr_546.2.2.2.2.2.2.2.1
abbrev dX9_nodes_15 := zr_546.2.2.2.2.2.2.2.2.1
abbrev dX9_nodes_17 := zr_546.2.2.2.2.2.2.2.2.2.1
abbrev dX9_nodes_20 := zr_546.2.2.2.2.2.2.2.2.2.2.1
abbrev dX9_nodes_23 := zr_546.2.2.2.2.2.2.2.2.2.2.2.1
set_option maxRecDepth 100000 in
theorem zk_547 : zck 24 (cX9_nodes.data.toList.drop 24) [(24, .iconst 0, 1), (25, .iload 5, 2), (27, .iload 5, 2), (29, .iload 4, 2), (31, .iadd, 1), (32, .iconst 1, 1), (33, .isub, 1), (34, .invokevirtual 189, 3), (37, .istore 6, 2), (39, .iload_n 3, 1), (40, .iload 6, 2), (42, .iload_n 1, 1)] = true := by decide +kernel
theorem zr_547 : decode cX9_nodes 24 = .ok (.iconst 0, 1) ∧ decode cX9_nodes 25 = .ok (.iload 5, 2) ∧ decode cX9_nodes 27 = .ok (.iload 5, 2) ∧ decode cX9_nodes 29 = .ok (.iload 4, 2) ∧ decode cX9_nodes 31 = .ok (.iadd, 1) ∧ decode cX9_nodes 32 = .ok (.iconst 1, 1) ∧ decode cX9_nodes 33 = .ok (.isub, 1) ∧ decode cX9_nodes 34 = .ok (.invokevirtual 189, 3) ∧ decode cX9_nodes 37 = .ok (.istore 6, 2) ∧ decode cX9_nodes 39 = .ok (.iload_n 3, 1) ∧ decode cX9_nodes 40 = .ok (.iload 6, 2) ∧ decode cX9_nodes 42 = .ok (.iload_n 1, 1) ∧ True := zj_of zk_547
abbrev dX9_nodes_24 := zr_547.1
abbrev dX9_nodes_25 := zr_547.2.1
abbrev dX9_nodes_27 := zr_547.2.2.1
abbrev dX9_nodes_29 := zr_547.2.2.2.1
abbrev dX9_nodes_31 := zr_547.2.2.2.2.1
abbrev dX9_nodes_32 := zr_547.2.2.2.2.2.1
abbrev dX9_nodes_33 := zr_547.2.2.2.2.2.2.1
abbrev dX9_nodes_34 := zr_547.2.2.2.2.2.2.2.1
abbrev dX9_nodes_37 := zr_547.2.2.2.2.2.2.2.2.1
abbrev dX9_nodes_39 := zr_547.2.2.2.2.2.2.2.2.2.1
abbrev dX9_nodes_40 := zr_547.2.2.2.2.2.2.2.2.2.2.1
abbrev dX9_nodes_42 := zr_547.2.2.2.2.2.2.2.2.2.2.2.1
set_option maxRecDepth 100000 in
theorem zk_548 : zck 43 (cX9_nodes.data.toList.drop 43) [(43, .if_icmp .lt 29, 3), (46, .iload_n 2, 1), (47, .ifCond .eq 21, 3), (50, .aload_n 0, 1), (51, .iconst 1, 1), (52, .iload 5, 2), (54, .iload 5, 2), (56, .iload 4, 2), (58, .iadd, 1), (59, .iconst 1, 1), (60, .isub, 1), (61, .invokevirtual 189, 3)] = true := by decide +kernel
theorem zr_548 : decode cX9_nodes 43 = .ok (.if_icmp .lt 29, 3) ∧ decode cX9_nodes 46 = .ok (.iload_n 2, 1) ∧ decode cX9_nodes 47 = .ok (.ifCond .eq 21, 3) ∧ decode cX9_nodes 50 = .ok (.aload_n 0, 1) ∧ decode cX9_nodes 51 = .ok (.iconst 1, 1) ∧ decode cX9_nodes 52 = .ok (.iload 5, 2) ∧ decode cX9_nodes 54 = .ok (.iload 5, 2) ∧ decode cX9_nodes 56 = .ok (.iload 4, 2) ∧ decode cX9_nodes 58 = .ok (.iadd, 1) ∧ decode cX9_nodes 59 = .ok (.iconst 1, 1) ∧ decode cX9_nodes 60 = .ok (.isub, 1) ∧ decode cX9_nodes 61 = .ok (.invokevirtual 189, 3) ∧ True := zj_of zk_548
abbrev dX9_nodes_43 := zr_548.1
abbrev dX9_nodes_46 := zr_548.2.1
abbrev dX9_nodes_47 := zr_548.2.2.1
abbrev dX9_nodes_50 := zr_548.2.2.2.1
abbrev dX9_nodes_51 := zr_548.2.2.2.2.1
abbrev dX9_nodes_52 := zr_548.2.2.2.2.2.1
abbrev dX9_nodes_54 := zr_548.2.2.2.2.2.2.1
abbrev dX9_nodes_56 := zr_548.2.2.2.2.2.2.2.1
abbrev dX9_nodes_58 := zr_548.2.2.2.2.2.2.2.2.1
abbrev dX9_nodes_59 := zr_548.2.2.2.2.2.2.2.2.2.1
abbrev dX9_nodes_60 := zr_548.2.2.2.2.2.2.2.2.2.2.1
abbrev dX9_nodes_61 := zr_548.2.2.2.2.2.2.2.2.2.2.2.1
set_option maxRecDepth 100000 in
theorem zk_549 : zck 64 (cX9_nodes.data.toList.drop 64) [(64, .iload_n 1, 1), (65, .if_icmp .lt 7, 3), (68, .iconst 1, 1), (69, .goto 4, 3), (72, .iconst 0, 1), (73, .invokestatic 31, 3), (76, .iadd, 1), (77, .istore_n 3, 1), (78, .iload 5, 2), (80, .iload 4, 2), (82, .iadd, 1), (83, .istore 5, 2)] = true := by decide +kernel
theorem zr_549 : decode cX9_nodes 64 = .ok (.iload_n 1, 1) ∧ decode cX9_nodes 65 = .ok (.if_icmp .lt 7, 3) ∧ decode cX9_nodes 68 = .ok (.iconst 1, 1) ∧ decode cX9_nodes 69 = .ok (.goto 4, 3) ∧ decode cX9_nodes 72 = .ok (.iconst 0, 1) ∧ decode cX9_nodes 73 = .ok (.invokestatic 31, 3) ∧ decode cX9_nodes 76 = .ok (.iadd, 1) ∧ decode cX9_nodes 77 = .ok (.istore_n 3, 1) ∧ decode cX9_nodes 78 = .ok (.iload 5, 2) ∧ decode cX9_nodes 80 = .ok (.iload 4, 2) ∧ decode cX9_nodes 82 = .ok (.iadd, 1) ∧ decode cX9_nodes 83 = .ok (.istore 5, 2) ∧ True := zj_of zk_549
abbrev dX9_nodes_64 := zr_549.1
abbrev dX9_nodes_65 := zr_549.2.1
abbrev dX9_nodes_68 := zr_549.2.2.1
abbrev dX9_nodes_69 := zr_549.2.2.2.1
abbrev dX9_nodes_72 := zr_549.2.2.2.2.1
abbrev dX9_nodes_73 := zr_549.2.2.2.2.2.1
abbrev dX9_nodes_76 := zr_549.2.2.2.2.2.2.1
abbrev dX9_nodes_77 := zr_549.2.2.2.2.2.2.2.1
abbrev dX9_nodes_78 := zr_549.2.2.2.2.2.2.2.2.1
abbrev dX9_nodes_80 := zr_549.2.2.2.2.2.2.2.2.2.1
abbrev dX9_nodes_82 := zr_549.2.2.2.2.2.2.2.2.2.2.1
abbrev dX9_nodes_83 := zr_549.2.2.2.2.2.2.2.2.2.2.2.1
set_option maxRecDepth 100000 in
theorem zk_550 : zck 85 (cX9_nodes.data.toList.drop 85) [(85, .goto (-70), 3), (88, .iload 4, 2), (90, .iconst 2, 1), (91, .idiv, 1), (92, .istore 4, 2), (94, .goto (-87), 3), (97, .iload_n 3, 1), (98, .ireturn, 1)] = true := by decide +kernel
theorem zr_550 : decode cX9_nodes 85 = .ok (.goto (-70), 3) ∧ decode cX9_nodes 88 = .ok (.iload 4, 2) ∧ decode cX9_nodes 90 = .ok (.iconst 2, 1) ∧ decode cX9_nodes 91 = .ok (.idiv, 1) ∧ decode cX9_nodes 92 = .ok (.istore 4, 2) ∧ decode cX9_nodes 94 = .ok (.goto (-87), 3) ∧ decode cX9_nodes 97 = .ok (.iload_n 3, 1) ∧ decode cX9_nodes 98 = .ok (.ireturn, 1) ∧ True := zj_of zk_550
abbrev dX9_nodes_85 := zr_550.1
abbrev dX9_nodes_88 := zr_550.2.1
abbrev dX9_nodes_90 := zr_550.2.2.1
abbrev dX9_nodes_91 := zr_550.2.2.2.1
abbrev dX9_nodes_92 := zr_550.2.2.2.2.1
abbrev dX9_nodes_94 := zr_550.2.2.2.2.2.1
abbrev dX9_nodes_97 := zr_550.2.2.2.2.2.2.1
abbrev dX9_nodes_98 := zr_550.2.2.2.2.2.2.2.1
set_option maxRecDepth 100000 in
theorem zk_551 : zck 0 (cX9_often.data.toList.drop 0) [(0, .aload_n 0, 1), (1, .iconst 0, 1), (2, .putfield 1, 3), (5, .aload_n 0, 1), (6, .iload_n 1, 1), (7, .iload_n 2, 1), (8, .invokevirtual 150, 3), (11, .ifCond .eq 15, 3), (14, .iload_n 3, 1), (15, .i2l, 1), (16, .lconst 1, 1), (17, .ldc2_w 202, 3)] = true := by decide +kernel
theorem zr_551 : decode cX9_often 0 = .ok (.aload_n 0, 1) ∧ decode cX9_often 1 = .ok (.iconst 0, 1) ∧ decode cX9_often 2 = .ok (.putfield 1, 3) ∧ decode cX9_often 5 = .ok (.aload_n 0, 1) ∧ decode cX9_often 6 = .ok (.iload_n 1, 1) ∧ decode cX9_often 7 = .ok (.iload_n 2, 1) ∧ decode cX9_often 8 = .ok (.invokevirtual 150, 3) ∧ decode cX9_often 11 = .ok (.ifCond .eq 15, 3) ∧ decode cX9_often 14 = .ok (.iload_n 3, 1) ∧ decode cX9_often 15 = .ok (.i2l, 1) ∧ decode cX9_often 16 = .ok (.lconst 1, 1) ∧ decode cX9_often 17 = .ok (.ldc2_w 202, 3) ∧ True := zj_of zk_551
abbrev dX9_often_0 := zr_551.1
abbrev dX9_often_1 := zr_551.2.1
abbrev dX9_often_2 := zr_551.2.2.1
abbrev dX9_often_5 := zr_551.2.2.2.1
abbrev dX9_often_6 := zr_551.2.2.2.2.1
abbrev dX9_often_7 := zr_551.2.2.2.2.2.1
abbrev dX9_often_8 := zr_551.2.2.2.2.2.2.1
abbrev dX9_often_11 := zr_551.2.2.2.2.2.2.2.1
abbrev dX9_often_14 := zr_551.2.2.2.2.2.2.2.2.1
abbrev dX9_often_15 := zr_551.2.2.2.2.2.2.2.2.2.1
abbrev dX9_often_16 := zr_551.2.2.2.2.2.2.2.2.2.2.1
abbrev dX9_often_17 := zr_551.2.2.2.2.2.2.2.2.2.2.2.1
set_option maxRecDepth 100000 in
theorem zk_552 : zck 20 (cX9_often.data.toList.drop 20) [(20, .invokestatic 21, 3), (23, .ifCond .ne 5, 3), (26, .iconst (-1), 1), (27, .ireturn, 1), (28, .aload_n 0, 1), (29, .iconst 0, 1), (30, .iload_n 1, 1), (31, .iload_n 2, 1), (32, .invokevirtual 169, 3), (35, .aload_n 0, 1), (36, .iconst 0, 1), (37, .putfield 11, 3)] = true := by decide +kernel
theorem zr_552 : decode cX9_often 20 = .ok (.invokestatic 21, 3) ∧ decode cX9_often 23 = .ok (.ifCond .ne 5, 3) ∧ decode cX9_often 26 = .ok (.iconst (-1), 1) ∧ decode cX9_often 27 = .ok (.ireturn, 1) ∧ decode cX9_often 28 = .ok (.aload_n 0, 1) ∧ decode cX9_often 29 = .ok (.iconst 0, 1) ∧ decode cX9_often 30 = .ok (.iload_n 1, 1) ∧ decode cX9_often 31 = .ok (.iload_n 2, 1) ∧ decode cX9_often 32 = .ok (.invokevirtual 169, 3) ∧ decode cX9_often 35 = .ok (.aload_n 0, 1) ∧ decode cX9_often 36 = .ok (.iconst 0, 1) ∧ decode cX9_often 37 = .ok (.putfield 11, 3) ∧ True := zj_of zk_552
abbrev dX9_often_20 := zr_552.1
abbrev dX9_often_23 := zr_552.2.1
abbrev dX9_often_26 := zr_552.2.2.1
abbrev dX9_often_27 := zr_552.2.2.2.1
abbrev dX9_often_28 := zr_552.2.2.2.2.1
abbrev dX9_often_29 := zr_552.2.2.2.2.2.1
abbrev dX9_often_30 := zr_552.2.2.2.2.2.2.1
abbrev dX9_often_31 := zr_552.2.2.2.2.2.2.2.1
abbrev dX9_often_32 := zr_552.2.2.2.2.2.2.2.2.1
abbrev dX9_often_35 := zr_552.2.2.2.2.2.2.2.2.2.1
abbrev dX9_often_36 := zr_552.2.2.2.2.2.2.2.2.2.2.1
abbrev dX9_often_37 := zr_552.2.2.2.2.2.2.2.2.2.2.2.1
set_option maxRecDepth 100000 in
theorem zk_553 : zck 40 (cX9_often.data.toList.drop 40) [(40, .aload_n 0, 1), (41, .aload_n 0, 1), (42, .iload_n 3, 1), (43, .iconst 0, 1), (44, .invokevirtual 204, 3), (47, .i2l, 1), (48, .invokevirtual 142, 3), (51, .iconst 0, 1), (52, .istore 4, 2), (54, .iconst 0, 1), (55, .istore 5, 2), (57, .iload 5, 2)] = true := by decide +kernel
theorem zr_553 : decode cX9_often 40 = .ok (.aload_n 0, 1) ∧ decode cX9_often 41 = .ok (.aload_n 0, 1) ∧ decode cX9_often 42 = .ok (.iload_n 3, 1) ∧ decode cX9_often 43 = .ok (.iconst 0, 1) ∧ decode cX9_often 44 = .ok (.invokevirtual 204, 3) ∧ decode cX9_often 47 = .ok (.i2l, 1) ∧ decode cX9_often 48 = .ok (.invokevirtual 142, 3) ∧ decode cX9_often 51 = .ok (.iconst 0, 1) ∧ decode cX9_often 52 = .ok (.istore 4, 2) ∧ decode cX9_often 54 = .ok (.iconst 0, 1) ∧ decode cX9_often 55 = .ok (.istore 5, 2) ∧ decode cX9_often 57 = .ok (.iload 5, 2) ∧ True := zj_of zk_553
abbrev dX9_often_40 := zr_553.1
abbrev dX9_often_41 := zr_553.2.1
abbrev dX9_often_42 := zr_553.2.2.1
abbrev dX9_often_43 := zr_553.2.2.2.1
abbrev dX9_often_44 := zr_553.2.2.2.2.1
abbrev dX9_often_47 := zr_553.2.2.2.2.2.1
abbrev dX9_often_48 := zr_553.2.2.2.2.2.2.1
abbrev dX9_often_51 := zr_553.2.2.2.2.2.2.2.1
abbrev dX9_often_52 := zr_553.2.2.2.2.2.2.2.2.1
abbrev dX9_often_54 := zr_553.2.2.2.2.2.2.2.2.2.1
abbrev dX9_often_55 := zr_553.2.2.2.2.2.2.2.2.2.2.1
abbrev dX9_often_57 := zr_553.2.2.2.2.2.2.2.2.2.2.2.1
set_option maxRecDepth 100000 in
theorem zk_554 : zck 59 (cX9_often.data.toList.drop 59) [(59, .sipush 256, 3), (62, .if_icmp .ge 49, 3), (65, .aload_n 0, 1), (66, .iconst 0, 1), (67, .iload 5, 2), (69, .invokevirtual 175, 3), (72, .iload_n 3, 1), (73, .if_icmp .lt 32, 3), (76, .iload 4, 2), (78, .bipush 16, 2), (80, .if_icmp .ge 22, 3), (83, .aload_n 0, 1)] = true := by decide +kernel
theorem zr_554 : decode cX9_often 59 = .ok (.sipush 256, 3) ∧ decode cX9_often 62 = .ok (.if_icmp .ge 49, 3) ∧ decode cX9_often 65 = .ok (.aload_n 0, 1) ∧ decode cX9_often 66 = .ok (.iconst 0, 1) ∧ decode cX9_often 67 = .ok (.iload 5, 2) ∧ decode cX9_often 69 = .ok (.invokevirtual 175, 3) ∧ decode cX9_often 72 = .ok (.iload_n 3, 1) ∧ decode cX9_often 73 = .ok (.if_icmp .lt 32, 3) ∧ decode cX9_often 76 = .ok (.iload 4, 2) ∧ decode cX9_often 78 = .ok (.bipush 16, 2) ∧ decode cX9_often 80 = .ok (.if_icmp .ge 22, 3) ∧ decode cX9_often 83 = .ok (.aload_n 0, 1) ∧ True := zj_of zk_554
abbrev dX9_often_59 := zr_554.1
abbrev dX9_often_62 := zr_554.2.1
abbrev dX9_often_65 := zr_554.2.2.1
abbrev dX9_often_66 := zr_554.2.2.2.1
abbrev dX9_often_67 := zr_554.2.2.2.2.1
abbrev dX9_often_69 := zr_554.2.2.2.2.2.1
abbrev dX9_often_72 := zr_554.2.2.2.2.2.2.1
abbrev dX9_often_73 := zr_554.2.2.2.2.2.2.2.1
abbrev dX9_often_76 := zr_554.2.2.2.2.2.2.2.2.1
abbrev dX9_often_78 := zr_554.2.2.2.2.2.2.2.2.2.1
abbrev dX9_often_80 := zr_554.2.2.2.2.2.2.2.2.2.2.1
abbrev dX9_often_83 := zr_554.2.2.2.2.2.2.2.2.2.2.2.1
set_option maxRecDepth 100000 in
theorem zk_555 : zck 84 (cX9_often.data.toList.drop 84) [(84, .iload 5, 2), (86, .i2l, 1), (87, .invokevirtual 142, 3), (90, .aload_n 0, 1), (91, .aload_n 0, 1), (92, .iconst 0, 1), (93, .iload 5, 2), (95, .invokevirtual 175, 3), (98, .i2l, 1), (99, .invokevirtual 142, 3), (102, .iinc 4 1, 3), (105, .iinc 5 1, 3)] = true := by decide +kernel
theorem zr_555 : decode cX9_often 84 = .ok (.iload 5, 2) ∧ decode cX9_often 86 = .ok (.i2l, 1) ∧ decode cX9_often 87 = .ok (.invokevirtual 142, 3) ∧ decode cX9_often 90 = .ok (.aload_n 0, 1) ∧ decode cX9_often 91 = .ok (.aload_n 0, 1) ∧ decode cX9_often 92 = .ok (.iconst 0, 1) ∧ decode cX9_often 93 = .ok (.iload 5, 2) ∧ decode cX9_often 95 = .ok (.invokevirtual 175, 3) ∧ decode cX9_often 98 = .ok (.i2l, 1) ∧ decode cX9_often 99 = .ok (.invokevirtual 142, 3) ∧ decode cX9_often 102 = .ok (.iinc 4 1, 3) ∧ decode cX9_often 105 = .ok (.iinc 5 1, 3) ∧ True := zj_of zk_555
abbrev dX9_often_84 := zr_555.1
abbrev dX9_often_86 := zr_555.2.1
abbrev dX9_often_87 := zr_555.2.2.1
abbrev dX9_often_90 := zr_555.2.2.2.1
abbrev dX9_often_91 := zr_555.2.2.2.2.1
abbrev dX9_often_92 := zr_555.2.2.2.2.2.1
abbrev dX9_often_93 := zr_555.2.2.2.2.2.2.1
abbrev dX9_often_95 := zr_555.2.2.2.2.2.2.2.1
abbrev dX9_often_98 := zr_555.2.2.2.2.2.2.2.2.1
abbrev dX9_often_99 := zr_555.2.2.2.2.2.2.2.2.2.1
abbrev dX9_often_102 := zr_555.2.2.2.2.2.2.2.2.2.2.1
abbrev dX9_often_105 := zr_555.2.2.2.2.2.2.2.2.2.2.2.1
set_option maxRecDepth 100000 in
theorem zk_556 : zck 108 (cX9_often.data.toList.drop 108) [(108, .goto (-51), 3), (111, .iload 4, 2), (113, .ireturn, 1)] = true := by decide +kernel
theorem zr_556 : decode cX9_often 108 = .ok (.goto (-51), 3) ∧ decode cX9_often 111 = .ok (.iload 4, 2) ∧ decode cX9_often 113 = .ok (.ireturn, 1) ∧ True := zj_of zk_556
abbrev dX9_often_108 := zr_556.1
abbrev dX9_often_111 := zr_556.2.1
abbrev dX9_often_113 := zr_556.2.2.1
set_option maxRecDepth 100000 in
theorem zk_557 : zck 0 (cX9_mode.data.toList.drop 0) [(0, .aload_n 0, 1), (1, .iconst 0, 1), (2, .putfield 1, 3), (5, .aload_n 0, 1), (6, .iload_n 1, 1), (7, .iload_n 2, 1), (8, .invokevirtual 150, 3), (11, .ifCond .ne 5, 3), (14, .iconst (-1), 1), (15, .ireturn, 1), (16, .iload_n 1, 1), (17, .iload_n 2, 1)] = true := by decide +kernel
theorem zr_557 : decode cX9_mode 0 = .ok (.aload_n 0, 1) ∧ decode cX9_mode 1 = .ok (.iconst 0, 1) ∧ decode cX9_mode 2 = .ok (.putfield 1, 3) ∧ decode cX9_mode 5 = .ok (.aload_n 0, 1) ∧ decode cX9_mode 6 = .ok (.iload_n 1, 1) ∧ decode cX9_mode 7 = .ok (.iload_n 2, 1) ∧ decode cX9_mode 8 = .ok (.invokevirtual 150, 3) ∧ decode cX9_mode 11 = .ok (.ifCond .ne 5, 3) ∧ decode cX9_mode 14 = .ok (.iconst (-1), 1) ∧ decode cX9_mode 15 = .ok (.ireturn, 1) ∧ decode cX9_mode 16 = .ok (.iload_n 1, 1) ∧ decode cX9_mode 17 = .ok (.iload_n 2, 1) ∧ True := zj_of zk_557
abbrev dX9_mode_0 := zr_557.1
abbrev dX9_mode_1 := zr_557.2.1
abbrev dX9_mode_2 := zr_557.2.2.1
abbrev dX9_mode_5 := zr_557.2.2.2.1
abbrev dX9_mode_6 := zr_557.2.2.2.2.1
abbrev dX9_mode_7 := zr_557.2.2.2.2.2.1
abbrev dX9_mode_8 := zr_557.2.2.2.2.2.2.1
abbrev dX9_mode_11 := zr_557.2.2.2.2.2.2.2.1
abbrev dX9_mode_14 := zr_557.2.2.2.2.2.2.2.2.1
abbrev dX9_mode_15 := zr_557.2.2.2.2.2.2.2.2.2.1
abbrev dX9_mode_16 := zr_557.2.2.2.2.2.2.2.2.2.2.1
abbrev dX9_mode_17 := zr_557.2.2.2.2.2.2.2.2.2.2.2.1
set_option maxRecDepth 100000 in
theorem zk_558 : zck 18 (cX9_mode.data.toList.drop 18) [(18, .if_icmp .ne 6, 3), (21, .bipush (-2), 2), (23, .ireturn, 1), (24, .aload_n 0, 1), (25, .iconst 0, 1), (26, .iload_n 1, 1), (27, .iload_n 2, 1), (28, .invokevirtual 169, 3), (31, .iconst 0, 1), (32, .istore_n 3, 1), (33, .iconst 1, 1), (34, .istore 4, 2)] = true := by decide +kernel
theorem zr_558 : decode cX9_mode 18 = .ok (.if_icmp .ne 6, 3) ∧ decode cX9_mode 21 = .ok (.bipush (-2), 2) ∧ decode cX9_mode 23 = .ok (.ireturn, 1) ∧ decode cX9_mode 24 = .ok (.aload_n 0, 1) ∧ decode cX9_mode 25 = .ok (.iconst 0, 1) ∧ decode cX9_mode 26 = .ok (.iload_n 1, 1) ∧ decode cX9_mode 27 = .ok (.iload_n 2, 1) ∧ decode cX9_mode 28 = .ok (.invokevirtual 169, 3) ∧ decode cX9_mode 31 = .ok (.iconst 0, 1) ∧ decode cX9_mode 32 = .ok (.istore_n 3, 1) ∧ decode cX9_mode 33 = .ok (.iconst 1, 1) ∧ decode cX9_mode 34 = .ok (.istore 4, 2) ∧ True := zj_of zk_558
abbrev dX9_mode_18 := zr_558.1
abbrev dX9_mode_21 := zr_558.2.1
abbrev dX9_mode_23 := zr_558.2.2.1
abbrev dX9_mode_24 := zr_558.2.2.2.1
abbrev dX9_mode_25 := zr_558.2.2.2.2.1
abbrev dX9_mode_26 := zr_558.2.2.2.2.2.1
abbrev dX9_mode_27 := zr_558.2.2.2.2.2.2.1
abbrev dX9_mode_28 := zr_558.2.2.2.2.2.2.2.1
abbrev dX9_mode_31 := zr_558.2.2.2.2.2.2.2.2.1
abbrev dX9_mode_32 := zr_558.2.2.2.2.2.2.2.2.2.1
abbrev dX9_mode_33 := zr_558.2.2.2.2.2.2.2.2.2.2.1
abbrev dX9_mode_34 := zr_558.2.2.2.2.2.2.2.2.2.2.2.1
set_option maxRecDepth 100000 in
theorem zk_559 : zck 36 (cX9_mode.data.toList.drop 36) [(36, .iload 4, 2), (38, .sipush 256, 3), (41, .if_icmp .ge 32, 3), (44, .aload_n 0, 1), (45, .iconst 0, 1), (46, .iload 4, 2), (48, .invokevirtual 175, 3), (51, .aload_n 0, 1), (52, .iconst 0, 1), (53, .iload_n 3, 1), (54, .invokevirtual 175, 3), (57, .if_icmp .le 8, 3)] = true := by decide +kernel
theorem zr_559 : decode cX9_mode 36 = .ok (.iload 4, 2) ∧ decode cX9_mode 38 = .ok (.sipush 256, 3) ∧ decode cX9_mode 41 = .ok (.if_icmp .ge 32, 3) ∧ decode cX9_mode 44 = .ok (.aload_n 0, 1) ∧ decode cX9_mode 45 = .ok (.iconst 0, 1) ∧ decode cX9_mode 46 = .ok (.iload 4, 2) ∧ decode cX9_mode 48 = .ok (.invokevirtual 175, 3) ∧ decode cX9_mode 51 = .ok (.aload_n 0, 1) ∧ decode cX9_mode 52 = .ok (.iconst 0, 1) ∧ decode cX9_mode 53 = .ok (.iload_n 3, 1) ∧ decode cX9_mode 54 = .ok (.invokevirtual 175, 3) ∧ decode cX9_mode 57 = .ok (.if_icmp .le 8, 3) ∧ True := zj_of zk_559
abbrev dX9_mode_36 := zr_559.1
abbrev dX9_mode_38 := zr_559.2.1
abbrev dX9_mode_41 := zr_559.2.2.1
abbrev dX9_mode_44 := zr_559.2.2.2.1
abbrev dX9_mode_45 := zr_559.2.2.2.2.1
abbrev dX9_mode_46 := zr_559.2.2.2.2.2.1
abbrev dX9_mode_48 := zr_559.2.2.2.2.2.2.1
abbrev dX9_mode_51 := zr_559.2.2.2.2.2.2.2.1
abbrev dX9_mode_52 := zr_559.2.2.2.2.2.2.2.2.1
abbrev dX9_mode_53 := zr_559.2.2.2.2.2.2.2.2.2.1
abbrev dX9_mode_54 := zr_559.2.2.2.2.2.2.2.2.2.2.1
abbrev dX9_mode_57 := zr_559.2.2.2.2.2.2.2.2.2.2.2.1
set_option maxRecDepth 100000 in
theorem zk_560 : zck 60 (cX9_mode.data.toList.drop 60) [(60, .iload 4, 2), (62, .goto 4, 3), (65, .iload_n 3, 1), (66, .istore_n 3, 1), (67, .iinc 4 1, 3), (70, .goto (-34), 3), (73, .aload_n 0, 1), (74, .iconst 0, 1), (75, .putfield 11, 3), (78, .aload_n 0, 1), (79, .aload_n 0, 1), (80, .iconst 0, 1)] = true := by decide +kernel
theorem zr_560 : decode cX9_mode 60 = .ok (.iload 4, 2) ∧ decode cX9_mode 62 = .ok (.goto 4, 3) ∧ decode cX9_mode 65 = .ok (.iload_n 3, 1) ∧ decode cX9_mode 66 = .ok (.istore_n 3, 1) ∧ decode cX9_mode 67 = .ok (.iinc 4 1, 3) ∧ decode cX9_mode 70 = .ok (.goto (-34), 3) ∧ decode cX9_mode 73 = .ok (.aload_n 0, 1) ∧ decode cX9_mode 74 = .ok (.iconst 0, 1) ∧ decode cX9_mode 75 = .ok (.putfield 11, 3) ∧ decode cX9_mode 78 = .ok (.aload_n 0, 1) ∧ decode cX9_mode 79 = .ok (.aload_n 0, 1) ∧ decode cX9_mode 80 = .ok (.iconst 0, 1) ∧ True := zj_of zk_560
abbrev dX9_mode_60 := zr_560.1
abbrev dX9_mode_62 := zr_560.2.1
abbrev dX9_mode_65 := zr_560.2.2.1
abbrev dX9_mode_66 := zr_560.2.2.2.1
abbrev dX9_mode_67 := zr_560.2.2.2.2.1
abbrev dX9_mode_70 := zr_560.2.2.2.2.2.1
abbrev dX9_mode_73 := zr_560.2.2.2.2.2.2.1
abbrev dX9_mode_74 := zr_560.2.2.2.2.2.2.2.1
abbrev dX9_mode_75 := zr_560.2.2.2.2.2.2.2.2.1
abbrev dX9_mode_78 := zr_560.2.2.2.2.2.2.2.2.2.1
abbrev dX9_mode_79 := zr_560.2.2.2.2.2.2.2.2.2.2.1
abbrev dX9_mode_80 := zr_560.2.2.2.2.2.2.2.2.2.2.2.1
set_option maxRecDepth 100000 in
theorem zk_561 : zck 81 (cX9_mode.data.toList.drop 81) [(81, .iload_n 3, 1), (82, .invokevirtual 175, 3), (85, .i2l, 1), (86, .invokevirtual 142, 3), (89, .iload_n 3, 1), (90, .ireturn, 1)] = true := by decide +kernel
theorem zr_561 : decode cX9_mode 81 = .ok (.iload_n 3, 1) ∧ decode cX9_mode 82 = .ok (.invokevirtual 175, 3) ∧ decode cX9_mode 85 = .ok (.i2l, 1) ∧ decode cX9_mode 86 = .ok (.invokevirtual 142, 3) ∧ decode cX9_mode 89 = .ok (.iload_n 3, 1) ∧ decode cX9_mode 90 = .ok (.ireturn, 1) ∧ True := zj_of zk_561
abbrev dX9_mode_81 := zr_561.1
abbrev dX9_mode_82 := zr_561.2.1
abbrev dX9_mode_85 := zr_561.2.2.1
abbrev dX9_mode_86 := zr_561.2.2.2.1
abbrev dX9_mode_89 := zr_561.2.2.2.2.1
abbrev dX9_mode_90 := zr_561.2.2.2.2.2.1
set_option maxRecDepth 100000 in
theorem zk_562 : zck 0 (cX9_across.data.toList.drop 0) [(0, .aload_n 0, 1), (1, .iconst 0, 1), (2, .putfield 1, 3), (5, .aload_n 0, 1), (6, .iload_n 1, 1), (7, .iload_n 2, 1), (8, .invokevirtual 150, 3), (11, .ifCond .eq 15, 3), (14, .iload_n 3, 1), (15, .invokestatic 129, 3), (18, .ifCond .eq 8, 3), (21, .iload 4, 2)] = true := by decide +kernel
theorem zr_562 : decode cX9_across 0 = .ok (.aload_n 0, 1) ∧ decode cX9_across 1 = .ok (.iconst 0, 1) ∧ decode cX9_across 2 = .ok (.putfield 1, 3) ∧ decode cX9_across 5 = .ok (.aload_n 0, 1) ∧ decode cX9_across 6 = .ok (.iload_n 1, 1) ∧ decode cX9_across 7 = .ok (.iload_n 2, 1) ∧ decode cX9_across 8 = .ok (.invokevirtual 150, 3) ∧ decode cX9_across 11 = .ok (.ifCond .eq 15, 3) ∧ decode cX9_across 14 = .ok (.iload_n 3, 1) ∧ decode cX9_across 15 = .ok (.invokestatic 129, 3) ∧ decode cX9_across 18 = .ok (.ifCond .eq 8, 3) ∧ decode cX9_across 21 = .ok (.iload 4, 2) ∧ True := zj_of zk_562
abbrev dX9_across_0 := zr_562.1
abbrev dX9_across_1 := zr_562.2.1
abbrev dX9_across_2 := zr_562.2.2.1
abbrev dX9_across_5 := zr_562.2.2.2.1
abbrev dX9_across_6 := zr_562.2.2.2.2.1
abbrev dX9_across_7 := zr_562.2.2.2.2.2.1
abbrev dX9_across_8 := zr_562.2.2.2.2.2.2.1
abbrev dX9_across_11 := zr_562.2.2.2.2.2.2.2.1
abbrev dX9_across_14 := zr_562.2.2.2.2.2.2.2.2.1
abbrev dX9_across_15 := zr_562.2.2.2.2.2.2.2.2.2.1
abbrev dX9_across_18 := zr_562.2.2.2.2.2.2.2.2.2.2.1
abbrev dX9_across_21 := zr_562.2.2.2.2.2.2.2.2.2.2.2.1
set_option maxRecDepth 100000 in
theorem zk_563 : zck 23 (cX9_across.data.toList.drop 23) [(23, .ifCond .ge 5, 3), (26, .iconst (-1), 1), (27, .ireturn, 1), (28, .iload 4, 2), (30, .iload_n 2, 1), (31, .iload_n 1, 1), (32, .isub, 1), (33, .if_icmp .lt 6, 3), (36, .bipush (-2), 2), (38, .ireturn, 1), (39, .aload_n 0, 1), (40, .iconst 0, 1)] = true := by decide +kernel
theorem zr_563 : decode cX9_across 23 = .ok (.ifCond .ge 5, 3) ∧ decode cX9_across 26 = .ok (.iconst (-1), 1) ∧ decode cX9_across 27 = .ok (.ireturn, 1) ∧ decode cX9_across 28 = .ok (.iload 4, 2) ∧ decode cX9_across 30 = .ok (.iload_n 2, 1) ∧ decode cX9_across 31 = .ok (.iload_n 1, 1) ∧ decode cX9_across 32 = .ok (.isub, 1) ∧ decode cX9_across 33 = .ok (.if_icmp .lt 6, 3) ∧ decode cX9_across 36 = .ok (.bipush (-2), 2) ∧ decode cX9_across 38 = .ok (.ireturn, 1) ∧ decode cX9_across 39 = .ok (.aload_n 0, 1) ∧ decode cX9_across 40 = .ok (.iconst 0, 1) ∧ True := zj_of zk_563
abbrev dX9_across_23 := zr_563.1
abbrev dX9_across_26 := zr_563.2.1
abbrev dX9_across_27 := zr_563.2.2.1
abbrev dX9_across_28 := zr_563.2.2.2.1
abbrev dX9_across_30 := zr_563.2.2.2.2.1
abbrev dX9_across_31 := zr_563.2.2.2.2.2.1
abbrev dX9_across_32 := zr_563.2.2.2.2.2.2.1
abbrev dX9_across_33 := zr_563.2.2.2.2.2.2.2.1
abbrev dX9_across_36 := zr_563.2.2.2.2.2.2.2.2.1
abbrev dX9_across_38 := zr_563.2.2.2.2.2.2.2.2.2.1
abbrev dX9_across_39 := zr_563.2.2.2.2.2.2.2.2.2.2.1
abbrev dX9_across_40 := zr_563.2.2.2.2.2.2.2.2.2.2.2.1
set_option maxRecDepth 100000 in
theorem zk_564 : zck 41 (cX9_across.data.toList.drop 41) [(41, .iload_n 1, 1), (42, .iload_n 2, 1), (43, .invokevirtual 169, 3), (46, .iload 4, 2), (48, .istore 5, 2), (50, .iconst 0, 1), (51, .istore 6, 2), (53, .aload_n 0, 1), (54, .iconst 0, 1), (55, .iload 6, 2), (57, .iload_n 3, 1), (58, .ixor, 1)] = true := by decide +kernel
theorem zr_564 : decode cX9_across 41 = .ok (.iload_n 1, 1) ∧ decode cX9_across 42 = .ok (.iload_n 2, 1) ∧ decode cX9_across 43 = .ok (.invokevirtual 169, 3) ∧ decode cX9_across 46 = .ok (.iload 4, 2) ∧ decode cX9_across 48 = .ok (.istore 5, 2) ∧ decode cX9_across 50 = .ok (.iconst 0, 1) ∧ decode cX9_across 51 = .ok (.istore 6, 2) ∧ decode cX9_across 53 = .ok (.aload_n 0, 1) ∧ decode cX9_across 54 = .ok (.iconst 0, 1) ∧ decode cX9_across 55 = .ok (.iload 6, 2) ∧ decode cX9_across 57 = .ok (.iload_n 3, 1) ∧ decode cX9_across 58 = .ok (.ixor, 1) ∧ True := zj_of zk_564
abbrev dX9_across_41 := zr_564.1
abbrev dX9_across_42 := zr_564.2.1
abbrev dX9_across_43 := zr_564.2.2.1
abbrev dX9_across_46 := zr_564.2.2.2.1
abbrev dX9_across_48 := zr_564.2.2.2.2.1
abbrev dX9_across_50 := zr_564.2.2.2.2.2.1
abbrev dX9_across_51 := zr_564.2.2.2.2.2.2.1
abbrev dX9_across_53 := zr_564.2.2.2.2.2.2.2.1
abbrev dX9_across_54 := zr_564.2.2.2.2.2.2.2.2.1
abbrev dX9_across_55 := zr_564.2.2.2.2.2.2.2.2.2.1
abbrev dX9_across_57 := zr_564.2.2.2.2.2.2.2.2.2.2.1
abbrev dX9_across_58 := zr_564.2.2.2.2.2.2.2.2.2.2.2.1
set_option maxRecDepth 100000 in
theorem zk_565 : zck 59 (cX9_across.data.toList.drop 59) [(59, .invokevirtual 175, 3), (62, .iload 5, 2), (64, .if_icmp .gt 23, 3), (67, .iload 5, 2), (69, .aload_n 0, 1), (70, .iconst 0, 1), (71, .iload 6, 2), (73, .iload_n 3, 1), (74, .ixor, 1), (75, .invokevirtual 175, 3), (78, .isub, 1), (79, .istore 5, 2)] = true := by decide +kernel
theorem zr_565 : decode cX9_across 59 = .ok (.invokevirtual 175, 3) ∧ decode cX9_across 62 = .ok (.iload 5, 2) ∧ decode cX9_across 64 = .ok (.if_icmp .gt 23, 3) ∧ decode cX9_across 67 = .ok (.iload 5, 2) ∧ decode cX9_across 69 = .ok (.aload_n 0, 1) ∧ decode cX9_across 70 = .ok (.iconst 0, 1) ∧ decode cX9_across 71 = .ok (.iload 6, 2) ∧ decode cX9_across 73 = .ok (.iload_n 3, 1) ∧ decode cX9_across 74 = .ok (.ixor, 1) ∧ decode cX9_across 75 = .ok (.invokevirtual 175, 3) ∧ decode cX9_across 78 = .ok (.isub, 1) ∧ decode cX9_across 79 = .ok (.istore 5, 2) ∧ True := zj_of zk_565
abbrev dX9_across_59 := zr_565.1
abbrev dX9_across_62 := zr_565.2.1
abbrev dX9_across_64 := zr_565.2.2.1
abbrev dX9_across_67 := zr_565.2.2.2.1
abbrev dX9_across_69 := zr_565.2.2.2.2.1
abbrev dX9_across_70 := zr_565.2.2.2.2.2.1
abbrev dX9_across_71 := zr_565.2.2.2.2.2.2.1
abbrev dX9_across_73 := zr_565.2.2.2.2.2.2.2.1
abbrev dX9_across_74 := zr_565.2.2.2.2.2.2.2.2.1
abbrev dX9_across_75 := zr_565.2.2.2.2.2.2.2.2.2.1
abbrev dX9_across_78 := zr_565.2.2.2.2.2.2.2.2.2.2.1
abbrev dX9_across_79 := zr_565.2.2.2.2.2.2.2.2.2.2.2.1
set_option maxRecDepth 100000 in
theorem zk_566 : zck 81 (cX9_across.data.toList.drop 81) [(81, .iinc 6 1, 3), (84, .goto (-31), 3), (87, .aload_n 0, 1), (88, .iconst 0, 1), (89, .putfield 11, 3), (92, .aload_n 0, 1), (93, .iload 6, 2), (95, .iload_n 3, 1), (96, .ixor, 1), (97, .i2l, 1), (98, .invokevirtual 142, 3), (101, .iload 6, 2)] = true := by decide +kernel
theorem zr_566 : decode cX9_across 81 = .ok (.iinc 6 1, 3) ∧ decode cX9_across 84 = .ok (.goto (-31), 3) ∧ decode cX9_across 87 = .ok (.aload_n 0, 1) ∧ decode cX9_across 88 = .ok (.iconst 0, 1) ∧ decode cX9_across 89 = .ok (.putfield 11, 3) ∧ decode cX9_across 92 = .ok (.aload_n 0, 1) ∧ decode cX9_across 93 = .ok (.iload 6, 2) ∧ decode cX9_across 95 = .ok (.iload_n 3, 1) ∧ decode cX9_across 96 = .ok (.ixor, 1) ∧ decode cX9_across 97 = .ok (.i2l, 1) ∧ decode cX9_across 98 = .ok (.invokevirtual 142, 3) ∧ decode cX9_across 101 = .ok (.iload 6, 2) ∧ True := zj_of zk_566
abbrev dX9_across_81 := zr_566.1
abbrev dX9_across_84 := zr_566.2.1
abbrev dX9_across_87 := zr_566.2.2.1
abbrev dX9_across_88 := zr_566.2.2.2.1
abbrev dX9_across_89 := zr_566.2.2.2.2.1
abbrev dX9_across_92 := zr_566.2.2.2.2.2.1
abbrev dX9_across_93 := zr_566.2.2.2.2.2.2.1
abbrev dX9_across_95 := zr_566.2.2.2.2.2.2.2.1
abbrev dX9_across_96 := zr_566.2.2.2.2.2.2.2.2.1
abbrev dX9_across_97 := zr_566.2.2.2.2.2.2.2.2.2.1
abbrev dX9_across_98 := zr_566.2.2.2.2.2.2.2.2.2.2.1
abbrev dX9_across_101 := zr_566.2.2.2.2.2.2.2.2.2.2.2.1
set_option maxRecDepth 100000 in
theorem zk_567 : zck 103 (cX9_across.data.toList.drop 103) [(103, .ireturn, 1)] = true := by decide +kernel
theorem zr_567 : decode cX9_across 103 = .ok (.ireturn, 1) ∧ True := zj_of zk_567
abbrev dX9_across_103 := zr_567.1
set_option maxRecDepth 100000 in
theorem zk_568 : zck 0 (cX9_turned.data.toList.drop 0) [(0, .aload_n 0, 1), (1, .iconst 0, 1), (2, .putfield 1, 3), (5, .aload_n 0, 1), (6, .iload_n 1, 1), (7, .iload_n 2, 1), (8, .invokevirtual 150, 3), (11, .ifCond .ne 5, 3), (14, .iconst (-1), 1), (15, .ireturn, 1), (16, .iconst 0, 1), (17, .istore_n 3, 1)] = true := by decide +kernel
theorem zr_568 : decode cX9_turned 0 = .ok (.aload_n 0, 1) ∧ decode cX9_turned 1 = .ok (.iconst 0, 1) ∧ decode cX9_turned 2 = .ok (.putfield 1, 3) ∧ decode cX9_turned 5 = .ok (.aload_n 0, 1) ∧ decode cX9_turned 6 = .ok (.iload_n 1, 1) ∧ decode cX9_turned 7 = .ok (.iload_n 2, 1) ∧ decode cX9_turned 8 = .ok (.invokevirtual 150, 3) ∧ decode cX9_turned 11 = .ok (.ifCond .ne 5, 3) ∧ decode cX9_turned 14 = .ok (.iconst (-1), 1) ∧ decode cX9_turned 15 = .ok (.ireturn, 1) ∧ decode cX9_turned 16 = .ok (.iconst 0, 1) ∧ decode cX9_turned 17 = .ok (.istore_n 3, 1) ∧ True := zj_of zk_568
abbrev dX9_turned_0 := zr_568.1
abbrev dX9_turned_1 := zr_568.2.1
abbrev dX9_turned_2 := zr_568.2.2.1
abbrev dX9_turned_5 := zr_568.2.2.2.1
abbrev dX9_turned_6 := zr_568.2.2.2.2.1
abbrev dX9_turned_7 := zr_568.2.2.2.2.2.1
abbrev dX9_turned_8 := zr_568.2.2.2.2.2.2.1
abbrev dX9_turned_11 := zr_568.2.2.2.2.2.2.2.1
abbrev dX9_turned_14 := zr_568.2.2.2.2.2.2.2.2.1
abbrev dX9_turned_15 := zr_568.2.2.2.2.2.2.2.2.2.1
abbrev dX9_turned_16 := zr_568.2.2.2.2.2.2.2.2.2.2.1
abbrev dX9_turned_17 := zr_568.2.2.2.2.2.2.2.2.2.2.2.1
set_option maxRecDepth 100000 in
theorem zk_569 : zck 18 (cX9_turned.data.toList.drop 18) [(18, .iconst 0, 1), (19, .istore 4, 2), (21, .iload_n 1, 1), (22, .istore 5, 2), (24, .iload 5, 2), (26, .iload_n 2, 1), (27, .if_icmp .ge 85, 3), (30, .iload 5, 2), (32, .iconst 1, 1), (33, .iadd, 1), (34, .istore 6, 2), (36, .iload 6, 2)] = true := by decide +kernel
theorem zr_569 : decode cX9_turned 18 = .ok (.iconst 0, 1) ∧ decode cX9_turned 19 = .ok (.istore 4, 2) ∧ decode cX9_turned 21 = .ok (.iload_n 1, 1) ∧ decode cX9_turned 22 = .ok (.istore 5, 2) ∧ decode cX9_turned 24 = .ok (.iload 5, 2) ∧ decode cX9_turned 26 = .ok (.iload_n 2, 1) ∧ decode cX9_turned 27 = .ok (.if_icmp .ge 85, 3) ∧ decode cX9_turned 30 = .ok (.iload 5, 2) ∧ decode cX9_turned 32 = .ok (.iconst 1, 1) ∧ decode cX9_turned 33 = .ok (.iadd, 1) ∧ decode cX9_turned 34 = .ok (.istore 6, 2) ∧ decode cX9_turned 36 = .ok (.iload 6, 2) ∧ True := zj_of zk_569
abbrev dX9_turned_18 := zr_569.1
abbrev dX9_turned_19 := zr_569.2.1
abbrev dX9_turned_21 := zr_569.2.2.1
abbrev dX9_turned_22 := zr_569.2.2.2.1
abbrev dX9_turned_24 := zr_569.2.2.2.2.1
abbrev dX9_turned_26 := zr_569.2.2.2.2.2.1
abbrev dX9_turned_27 := zr_569.2.2.2.2.2.2.1
abbrev dX9_turned_30 := zr_569.2.2.2.2.2.2.2.1
abbrev dX9_turned_32 := zr_569.2.2.2.2.2.2.2.2.1
abbrev dX9_turned_33 := zr_569.2.2.2.2.2.2.2.2.2.1
abbrev dX9_turned_34 := zr_569.2.2.2.2.2.2.2.2.2.2.1
abbrev dX9_turned_36 := zr_569.2.2.2.2.2.2.2.2.2.2.2.1
set_option maxRecDepth 100000 in
theorem zk_570 : zck 38 (cX9_turned.data.toList.drop 38) [(38, .iload_n 2, 1), (39, .if_icmp .ge 67, 3), (42, .iload_n 3, 1), (43, .aload_n 0, 1), (44, .getfield 49, 3), (47, .iload 5, 2), (49, .iaload, 1), (50, .aload_n 0, 1), (51, .getfield 49, 3), (54, .iload 6, 2), (56, .iaload, 1), (57, .if_icmp .le 7, 3)] = true := by decide +kernel
theorem zr_570 : decode cX9_turned 38 = .ok (.iload_n 2, 1) ∧ decode cX9_turned 39 = .ok (.if_icmp .ge 67, 3) ∧ decode cX9_turned 42 = .ok (.iload_n 3, 1) ∧ decode cX9_turned 43 = .ok (.aload_n 0, 1) ∧ decode cX9_turned 44 = .ok (.getfield 49, 3) ∧ decode cX9_turned 47 = .ok (.iload 5, 2) ∧ decode cX9_turned 49 = .ok (.iaload, 1) ∧ decode cX9_turned 50 = .ok (.aload_n 0, 1) ∧ decode cX9_turned 51 = .ok (.getfield 49, 3) ∧ decode cX9_turned 54 = .ok (.iload 6, 2) ∧ decode cX9_turned 56 = .ok (.iaload, 1) ∧ decode cX9_turned 57 = .ok (.if_icmp .le 7, 3) ∧ True := zj_of zk_570
abbrev dX9_turned_38 := zr_570.1
abbrev dX9_turned_39 := zr_570.2.1
abbrev dX9_turned_42 := zr_570.2.2.1
abbrev dX9_turned_43 := zr_570.2.2.2.1
abbrev dX9_turned_44 := zr_570.2.2.2.2.1
abbrev dX9_turned_47 := zr_570.2.2.2.2.2.1
abbrev dX9_turned_49 := zr_570.2.2.2.2.2.2.1
abbrev dX9_turned_50 := zr_570.2.2.2.2.2.2.2.1
abbrev dX9_turned_51 := zr_570.2.2.2.2.2.2.2.2.1
abbrev dX9_turned_54 := zr_570.2.2.2.2.2.2.2.2.2.1
abbrev dX9_turned_56 := zr_570.2.2.2.2.2.2.2.2.2.2.1
abbrev dX9_turned_57 := zr_570.2.2.2.2.2.2.2.2.2.2.2.1
set_option maxRecDepth 100000 in
theorem zk_571 : zck 60 (cX9_turned.data.toList.drop 60) [(60, .iconst 1, 1), (61, .goto 4, 3), (64, .iconst 0, 1), (65, .invokestatic 31, 3), (68, .iadd, 1), (69, .istore_n 3, 1), (70, .iload 4, 2), (72, .aload_n 0, 1), (73, .getfield 49, 3), (76, .iload 5, 2), (78, .iaload, 1), (79, .aload_n 0, 1)] = true := by decide +kernel
theorem zr_571 : decode cX9_turned 60 = .ok (.iconst 1, 1) ∧ decode cX9_turned 61 = .ok (.goto 4, 3) ∧ decode cX9_turned 64 = .ok (.iconst 0, 1) ∧ decode cX9_turned 65 = .ok (.invokestatic 31, 3) ∧ decode cX9_turned 68 = .ok (.iadd, 1) ∧ decode cX9_turned 69 = .ok (.istore_n 3, 1) ∧ decode cX9_turned 70 = .ok (.iload 4, 2) ∧ decode cX9_turned 72 = .ok (.aload_n 0, 1) ∧ decode cX9_turned 73 = .ok (.getfield 49, 3) ∧ decode cX9_turned 76 = .ok (.iload 5, 2) ∧ decode cX9_turned 78 = .ok (.iaload, 1) ∧ decode cX9_turned 79 = .ok (.aload_n 0, 1) ∧ True := zj_of zk_571
abbrev dX9_turned_60 := zr_571.1
abbrev dX9_turned_61 := zr_571.2.1
abbrev dX9_turned_64 := zr_571.2.2.1
abbrev dX9_turned_65 := zr_571.2.2.2.1
abbrev dX9_turned_68 := zr_571.2.2.2.2.1
abbrev dX9_turned_69 := zr_571.2.2.2.2.2.1
abbrev dX9_turned_70 := zr_571.2.2.2.2.2.2.1
abbrev dX9_turned_72 := zr_571.2.2.2.2.2.2.2.1
abbrev dX9_turned_73 := zr_571.2.2.2.2.2.2.2.2.1
abbrev dX9_turned_76 := zr_571.2.2.2.2.2.2.2.2.2.1
abbrev dX9_turned_78 := zr_571.2.2.2.2.2.2.2.2.2.2.1
abbrev dX9_turned_79 := zr_571.2.2.2.2.2.2.2.2.2.2.2.1
set_option maxRecDepth 100000 in
theorem zk_572 : zck 80 (cX9_turned.data.toList.drop 80) [(80, .getfield 49, 3), (83, .iload 6, 2), (85, .iaload, 1), (86, .if_icmp .ne 7, 3), (89, .iconst 1, 1), (90, .goto 4, 3), (93, .iconst 0, 1), (94, .invokestatic 31, 3), (97, .iadd, 1), (98, .istore 4, 2), (100, .iinc 6 1, 3), (103, .goto (-67), 3)] = true := by decide +kernel
theorem zr_572 : decode cX9_turned 80 = .ok (.getfield 49, 3) ∧ decode cX9_turned 83 = .ok (.iload 6, 2) ∧ decode cX9_turned 85 = .ok (.iaload, 1) ∧ decode cX9_turned 86 = .ok (.if_icmp .ne 7, 3) ∧ decode cX9_turned 89 = .ok (.iconst 1, 1) ∧ decode cX9_turned 90 = .ok (.goto 4, 3) ∧ decode cX9_turned 93 = .ok (.iconst 0, 1) ∧ decode cX9_turned 94 = .ok (.invokestatic 31, 3) ∧ decode cX9_turned 97 = .ok (.iadd, 1) ∧ decode cX9_turned 98 = .ok (.istore 4, 2) ∧ decode cX9_turned 100 = .ok (.iinc 6 1, 3) ∧ decode cX9_turned 103 = .ok (.goto (-67), 3) ∧ True := zj_of zk_572
abbrev dX9_turned_80 := zr_572.1
abbrev dX9_turned_83 := zr_572.2.1
abbrev dX9_turned_85 := zr_572.2.2.1
abbrev dX9_turned_86 := zr_572.2.2.2.1
abbrev dX9_turned_89 := zr_572.2.2.2.2.1
abbrev dX9_turned_90 := zr_572.2.2.2.2.2.1
abbrev dX9_turned_93 := zr_572.2.2.2.2.2.2.1
abbrev dX9_turned_94 := zr_572.2.2.2.2.2.2.2.1
abbrev dX9_turned_97 := zr_572.2.2.2.2.2.2.2.2.1
abbrev dX9_turned_98 := zr_572.2.2.2.2.2.2.2.2.2.1
abbrev dX9_turned_100 := zr_572.2.2.2.2.2.2.2.2.2.2.1
abbrev dX9_turned_103 := zr_572.2.2.2.2.2.2.2.2.2.2.2.1
set_option maxRecDepth 100000 in
theorem zk_573 : zck 106 (cX9_turned.data.toList.drop 106) [(106, .iinc 5 1, 3), (109, .goto (-85), 3), (112, .aload_n 0, 1), (113, .iconst 0, 1), (114, .putfield 11, 3), (117, .aload_n 0, 1), (118, .iload 4, 2), (120, .i2l, 1), (121, .invokevirtual 142, 3), (124, .iload_n 3, 1), (125, .ireturn, 1)] = true := by decide +kernel
theorem zr_573 : decode cX9_turned 106 = .ok (.iinc 5 1, 3) ∧ decode cX9_turned 109 = .ok (.goto (-85), 3) ∧ decode cX9_turned 112 = .ok (.aload_n 0, 1) ∧ decode cX9_turned 113 = .ok (.iconst 0, 1) ∧ decode cX9_turned 114 = .ok (.putfield 11, 3) ∧ decode cX9_turned 117 = .ok (.aload_n 0, 1) ∧ decode cX9_turned 118 = .ok (.iload 4, 2) ∧ decode cX9_turned 120 = .ok (.i2l, 1) ∧ decode cX9_turned 121 = .ok (.invokevirtual 142, 3) ∧ decode cX9_turned 124 = .ok (.iload_n 3, 1) ∧ decode cX9_turned 125 = .ok (.ireturn, 1) ∧ True := zj_of zk_573
abbrev dX9_turned_106 := zr_573.1
abbrev dX9_turned_109 := zr_573.2.1
abbrev dX9_turned_112 := zr_573.2.2.1
abbrev dX9_turned_113 := zr_573.2.2.2.1
abbrev dX9_turned_114 := zr_573.2.2.2.2.1
abbrev dX9_turned_117 := zr_573.2.2.2.2.2.1
abbrev dX9_turned_118 := zr_573.2.2.2.2.2.2.1
abbrev dX9_turned_120 := zr_573.2.2.2.2.2.2.2.1
abbrev dX9_turned_121 := zr_573.2.2.2.2.2.2.2.2.1
abbrev dX9_turned_124 := zr_573.2.2.2.2.2.2.2.2.2.1
abbrev dX9_turned_125 := zr_573.2.2.2.2.2.2.2.2.2.2.1
set_option maxRecDepth 100000 in
theorem zk_574 : zck 0 (cX9_spread.data.toList.drop 0) [(0, .aload_n 0, 1), (1, .iconst 0, 1), (2, .putfield 1, 3), (5, .aload_n 0, 1), (6, .iload_n 1, 1), (7, .iload_n 2, 1), (8, .invokevirtual 150, 3), (11, .ifCond .eq 15, 3), (14, .iload_n 3, 1), (15, .i2l, 1), (16, .lconst 1, 1), (17, .ldc2_w 208, 3)] = true := by decide +kernel
theorem zr_574 : decode cX9_spread 0 = .ok (.aload_n 0, 1) ∧ decode cX9_spread 1 = .ok (.iconst 0, 1) ∧ decode cX9_spread 2 = .ok (.putfield 1, 3) ∧ decode cX9_spread 5 = .ok (.aload_n 0, 1) ∧ decode cX9_spread 6 = .ok (.iload_n 1, 1) ∧ decode cX9_spread 7 = .ok (.iload_n 2, 1) ∧ decode cX9_spread 8 = .ok (.invokevirtual 150, 3) ∧ decode cX9_spread 11 = .ok (.ifCond .eq 15, 3) ∧ decode cX9_spread 14 = .ok (.iload_n 3, 1) ∧ decode cX9_spread 15 = .ok (.i2l, 1) ∧ decode cX9_spread 16 = .ok (.lconst 1, 1) ∧ decode cX9_spread 17 = .ok (.ldc2_w 208, 3) ∧ True := zj_of zk_574
abbrev dX9_spread_0 := zr_574.1
abbrev dX9_spread_1 := zr_574.2.1
abbrev dX9_spread_2 := zr_574.2.2.1
abbrev dX9_spread_5 := zr_574.2.2.2.1
abbrev dX9_spread_6 := zr_574.2.2.2.2.1
abbrev dX9_spread_7 := zr_574.2.2.2.2.2.1
abbrev dX9_spread_8 := zr_574.2.2.2.2.2.2.1
abbrev dX9_spread_11 := zr_574.2.2.2.2.2.2.2.1
abbrev dX9_spread_14 := zr_574.2.2.2.2.2.2.2.2.1
abbrev dX9_spread_15 := zr_574.2.2.2.2.2.2.2.2.2.1
abbrev dX9_spread_16 := zr_574.2.2.2.2.2.2.2.2.2.2.1
abbrev dX9_spread_17 := zr_574.2.2.2.2.2.2.2.2.2.2.2.1
set_option maxRecDepth 100000 in
theorem zk_575 : zck 20 (cX9_spread.data.toList.drop 20) [(20, .invokestatic 21, 3), (23, .ifCond .ne 5, 3), (26, .iconst (-1), 1), (27, .ireturn, 1), (28, .aload_n 0, 1), (29, .iconst 0, 1), (30, .iload_n 1, 1), (31, .iload_n 2, 1), (32, .invokevirtual 169, 3), (35, .sipush 256, 3), (38, .iload_n 3, 1), (39, .ishr, 1)] = true := by decide +kernel
theorem zr_575 : decode cX9_spread 20 = .ok (.invokestatic 21, 3) ∧ decode cX9_spread 23 = .ok (.ifCond .ne 5, 3) ∧ decode cX9_spread 26 = .ok (.iconst (-1), 1) ∧ decode cX9_spread 27 = .ok (.ireturn, 1) ∧ decode cX9_spread 28 = .ok (.aload_n 0, 1) ∧ decode cX9_spread 29 = .ok (.iconst 0, 1) ∧ decode cX9_spread 30 = .ok (.iload_n 1, 1) ∧ decode cX9_spread 31 = .ok (.iload_n 2, 1) ∧ decode cX9_spread 32 = .ok (.invokevirtual 169, 3) ∧ decode cX9_spread 35 = .ok (.sipush 256, 3) ∧ decode cX9_spread 38 = .ok (.iload_n 3, 1) ∧ decode cX9_spread 39 = .ok (.ishr, 1) ∧ True := zj_of zk_575
abbrev dX9_spread_20 := zr_575.1
abbrev dX9_spread_23 := zr_575.2.1
abbrev dX9_spread_26 := zr_575.2.2.1
abbrev dX9_spread_27 := zr_575.2.2.2.1
abbrev dX9_spread_28 := zr_575.2.2.2.2.1
abbrev dX9_spread_29 := zr_575.2.2.2.2.2.1
abbrev dX9_spread_30 := zr_575.2.2.2.2.2.2.1
abbrev dX9_spread_31 := zr_575.2.2.2.2.2.2.2.1
abbrev dX9_spread_32 := zr_575.2.2.2.2.2.2.2.2.1
abbrev dX9_spread_35 := zr_575.2.2.2.2.2.2.2.2.2.1
abbrev dX9_spread_38 := zr_575.2.2.2.2.2.2.2.2.2.2.1
abbrev dX9_spread_39 := zr_575.2.2.2.2.2.2.2.2.2.2.2.1
set_option maxRecDepth 100000 in
theorem zk_576 : zck 40 (cX9_spread.data.toList.drop 40) [(40, .istore 4, 2), (42, .iconst 0, 1), (43, .istore 5, 2), (45, .aload_n 0, 1), (46, .iconst 0, 1), (47, .putfield 11, 3), (50, .iconst 0, 1), (51, .istore 6, 2), (53, .iload 6, 2), (55, .sipush 256, 3), (58, .if_icmp .ge 54, 3), (61, .aload_n 0, 1)] = true := by decide +kernel
theorem zr_576 : decode cX9_spread 40 = .ok (.istore 4, 2) ∧ decode cX9_spread 42 = .ok (.iconst 0, 1) ∧ decode cX9_spread 43 = .ok (.istore 5, 2) ∧ decode cX9_spread 45 = .ok (.aload_n 0, 1) ∧ decode cX9_spread 46 = .ok (.iconst 0, 1) ∧ decode cX9_spread 47 = .ok (.putfield 11, 3) ∧ decode cX9_spread 50 = .ok (.iconst 0, 1) ∧ decode cX9_spread 51 = .ok (.istore 6, 2) ∧ decode cX9_spread 53 = .ok (.iload 6, 2) ∧ decode cX9_spread 55 = .ok (.sipush 256, 3) ∧ decode cX9_spread 58 = .ok (.if_icmp .ge 54, 3) ∧ decode cX9_spread 61 = .ok (.aload_n 0, 1) ∧ True := zj_of zk_576
abbrev dX9_spread_40 := zr_576.1
abbrev dX9_spread_42 := zr_576.2.1
abbrev dX9_spread_43 := zr_576.2.2.1
abbrev dX9_spread_45 := zr_576.2.2.2.1
abbrev dX9_spread_46 := zr_576.2.2.2.2.1
abbrev dX9_spread_47 := zr_576.2.2.2.2.2.1
abbrev dX9_spread_50 := zr_576.2.2.2.2.2.2.1
abbrev dX9_spread_51 := zr_576.2.2.2.2.2.2.2.1
abbrev dX9_spread_53 := zr_576.2.2.2.2.2.2.2.2.1
abbrev dX9_spread_55 := zr_576.2.2.2.2.2.2.2.2.2.1
abbrev dX9_spread_58 := zr_576.2.2.2.2.2.2.2.2.2.2.1
abbrev dX9_spread_61 := zr_576.2.2.2.2.2.2.2.2.2.2.2.1
set_option maxRecDepth 100000 in
theorem zk_577 : zck 62 (cX9_spread.data.toList.drop 62) [(62, .iconst 0, 1), (63, .iload 6, 2), (65, .iload 6, 2), (67, .iload 4, 2), (69, .iadd, 1), (70, .iconst 1, 1), (71, .isub, 1), (72, .invokevirtual 189, 3), (75, .istore 7, 2), (77, .iload 5, 2), (79, .iload 7, 2), (81, .ifCond .le 7, 3)] = true := by decide +kernel
theorem zr_577 : decode cX9_spread 62 = .ok (.iconst 0, 1) ∧ decode cX9_spread 63 = .ok (.iload 6, 2) ∧ decode cX9_spread 65 = .ok (.iload 6, 2) ∧ decode cX9_spread 67 = .ok (.iload 4, 2) ∧ decode cX9_spread 69 = .ok (.iadd, 1) ∧ decode cX9_spread 70 = .ok (.iconst 1, 1) ∧ decode cX9_spread 71 = .ok (.isub, 1) ∧ decode cX9_spread 72 = .ok (.invokevirtual 189, 3) ∧ decode cX9_spread 75 = .ok (.istore 7, 2) ∧ decode cX9_spread 77 = .ok (.iload 5, 2) ∧ decode cX9_spread 79 = .ok (.iload 7, 2) ∧ decode cX9_spread 81 = .ok (.ifCond .le 7, 3) ∧ True := zj_of zk_577
abbrev dX9_spread_62 := zr_577.1
abbrev dX9_spread_63 := zr_577.2.1
abbrev dX9_spread_65 := zr_577.2.2.1
abbrev dX9_spread_67 := zr_577.2.2.2.1
abbrev dX9_spread_69 := zr_577.2.2.2.2.1
abbrev dX9_spread_70 := zr_577.2.2.2.2.2.1
abbrev dX9_spread_71 := zr_577.2.2.2.2.2.2.1
abbrev dX9_spread_72 := zr_577.2.2.2.2.2.2.2.1
abbrev dX9_spread_75 := zr_577.2.2.2.2.2.2.2.2.1
abbrev dX9_spread_77 := zr_577.2.2.2.2.2.2.2.2.2.1
abbrev dX9_spread_79 := zr_577.2.2.2.2.2.2.2.2.2.2.1
abbrev dX9_spread_81 := zr_577.2.2.2.2.2.2.2.2.2.2.2.1
set_option maxRecDepth 100000 in
theorem zk_578 : zck 84 (cX9_spread.data.toList.drop 84) [(84, .iconst 1, 1), (85, .goto 4, 3), (88, .iconst 0, 1), (89, .invokestatic 31, 3), (92, .iadd, 1), (93, .istore 5, 2), (95, .aload_n 0, 1), (96, .iload 7, 2), (98, .i2l, 1), (99, .invokevirtual 142, 3), (102, .iload 6, 2), (104, .iload 4, 2)] = true := by decide +kernel
theorem zr_578 : decode cX9_spread 84 = .ok (.iconst 1, 1) ∧ decode cX9_spread 85 = .ok (.goto 4, 3) ∧ decode cX9_spread 88 = .ok (.iconst 0, 1) ∧ decode cX9_spread 89 = .ok (.invokestatic 31, 3) ∧ decode cX9_spread 92 = .ok (.iadd, 1) ∧ decode cX9_spread 93 = .ok (.istore 5, 2) ∧ decode cX9_spread 95 = .ok (.aload_n 0, 1) ∧ decode cX9_spread 96 = .ok (.iload 7, 2) ∧ decode cX9_spread 98 = .ok (.i2l, 1) ∧ decode cX9_spread 99 = .ok (.invokevirtual 142, 3) ∧ decode cX9_spread 102 = .ok (.iload 6, 2) ∧ decode cX9_spread 104 = .ok (.iload 4, 2) ∧ True := zj_of zk_578
abbrev dX9_spread_84 := zr_578.1
abbrev dX9_spread_85 := zr_578.2.1
abbrev dX9_spread_88 := zr_578.2.2.1
abbrev dX9_spread_89 := zr_578.2.2.2.1
abbrev dX9_spread_92 := zr_578.2.2.2.2.1
abbrev dX9_spread_93 := zr_578.2.2.2.2.2.1
abbrev dX9_spread_95 := zr_578.2.2.2.2.2.2.1
abbrev dX9_spread_96 := zr_578.2.2.2.2.2.2.2.1
abbrev dX9_spread_98 := zr_578.2.2.2.2.2.2.2.2.1
abbrev dX9_spread_99 := zr_578.2.2.2.2.2.2.2.2.2.1
abbrev dX9_spread_102 := zr_578.2.2.2.2.2.2.2.2.2.2.1
abbrev dX9_spread_104 := zr_578.2.2.2.2.2.2.2.2.2.2.2.1
set_option maxRecDepth 100000 in
theorem zk_579 : zck 106 (cX9_spread.data.toList.drop 106) [(106, .iadd, 1), (107, .istore 6, 2), (109, .goto (-56), 3), (112, .iload 5, 2), (114, .ireturn, 1)] = true := by decide +kernel
theorem zr_579 : decode cX9_spread 106 = .ok (.iadd, 1) ∧ decode cX9_spread 107 = .ok (.istore 6, 2) ∧ decode cX9_spread 109 = .ok (.goto (-56), 3) ∧ decode cX9_spread 112 = .ok (.iload 5, 2) ∧ decode cX9_spread 114 = .ok (.ireturn, 1) ∧ True := zj_of zk_579
abbrev dX9_spread_106 := zr_579.1
abbrev dX9_spread_107 := zr_579.2.1
abbrev dX9_spread_109 := zr_579.2.2.1
abbrev dX9_spread_112 := zr_579.2.2.2.1
abbrev dX9_spread_114 := zr_579.2.2.2.2.1
set_option maxRecDepth 100000 in
theorem zk_580 : zck 0 (cX9_nearest.data.toList.drop 0) [(0, .aload_n 0, 1), (1, .iconst 0, 1), (2, .putfield 1, 3), (5, .aload_n 0, 1), (6, .iload_n 1, 1), (7, .iload_n 2, 1), (8, .invokevirtual 150, 3), (11, .ifCond .ne 5, 3), (14, .iconst (-1), 1), (15, .ireturn, 1), (16, .iload_n 2, 1), (17, .iload_n 1, 1)] = true := by decide +kernel
theorem zr_580 : decode cX9_nearest 0 = .ok (.aload_n 0, 1) ∧ decode cX9_nearest 1 = .ok (.iconst 0, 1) ∧ decode cX9_nearest 2 = .ok (.putfield 1, 3) ∧ decode cX9_nearest 5 = .ok (.aload_n 0, 1) ∧ decode cX9_nearest 6 = .ok (.iload_n 1, 1) ∧ decode cX9_nearest 7 = .ok (.iload_n 2, 1) ∧ decode cX9_nearest 8 = .ok (.invokevirtual 150, 3) ∧ decode cX9_nearest 11 = .ok (.ifCond .ne 5, 3) ∧ decode cX9_nearest 14 = .ok (.iconst (-1), 1) ∧ decode cX9_nearest 15 = .ok (.ireturn, 1) ∧ decode cX9_nearest 16 = .ok (.iload_n 2, 1) ∧ decode cX9_nearest 17 = .ok (.iload_n 1, 1) ∧ True := zj_of zk_580
abbrev dX9_nearest_0 := zr_580.1
abbrev dX9_nearest_1 := zr_580.2.1
abbrev dX9_nearest_2 := zr_580.2.2.1
abbrev dX9_nearest_5 := zr_580.2.2.2.1
abbrev dX9_nearest_6 := zr_580.2.2.2.2.1
abbrev dX9_nearest_7 := zr_580.2.2.2.2.2.1
abbrev dX9_nearest_8 := zr_580.2.2.2.2.2.2.1
abbrev dX9_nearest_11 := zr_580.2.2.2.2.2.2.2.1
abbrev dX9_nearest_14 := zr_580.2.2.2.2.2.2.2.2.1
abbrev dX9_nearest_15 := zr_580.2.2.2.2.2.2.2.2.2.1
abbrev dX9_nearest_16 := zr_580.2.2.2.2.2.2.2.2.2.2.1
abbrev dX9_nearest_17 := zr_580.2.2.2.2.2.2.2.2.2.2.2.1
set_option maxRecDepth 100000 in
theorem zk_581 : zck 18 (cX9_nearest.data.toList.drop 18) [(18, .isub, 1), (19, .iconst 2, 1), (20, .if_icmp .ge 6, 3), (23, .bipush (-2), 2), (25, .ireturn, 1), (26, .aload_n 0, 1), (27, .iload_n 1, 1), (28, .iload_n 2, 1), (29, .invokevirtual 178, 3), (32, .sipush 256, 3), (35, .istore_n 3, 1), (36, .iconst 0, 1)] = true := by decide +kernel
theorem zr_581 : decode cX9_nearest 18 = .ok (.isub, 1) ∧ decode cX9_nearest 19 = .ok (.iconst 2, 1) ∧ decode cX9_nearest 20 = .ok (.if_icmp .ge 6, 3) ∧ decode cX9_nearest 23 = .ok (.bipush (-2), 2) ∧ decode cX9_nearest 25 = .ok (.ireturn, 1) ∧ decode cX9_nearest 26 = .ok (.aload_n 0, 1) ∧ decode cX9_nearest 27 = .ok (.iload_n 1, 1) ∧ decode cX9_nearest 28 = .ok (.iload_n 2, 1) ∧ decode cX9_nearest 29 = .ok (.invokevirtual 178, 3) ∧ decode cX9_nearest 32 = .ok (.sipush 256, 3) ∧ decode cX9_nearest 35 = .ok (.istore_n 3, 1) ∧ decode cX9_nearest 36 = .ok (.iconst 0, 1) ∧ True := zj_of zk_581
abbrev dX9_nearest_18 := zr_581.1
abbrev dX9_nearest_19 := zr_581.2.1
abbrev dX9_nearest_20 := zr_581.2.2.1
abbrev dX9_nearest_23 := zr_581.2.2.2.1
abbrev dX9_nearest_25 := zr_581.2.2.2.2.1
abbrev dX9_nearest_26 := zr_581.2.2.2.2.2.1
abbrev dX9_nearest_27 := zr_581.2.2.2.2.2.2.1
abbrev dX9_nearest_28 := zr_581.2.2.2.2.2.2.2.1
abbrev dX9_nearest_29 := zr_581.2.2.2.2.2.2.2.2.1
abbrev dX9_nearest_32 := zr_581.2.2.2.2.2.2.2.2.2.1
abbrev dX9_nearest_35 := zr_581.2.2.2.2.2.2.2.2.2.2.1
abbrev dX9_nearest_36 := zr_581.2.2.2.2.2.2.2.2.2.2.2.1
set_option maxRecDepth 100000 in
theorem zk_582 : zck 37 (cX9_nearest.data.toList.drop 37) [(37, .istore 4, 2), (39, .iconst 0, 1), (40, .istore 5, 2), (42, .iconst 0, 1), (43, .istore 6, 2), (45, .iload 6, 2), (47, .aload_n 0, 1), (48, .getfield 172, 3), (51, .if_icmp .ge 74, 3), (54, .iload 6, 2), (56, .iconst 1, 1), (57, .iadd, 1)] = true := by decide +kernel
theorem zr_582 : decode cX9_nearest 37 = .ok (.istore 4, 2) ∧ decode cX9_nearest 39 = .ok (.iconst 0, 1) ∧ decode cX9_nearest 40 = .ok (.istore 5, 2) ∧ decode cX9_nearest 42 = .ok (.iconst 0, 1) ∧ decode cX9_nearest 43 = .ok (.istore 6, 2) ∧ decode cX9_nearest 45 = .ok (.iload 6, 2) ∧ decode cX9_nearest 47 = .ok (.aload_n 0, 1) ∧ decode cX9_nearest 48 = .ok (.getfield 172, 3) ∧ decode cX9_nearest 51 = .ok (.if_icmp .ge 74, 3) ∧ decode cX9_nearest 54 = .ok (.iload 6, 2) ∧ decode cX9_nearest 56 = .ok (.iconst 1, 1) ∧ decode cX9_nearest 57 = .ok (.iadd, 1) ∧ True := zj_of zk_582
abbrev dX9_nearest_37 := zr_582.1
abbrev dX9_nearest_39 := zr_582.2.1
abbrev dX9_nearest_40 := zr_582.2.2.1
abbrev dX9_nearest_42 := zr_582.2.2.2.1
abbrev dX9_nearest_43 := zr_582.2.2.2.2.1
abbrev dX9_nearest_45 := zr_582.2.2.2.2.2.1
abbrev dX9_nearest_47 := zr_582.2.2.2.2.2.2.1
abbrev dX9_nearest_48 := zr_582.2.2.2.2.2.2.2.1
abbrev dX9_nearest_51 := zr_582.2.2.2.2.2.2.2.2.1
abbrev dX9_nearest_54 := zr_582.2.2.2.2.2.2.2.2.2.1
abbrev dX9_nearest_56 := zr_582.2.2.2.2.2.2.2.2.2.2.1
abbrev dX9_nearest_57 := zr_582.2.2.2.2.2.2.2.2.2.2.2.1
set_option maxRecDepth 100000 in
theorem zk_583 : zck 58 (cX9_nearest.data.toList.drop 58) [(58, .istore 7, 2), (60, .iload 7, 2), (62, .aload_n 0, 1), (63, .getfield 172, 3), (66, .if_icmp .ge 53, 3), (69, .aload_n 0, 1), (70, .getfield 79, 3), (73, .iload 6, 2), (75, .iaload, 1), (76, .aload_n 0, 1), (77, .getfield 79, 3), (80, .iload 7, 2)] = true := by decide +kernel
theorem zr_583 : decode cX9_nearest 58 = .ok (.istore 7, 2) ∧ decode cX9_nearest 60 = .ok (.iload 7, 2) ∧ decode cX9_nearest 62 = .ok (.aload_n 0, 1) ∧ decode cX9_nearest 63 = .ok (.getfield 172, 3) ∧ decode cX9_nearest 66 = .ok (.if_icmp .ge 53, 3) ∧ decode cX9_nearest 69 = .ok (.aload_n 0, 1) ∧ decode cX9_nearest 70 = .ok (.getfield 79, 3) ∧ decode cX9_nearest 73 = .ok (.iload 6, 2) ∧ decode cX9_nearest 75 = .ok (.iaload, 1) ∧ decode cX9_nearest 76 = .ok (.aload_n 0, 1) ∧ decode cX9_nearest 77 = .ok (.getfield 79, 3) ∧ decode cX9_nearest 80 = .ok (.iload 7, 2) ∧ True := zj_of zk_583
abbrev dX9_nearest_58 := zr_583.1
abbrev dX9_nearest_60 := zr_583.2.1
abbrev dX9_nearest_62 := zr_583.2.2.1
abbrev dX9_nearest_63 := zr_583.2.2.2.1
abbrev dX9_nearest_66 := zr_583.2.2.2.2.1
abbrev dX9_nearest_69 := zr_583.2.2.2.2.2.1
abbrev dX9_nearest_70 := zr_583.2.2.2.2.2.2.1
abbrev dX9_nearest_73 := zr_583.2.2.2.2.2.2.2.1
abbrev dX9_nearest_75 := zr_583.2.2.2.2.2.2.2.2.1
abbrev dX9_nearest_76 := zr_583.2.2.2.2.2.2.2.2.2.1
abbrev dX9_nearest_77 := zr_583.2.2.2.2.2.2.2.2.2.2.1
abbrev dX9_nearest_80 := zr_583.2.2.2.2.2.2.2.2.2.2.2.1
set_option maxRecDepth 100000 in
theorem zk_584 : zck 82 (cX9_nearest.data.toList.drop 82) [(82, .iaload, 1), (83, .ixor, 1), (84, .istore 8, 2), (86, .iload 8, 2), (88, .iload_n 3, 1), (89, .if_icmp .ge 24, 3), (92, .iload 8, 2), (94, .istore_n 3, 1), (95, .aload_n 0, 1), (96, .getfield 79, 3), (99, .iload 6, 2), (101, .iaload, 1)] = true := by decide +kernel
theorem zr_584 : decode cX9_nearest 82 = .ok (.iaload, 1) ∧ decode cX9_nearest 83 = .ok (.ixor, 1) ∧ decode cX9_nearest 84 = .ok (.istore 8, 2) ∧ decode cX9_nearest 86 = .ok (.iload 8, 2) ∧ decode cX9_nearest 88 = .ok (.iload_n 3, 1) ∧ decode cX9_nearest 89 = .ok (.if_icmp .ge 24, 3) ∧ decode cX9_nearest 92 = .ok (.iload 8, 2) ∧ decode cX9_nearest 94 = .ok (.istore_n 3, 1) ∧ decode cX9_nearest 95 = .ok (.aload_n 0, 1) ∧ decode cX9_nearest 96 = .ok (.getfield 79, 3) ∧ decode cX9_nearest 99 = .ok (.iload 6, 2) ∧ decode cX9_nearest 101 = .ok (.iaload, 1) ∧ True := zj_of zk_584
abbrev dX9_nearest_82 := zr_584.1
abbrev dX9_nearest_83 := zr_584.2.1
abbrev dX9_nearest_84 := zr_584.2.2.1
abbrev dX9_nearest_86 := zr_584.2.2.2.1
abbrev dX9_nearest_88 := zr_584.2.2.2.2.1
abbrev dX9_nearest_89 := zr_584.2.2.2.2.2.1
abbrev dX9_nearest_92 := zr_584.2.2.2.2.2.2.1
abbrev dX9_nearest_94 := zr_584.2.2.2.2.2.2.2.1
abbrev dX9_nearest_95 := zr_584.2.2.2.2.2.2.2.2.1
abbrev dX9_nearest_96 := zr_584.2.2.2.2.2.2.2.2.2.1
abbrev dX9_nearest_99 := zr_584.2.2.2.2.2.2.2.2.2.2.1
abbrev dX9_nearest_101 := zr_584.2.2.2.2.2.2.2.2.2.2.2.1
set_option maxRecDepth 100000 in
theorem zk_585 : zck 102 (cX9_nearest.data.toList.drop 102) [(102, .istore 4, 2), (104, .aload_n 0, 1), (105, .getfield 79, 3), (108, .iload 7, 2), (110, .iaload, 1), (111, .istore 5, 2), (113, .iinc 7 1, 3), (116, .goto (-56), 3), (119, .iinc 6 1, 3), (122, .goto (-77), 3), (125, .aload_n 0, 1), (126, .iconst 0, 1)] = true := by decide +kernel
theorem zr_585 : decode cX9_nearest 102 = .ok (.istore 4, 2) ∧ decode cX9_nearest 104 = .ok (.aload_n 0, 1) ∧ decode cX9_nearest 105 = .ok (.getfield 79, 3) ∧ decode cX9_nearest 108 = .ok (.iload 7, 2) ∧ decode cX9_nearest 110 = .ok (.iaload, 1) ∧ decode cX9_nearest 111 = .ok (.istore 5, 2) ∧ decode cX9_nearest 113 = .ok (.iinc 7 1, 3) ∧ decode cX9_nearest 116 = .ok (.goto (-56), 3) ∧ decode cX9_nearest 119 = .ok (.iinc 6 1, 3) ∧ decode cX9_nearest 122 = .ok (.goto (-77), 3) ∧ decode cX9_nearest 125 = .ok (.aload_n 0, 1) ∧ decode cX9_nearest 126 = .ok (.iconst 0, 1) ∧ True := zj_of zk_585
abbrev dX9_nearest_102 := zr_585.1
abbrev dX9_nearest_104 := zr_585.2.1
abbrev dX9_nearest_105 := zr_585.2.2.1
abbrev dX9_nearest_108 := zr_585.2.2.2.1
abbrev dX9_nearest_110 := zr_585.2.2.2.2.1
abbrev dX9_nearest_111 := zr_585.2.2.2.2.2.1
abbrev dX9_nearest_113 := zr_585.2.2.2.2.2.2.1
abbrev dX9_nearest_116 := zr_585.2.2.2.2.2.2.2.1
abbrev dX9_nearest_119 := zr_585.2.2.2.2.2.2.2.2.1
abbrev dX9_nearest_122 := zr_585.2.2.2.2.2.2.2.2.2.1
abbrev dX9_nearest_125 := zr_585.2.2.2.2.2.2.2.2.2.2.1
abbrev dX9_nearest_126 := zr_585.2.2.2.2.2.2.2.2.2.2.2.1
set_option maxRecDepth 100000 in
theorem zk_586 : zck 127 (cX9_nearest.data.toList.drop 127) [(127, .putfield 11, 3), (130, .aload_n 0, 1), (131, .iload 4, 2), (133, .i2l, 1), (134, .invokevirtual 142, 3), (137, .aload_n 0, 1), (138, .iload 5, 2), (140, .i2l, 1), (141, .invokevirtual 142, 3), (144, .iload_n 3, 1), (145, .ireturn, 1)] = true := by decide +kernel
theorem zr_586 : decode cX9_nearest 127 = .ok (.putfield 11, 3) ∧ decode cX9_nearest 130 = .ok (.aload_n 0, 1) ∧ decode cX9_nearest 131 = .ok (.iload 4, 2) ∧ decode cX9_nearest 133 = .ok (.i2l, 1) ∧ decode cX9_nearest 134 = .ok (.invokevirtual 142, 3) ∧ decode cX9_nearest 137 = .ok (.aload_n 0, 1) ∧ decode cX9_nearest 138 = .ok (.iload 5, 2) ∧ decode cX9_nearest 140 = .ok (.i2l, 1) ∧ decode cX9_nearest 141 = .ok (.invokevirtual 142, 3) ∧ decode cX9_nearest 144 = .ok (.iload_n 3, 1) ∧ decode cX9_nearest 145 = .ok (.ireturn, 1) ∧ True := zj_of zk_586
abbrev dX9_nearest_127 := zr_586.1
abbrev dX9_nearest_130 := zr_586.2.1
abbrev dX9_nearest_131 := zr_586.2.2.1
abbrev dX9_nearest_133 := zr_586.2.2.2.1
abbrev dX9_nearest_134 := zr_586.2.2.2.2.1
abbrev dX9_nearest_137 := zr_586.2.2.2.2.2.1
abbrev dX9_nearest_138 := zr_586.2.2.2.2.2.2.1
abbrev dX9_nearest_140 := zr_586.2.2.2.2.2.2.2.1
abbrev dX9_nearest_141 := zr_586.2.2.2.2.2.2.2.2.1
abbrev dX9_nearest_144 := zr_586.2.2.2.2.2.2.2.2.2.1
abbrev dX9_nearest_145 := zr_586.2.2.2.2.2.2.2.2.2.2.1
set_option maxRecDepth 100000 in
theorem zk_587 : zck 0 (cX9_dense.data.toList.drop 0) [(0, .aload_n 0, 1), (1, .iconst 0, 1), (2, .putfield 1, 3), (5, .aload_n 0, 1), (6, .iload_n 1, 1), (7, .iload_n 2, 1), (8, .invokevirtual 150, 3), (11, .ifCond .eq 10, 3), (14, .iload_n 3, 1), (15, .invokestatic 129, 3), (18, .ifCond .ne 5, 3), (21, .iconst (-1), 1)] = true := by decide +kernel
theorem zr_587 : decode cX9_dense 0 = .ok (.aload_n 0, 1) ∧ decode cX9_dense 1 = .ok (.iconst 0, 1) ∧ decode cX9_dense 2 = .ok (.putfield 1, 3) ∧ decode cX9_dense 5 = .ok (.aload_n 0, 1) ∧ decode cX9_dense 6 = .ok (.iload_n 1, 1) ∧ decode cX9_dense 7 = .ok (.iload_n 2, 1) ∧ decode cX9_dense 8 = .ok (.invokevirtual 150, 3) ∧ decode cX9_dense 11 = .ok (.ifCond .eq 10, 3) ∧ decode cX9_dense 14 = .ok (.iload_n 3, 1) ∧ decode cX9_dense 15 = .ok (.invokestatic 129, 3) ∧ decode cX9_dense 18 = .ok (.ifCond .ne 5, 3) ∧ decode cX9_dense 21 = .ok (.iconst (-1), 1) ∧ True := zj_of zk_587
abbrev dX9_dense_0 := zr_587.1
abbrev dX9_dense_1 := zr_587.2.1
abbrev dX9_dense_2 := zr_587.2.2.1
abbrev dX9_dense_5 := zr_587.2.2.2.1
abbrev dX9_dense_6 := zr_587.2.2.2.2.1
abbrev dX9_dense_7 := zr_587.2.2.2.2.2.1
abbrev dX9_dense_8 := zr_587.2.2.2.2.2.2.1
abbrev dX9_dense_11 := zr_587.2.2.2.2.2.2.2.1
abbrev dX9_dense_14 := zr_587.2.2.2.2.2.2.2.2.1
abbrev dX9_dense_15 := zr_587.2.2.2.2.2.2.2.2.2.1
abbrev dX9_dense_18 := zr_587.2.2.2.2.2.2.2.2.2.2.1
abbrev dX9_dense_21 := zr_587.2.2.2.2.2.2.2.2.2.2.2.1
set_option maxRecDepth 100000 in
theorem zk_588 : zck 22 (cX9_dense.data.toList.drop 22) [(22, .ireturn, 1), (23, .aload_n 0, 1), (24, .iload_n 1, 1), (25, .iload_n 2, 1), (26, .invokevirtual 178, 3), (29, .iconst 0, 1), (30, .istore 4, 2), (32, .iconst (-1), 1), (33, .istore 5, 2), (35, .iconst 0, 1), (36, .istore 6, 2), (38, .iload 6, 2)] = true := by decide +kernel
theorem zr_588 : decode cX9_dense 22 = .ok (.ireturn, 1) ∧ decode cX9_dense 23 = .ok (.aload_n 0, 1) ∧ decode cX9_dense 24 = .ok (.iload_n 1, 1) ∧ decode cX9_dense 25 = .ok (.iload_n 2, 1) ∧ decode cX9_dense 26 = .ok (.invokevirtual 178, 3) ∧ decode cX9_dense 29 = .ok (.iconst 0, 1) ∧ decode cX9_dense 30 = .ok (.istore 4, 2) ∧ decode cX9_dense 32 = .ok (.iconst (-1), 1) ∧ decode cX9_dense 33 = .ok (.istore 5, 2) ∧ decode cX9_dense 35 = .ok (.iconst 0, 1) ∧ decode cX9_dense 36 = .ok (.istore 6, 2) ∧ decode cX9_dense 38 = .ok (.iload 6, 2) ∧ True := zj_of zk_588
abbrev dX9_dense_22 := zr_588.1
abbrev dX9_dense_23 := zr_588.2.1
abbrev dX9_dense_24 := zr_588.2.2.1
abbrev dX9_dense_25 := zr_588.2.2.2.1
abbrev dX9_dense_26 := zr_588.2.2.2.2.1
abbrev dX9_dense_29 := zr_588.2.2.2.2.2.1
abbrev dX9_dense_30 := zr_588.2.2.2.2.2.2.1
abbrev dX9_dense_32 := zr_588.2.2.2.2.2.2.2.1
abbrev dX9_dense_33 := zr_588.2.2.2.2.2.2.2.2.1
abbrev dX9_dense_35 := zr_588.2.2.2.2.2.2.2.2.2.1
abbrev dX9_dense_36 := zr_588.2.2.2.2.2.2.2.2.2.2.1
abbrev dX9_dense_38 := zr_588.2.2.2.2.2.2.2.2.2.2.2.1
set_option maxRecDepth 100000 in
theorem zk_589 : zck 40 (cX9_dense.data.toList.drop 40) [(40, .aload_n 0, 1), (41, .getfield 172, 3), (44, .if_icmp .ge 62, 3), (47, .aload_n 0, 1), (48, .iconst 0, 1), (49, .aload_n 0, 1), (50, .getfield 79, 3), (53, .iload 6, 2), (55, .iaload, 1), (56, .aload_n 0, 1), (57, .getfield 79, 3), (60, .iload 6, 2)] = true := by decide +kernel
theorem zr_589 : decode cX9_dense 40 = .ok (.aload_n 0, 1) ∧ decode cX9_dense 41 = .ok (.getfield 172, 3) ∧ decode cX9_dense 44 = .ok (.if_icmp .ge 62, 3) ∧ decode cX9_dense 47 = .ok (.aload_n 0, 1) ∧ decode cX9_dense 48 = .ok (.iconst 0, 1) ∧ decode cX9_dense 49 = .ok (.aload_n 0, 1) ∧ decode cX9_dense 50 = .ok (.getfield 79, 3) ∧ decode cX9_dense 53 = .ok (.iload 6, 2) ∧ decode cX9_dense 55 = .ok (.iaload, 1) ∧ decode cX9_dense 56 = .ok (.aload_n 0, 1) ∧ decode cX9_dense 57 = .ok (.getfield 79, 3) ∧ decode cX9_dense 60 = .ok (.iload 6, 2) ∧ True := zj_of zk_589
abbrev dX9_dense_40 := zr_589.1
abbrev dX9_dense_41 := zr_589.2.1
abbrev dX9_dense_44 := zr_589.2.2.1
abbrev dX9_dense_47 := zr_589.2.2.2.1
abbrev dX9_dense_48 := zr_589.2.2.2.2.1
abbrev dX9_dense_49 := zr_589.2.2.2.2.2.1
abbrev dX9_dense_50 := zr_589.2.2.2.2.2.2.1
abbrev dX9_dense_53 := zr_589.2.2.2.2.2.2.2.1
abbrev dX9_dense_55 := zr_589.2.2.2.2.2.2.2.2.1
abbrev dX9_dense_56 := zr_589.2.2.2.2.2.2.2.2.2.1
abbrev dX9_dense_57 := zr_589.2.2.2.2.2.2.2.2.2.2.1
abbrev dX9_dense_60 := zr_589.2.2.2.2.2.2.2.2.2.2.2.1
set_option maxRecDepth 100000 in
theorem zk_590 : zck 62 (cX9_dense.data.toList.drop 62) [(62, .iaload, 1), (63, .iload_n 3, 1), (64, .iadd, 1), (65, .invokevirtual 189, 3), (68, .istore 7, 2), (70, .iload 7, 2), (72, .iload 4, 2), (74, .if_icmp .le 13, 3), (77, .aload_n 0, 1), (78, .getfield 79, 3), (81, .iload 6, 2), (83, .iaload, 1)] = true := by decide +kernel
theorem zr_590 : decode cX9_dense 62 = .ok (.iaload, 1) ∧ decode cX9_dense 63 = .ok (.iload_n 3, 1) ∧ decode cX9_dense 64 = .ok (.iadd, 1) ∧ decode cX9_dense 65 = .ok (.invokevirtual 189, 3) ∧ decode cX9_dense 68 = .ok (.istore 7, 2) ∧ decode cX9_dense 70 = .ok (.iload 7, 2) ∧ decode cX9_dense 72 = .ok (.iload 4, 2) ∧ decode cX9_dense 74 = .ok (.if_icmp .le 13, 3) ∧ decode cX9_dense 77 = .ok (.aload_n 0, 1) ∧ decode cX9_dense 78 = .ok (.getfield 79, 3) ∧ decode cX9_dense 81 = .ok (.iload 6, 2) ∧ decode cX9_dense 83 = .ok (.iaload, 1) ∧ True := zj_of zk_590
abbrev dX9_dense_62 := zr_590.1
abbrev dX9_dense_63 := zr_590.2.1
abbrev dX9_dense_64 := zr_590.2.2.1
abbrev dX9_dense_65 := zr_590.2.2.2.1
abbrev dX9_dense_68 := zr_590.2.2.2.2.1
abbrev dX9_dense_70 := zr_590.2.2.2.2.2.1
abbrev dX9_dense_72 := zr_590.2.2.2.2.2.2.1
abbrev dX9_dense_74 := zr_590.2.2.2.2.2.2.2.1
abbrev dX9_dense_77 := zr_590.2.2.2.2.2.2.2.2.1
abbrev dX9_dense_78 := zr_590.2.2.2.2.2.2.2.2.2.1
abbrev dX9_dense_81 := zr_590.2.2.2.2.2.2.2.2.2.2.1
abbrev dX9_dense_83 := zr_590.2.2.2.2.2.2.2.2.2.2.2.1
set_option maxRecDepth 100000 in
theorem zk_591 : zck 84 (cX9_dense.data.toList.drop 84) [(84, .goto 5, 3), (87, .iload 5, 2), (89, .istore 5, 2), (91, .iload 4, 2), (93, .iload 7, 2), (95, .invokestatic 181, 3), (98, .istore 4, 2), (100, .iinc 6 1, 3), (103, .goto (-65), 3), (106, .aload_n 0, 1), (107, .iconst 0, 1), (108, .putfield 11, 3)] = true := by decide +kernel
theorem zr_591 : decode cX9_dense 84 = .ok (.goto 5, 3) ∧ decode cX9_dense 87 = .ok (.iload 5, 2) ∧ decode cX9_dense 89 = .ok (.istore 5, 2) ∧ decode cX9_dense 91 = .ok (.iload 4, 2) ∧ decode cX9_dense 93 = .ok (.iload 7, 2) ∧ decode cX9_dense 95 = .ok (.invokestatic 181, 3) ∧ decode cX9_dense 98 = .ok (.istore 4, 2) ∧ decode cX9_dense 100 = .ok (.iinc 6 1, 3) ∧ decode cX9_dense 103 = .ok (.goto (-65), 3) ∧ decode cX9_dense 106 = .ok (.aload_n 0, 1) ∧ decode cX9_dense 107 = .ok (.iconst 0, 1) ∧ decode cX9_dense 108 = .ok (.putfield 11, 3) ∧ True := zj_of zk_591
abbrev dX9_dense_84 := zr_591.1
abbrev dX9_dense_87 := zr_591.2.1
abbrev dX9_dense_89 := zr_591.2.2.1
abbrev dX9_dense_91 := zr_591.2.2.2.1
abbrev dX9_dense_93 := zr_591.2.2.2.2.1
abbrev dX9_dense_95 := zr_591.2.2.2.2.2.1
abbrev dX9_dense_98 := zr_591.2.2.2.2.2.2.1
abbrev dX9_dense_100 := zr_591.2.2.2.2.2.2.2.1
abbrev dX9_dense_103 := zr_591.2.2.2.2.2.2.2.2.1
abbrev dX9_dense_106 := zr_591.2.2.2.2.2.2.2.2.2.1
abbrev dX9_dense_107 := zr_591.2.2.2.2.2.2.2.2.2.2.1
abbrev dX9_dense_108 := zr_591.2.2.2.2.2.2.2.2.2.2.2.1
set_option maxRecDepth 100000 in
theorem zk_592 : zck 111 (cX9_dense.data.toList.drop 111) [(111, .aload_n 0, 1), (112, .iload 5, 2), (114, .i2l, 1), (115, .invokevirtual 142, 3), (118, .iload 4, 2), (120, .ireturn, 1)] = true := by decide +kernel
theorem zr_592 : decode cX9_dense 111 = .ok (.aload_n 0, 1) ∧ decode cX9_dense 112 = .ok (.iload 5, 2) ∧ decode cX9_dense 114 = .ok (.i2l, 1) ∧ decode cX9_dense 115 = .ok (.invokevirtual 142, 3) ∧ decode cX9_dense 118 = .ok (.iload 4, 2) ∧ decode cX9_dense 120 = .ok (.ireturn, 1) ∧ True := zj_of zk_592
abbrev dX9_dense_111 := zr_592.1
abbrev dX9_dense_112 := zr_592.2.1
abbrev dX9_dense_114 := zr_592.2.2.1
abbrev dX9_dense_115 := zr_592.2.2.2.1
abbrev dX9_dense_118 := zr_592.2.2.2.2.1
abbrev dX9_dense_120 := zr_592.2.2.2.2.2.1
set_option maxRecDepth 100000 in
theorem zk_593 : zck 0 (cX9_farthest.data.toList.drop 0) [(0, .aload_n 0, 1), (1, .iconst 0, 1), (2, .putfield 1, 3), (5, .aload_n 0, 1), (6, .iload_n 1, 1), (7, .iload_n 2, 1), (8, .invokevirtual 150, 3), (11, .ifCond .eq 10, 3), (14, .iload_n 3, 1), (15, .invokestatic 129, 3), (18, .ifCond .ne 5, 3), (21, .iconst (-1), 1)] = true := by decide +kernel
theorem zr_593 : decode cX9_farthest 0 = .ok (.aload_n 0, 1) ∧ decode cX9_farthest 1 = .ok (.iconst 0, 1) ∧ decode cX9_farthest 2 = .ok (.putfield 1, 3) ∧ decode cX9_farthest 5 = .ok (.aload_n 0, 1) ∧ decode cX9_farthest 6 = .ok (.iload_n 1, 1) ∧ decode cX9_farthest 7 = .ok (.iload_n 2, 1) ∧ decode cX9_farthest 8 = .ok (.invokevirtual 150, 3) ∧ decode cX9_farthest 11 = .ok (.ifCond .eq 10, 3) ∧ decode cX9_farthest 14 = .ok (.iload_n 3, 1) ∧ decode cX9_farthest 15 = .ok (.invokestatic 129, 3) ∧ decode cX9_farthest 18 = .ok (.ifCond .ne 5, 3) ∧ decode cX9_farthest 21 = .ok (.iconst (-1), 1) ∧ True := zj_of zk_593
abbrev dX9_farthest_0 := zr_593.1
abbrev dX9_farthest_1 := zr_593.2.1
abbrev dX9_farthest_2 := zr_593.2.2.1
abbrev dX9_farthest_5 := zr_593.2.2.2.1
abbrev dX9_farthest_6 := zr_593.2.2.2.2.1
abbrev dX9_farthest_7 := zr_593.2.2.2.2.2.1
abbrev dX9_farthest_8 := zr_593.2.2.2.2.2.2.1
abbrev dX9_farthest_11 := zr_593.2.2.2.2.2.2.2.1
abbrev dX9_farthest_14 := zr_593.2.2.2.2.2.2.2.2.1
abbrev dX9_farthest_15 := zr_593.2.2.2.2.2.2.2.2.2.1
abbrev dX9_farthest_18 := zr_593.2.2.2.2.2.2.2.2.2.2.1
abbrev dX9_farthest_21 := zr_593.2.2.2.2.2.2.2.2.2.2.2.1
set_option maxRecDepth 100000 in
theorem zk_594 : zck 22 (cX9_farthest.data.toList.drop 22) [(22, .ireturn, 1), (23, .iload_n 1, 1), (24, .iload_n 2, 1), (25, .if_icmp .ne 6, 3), (28, .bipush (-2), 2), (30, .ireturn, 1), (31, .aload_n 0, 1), (32, .iconst 0, 1), (33, .iload_n 1, 1), (34, .iload_n 2, 1), (35, .invokevirtual 169, 3), (38, .sipush 255, 3)] = true := by decide +kernel
theorem zr_594 : decode cX9_farthest 22 = .ok (.ireturn, 1) ∧ decode cX9_farthest 23 = .ok (.iload_n 1, 1) ∧ decode cX9_farthest 24 = .ok (.iload_n 2, 1) ∧ decode cX9_farthest 25 = .ok (.if_icmp .ne 6, 3) ∧ decode cX9_farthest 28 = .ok (.bipush (-2), 2) ∧ decode cX9_farthest 30 = .ok (.ireturn, 1) ∧ decode cX9_farthest 31 = .ok (.aload_n 0, 1) ∧ decode cX9_farthest 32 = .ok (.iconst 0, 1) ∧ decode cX9_farthest 33 = .ok (.iload_n 1, 1) ∧ decode cX9_farthest 34 = .ok (.iload_n 2, 1) ∧ decode cX9_farthest 35 = .ok (.invokevirtual 169, 3) ∧ decode cX9_farthest 38 = .ok (.sipush 255, 3) ∧ True := zj_of zk_594
abbrev dX9_farthest_22 := zr_594.1
abbrev dX9_farthest_23 := zr_594.2.1
abbrev dX9_farthest_24 := zr_594.2.2.1
abbrev dX9_farthest_25 := zr_594.2.2.2.1
abbrev dX9_farthest_28 := zr_594.2.2.2.2.1
abbrev dX9_farthest_30 := zr_594.2.2.2.2.2.1
abbrev dX9_farthest_31 := zr_594.2.2.2.2.2.2.1
abbrev dX9_farthest_32 := zr_594.2.2.2.2.2.2.2.1
abbrev dX9_farthest_33 := zr_594.2.2.2.2.2.2.2.2.1
abbrev dX9_farthest_34 := zr_594.2.2.2.2.2.2.2.2.2.1
abbrev dX9_farthest_35 := zr_594.2.2.2.2.2.2.2.2.2.2.1
abbrev dX9_farthest_38 := zr_594.2.2.2.2.2.2.2.2.2.2.2.1
set_option maxRecDepth 100000 in
theorem zk_595 : zck 41 (cX9_farthest.data.toList.drop 41) [(41, .istore 4, 2), (43, .aload_n 0, 1), (44, .iconst 0, 1), (45, .iload 4, 2), (47, .iload_n 3, 1), (48, .ixor, 1), (49, .invokevirtual 175, 3), (52, .ifCond .ne 9, 3), (55, .iinc 4 (-1), 3), (58, .goto (-15), 3), (61, .aload_n 0, 1), (62, .iconst 0, 1)] = true := by decide +kernel
theorem zr_595 : decode cX9_farthest 41 = .ok (.istore 4, 2) ∧ decode cX9_farthest 43 = .ok (.aload_n 0, 1) ∧ decode cX9_farthest 44 = .ok (.iconst 0, 1) ∧ decode cX9_farthest 45 = .ok (.iload 4, 2) ∧ decode cX9_farthest 47 = .ok (.iload_n 3, 1) ∧ decode cX9_farthest 48 = .ok (.ixor, 1) ∧ decode cX9_farthest 49 = .ok (.invokevirtual 175, 3) ∧ decode cX9_farthest 52 = .ok (.ifCond .ne 9, 3) ∧ decode cX9_farthest 55 = .ok (.iinc 4 (-1), 3) ∧ decode cX9_farthest 58 = .ok (.goto (-15), 3) ∧ decode cX9_farthest 61 = .ok (.aload_n 0, 1) ∧ decode cX9_farthest 62 = .ok (.iconst 0, 1) ∧ True := zj_of zk_595
abbrev dX9_farthest_41 := zr_595.1
abbrev dX9_farthest_43 := zr_595.2.1
abbrev dX9_farthest_44 := zr_595.2.2.1
abbrev dX9_farthest_45 := zr_595.2.2.2.1
abbrev dX9_farthest_47 := zr_595.2.2.2.2.1
abbrev dX9_farthest_48 := zr_595.2.2.2.2.2.1
abbrev dX9_farthest_49 := zr_595.2.2.2.2.2.2.1
abbrev dX9_farthest_52 := zr_595.2.2.2.2.2.2.2.1
abbrev dX9_farthest_55 := zr_595.2.2.2.2.2.2.2.2.1
abbrev dX9_farthest_58 := zr_595.2.2.2.2.2.2.2.2.2.1
abbrev dX9_farthest_61 := zr_595.2.2.2.2.2.2.2.2.2.2.1
abbrev dX9_farthest_62 := zr_595.2.2.2.2.2.2.2.2.2.2.2.1
set_option maxRecDepth 100000 in
theorem zk_596 : zck 63 (cX9_farthest.data.toList.drop 63) [(63, .putfield 11, 3), (66, .aload_n 0, 1), (67, .iload 4, 2), (69, .iload_n 3, 1), (70, .ixor, 1), (71, .i2l, 1), (72, .invokevirtual 142, 3), (75, .aload_n 0, 1), (76, .aload_n 0, 1), (77, .iconst 0, 1), (78, .iload 4, 2), (80, .iload_n 3, 1)] = true := by decide +kernel
theorem zr_596 : decode cX9_farthest 63 = .ok (.putfield 11, 3) ∧ decode cX9_farthest 66 = .ok (.aload_n 0, 1) ∧ decode cX9_farthest 67 = .ok (.iload 4, 2) ∧ decode cX9_farthest 69 = .ok (.iload_n 3, 1) ∧ decode cX9_farthest 70 = .ok (.ixor, 1) ∧ decode cX9_farthest 71 = .ok (.i2l, 1) ∧ decode cX9_farthest 72 = .ok (.invokevirtual 142, 3) ∧ decode cX9_farthest 75 = .ok (.aload_n 0, 1) ∧ decode cX9_farthest 76 = .ok (.aload_n 0, 1) ∧ decode cX9_farthest 77 = .ok (.iconst 0, 1) ∧ decode cX9_farthest 78 = .ok (.iload 4, 2) ∧ decode cX9_farthest 80 = .ok (.iload_n 3, 1) ∧ True := zj_of zk_596
abbrev dX9_farthest_63 := zr_596.1
abbrev dX9_farthest_66 := zr_596.2.1
abbrev dX9_farthest_67 := zr_596.2.2.1
abbrev dX9_farthest_69 := zr_596.2.2.2.1
abbrev dX9_farthest_70 := zr_596.2.2.2.2.1
abbrev dX9_farthest_71 := zr_596.2.2.2.2.2.1
abbrev dX9_farthest_72 := zr_596.2.2.2.2.2.2.1
abbrev dX9_farthest_75 := zr_596.2.2.2.2.2.2.2.1
abbrev dX9_farthest_76 := zr_596.2.2.2.2.2.2.2.2.1
abbrev dX9_farthest_77 := zr_596.2.2.2.2.2.2.2.2.2.1
abbrev dX9_farthest_78 := zr_596.2.2.2.2.2.2.2.2.2.2.1
abbrev dX9_farthest_80 := zr_596.2.2.2.2.2.2.2.2.2.2.2.1
set_option maxRecDepth 100000 in
theorem zk_597 : zck 81 (cX9_farthest.data.toList.drop 81) [(81, .ixor, 1), (82, .invokevirtual 175, 3), (85, .i2l, 1), (86, .invokevirtual 142, 3), (89, .iload 4, 2), (91, .ireturn, 1)] = true := by decide +kernel
theorem zr_597 : decode cX9_farthest 81 = .ok (.ixor, 1) ∧ decode cX9_farthest 82 = .ok (.invokevirtual 175, 3) ∧ decode cX9_farthest 85 = .ok (.i2l, 1) ∧ decode cX9_farthest 86 = .ok (.invokevirtual 142, 3) ∧ decode cX9_farthest 89 = .ok (.iload 4, 2) ∧ decode cX9_farthest 91 = .ok (.ireturn, 1) ∧ True := zj_of zk_597
abbrev dX9_farthest_81 := zr_597.1
abbrev dX9_farthest_82 := zr_597.2.1
abbrev dX9_farthest_85 := zr_597.2.2.1
abbrev dX9_farthest_86 := zr_597.2.2.2.1
abbrev dX9_farthest_89 := zr_597.2.2.2.2.1
abbrev dX9_farthest_91 := zr_597.2.2.2.2.2.1
set_option maxRecDepth 100000 in
theorem zk_598 : zck 0 (cX9_fit.data.toList.drop 0) [(0, .aload_n 0, 1), (1, .iconst 0, 1), (2, .putfield 1, 3), (5, .aload_n 0, 1), (6, .iload_n 1, 1), (7, .iload_n 2, 1), (8, .invokevirtual 150, 3), (11, .ifCond .eq 7, 3), (14, .iload_n 3, 1), (15, .ifCond .ge 5, 3), (18, .iconst (-1), 1), (19, .ireturn, 1)] = true := by decide +kernel
theorem zr_598 : decode cX9_fit 0 = .ok (.aload_n 0, 1) ∧ decode cX9_fit 1 = .ok (.iconst 0, 1) ∧ decode cX9_fit 2 = .ok (.putfield 1, 3) ∧ decode cX9_fit 5 = .ok (.aload_n 0, 1) ∧ decode cX9_fit 6 = .ok (.iload_n 1, 1) ∧ decode cX9_fit 7 = .ok (.iload_n 2, 1) ∧ decode cX9_fit 8 = .ok (.invokevirtual 150, 3) ∧ decode cX9_fit 11 = .ok (.ifCond .eq 7, 3) ∧ decode cX9_fit 14 = .ok (.iload_n 3, 1) ∧ decode cX9_fit 15 = .ok (.ifCond .ge 5, 3) ∧ decode cX9_fit 18 = .ok (.iconst (-1), 1) ∧ decode cX9_fit 19 = .ok (.ireturn, 1) ∧ True := zj_of zk_598
abbrev dX9_fit_0 := zr_598.1
abbrev dX9_fit_1 := zr_598.2.1
abbrev dX9_fit_2 := zr_598.2.2.1
abbrev dX9_fit_5 := zr_598.2.2.2.1
abbrev dX9_fit_6 := zr_598.2.2.2.2.1
abbrev dX9_fit_7 := zr_598.2.2.2.2.2.1
abbrev dX9_fit_8 := zr_598.2.2.2.2.2.2.1
abbrev dX9_fit_11 := zr_598.2.2.2.2.2.2.2.1
abbrev dX9_fit_14 := zr_598.2.2.2.2.2.2.2.2.1
abbrev dX9_fit_15 := zr_598.2.2.2.2.2.2.2.2.2.1
abbrev dX9_fit_18 := zr_598.2.2.2.2.2.2.2.2.2.2.1
abbrev dX9_fit_19 := zr_598.2.2.2.2.2.2.2.2.2.2.2.1
set_option maxRecDepth 100000 in
theorem zk_599 : zck 20 (cX9_fit.data.toList.drop 20) [(20, .aload_n 0, 1), (21, .iload_n 1, 1), (22, .iload_n 2, 1), (23, .invokevirtual 178, 3), (26, .iconst 0, 1), (27, .istore 4, 2), (29, .iconst 0, 1), (30, .istore 5, 2), (32, .iload 4, 2), (34, .aload_n 0, 1), (35, .getfield 172, 3), (38, .if_icmp .ge 35, 3)] = true := by decide +kernel
theorem zr_599 : decode cX9_fit 20 = .ok (.aload_n 0, 1) ∧ decode cX9_fit 21 = .ok (.iload_n 1, 1) ∧ decode cX9_fit 22 = .ok (.iload_n 2, 1) ∧ decode cX9_fit 23 = .ok (.invokevirtual 178, 3) ∧ decode cX9_fit 26 = .ok (.iconst 0, 1) ∧ decode cX9_fit 27 = .ok (.istore 4, 2) ∧ decode cX9_fit 29 = .ok (.iconst 0, 1) ∧ decode cX9_fit 30 = .ok (.istore 5, 2) ∧ decode cX9_fit 32 = .ok (.iload 4, 2) ∧ decode cX9_fit 34 = .ok (.aload_n 0, 1) ∧ decode cX9_fit 35 = .ok (.getfield 172, 3) ∧ decode cX9_fit 38 = .ok (.if_icmp .ge 35, 3) ∧ True := zj_of zk_599
abbrev dX9_fit_20 := zr_599.1
abbrev dX9_fit_21 := zr_599.2.1
abbrev dX9_fit_22 := zr_599.2.2.1
abbrev dX9_fit_23 := zr_599.2.2.2.1
abbrev dX9_fit_26 := zr_599.2.2.2.2.1
abbrev dX9_fit_27 := zr_599.2.2.2.2.2.1
abbrev dX9_fit_29 := zr_599.2.2.2.2.2.2.1
abbrev dX9_fit_30 := zr_599.2.2.2.2.2.2.2.1
abbrev dX9_fit_32 := zr_599.2.2.2.2.2.2.2.2.1
abbrev dX9_fit_34 := zr_599.2.2.2.2.2.2.2.2.2.1
abbrev dX9_fit_35 := zr_599.2.2.2.2.2.2.2.2.2.2.1
abbrev dX9_fit_38 := zr_599.2.2.2.2.2.2.2.2.2.2.2.1
set_option maxRecDepth 100000 in
theorem zk_600 : zck 41 (cX9_fit.data.toList.drop 41) [(41, .iload 5, 2), (43, .aload_n 0, 1), (44, .getfield 79, 3), (47, .iload 4, 2), (49, .iaload, 1), (50, .iadd, 1), (51, .iload_n 3, 1), (52, .if_icmp .gt 21, 3), (55, .iload 5, 2), (57, .aload_n 0, 1), (58, .getfield 79, 3), (61, .iload 4, 2)] = true := by decide +kernel
theorem zr_600 : decode cX9_fit 41 = .ok (.iload 5, 2) ∧ decode cX9_fit 43 = .ok (.aload_n 0, 1) ∧ decode cX9_fit 44 = .ok (.getfield 79, 3) ∧ decode cX9_fit 47 = .ok (.iload 4, 2) ∧ decode cX9_fit 49 = .ok (.iaload, 1) ∧ decode cX9_fit 50 = .ok (.iadd, 1) ∧ decode cX9_fit 51 = .ok (.iload_n 3, 1) ∧ decode cX9_fit 52 = .ok (.if_icmp .gt 21, 3) ∧ decode cX9_fit 55 = .ok (.iload 5, 2) ∧ decode cX9_fit 57 = .ok (.aload_n 0, 1) ∧ decode cX9_fit 58 = .ok (.getfield 79, 3) ∧ decode cX9_fit 61 = .ok (.iload 4, 2) ∧ True := zj_of zk_600
abbrev dX9_fit_41 := zr_600.1
abbrev dX9_fit_43 := zr_600.2.1
abbrev dX9_fit_44 := zr_600.2.2.1
abbrev dX9_fit_47 := zr_600.2.2.2.1
abbrev dX9_fit_49 := zr_600.2.2.2.2.1
abbrev dX9_fit_50 := zr_600.2.2.2.2.2.1
abbrev dX9_fit_51 := zr_600.2.2.2.2.2.2.1
abbrev dX9_fit_52 := zr_600.2.2.2.2.2.2.2.1
abbrev dX9_fit_55 := zr_600.2.2.2.2.2.2.2.2.1
abbrev dX9_fit_57 := zr_600.2.2.2.2.2.2.2.2.2.1
abbrev dX9_fit_58 := zr_600.2.2.2.2.2.2.2.2.2.2.1
abbrev dX9_fit_61 := zr_600.2.2.2.2.2.2.2.2.2.2.2.1
set_option maxRecDepth 100000 in
theorem zk_601 : zck 63 (cX9_fit.data.toList.drop 63) [(63, .iaload, 1), (64, .iadd, 1), (65, .istore 5, 2), (67, .iinc 4 1, 3), (70, .goto (-38), 3), (73, .aload_n 0, 1), (74, .iconst 0, 1), (75, .putfield 11, 3), (78, .aload_n 0, 1), (79, .iload 5, 2), (81, .i2l, 1), (82, .invokevirtual 142, 3)] = true := by decide +kernel
theorem zr_601 : decode cX9_fit 63 = .ok (.iaload, 1) ∧ decode cX9_fit 64 = .ok (.iadd, 1) ∧ decode cX9_fit 65 = .ok (.istore 5, 2) ∧ decode cX9_fit 67 = .ok (.iinc 4 1, 3) ∧ decode cX9_fit 70 = .ok (.goto (-38), 3) ∧ decode cX9_fit 73 = .ok (.aload_n 0, 1) ∧ decode cX9_fit 74 = .ok (.iconst 0, 1) ∧ decode cX9_fit 75 = .ok (.putfield 11, 3) ∧ decode cX9_fit 78 = .ok (.aload_n 0, 1) ∧ decode cX9_fit 79 = .ok (.iload 5, 2) ∧ decode cX9_fit 81 = .ok (.i2l, 1) ∧ decode cX9_fit 82 = .ok (.invokevirtual 142, 3) ∧ True := zj_of zk_601
abbrev dX9_fit_63 := zr_601.1
abbrev dX9_fit_64 := zr_601.2.1
abbrev dX9_fit_65 := zr_601.2.2.1
abbrev dX9_fit_67 := zr_601.2.2.2.1
abbrev dX9_fit_70 := zr_601.2.2.2.2.1
abbrev dX9_fit_73 := zr_601.2.2.2.2.2.1
abbrev dX9_fit_74 := zr_601.2.2.2.2.2.2.1
abbrev dX9_fit_75 := zr_601.2.2.2.2.2.2.2.1
abbrev dX9_fit_78 := zr_601.2.2.2.2.2.2.2.2.1
abbrev dX9_fit_79 := zr_601.2.2.2.2.2.2.2.2.2.1
abbrev dX9_fit_81 := zr_601.2.2.2.2.2.2.2.2.2.2.1
abbrev dX9_fit_82 := zr_601.2.2.2.2.2.2.2.2.2.2.2.1
set_option maxRecDepth 100000 in
theorem zk_602 : zck 85 (cX9_fit.data.toList.drop 85) [(85, .iload 4, 2), (87, .ireturn, 1)] = true := by decide +kernel
theorem zr_602 : decode cX9_fit 85 = .ok (.iload 4, 2) ∧ decode cX9_fit 87 = .ok (.ireturn, 1) ∧ True := zj_of zk_602
abbrev dX9_fit_85 := zr_602.1
abbrev dX9_fit_87 := zr_602.2.1
set_option maxRecDepth 100000 in
theorem zk_603 : zck 0 (cX9_gap.data.toList.drop 0) [(0, .aload_n 0, 1), (1, .iconst 0, 1), (2, .putfield 1, 3), (5, .aload_n 0, 1), (6, .iload_n 1, 1), (7, .iload_n 2, 1), (8, .invokevirtual 150, 3), (11, .ifCond .ne 5, 3), (14, .iconst (-1), 1), (15, .ireturn, 1), (16, .iload_n 2, 1), (17, .iload_n 1, 1)] = true := by decide +kernel
theorem zr_603 : decode cX9_gap 0 = .ok (.aload_n 0, 1) ∧ decode cX9_gap 1 = .ok (.iconst 0, 1) ∧ decode cX9_gap 2 = .ok (.putfield 1, 3) ∧ decode cX9_gap 5 = .ok (.aload_n 0, 1) ∧ decode cX9_gap 6 = .ok (.iload_n 1, 1) ∧ decode cX9_gap 7 = .ok (.iload_n 2, 1) ∧ decode cX9_gap 8 = .ok (.invokevirtual 150, 3) ∧ decode cX9_gap 11 = .ok (.ifCond .ne 5, 3) ∧ decode cX9_gap 14 = .ok (.iconst (-1), 1) ∧ decode cX9_gap 15 = .ok (.ireturn, 1) ∧ decode cX9_gap 16 = .ok (.iload_n 2, 1) ∧ decode cX9_gap 17 = .ok (.iload_n 1, 1) ∧ True := zj_of zk_603
abbrev dX9_gap_0 := zr_603.1
abbrev dX9_gap_1 := zr_603.2.1
abbrev dX9_gap_2 := zr_603.2.2.1
abbrev dX9_gap_5 := zr_603.2.2.2.1
abbrev dX9_gap_6 := zr_603.2.2.2.2.1
abbrev dX9_gap_7 := zr_603.2.2.2.2.2.1
abbrev dX9_gap_8 := zr_603.2.2.2.2.2.2.1
abbrev dX9_gap_11 := zr_603.2.2.2.2.2.2.2.1
abbrev dX9_gap_14 := zr_603.2.2.2.2.2.2.2.2.1
abbrev dX9_gap_15 := zr_603.2.2.2.2.2.2.2.2.2.1
abbrev dX9_gap_16 := zr_603.2.2.2.2.2.2.2.2.2.2.1
abbrev dX9_gap_17 := zr_603.2.2.2.2.2.2.2.2.2.2.2.1
set_option maxRecDepth 100000 in
theorem zk_604 : zck 18 (cX9_gap.data.toList.drop 18) [(18, .isub, 1), (19, .iconst 2, 1), (20, .if_icmp .ge 6, 3), (23, .bipush (-2), 2), (25, .ireturn, 1), (26, .aload_n 0, 1), (27, .iload_n 1, 1), (28, .iload_n 2, 1), (29, .invokevirtual 178, 3), (32, .iconst 0, 1), (33, .istore_n 3, 1), (34, .iconst 1, 1)] = true := by decide +kernel
theorem zr_604 : decode cX9_gap 18 = .ok (.isub, 1) ∧ decode cX9_gap 19 = .ok (.iconst 2, 1) ∧ decode cX9_gap 20 = .ok (.if_icmp .ge 6, 3) ∧ decode cX9_gap 23 = .ok (.bipush (-2), 2) ∧ decode cX9_gap 25 = .ok (.ireturn, 1) ∧ decode cX9_gap 26 = .ok (.aload_n 0, 1) ∧ decode cX9_gap 27 = .ok (.iload_n 1, 1) ∧ decode cX9_gap 28 = .ok (.iload_n 2, 1) ∧ decode cX9_gap 29 = .ok (.invokevirtual 178, 3) ∧ decode cX9_gap 32 = .ok (.iconst 0, 1) ∧ decode cX9_gap 33 = .ok (.istore_n 3, 1) ∧ decode cX9_gap 34 = .ok (.iconst 1, 1) ∧ True := zj_of zk_604
abbrev dX9_gap_18 := zr_604.1
abbrev dX9_gap_19 := zr_604.2.1
abbrev dX9_gap_20 := zr_604.2.2.1
abbrev dX9_gap_23 := zr_604.2.2.2.1
abbrev dX9_gap_25 := zr_604.2.2.2.2.1
abbrev dX9_gap_26 := zr_604.2.2.2.2.2.1
abbrev dX9_gap_27 := zr_604.2.2.2.2.2.2.1
abbrev dX9_gap_28 := zr_604.2.2.2.2.2.2.2.1
abbrev dX9_gap_29 := zr_604.2.2.2.2.2.2.2.2.1
abbrev dX9_gap_32 := zr_604.2.2.2.2.2.2.2.2.2.1
abbrev dX9_gap_33 := zr_604.2.2.2.2.2.2.2.2.2.2.1
abbrev dX9_gap_34 := zr_604.2.2.2.2.2.2.2.2.2.2.2.1
set_option maxRecDepth 100000 in
theorem zk_605 : zck 35 (cX9_gap.data.toList.drop 35) [(35, .istore 4, 2), (37, .iload 4, 2), (39, .iconst 1, 1), (40, .iadd, 1), (41, .aload_n 0, 1), (42, .getfield 172, 3), (45, .if_icmp .ge 51, 3), (48, .aload_n 0, 1), (49, .getfield 79, 3), (52, .iload 4, 2), (54, .iconst 1, 1), (55, .iadd, 1)] = true := by decide +kernel
theorem zr_605 : decode cX9_gap 35 = .ok (.istore 4, 2) ∧ decode cX9_gap 37 = .ok (.iload 4, 2) ∧ decode cX9_gap 39 = .ok (.iconst 1, 1) ∧ decode cX9_gap 40 = .ok (.iadd, 1) ∧ decode cX9_gap 41 = .ok (.aload_n 0, 1) ∧ decode cX9_gap 42 = .ok (.getfield 172, 3) ∧ decode cX9_gap 45 = .ok (.if_icmp .ge 51, 3) ∧ decode cX9_gap 48 = .ok (.aload_n 0, 1) ∧ decode cX9_gap 49 = .ok (.getfield 79, 3) ∧ decode cX9_gap 52 = .ok (.iload 4, 2) ∧ decode cX9_gap 54 = .ok (.iconst 1, 1) ∧ decode cX9_gap 55 = .ok (.iadd, 1) ∧ True := zj_of zk_605
abbrev dX9_gap_35 := zr_605.1
abbrev dX9_gap_37 := zr_605.2.1
abbrev dX9_gap_39 := zr_605.2.2.1
abbrev dX9_gap_40 := zr_605.2.2.2.1
abbrev dX9_gap_41 := zr_605.2.2.2.2.1
abbrev dX9_gap_42 := zr_605.2.2.2.2.2.1
abbrev dX9_gap_45 := zr_605.2.2.2.2.2.2.1
abbrev dX9_gap_48 := zr_605.2.2.2.2.2.2.2.1
abbrev dX9_gap_49 := zr_605.2.2.2.2.2.2.2.2.1
abbrev dX9_gap_52 := zr_605.2.2.2.2.2.2.2.2.2.1
abbrev dX9_gap_54 := zr_605.2.2.2.2.2.2.2.2.2.2.1
abbrev dX9_gap_55 := zr_605.2.2.2.2.2.2.2.2.2.2.2.1
set_option maxRecDepth 100000 in
theorem zk_606 : zck 56 (cX9_gap.data.toList.drop 56) [(56, .iaload, 1), (57, .aload_n 0, 1), (58, .getfield 79, 3), (61, .iload 4, 2), (63, .iaload, 1), (64, .isub, 1), (65, .aload_n 0, 1), (66, .getfield 79, 3), (69, .iload_n 3, 1), (70, .iconst 1, 1), (71, .iadd, 1), (72, .iaload, 1)] = true := by decide +kernel
theorem zr_606 : decode cX9_gap 56 = .ok (.iaload, 1) ∧ decode cX9_gap 57 = .ok (.aload_n 0, 1) ∧ decode cX9_gap 58 = .ok (.getfield 79, 3) ∧ decode cX9_gap 61 = .ok (.iload 4, 2) ∧ decode cX9_gap 63 = .ok (.iaload, 1) ∧ decode cX9_gap 64 = .ok (.isub, 1) ∧ decode cX9_gap 65 = .ok (.aload_n 0, 1) ∧ decode cX9_gap 66 = .ok (.getfield 79, 3) ∧ decode cX9_gap 69 = .ok (.iload_n 3, 1) ∧ decode cX9_gap 70 = .ok (.iconst 1, 1) ∧ decode cX9_gap 71 = .ok (.iadd, 1) ∧ decode cX9_gap 72 = .ok (.iaload, 1) ∧ True := zj_of zk_606
abbrev dX9_gap_56 := zr_606.1
abbrev dX9_gap_57 := zr_606.2.1
abbrev dX9_gap_58 := zr_606.2.2.1
abbrev dX9_gap_61 := zr_606.2.2.2.1
abbrev dX9_gap_63 := zr_606.2.2.2.2.1
abbrev dX9_gap_64 := zr_606.2.2.2.2.2.1
abbrev dX9_gap_65 := zr_606.2.2.2.2.2.2.1
abbrev dX9_gap_66 := zr_606.2.2.2.2.2.2.2.1
abbrev dX9_gap_69 := zr_606.2.2.2.2.2.2.2.2.1
abbrev dX9_gap_70 := zr_606.2.2.2.2.2.2.2.2.2.1
abbrev dX9_gap_71 := zr_606.2.2.2.2.2.2.2.2.2.2.1
abbrev dX9_gap_72 := zr_606.2.2.2.2.2.2.2.2.2.2.2.1
set_option maxRecDepth 100000 in
theorem zk_607 : zck 73 (cX9_gap.data.toList.drop 73) [(73, .aload_n 0, 1), (74, .getfield 79, 3), (77, .iload_n 3, 1), (78, .iaload, 1), (79, .isub, 1), (80, .if_icmp .le 8, 3), (83, .iload 4, 2), (85, .goto 4, 3), (88, .iload_n 3, 1), (89, .istore_n 3, 1), (90, .iinc 4 1, 3), (93, .goto (-56), 3)] = true := by decide +kernel
theorem zr_607 : decode cX9_gap 73 = .ok (.aload_n 0, 1) ∧ decode cX9_gap 74 = .ok (.getfield 79, 3) ∧ decode cX9_gap 77 = .ok (.iload_n 3, 1) ∧ decode cX9_gap 78 = .ok (.iaload, 1) ∧ decode cX9_gap 79 = .ok (.isub, 1) ∧ decode cX9_gap 80 = .ok (.if_icmp .le 8, 3) ∧ decode cX9_gap 83 = .ok (.iload 4, 2) ∧ decode cX9_gap 85 = .ok (.goto 4, 3) ∧ decode cX9_gap 88 = .ok (.iload_n 3, 1) ∧ decode cX9_gap 89 = .ok (.istore_n 3, 1) ∧ decode cX9_gap 90 = .ok (.iinc 4 1, 3) ∧ decode cX9_gap 93 = .ok (.goto (-56), 3) ∧ True := zj_of zk_607
abbrev dX9_gap_73 := zr_607.1
abbrev dX9_gap_74 := zr_607.2.1
abbrev dX9_gap_77 := zr_607.2.2.1
abbrev dX9_gap_78 := zr_607.2.2.2.1
abbrev dX9_gap_79 := zr_607.2.2.2.2.1
abbrev dX9_gap_80 := zr_607.2.2.2.2.2.1
abbrev dX9_gap_83 := zr_607.2.2.2.2.2.2.1
abbrev dX9_gap_85 := zr_607.2.2.2.2.2.2.2.1
abbrev dX9_gap_88 := zr_607.2.2.2.2.2.2.2.2.1
abbrev dX9_gap_89 := zr_607.2.2.2.2.2.2.2.2.2.1
abbrev dX9_gap_90 := zr_607.2.2.2.2.2.2.2.2.2.2.1
abbrev dX9_gap_93 := zr_607.2.2.2.2.2.2.2.2.2.2.2.1
set_option maxRecDepth 100000 in
theorem zk_608 : zck 96 (cX9_gap.data.toList.drop 96) [(96, .aload_n 0, 1), (97, .iconst 0, 1), (98, .putfield 11, 3), (101, .aload_n 0, 1), (102, .aload_n 0, 1), (103, .getfield 79, 3), (106, .iload_n 3, 1), (107, .iaload, 1), (108, .i2l, 1), (109, .invokevirtual 142, 3), (112, .aload_n 0, 1), (113, .aload_n 0, 1)] = true := by decide +kernel
theorem zr_608 : decode cX9_gap 96 = .ok (.aload_n 0, 1) ∧ decode cX9_gap 97 = .ok (.iconst 0, 1) ∧ decode cX9_gap 98 = .ok (.putfield 11, 3) ∧ decode cX9_gap 101 = .ok (.aload_n 0, 1) ∧ decode cX9_gap 102 = .ok (.aload_n 0, 1) ∧ decode cX9_gap 103 = .ok (.getfield 79, 3) ∧ decode cX9_gap 106 = .ok (.iload_n 3, 1) ∧ decode cX9_gap 107 = .ok (.iaload, 1) ∧ decode cX9_gap 108 = .ok (.i2l, 1) ∧ decode cX9_gap 109 = .ok (.invokevirtual 142, 3) ∧ decode cX9_gap 112 = .ok (.aload_n 0, 1) ∧ decode cX9_gap 113 = .ok (.aload_n 0, 1) ∧ True := zj_of zk_608
abbrev dX9_gap_96 := zr_608.1
abbrev dX9_gap_97 := zr_608.2.1
abbrev dX9_gap_98 := zr_608.2.2.1
abbrev dX9_gap_101 := zr_608.2.2.2.1
abbrev dX9_gap_102 := zr_608.2.2.2.2.1
abbrev dX9_gap_103 := zr_608.2.2.2.2.2.1
abbrev dX9_gap_106 := zr_608.2.2.2.2.2.2.1
abbrev dX9_gap_107 := zr_608.2.2.2.2.2.2.2.1
abbrev dX9_gap_108 := zr_608.2.2.2.2.2.2.2.2.1
abbrev dX9_gap_109 := zr_608.2.2.2.2.2.2.2.2.2.1
abbrev dX9_gap_112 := zr_608.2.2.2.2.2.2.2.2.2.2.1
abbrev dX9_gap_113 := zr_608.2.2.2.2.2.2.2.2.2.2.2.1
set_option maxRecDepth 100000 in
theorem zk_609 : zck 114 (cX9_gap.data.toList.drop 114) [(114, .getfield 79, 3), (117, .iload_n 3, 1), (118, .iconst 1, 1), (119, .iadd, 1), (120, .iaload, 1), (121, .i2l, 1), (122, .invokevirtual 142, 3), (125, .aload_n 0, 1), (126, .getfield 79, 3), (129, .iload_n 3, 1), (130, .iconst 1, 1), (131, .iadd, 1)] = true := by decide +kernel
theorem zr_609 : decode cX9_gap 114 = .ok (.getfield 79, 3) ∧ decode cX9_gap 117 = .ok (.iload_n 3, 1) ∧ decode cX9_gap 118 = .ok (.iconst 1, 1) ∧ decode cX9_gap 119 = .ok (.iadd, 1) ∧ decode cX9_gap 120 = .ok (.iaload, 1) ∧ decode cX9_gap 121 = .ok (.i2l, 1) ∧ decode cX9_gap 122 = .ok (.invokevirtual 142, 3) ∧ decode cX9_gap 125 = .ok (.aload_n 0, 1) ∧ decode cX9_gap 126 = .ok (.getfield 79, 3) ∧ decode cX9_gap 129 = .ok (.iload_n 3, 1) ∧ decode cX9_gap 130 = .ok (.iconst 1, 1) ∧ decode cX9_gap 131 = .ok (.iadd, 1) ∧ True := zj_of zk_609
abbrev dX9_gap_114 := zr_609.1
abbrev dX9_gap_117 := zr_609.2.1
abbrev dX9_gap_118 := zr_609.2.2.1
abbrev dX9_gap_119 := zr_609.2.2.2.1
abbrev dX9_gap_120 := zr_609.2.2.2.2.1
abbrev dX9_gap_121 := zr_609.2.2.2.2.2.1
abbrev dX9_gap_122 := zr_609.2.2.2.2.2.2.1
abbrev dX9_gap_125 := zr_609.2.2.2.2.2.2.2.1
abbrev dX9_gap_126 := zr_609.2.2.2.2.2.2.2.2.1
abbrev dX9_gap_129 := zr_609.2.2.2.2.2.2.2.2.2.1
abbrev dX9_gap_130 := zr_609.2.2.2.2.2.2.2.2.2.2.1
abbrev dX9_gap_131 := zr_609.2.2.2.2.2.2.2.2.2.2.2.1
set_option maxRecDepth 100000 in
theorem zk_610 : zck 132 (cX9_gap.data.toList.drop 132) [(132, .iaload, 1), (133, .aload_n 0, 1), (134, .getfield 79, 3), (137, .iload_n 3, 1), (138, .iaload, 1), (139, .isub, 1), (140, .ireturn, 1)] = true := by decide +kernel
theorem zr_610 : decode cX9_gap 132 = .ok (.iaload, 1) ∧ decode cX9_gap 133 = .ok (.aload_n 0, 1) ∧ decode cX9_gap 134 = .ok (.getfield 79, 3) ∧ decode cX9_gap 137 = .ok (.iload_n 3, 1) ∧ decode cX9_gap 138 = .ok (.iaload, 1) ∧ decode cX9_gap 139 = .ok (.isub, 1) ∧ decode cX9_gap 140 = .ok (.ireturn, 1) ∧ True := zj_of zk_610
abbrev dX9_gap_132 := zr_610.1
abbrev dX9_gap_133 := zr_610.2.1
abbrev dX9_gap_134 := zr_610.2.2.1
abbrev dX9_gap_137 := zr_610.2.2.2.1
abbrev dX9_gap_138 := zr_610.2.2.2.2.1
abbrev dX9_gap_139 := zr_610.2.2.2.2.2.1
abbrev dX9_gap_140 := zr_610.2.2.2.2.2.2.1
set_option maxRecDepth 100000 in
theorem zk_611 : zck 0 (cX9_narrow.data.toList.drop 0) [(0, .aload_n 0, 1), (1, .iconst 0, 1), (2, .putfield 1, 3), (5, .iload_n 1, 1), (6, .invokestatic 129, 3), (9, .ifCond .eq 15, 3), (12, .iload_n 2, 1), (13, .i2l, 1), (14, .lconst 1, 1), (15, .ldc2_w 202, 3), (18, .invokestatic 21, 3), (21, .ifCond .ne 5, 3)] = true := by decide +kernel
theorem zr_611 : decode cX9_narrow 0 = .ok (.aload_n 0, 1) ∧ decode cX9_narrow 1 = .ok (.iconst 0, 1) ∧ decode cX9_narrow 2 = .ok (.putfield 1, 3) ∧ decode cX9_narrow 5 = .ok (.iload_n 1, 1) ∧ decode cX9_narrow 6 = .ok (.invokestatic 129, 3) ∧ decode cX9_narrow 9 = .ok (.ifCond .eq 15, 3) ∧ decode cX9_narrow 12 = .ok (.iload_n 2, 1) ∧ decode cX9_narrow 13 = .ok (.i2l, 1) ∧ decode cX9_narrow 14 = .ok (.lconst 1, 1) ∧ decode cX9_narrow 15 = .ok (.ldc2_w 202, 3) ∧ decode cX9_narrow 18 = .ok (.invokestatic 21, 3) ∧ decode cX9_narrow 21 = .ok (.ifCond .ne 5, 3) ∧ True := zj_of zk_611
abbrev dX9_narrow_0 := zr_611.1
abbrev dX9_narrow_1 := zr_611.2.1
abbrev dX9_narrow_2 := zr_611.2.2.1
abbrev dX9_narrow_5 := zr_611.2.2.2.1
abbrev dX9_narrow_6 := zr_611.2.2.2.2.1
abbrev dX9_narrow_9 := zr_611.2.2.2.2.2.1
abbrev dX9_narrow_12 := zr_611.2.2.2.2.2.2.1
abbrev dX9_narrow_13 := zr_611.2.2.2.2.2.2.2.1
abbrev dX9_narrow_14 := zr_611.2.2.2.2.2.2.2.2.1
abbrev dX9_narrow_15 := zr_611.2.2.2.2.2.2.2.2.2.1
abbrev dX9_narrow_18 := zr_611.2.2.2.2.2.2.2.2.2.2.1
abbrev dX9_narrow_21 := zr_611.2.2.2.2.2.2.2.2.2.2.2.1
set_option maxRecDepth 100000 in
theorem zk_612 : zck 24 (cX9_narrow.data.toList.drop 24) [(24, .iconst (-1), 1), (25, .ireturn, 1), (26, .iconst (-1), 1), (27, .istore_n 3, 1), (28, .iconst 0, 1), (29, .istore 4, 2), (31, .iconst 0, 1), (32, .istore 5, 2), (34, .iconst 0, 1), (35, .istore 6, 2), (37, .iload 6, 2), (39, .aload_n 0, 1)] = true := by decide +kernel
theorem zr_612 : decode cX9_narrow 24 = .ok (.iconst (-1), 1) ∧ decode cX9_narrow 25 = .ok (.ireturn, 1) ∧ decode cX9_narrow 26 = .ok (.iconst (-1), 1) ∧ decode cX9_narrow 27 = .ok (.istore_n 3, 1) ∧ decode cX9_narrow 28 = .ok (.iconst 0, 1) ∧ decode cX9_narrow 29 = .ok (.istore 4, 2) ∧ decode cX9_narrow 31 = .ok (.iconst 0, 1) ∧ decode cX9_narrow 32 = .ok (.istore 5, 2) ∧ decode cX9_narrow 34 = .ok (.iconst 0, 1) ∧ decode cX9_narrow 35 = .ok (.istore 6, 2) ∧ decode cX9_narrow 37 = .ok (.iload 6, 2) ∧ decode cX9_narrow 39 = .ok (.aload_n 0, 1) ∧ True := zj_of zk_612
abbrev dX9_narrow_24 := zr_612.1
abbrev dX9_narrow_25 := zr_612.2.1
abbrev dX9_narrow_26 := zr_612.2.2.1
abbrev dX9_narrow_27 := zr_612.2.2.2.1
abbrev dX9_narrow_28 := zr_612.2.2.2.2.1
abbrev dX9_narrow_29 := zr_612.2.2.2.2.2.1
abbrev dX9_narrow_31 := zr_612.2.2.2.2.2.2.1
abbrev dX9_narrow_32 := zr_612.2.2.2.2.2.2.2.1
abbrev dX9_narrow_34 := zr_612.2.2.2.2.2.2.2.2.1
abbrev dX9_narrow_35 := zr_612.2.2.2.2.2.2.2.2.2.1
abbrev dX9_narrow_37 := zr_612.2.2.2.2.2.2.2.2.2.2.1
abbrev dX9_narrow_39 := zr_612.2.2.2.2.2.2.2.2.2.2.2.1
set_option maxRecDepth 100000 in
theorem zk_613 : zck 40 (cX9_narrow.data.toList.drop 40) [(40, .getfield 88, 3), (43, .if_icmp .ge 158, 3), (46, .iload 6, 2), (48, .istore 7, 2), (50, .iconst 0, 1), (51, .istore 8, 2), (53, .iload 7, 2), (55, .aload_n 0, 1), (56, .getfield 88, 3), (59, .if_icmp .ge 39, 3), (62, .iload 8, 2), (64, .iload_n 2, 1)] = true := by decide +kernel
theorem zr_613 : decode cX9_narrow 40 = .ok (.getfield 88, 3) ∧ decode cX9_narrow 43 = .ok (.if_icmp .ge 158, 3) ∧ decode cX9_narrow 46 = .ok (.iload 6, 2) ∧ decode cX9_narrow 48 = .ok (.istore 7, 2) ∧ decode cX9_narrow 50 = .ok (.iconst 0, 1) ∧ decode cX9_narrow 51 = .ok (.istore 8, 2) ∧ decode cX9_narrow 53 = .ok (.iload 7, 2) ∧ decode cX9_narrow 55 = .ok (.aload_n 0, 1) ∧ decode cX9_narrow 56 = .ok (.getfield 88, 3) ∧ decode cX9_narrow 59 = .ok (.if_icmp .ge 39, 3) ∧ decode cX9_narrow 62 = .ok (.iload 8, 2) ∧ decode cX9_narrow 64 = .ok (.iload_n 2, 1) ∧ True := zj_of zk_613
abbrev dX9_narrow_40 := zr_613.1
abbrev dX9_narrow_43 := zr_613.2.1
abbrev dX9_narrow_46 := zr_613.2.2.1
abbrev dX9_narrow_48 := zr_613.2.2.2.1
abbrev dX9_narrow_50 := zr_613.2.2.2.2.1
abbrev dX9_narrow_51 := zr_613.2.2.2.2.2.1
abbrev dX9_narrow_53 := zr_613.2.2.2.2.2.2.1
abbrev dX9_narrow_55 := zr_613.2.2.2.2.2.2.2.1
abbrev dX9_narrow_56 := zr_613.2.2.2.2.2.2.2.2.1
abbrev dX9_narrow_59 := zr_613.2.2.2.2.2.2.2.2.2.1
abbrev dX9_narrow_62 := zr_613.2.2.2.2.2.2.2.2.2.2.1
abbrev dX9_narrow_64 := zr_613.2.2.2.2.2.2.2.2.2.2.2.1
set_option maxRecDepth 100000 in
theorem zk_614 : zck 65 (cX9_narrow.data.toList.drop 65) [(65, .if_icmp .ge 33, 3), (68, .iload 8, 2), (70, .aload_n 0, 1), (71, .getfield 49, 3), (74, .iload 7, 2), (76, .iaload, 1), (77, .iload_n 1, 1), (78, .if_icmp .ne 7, 3), (81, .iconst 1, 1), (82, .goto 4, 3), (85, .iconst 0, 1), (86, .invokestatic 31, 3)] = true := by decide +kernel
theorem zr_614 : decode cX9_narrow 65 = .ok (.if_icmp .ge 33, 3) ∧ decode cX9_narrow 68 = .ok (.iload 8, 2) ∧ decode cX9_narrow 70 = .ok (.aload_n 0, 1) ∧ decode cX9_narrow 71 = .ok (.getfield 49, 3) ∧ decode cX9_narrow 74 = .ok (.iload 7, 2) ∧ decode cX9_narrow 76 = .ok (.iaload, 1) ∧ decode cX9_narrow 77 = .ok (.iload_n 1, 1) ∧ decode cX9_narrow 78 = .ok (.if_icmp .ne 7, 3) ∧ decode cX9_narrow 81 = .ok (.iconst 1, 1) ∧ decode cX9_narrow 82 = .ok (.goto 4, 3) ∧ decode cX9_narrow 85 = .ok (.iconst 0, 1) ∧ decode cX9_narrow 86 = .ok (.invokestatic 31, 3) ∧ True := zj_of zk_614
abbrev dX9_narrow_65 := zr_614.1
abbrev dX9_narrow_68 := zr_614.2.1
abbrev dX9_narrow_70 := zr_614.2.2.1
abbrev dX9_narrow_71 := zr_614.2.2.2.1
abbrev dX9_narrow_74 := zr_614.2.2.2.2.1
abbrev dX9_narrow_76 := zr_614.2.2.2.2.2.1
abbrev dX9_narrow_77 := zr_614.2.2.2.2.2.2.1
abbrev dX9_narrow_78 := zr_614.2.2.2.2.2.2.2.1
abbrev dX9_narrow_81 := zr_614.2.2.2.2.2.2.2.2.1
abbrev dX9_narrow_82 := zr_614.2.2.2.2.2.2.2.2.2.1
abbrev dX9_narrow_85 := zr_614.2.2.2.2.2.2.2.2.2.2.1
abbrev dX9_narrow_86 := zr_614.2.2.2.2.2.2.2.2.2.2.2.1
set_option maxRecDepth 100000 in
theorem zk_615 : zck 89 (cX9_narrow.data.toList.drop 89) [(89, .iadd, 1), (90, .istore 8, 2), (92, .iinc 7 1, 3), (95, .goto (-42), 3), (98, .iload 8, 2), (100, .iload_n 2, 1), (101, .if_icmp .ne 94, 3), (104, .aload_n 0, 1), (105, .getfield 49, 3), (108, .iload 6, 2), (110, .iaload, 1), (111, .iload_n 1, 1)] = true := by decide +kernel
theorem zr_615 : decode cX9_narrow 89 = .ok (.iadd, 1) ∧ decode cX9_narrow 90 = .ok (.istore 8, 2) ∧ decode cX9_narrow 92 = .ok (.iinc 7 1, 3) ∧ decode cX9_narrow 95 = .ok (.goto (-42), 3) ∧ decode cX9_narrow 98 = .ok (.iload 8, 2) ∧ decode cX9_narrow 100 = .ok (.iload_n 2, 1) ∧ decode cX9_narrow 101 = .ok (.if_icmp .ne 94, 3) ∧ decode cX9_narrow 104 = .ok (.aload_n 0, 1) ∧ decode cX9_narrow 105 = .ok (.getfield 49, 3) ∧ decode cX9_narrow 108 = .ok (.iload 6, 2) ∧ decode cX9_narrow 110 = .ok (.iaload, 1) ∧ decode cX9_narrow 111 = .ok (.iload_n 1, 1) ∧ True := zj_of zk_615
abbrev dX9_narrow_89 := zr_615.1
abbrev dX9_narrow_90 := zr_615.2.1
abbrev dX9_narrow_92 := zr_615.2.2.1
abbrev dX9_narrow_95 := zr_615.2.2.2.1
abbrev dX9_narrow_98 := zr_615.2.2.2.2.1
abbrev dX9_narrow_100 := zr_615.2.2.2.2.2.1
abbrev dX9_narrow_101 := zr_615.2.2.2.2.2.2.1
abbrev dX9_narrow_104 := zr_615.2.2.2.2.2.2.2.1
abbrev dX9_narrow_105 := zr_615.2.2.2.2.2.2.2.2.1
abbrev dX9_narrow_108 := zr_615.2.2.2.2.2.2.2.2.2.1
abbrev dX9_narrow_110 := zr_615.2.2.2.2.2.2.2.2.2.2.1
abbrev dX9_narrow_111 := zr_615.2.2.2.2.2.2.2.2.2.2.2.1
set_option maxRecDepth 100000 in
theorem zk_616 : zck 112 (cX9_narrow.data.toList.drop 112) [(112, .if_icmp .ne 83, 3), (115, .iload_n 3, 1), (116, .ifCond .lt 12, 3), (119, .iload 7, 2), (121, .iload 6, 2), (123, .isub, 1), (124, .iload_n 3, 1), (125, .if_icmp .ge 7, 3), (128, .iconst 1, 1), (129, .goto 4, 3), (132, .iconst 0, 1), (133, .istore 9, 2)] = true := by decide +kernel
theorem zr_616 : decode cX9_narrow 112 = .ok (.if_icmp .ne 83, 3) ∧ decode cX9_narrow 115 = .ok (.iload_n 3, 1) ∧ decode cX9_narrow 116 = .ok (.ifCond .lt 12, 3) ∧ decode cX9_narrow 119 = .ok (.iload 7, 2) ∧ decode cX9_narrow 121 = .ok (.iload 6, 2) ∧ decode cX9_narrow 123 = .ok (.isub, 1) ∧ decode cX9_narrow 124 = .ok (.iload_n 3, 1) ∧ decode cX9_narrow 125 = .ok (.if_icmp .ge 7, 3) ∧ decode cX9_narrow 128 = .ok (.iconst 1, 1) ∧ decode cX9_narrow 129 = .ok (.goto 4, 3) ∧ decode cX9_narrow 132 = .ok (.iconst 0, 1) ∧ decode cX9_narrow 133 = .ok (.istore 9, 2) ∧ True := zj_of zk_616
abbrev dX9_narrow_112 := zr_616.1
abbrev dX9_narrow_115 := zr_616.2.1
abbrev dX9_narrow_116 := zr_616.2.2.1
abbrev dX9_narrow_119 := zr_616.2.2.2.1
abbrev dX9_narrow_121 := zr_616.2.2.2.2.1
abbrev dX9_narrow_123 := zr_616.2.2.2.2.2.1
abbrev dX9_narrow_124 := zr_616.2.2.2.2.2.2.1
abbrev dX9_narrow_125 := zr_616.2.2.2.2.2.2.2.1
abbrev dX9_narrow_128 := zr_616.2.2.2.2.2.2.2.2.1
abbrev dX9_narrow_129 := zr_616.2.2.2.2.2.2.2.2.2.1
abbrev dX9_narrow_132 := zr_616.2.2.2.2.2.2.2.2.2.2.1
abbrev dX9_narrow_133 := zr_616.2.2.2.2.2.2.2.2.2.2.2.1
set_option maxRecDepth 100000 in
theorem zk_617 : zck 135 (cX9_narrow.data.toList.drop 135) [(135, .iload 9, 2), (137, .ifCond .eq 8, 3), (140, .iload 6, 2), (142, .goto 5, 3), (145, .iload 4, 2), (147, .istore 4, 2), (149, .iload 9, 2), (151, .ifCond .eq 7, 3), (154, .iconst 1, 1), (155, .goto 23, 3), (158, .iload 5, 2), (160, .iload 7, 2)] = true := by decide +kernel
theorem zr_617 : decode cX9_narrow 135 = .ok (.iload 9, 2) ∧ decode cX9_narrow 137 = .ok (.ifCond .eq 8, 3) ∧ decode cX9_narrow 140 = .ok (.iload 6, 2) ∧ decode cX9_narrow 142 = .ok (.goto 5, 3) ∧ decode cX9_narrow 145 = .ok (.iload 4, 2) ∧ decode cX9_narrow 147 = .ok (.istore 4, 2) ∧ decode cX9_narrow 149 = .ok (.iload 9, 2) ∧ decode cX9_narrow 151 = .ok (.ifCond .eq 7, 3) ∧ decode cX9_narrow 154 = .ok (.iconst 1, 1) ∧ decode cX9_narrow 155 = .ok (.goto 23, 3) ∧ decode cX9_narrow 158 = .ok (.iload 5, 2) ∧ decode cX9_narrow 160 = .ok (.iload 7, 2) ∧ True := zj_of zk_617
abbrev dX9_narrow_135 := zr_617.1
abbrev dX9_narrow_137 := zr_617.2.1
abbrev dX9_narrow_140 := zr_617.2.2.1
abbrev dX9_narrow_142 := zr_617.2.2.2.1
abbrev dX9_narrow_145 := zr_617.2.2.2.2.1
abbrev dX9_narrow_147 := zr_617.2.2.2.2.2.1
abbrev dX9_narrow_149 := zr_617.2.2.2.2.2.2.1
abbrev dX9_narrow_151 := zr_617.2.2.2.2.2.2.2.1
abbrev dX9_narrow_154 := zr_617.2.2.2.2.2.2.2.2.1
abbrev dX9_narrow_155 := zr_617.2.2.2.2.2.2.2.2.2.1
abbrev dX9_narrow_158 := zr_617.2.2.2.2.2.2.2.2.2.2.1
abbrev dX9_narrow_160 := zr_617.2.2.2.2.2.2.2.2.2.2.2.1
set_option maxRecDepth 100000 in
theorem zk_618 : zck 162 (cX9_narrow.data.toList.drop 162) [(162, .iload 6, 2), (164, .isub, 1), (165, .iload_n 3, 1), (166, .if_icmp .ne 7, 3), (169, .iconst 1, 1), (170, .goto 4, 3), (173, .iconst 0, 1), (174, .invokestatic 31, 3), (177, .iadd, 1), (178, .istore 5, 2), (180, .iload 9, 2), (182, .ifCond .eq 11, 3)] = true := by decide +kernel
theorem zr_618 : decode cX9_narrow 162 = .ok (.iload 6, 2) ∧ decode cX9_narrow 164 = .ok (.isub, 1) ∧ decode cX9_narrow 165 = .ok (.iload_n 3, 1) ∧ decode cX9_narrow 166 = .ok (.if_icmp .ne 7, 3) ∧ decode cX9_narrow 169 = .ok (.iconst 1, 1) ∧ decode cX9_narrow 170 = .ok (.goto 4, 3) ∧ decode cX9_narrow 173 = .ok (.iconst 0, 1) ∧ decode cX9_narrow 174 = .ok (.invokestatic 31, 3) ∧ decode cX9_narrow 177 = .ok (.iadd, 1) ∧ decode cX9_narrow 178 = .ok (.istore 5, 2) ∧ decode cX9_narrow 180 = .ok (.iload 9, 2) ∧ decode cX9_narrow 182 = .ok (.ifCond .eq 11, 3) ∧ True := zj_of zk_618
abbrev dX9_narrow_162 := zr_618.1
abbrev dX9_narrow_164 := zr_618.2.1
abbrev dX9_narrow_165 := zr_618.2.2.1
abbrev dX9_narrow_166 := zr_618.2.2.2.1
abbrev dX9_narrow_169 := zr_618.2.2.2.2.1
abbrev dX9_narrow_170 := zr_618.2.2.2.2.2.1
abbrev dX9_narrow_173 := zr_618.2.2.2.2.2.2.1
abbrev dX9_narrow_174 := zr_618.2.2.2.2.2.2.2.1
abbrev dX9_narrow_177 := zr_618.2.2.2.2.2.2.2.2.1
abbrev dX9_narrow_178 := zr_618.2.2.2.2.2.2.2.2.2.1
abbrev dX9_narrow_180 := zr_618.2.2.2.2.2.2.2.2.2.2.1
abbrev dX9_narrow_182 := zr_618.2.2.2.2.2.2.2.2.2.2.2.1
set_option maxRecDepth 100000 in
theorem zk_619 : zck 185 (cX9_narrow.data.toList.drop 185) [(185, .iload 7, 2), (187, .iload 6, 2), (189, .isub, 1), (190, .goto 4, 3), (193, .iload_n 3, 1), (194, .istore_n 3, 1), (195, .iinc 6 1, 3), (198, .goto (-161), 3), (201, .iload_n 3, 1), (202, .ifCond .ge 6, 3), (205, .bipush (-2), 2), (207, .ireturn, 1)] = true := by decide +kernel
theorem zr_619 : decode cX9_narrow 185 = .ok (.iload 7, 2) ∧ decode cX9_narrow 187 = .ok (.iload 6, 2) ∧ decode cX9_narrow 189 = .ok (.isub, 1) ∧ decode cX9_narrow 190 = .ok (.goto 4, 3) ∧ decode cX9_narrow 193 = .ok (.iload_n 3, 1) ∧ decode cX9_narrow 194 = .ok (.istore_n 3, 1) ∧ decode cX9_narrow 195 = .ok (.iinc 6 1, 3) ∧ decode cX9_narrow 198 = .ok (.goto (-161), 3) ∧ decode cX9_narrow 201 = .ok (.iload_n 3, 1) ∧ decode cX9_narrow 202 = .ok (.ifCond .ge 6, 3) ∧ decode cX9_narrow 205 = .ok (.bipush (-2), 2) ∧ decode cX9_narrow 207 = .ok (.ireturn, 1) ∧ True := zj_of zk_619
abbrev dX9_narrow_185 := zr_619.1
abbrev dX9_narrow_187 := zr_619.2.1
abbrev dX9_narrow_189 := zr_619.2.2.1
abbrev dX9_narrow_190 := zr_619.2.2.2.1
abbrev dX9_narrow_193 := zr_619.2.2.2.2.1
abbrev dX9_narrow_194 := zr_619.2.2.2.2.2.1
abbrev dX9_narrow_195 := zr_619.2.2.2.2.2.2.1
abbrev dX9_narrow_198 := zr_619.2.2.2.2.2.2.2.1
abbrev dX9_narrow_201 := zr_619.2.2.2.2.2.2.2.2.1
abbrev dX9_narrow_202 := zr_619.2.2.2.2.2.2.2.2.2.1
abbrev dX9_narrow_205 := zr_619.2.2.2.2.2.2.2.2.2.2.1
abbrev dX9_narrow_207 := zr_619.2.2.2.2.2.2.2.2.2.2.2.1
set_option maxRecDepth 100000 in
theorem zk_620 : zck 208 (cX9_narrow.data.toList.drop 208) [(208, .aload_n 0, 1), (209, .iconst 0, 1), (210, .putfield 11, 3), (213, .aload_n 0, 1), (214, .iload 4, 2), (216, .i2l, 1), (217, .invokevirtual 142, 3), (220, .aload_n 0, 1), (221, .iload 4, 2), (223, .iload_n 3, 1), (224, .iadd, 1), (225, .i2l, 1)] = true := by decide +kernel
theorem zr_620 : decode cX9_narrow 208 = .ok (.aload_n 0, 1) ∧ decode cX9_narrow 209 = .ok (.iconst 0, 1) ∧ decode cX9_narrow 210 = .ok (.putfield 11, 3) ∧ decode cX9_narrow 213 = .ok (.aload_n 0, 1) ∧ decode cX9_narrow 214 = .ok (.iload 4, 2) ∧ decode cX9_narrow 216 = .ok (.i2l, 1) ∧ decode cX9_narrow 217 = .ok (.invokevirtual 142, 3) ∧ decode cX9_narrow 220 = .ok (.aload_n 0, 1) ∧ decode cX9_narrow 221 = .ok (.iload 4, 2) ∧ decode cX9_narrow 223 = .ok (.iload_n 3, 1) ∧ decode cX9_narrow 224 = .ok (.iadd, 1) ∧ decode cX9_narrow 225 = .ok (.i2l, 1) ∧ True := zj_of zk_620
abbrev dX9_narrow_208 := zr_620.1
abbrev dX9_narrow_209 := zr_620.2.1
abbrev dX9_narrow_210 := zr_620.2.2.1
abbrev dX9_narrow_213 := zr_620.2.2.2.1
abbrev dX9_narrow_214 := zr_620.2.2.2.2.1
abbrev dX9_narrow_216 := zr_620.2.2.2.2.2.1
abbrev dX9_narrow_217 := zr_620.2.2.2.2.2.2.1
abbrev dX9_narrow_220 := zr_620.2.2.2.2.2.2.2.1
abbrev dX9_narrow_221 := zr_620.2.2.2.2.2.2.2.2.1
abbrev dX9_narrow_223 := zr_620.2.2.2.2.2.2.2.2.2.1
abbrev dX9_narrow_224 := zr_620.2.2.2.2.2.2.2.2.2.2.1
abbrev dX9_narrow_225 := zr_620.2.2.2.2.2.2.2.2.2.2.2.1
set_option maxRecDepth 100000 in
theorem zk_621 : zck 226 (cX9_narrow.data.toList.drop 226) [(226, .invokevirtual 142, 3), (229, .aload_n 0, 1), (230, .iload 5, 2), (232, .i2l, 1), (233, .invokevirtual 142, 3), (236, .iload_n 3, 1), (237, .ireturn, 1)] = true := by decide +kernel
theorem zr_621 : decode cX9_narrow 226 = .ok (.invokevirtual 142, 3) ∧ decode cX9_narrow 229 = .ok (.aload_n 0, 1) ∧ decode cX9_narrow 230 = .ok (.iload 5, 2) ∧ decode cX9_narrow 232 = .ok (.i2l, 1) ∧ decode cX9_narrow 233 = .ok (.invokevirtual 142, 3) ∧ decode cX9_narrow 236 = .ok (.iload_n 3, 1) ∧ decode cX9_narrow 237 = .ok (.ireturn, 1) ∧ True := zj_of zk_621
abbrev dX9_narrow_226 := zr_621.1
abbrev dX9_narrow_229 := zr_621.2.1
abbrev dX9_narrow_230 := zr_621.2.2.1
abbrev dX9_narrow_232 := zr_621.2.2.2.1
abbrev dX9_narrow_233 := zr_621.2.2.2.2.1
abbrev dX9_narrow_236 := zr_621.2.2.2.2.2.1
abbrev dX9_narrow_237 := zr_621.2.2.2.2.2.2.1
set_option maxRecDepth 100000 in
theorem zk_622 : zck 0 (cX9_lone.data.toList.drop 0) [(0, .aload_n 0, 1), (1, .iconst 0, 1), (2, .putfield 1, 3), (5, .aload_n 0, 1), (6, .iload_n 1, 1), (7, .iload_n 2, 1), (8, .invokevirtual 150, 3), (11, .ifCond .ne 5, 3), (14, .iconst (-1), 1), (15, .ireturn, 1), (16, .aload_n 0, 1), (17, .iconst 0, 1)] = true := by decide +kernel
theorem zr_622 : decode cX9_lone 0 = .ok (.aload_n 0, 1) ∧ decode cX9_lone 1 = .ok (.iconst 0, 1) ∧ decode cX9_lone 2 = .ok (.putfield 1, 3) ∧ decode cX9_lone 5 = .ok (.aload_n 0, 1) ∧ decode cX9_lone 6 = .ok (.iload_n 1, 1) ∧ decode cX9_lone 7 = .ok (.iload_n 2, 1) ∧ decode cX9_lone 8 = .ok (.invokevirtual 150, 3) ∧ decode cX9_lone 11 = .ok (.ifCond .ne 5, 3) ∧ decode cX9_lone 14 = .ok (.iconst (-1), 1) ∧ decode cX9_lone 15 = .ok (.ireturn, 1) ∧ decode cX9_lone 16 = .ok (.aload_n 0, 1) ∧ decode cX9_lone 17 = .ok (.iconst 0, 1) ∧ True := zj_of zk_622
abbrev dX9_lone_0 := zr_622.1
abbrev dX9_lone_1 := zr_622.2.1
abbrev dX9_lone_2 := zr_622.2.2.1
abbrev dX9_lone_5 := zr_622.2.2.2.1
abbrev dX9_lone_6 := zr_622.2.2.2.2.1
abbrev dX9_lone_7 := zr_622.2.2.2.2.2.1
abbrev dX9_lone_8 := zr_622.2.2.2.2.2.2.1
abbrev dX9_lone_11 := zr_622.2.2.2.2.2.2.2.1
abbrev dX9_lone_14 := zr_622.2.2.2.2.2.2.2.2.1
abbrev dX9_lone_15 := zr_622.2.2.2.2.2.2.2.2.2.1
abbrev dX9_lone_16 := zr_622.2.2.2.2.2.2.2.2.2.2.1
abbrev dX9_lone_17 := zr_622.2.2.2.2.2.2.2.2.2.2.2.1
set_option maxRecDepth 100000 in
theorem zk_623 : zck 18 (cX9_lone.data.toList.drop 18) [(18, .iload_n 1, 1), (19, .iload_n 2, 1), (20, .invokevirtual 169, 3), (23, .iconst 0, 1), (24, .istore_n 3, 1), (25, .iconst (-1), 1), (26, .istore 4, 2), (28, .iconst (-1), 1), (29, .istore 5, 2), (31, .iconst 0, 1), (32, .istore 6, 2), (34, .iload 6, 2)] = true := by decide +kernel
theorem zr_623 : decode cX9_lone 18 = .ok (.iload_n 1, 1) ∧ decode cX9_lone 19 = .ok (.iload_n 2, 1) ∧ decode cX9_lone 20 = .ok (.invokevirtual 169, 3) ∧ decode cX9_lone 23 = .ok (.iconst 0, 1) ∧ decode cX9_lone 24 = .ok (.istore_n 3, 1) ∧ decode cX9_lone 25 = .ok (.iconst (-1), 1) ∧ decode cX9_lone 26 = .ok (.istore 4, 2) ∧ decode cX9_lone 28 = .ok (.iconst (-1), 1) ∧ decode cX9_lone 29 = .ok (.istore 5, 2) ∧ decode cX9_lone 31 = .ok (.iconst 0, 1) ∧ decode cX9_lone 32 = .ok (.istore 6, 2) ∧ decode cX9_lone 34 = .ok (.iload 6, 2) ∧ True := zj_of zk_623
abbrev dX9_lone_18 := zr_623.1
abbrev dX9_lone_19 := zr_623.2.1
abbrev dX9_lone_20 := zr_623.2.2.1
abbrev dX9_lone_23 := zr_623.2.2.2.1
abbrev dX9_lone_24 := zr_623.2.2.2.2.1
abbrev dX9_lone_25 := zr_623.2.2.2.2.2.1
abbrev dX9_lone_26 := zr_623.2.2.2.2.2.2.1
abbrev dX9_lone_28 := zr_623.2.2.2.2.2.2.2.1
abbrev dX9_lone_29 := zr_623.2.2.2.2.2.2.2.2.1
abbrev dX9_lone_31 := zr_623.2.2.2.2.2.2.2.2.2.1
abbrev dX9_lone_32 := zr_623.2.2.2.2.2.2.2.2.2.2.1
abbrev dX9_lone_34 := zr_623.2.2.2.2.2.2.2.2.2.2.2.1
set_option maxRecDepth 100000 in
theorem zk_624 : zck 36 (cX9_lone.data.toList.drop 36) [(36, .sipush 256, 3), (39, .if_icmp .ge 40, 3), (42, .aload_n 0, 1), (43, .iconst 0, 1), (44, .iload 6, 2), (46, .invokevirtual 175, 3), (49, .iconst 1, 1), (50, .if_icmp .ne 23, 3), (53, .iload_n 3, 1), (54, .ifCond .ne 8, 3), (57, .iload 6, 2), (59, .goto 5, 3)] = true := by decide +kernel
theorem zr_624 : decode cX9_lone 36 = .ok (.sipush 256, 3) ∧ decode cX9_lone 39 = .ok (.if_icmp .ge 40, 3) ∧ decode cX9_lone 42 = .ok (.aload_n 0, 1) ∧ decode cX9_lone 43 = .ok (.iconst 0, 1) ∧ decode cX9_lone 44 = .ok (.iload 6, 2) ∧ decode cX9_lone 46 = .ok (.invokevirtual 175, 3) ∧ decode cX9_lone 49 = .ok (.iconst 1, 1) ∧ decode cX9_lone 50 = .ok (.if_icmp .ne 23, 3) ∧ decode cX9_lone 53 = .ok (.iload_n 3, 1) ∧ decode cX9_lone 54 = .ok (.ifCond .ne 8, 3) ∧ decode cX9_lone 57 = .ok (.iload 6, 2) ∧ decode cX9_lone 59 = .ok (.goto 5, 3) ∧ True := zj_of zk_624
abbrev dX9_lone_36 := zr_624.1
abbrev dX9_lone_39 := zr_624.2.1
abbrev dX9_lone_42 := zr_624.2.2.1
abbrev dX9_lone_43 := zr_624.2.2.2.1
abbrev dX9_lone_44 := zr_624.2.2.2.2.1
abbrev dX9_lone_46 := zr_624.2.2.2.2.2.1
abbrev dX9_lone_49 := zr_624.2.2.2.2.2.2.1
abbrev dX9_lone_50 := zr_624.2.2.2.2.2.2.2.1
abbrev dX9_lone_53 := zr_624.2.2.2.2.2.2.2.2.1
abbrev dX9_lone_54 := zr_624.2.2.2.2.2.2.2.2.2.1
abbrev dX9_lone_57 := zr_624.2.2.2.2.2.2.2.2.2.2.1
abbrev dX9_lone_59 := zr_624.2.2.2.2.2.2.2.2.2.2.2.1
set_option maxRecDepth 100000 in
theorem zk_625 : zck 62 (cX9_lone.data.toList.drop 62) [(62, .iload 4, 2), (64, .istore 4, 2), (66, .iload 6, 2), (68, .istore 5, 2), (70, .iinc 3 1, 3), (73, .iinc 6 1, 3), (76, .goto (-42), 3), (79, .aload_n 0, 1), (80, .iconst 0, 1), (81, .putfield 11, 3), (84, .aload_n 0, 1), (85, .iload 4, 2)] = true := by decide +kernel
theorem zr_625 : decode cX9_lone 62 = .ok (.iload 4, 2) ∧ decode cX9_lone 64 = .ok (.istore 4, 2) ∧ decode cX9_lone 66 = .ok (.iload 6, 2) ∧ decode cX9_lone 68 = .ok (.istore 5, 2) ∧ decode cX9_lone 70 = .ok (.iinc 3 1, 3) ∧ decode cX9_lone 73 = .ok (.iinc 6 1, 3) ∧ decode cX9_lone 76 = .ok (.goto (-42), 3) ∧ decode cX9_lone 79 = .ok (.aload_n 0, 1) ∧ decode cX9_lone 80 = .ok (.iconst 0, 1) ∧ decode cX9_lone 81 = .ok (.putfield 11, 3) ∧ decode cX9_lone 84 = .ok (.aload_n 0, 1) ∧ decode cX9_lone 85 = .ok (.iload 4, 2) ∧ True := zj_of zk_625
abbrev dX9_lone_62 := zr_625.1
abbrev dX9_lone_64 := zr_625.2.1
abbrev dX9_lone_66 := zr_625.2.2.1
abbrev dX9_lone_68 := zr_625.2.2.2.1
abbrev dX9_lone_70 := zr_625.2.2.2.2.1
abbrev dX9_lone_73 := zr_625.2.2.2.2.2.1
abbrev dX9_lone_76 := zr_625.2.2.2.2.2.2.1
abbrev dX9_lone_79 := zr_625.2.2.2.2.2.2.2.1
abbrev dX9_lone_80 := zr_625.2.2.2.2.2.2.2.2.1
abbrev dX9_lone_81 := zr_625.2.2.2.2.2.2.2.2.2.1
abbrev dX9_lone_84 := zr_625.2.2.2.2.2.2.2.2.2.2.1
abbrev dX9_lone_85 := zr_625.2.2.2.2.2.2.2.2.2.2.2.1
set_option maxRecDepth 100000 in
theorem zk_626 : zck 87 (cX9_lone.data.toList.drop 87) [(87, .i2l, 1), (88, .invokevirtual 142, 3), (91, .aload_n 0, 1), (92, .iload 5, 2), (94, .i2l, 1), (95, .invokevirtual 142, 3), (98, .iload_n 3, 1), (99, .ireturn, 1)] = true := by decide +kernel
theorem zr_626 : decode cX9_lone 87 = .ok (.i2l, 1) ∧ decode cX9_lone 88 = .ok (.invokevirtual 142, 3) ∧ decode cX9_lone 91 = .ok (.aload_n 0, 1) ∧ decode cX9_lone 92 = .ok (.iload 5, 2) ∧ decode cX9_lone 94 = .ok (.i2l, 1) ∧ decode cX9_lone 95 = .ok (.invokevirtual 142, 3) ∧ decode cX9_lone 98 = .ok (.iload_n 3, 1) ∧ decode cX9_lone 99 = .ok (.ireturn, 1) ∧ True := zj_of zk_626
abbrev dX9_lone_87 := zr_626.1
abbrev dX9_lone_88 := zr_626.2.1
abbrev dX9_lone_91 := zr_626.2.2.1
abbrev dX9_lone_92 := zr_626.2.2.2.1
abbrev dX9_lone_94 := zr_626.2.2.2.2.1
abbrev dX9_lone_95 := zr_626.2.2.2.2.2.1
abbrev dX9_lone_98 := zr_626.2.2.2.2.2.2.1
abbrev dX9_lone_99 := zr_626.2.2.2.2.2.2.2.1
set_option maxRecDepth 100000 in
theorem zk_627 : zck 0 (cX9_rises.data.toList.drop 0) [(0, .aload_n 0, 1), (1, .iconst 0, 1), (2, .putfield 1, 3), (5, .aload_n 0, 1), (6, .iload_n 1, 1), (7, .iload_n 2, 1), (8, .invokevirtual 150, 3), (11, .ifCond .ne 5, 3), (14, .iconst (-1), 1), (15, .ireturn, 1), (16, .iconst 0, 1), (17, .istore_n 3, 1)] = true := by decide +kernel
theorem zr_627 : decode cX9_rises 0 = .ok (.aload_n 0, 1) ∧ decode cX9_rises 1 = .ok (.iconst 0, 1) ∧ decode cX9_rises 2 = .ok (.putfield 1, 3) ∧ decode cX9_rises 5 = .ok (.aload_n 0, 1) ∧ decode cX9_rises 6 = .ok (.iload_n 1, 1) ∧ decode cX9_rises 7 = .ok (.iload_n 2, 1) ∧ decode cX9_rises 8 = .ok (.invokevirtual 150, 3) ∧ decode cX9_rises 11 = .ok (.ifCond .ne 5, 3) ∧ decode cX9_rises 14 = .ok (.iconst (-1), 1) ∧ decode cX9_rises 15 = .ok (.ireturn, 1) ∧ decode cX9_rises 16 = .ok (.iconst 0, 1) ∧ decode cX9_rises 17 = .ok (.istore_n 3, 1) ∧ True := zj_of zk_627
abbrev dX9_rises_0 := zr_627.1
abbrev dX9_rises_1 := zr_627.2.1
abbrev dX9_rises_2 := zr_627.2.2.1
abbrev dX9_rises_5 := zr_627.2.2.2.1
abbrev dX9_rises_6 := zr_627.2.2.2.2.1
abbrev dX9_rises_7 := zr_627.2.2.2.2.2.1
abbrev dX9_rises_8 := zr_627.2.2.2.2.2.2.1
abbrev dX9_rises_11 := zr_627.2.2.2.2.2.2.2.1
abbrev dX9_rises_14 := zr_627.2.2.2.2.2.2.2.2.1
abbrev dX9_rises_15 := zr_627.2.2.2.2.2.2.2.2.2.1
abbrev dX9_rises_16 := zr_627.2.2.2.2.2.2.2.2.2.2.1
abbrev dX9_rises_17 := zr_627.2.2.2.2.2.2.2.2.2.2.2.1
set_option maxRecDepth 100000 in
theorem zk_628 : zck 18 (cX9_rises.data.toList.drop 18) [(18, .iload_n 1, 1), (19, .istore 4, 2), (21, .iload 4, 2), (23, .iload_n 2, 1), (24, .if_icmp .ge 167, 3), (27, .aload_n 0, 1), (28, .getfield 82, 3), (31, .iload 4, 2), (33, .iconst 1, 1), (34, .iastore, 1), (35, .aload_n 0, 1), (36, .getfield 85, 3)] = true := by decide +kernel
theorem zr_628 : decode cX9_rises 18 = .ok (.iload_n 1, 1) ∧ decode cX9_rises 19 = .ok (.istore 4, 2) ∧ decode cX9_rises 21 = .ok (.iload 4, 2) ∧ decode cX9_rises 23 = .ok (.iload_n 2, 1) ∧ decode cX9_rises 24 = .ok (.if_icmp .ge 167, 3) ∧ decode cX9_rises 27 = .ok (.aload_n 0, 1) ∧ decode cX9_rises 28 = .ok (.getfield 82, 3) ∧ decode cX9_rises 31 = .ok (.iload 4, 2) ∧ decode cX9_rises 33 = .ok (.iconst 1, 1) ∧ decode cX9_rises 34 = .ok (.iastore, 1) ∧ decode cX9_rises 35 = .ok (.aload_n 0, 1) ∧ decode cX9_rises 36 = .ok (.getfield 85, 3) ∧ True := zj_of zk_628
abbrev dX9_rises_18 := zr_628.1
abbrev dX9_rises_19 := zr_628.2.1
abbrev dX9_rises_21 := zr_628.2.2.1
abbrev dX9_rises_23 := zr_628.2.2.2.1
abbrev dX9_rises_24 := zr_628.2.2.2.2.1
abbrev dX9_rises_27 := zr_628.2.2.2.2.2.1
abbrev dX9_rises_28 := zr_628.2.2.2.2.2.2.1
abbrev dX9_rises_31 := zr_628.2.2.2.2.2.2.2.1
abbrev dX9_rises_33 := zr_628.2.2.2.2.2.2.2.2.1
abbrev dX9_rises_34 := zr_628.2.2.2.2.2.2.2.2.2.1
abbrev dX9_rises_35 := zr_628.2.2.2.2.2.2.2.2.2.2.1
abbrev dX9_rises_36 := zr_628.2.2.2.2.2.2.2.2.2.2.2.1
set_option maxRecDepth 100000 in
theorem zk_629 : zck 39 (cX9_rises.data.toList.drop 39) [(39, .iload 4, 2), (41, .lconst 1, 1), (42, .lastore, 1), (43, .iload_n 1, 1), (44, .istore 5, 2), (46, .iload 5, 2), (48, .iload 4, 2), (50, .if_icmp .ge 123, 3), (53, .aload_n 0, 1), (54, .getfield 49, 3), (57, .iload 5, 2), (59, .iaload, 1)] = true := by decide +kernel
theorem zr_629 : decode cX9_rises 39 = .ok (.iload 4, 2) ∧ decode cX9_rises 41 = .ok (.lconst 1, 1) ∧ decode cX9_rises 42 = .ok (.lastore, 1) ∧ decode cX9_rises 43 = .ok (.iload_n 1, 1) ∧ decode cX9_rises 44 = .ok (.istore 5, 2) ∧ decode cX9_rises 46 = .ok (.iload 5, 2) ∧ decode cX9_rises 48 = .ok (.iload 4, 2) ∧ decode cX9_rises 50 = .ok (.if_icmp .ge 123, 3) ∧ decode cX9_rises 53 = .ok (.aload_n 0, 1) ∧ decode cX9_rises 54 = .ok (.getfield 49, 3) ∧ decode cX9_rises 57 = .ok (.iload 5, 2) ∧ decode cX9_rises 59 = .ok (.iaload, 1) ∧ True := zj_of zk_629
abbrev dX9_rises_39 := zr_629.1
abbrev dX9_rises_41 := zr_629.2.1
abbrev dX9_rises_42 := zr_629.2.2.1
abbrev dX9_rises_43 := zr_629.2.2.2.1
abbrev dX9_rises_44 := zr_629.2.2.2.2.1
abbrev dX9_rises_46 := zr_629.2.2.2.2.2.1
abbrev dX9_rises_48 := zr_629.2.2.2.2.2.2.1
abbrev dX9_rises_50 := zr_629.2.2.2.2.2.2.2.1
abbrev dX9_rises_53 := zr_629.2.2.2.2.2.2.2.2.1
abbrev dX9_rises_54 := zr_629.2.2.2.2.2.2.2.2.2.1
abbrev dX9_rises_57 := zr_629.2.2.2.2.2.2.2.2.2.2.1
abbrev dX9_rises_59 := zr_629.2.2.2.2.2.2.2.2.2.2.2.1
set_option maxRecDepth 100000 in
theorem zk_630 : zck 60 (cX9_rises.data.toList.drop 60) [(60, .aload_n 0, 1), (61, .getfield 49, 3), (64, .iload 4, 2), (66, .iaload, 1), (67, .if_icmp .ge 100, 3), (70, .aload_n 0, 1), (71, .getfield 82, 3), (74, .iload 5, 2), (76, .iaload, 1), (77, .aload_n 0, 1), (78, .getfield 82, 3), (81, .iload 4, 2)] = true := by decide +kernel
theorem zr_630 : decode cX9_rises 60 = .ok (.aload_n 0, 1) ∧ decode cX9_rises 61 = .ok (.getfield 49, 3) ∧ decode cX9_rises 64 = .ok (.iload 4, 2) ∧ decode cX9_rises 66 = .ok (.iaload, 1) ∧ decode cX9_rises 67 = .ok (.if_icmp .ge 100, 3) ∧ decode cX9_rises 70 = .ok (.aload_n 0, 1) ∧ decode cX9_rises 71 = .ok (.getfield 82, 3) ∧ decode cX9_rises 74 = .ok (.iload 5, 2) ∧ decode cX9_rises 76 = .ok (.iaload, 1) ∧ decode cX9_rises 77 = .ok (.aload_n 0, 1) ∧ decode cX9_rises 78 = .ok (.getfield 82, 3) ∧ decode cX9_rises 81 = .ok (.iload 4, 2) ∧ True := zj_of zk_630
abbrev dX9_rises_60 := zr_630.1
abbrev dX9_rises_61 := zr_630.2.1
abbrev dX9_rises_64 := zr_630.2.2.1
abbrev dX9_rises_66 := zr_630.2.2.2.1
abbrev dX9_rises_67 := zr_630.2.2.2.2.1
abbrev dX9_rises_70 := zr_630.2.2.2.2.2.1
abbrev dX9_rises_71 := zr_630.2.2.2.2.2.2.1
abbrev dX9_rises_74 := zr_630.2.2.2.2.2.2.2.1
abbrev dX9_rises_76 := zr_630.2.2.2.2.2.2.2.2.1
abbrev dX9_rises_77 := zr_630.2.2.2.2.2.2.2.2.2.1
abbrev dX9_rises_78 := zr_630.2.2.2.2.2.2.2.2.2.2.1
abbrev dX9_rises_81 := zr_630.2.2.2.2.2.2.2.2.2.2.2.1
set_option maxRecDepth 100000 in
theorem zk_631 : zck 83 (cX9_rises.data.toList.drop 83) [(83, .iaload, 1), (84, .if_icmp .lt 36, 3), (87, .aload_n 0, 1), (88, .getfield 82, 3), (91, .iload 4, 2), (93, .aload_n 0, 1), (94, .getfield 82, 3), (97, .iload 5, 2), (99, .iaload, 1), (100, .iconst 1, 1), (101, .iadd, 1), (102, .iastore, 1)] = true := by decide +kernel
theorem zr_631 : decode cX9_rises 83 = .ok (.iaload, 1) ∧ decode cX9_rises 84 = .ok (.if_icmp .lt 36, 3) ∧ decode cX9_rises 87 = .ok (.aload_n 0, 1) ∧ decode cX9_rises 88 = .ok (.getfield 82, 3) ∧ decode cX9_rises 91 = .ok (.iload 4, 2) ∧ decode cX9_rises 93 = .ok (.aload_n 0, 1) ∧ decode cX9_rises 94 = .ok (.getfield 82, 3) ∧ decode cX9_rises 97 = .ok (.iload 5, 2) ∧ decode cX9_rises 99 = .ok (.iaload, 1) ∧ decode cX9_rises 100 = .ok (.iconst 1, 1) ∧ decode cX9_rises 101 = .ok (.iadd, 1) ∧ decode cX9_rises 102 = .ok (.iastore, 1) ∧ True := zj_of zk_631
abbrev dX9_rises_83 := zr_631.1
abbrev dX9_rises_84 := zr_631.2.1
abbrev dX9_rises_87 := zr_631.2.2.1
abbrev dX9_rises_88 := zr_631.2.2.2.1
abbrev dX9_rises_91 := zr_631.2.2.2.2.1
abbrev dX9_rises_93 := zr_631.2.2.2.2.2.1
abbrev dX9_rises_94 := zr_631.2.2.2.2.2.2.1
abbrev dX9_rises_97 := zr_631.2.2.2.2.2.2.2.1
abbrev dX9_rises_99 := zr_631.2.2.2.2.2.2.2.2.1
abbrev dX9_rises_100 := zr_631.2.2.2.2.2.2.2.2.2.1
abbrev dX9_rises_101 := zr_631.2.2.2.2.2.2.2.2.2.2.1
abbrev dX9_rises_102 := zr_631.2.2.2.2.2.2.2.2.2.2.2.1
set_option maxRecDepth 100000 in
theorem zk_632 : zck 103 (cX9_rises.data.toList.drop 103) [(103, .aload_n 0, 1), (104, .getfield 85, 3), (107, .iload 4, 2), (109, .aload_n 0, 1), (110, .getfield 85, 3), (113, .iload 5, 2), (115, .laload, 1), (116, .lastore, 1), (117, .goto 50, 3), (120, .aload_n 0, 1), (121, .getfield 82, 3), (124, .iload 5, 2)] = true := by decide +kernel
theorem zr_632 : decode cX9_rises 103 = .ok (.aload_n 0, 1) ∧ decode cX9_rises 104 = .ok (.getfield 85, 3) ∧ decode cX9_rises 107 = .ok (.iload 4, 2) ∧ decode cX9_rises 109 = .ok (.aload_n 0, 1) ∧ decode cX9_rises 110 = .ok (.getfield 85, 3) ∧ decode cX9_rises 113 = .ok (.iload 5, 2) ∧ decode cX9_rises 115 = .ok (.laload, 1) ∧ decode cX9_rises 116 = .ok (.lastore, 1) ∧ decode cX9_rises 117 = .ok (.goto 50, 3) ∧ decode cX9_rises 120 = .ok (.aload_n 0, 1) ∧ decode cX9_rises 121 = .ok (.getfield 82, 3) ∧ decode cX9_rises 124 = .ok (.iload 5, 2) ∧ True := zj_of zk_632
abbrev dX9_rises_103 := zr_632.1
abbrev dX9_rises_104 := zr_632.2.1
abbrev dX9_rises_107 := zr_632.2.2.1
abbrev dX9_rises_109 := zr_632.2.2.2.1
abbrev dX9_rises_110 := zr_632.2.2.2.2.1
abbrev dX9_rises_113 := zr_632.2.2.2.2.2.1
abbrev dX9_rises_115 := zr_632.2.2.2.2.2.2.1
abbrev dX9_rises_116 := zr_632.2.2.2.2.2.2.2.1
abbrev dX9_rises_117 := zr_632.2.2.2.2.2.2.2.2.1
abbrev dX9_rises_120 := zr_632.2.2.2.2.2.2.2.2.2.1
abbrev dX9_rises_121 := zr_632.2.2.2.2.2.2.2.2.2.2.1
abbrev dX9_rises_124 := zr_632.2.2.2.2.2.2.2.2.2.2.2.1
set_option maxRecDepth 100000 in
theorem zk_633 : zck 126 (cX9_rises.data.toList.drop 126) [(126, .iaload, 1), (127, .iconst 1, 1), (128, .iadd, 1), (129, .aload_n 0, 1), (130, .getfield 82, 3), (133, .iload 4, 2), (135, .iaload, 1), (136, .if_icmp .ne 31, 3), (139, .aload_n 0, 1), (140, .getfield 85, 3), (143, .iload 4, 2), (145, .ldc2_w 210, 3)] = true := by decide +kernel
theorem zr_633 : decode cX9_rises 126 = .ok (.iaload, 1) ∧ decode cX9_rises 127 = .ok (.iconst 1, 1) ∧ decode cX9_rises 128 = .ok (.iadd, 1) ∧ decode cX9_rises 129 = .ok (.aload_n 0, 1) ∧ decode cX9_rises 130 = .ok (.getfield 82, 3) ∧ decode cX9_rises 133 = .ok (.iload 4, 2) ∧ decode cX9_rises 135 = .ok (.iaload, 1) ∧ decode cX9_rises 136 = .ok (.if_icmp .ne 31, 3) ∧ decode cX9_rises 139 = .ok (.aload_n 0, 1) ∧ decode cX9_rises 140 = .ok (.getfield 85, 3) ∧ decode cX9_rises 143 = .ok (.iload 4, 2) ∧ decode cX9_rises 145 = .ok (.ldc2_w 210, 3) ∧ True := zj_of zk_633
abbrev dX9_rises_126 := zr_633.1
abbrev dX9_rises_127 := zr_633.2.1
abbrev dX9_rises_128 := zr_633.2.2.1
abbrev dX9_rises_129 := zr_633.2.2.2.1
abbrev dX9_rises_130 := zr_633.2.2.2.2.1
abbrev dX9_rises_133 := zr_633.2.2.2.2.2.1
abbrev dX9_rises_135 := zr_633.2.2.2.2.2.2.1
abbrev dX9_rises_136 := zr_633.2.2.2.2.2.2.2.1
abbrev dX9_rises_139 := zr_633.2.2.2.2.2.2.2.2.1
abbrev dX9_rises_140 := zr_633.2.2.2.2.2.2.2.2.2.1
abbrev dX9_rises_143 := zr_633.2.2.2.2.2.2.2.2.2.2.1
abbrev dX9_rises_145 := zr_633.2.2.2.2.2.2.2.2.2.2.2.1
set_option maxRecDepth 100000 in
theorem zk_634 : zck 148 (cX9_rises.data.toList.drop 148) [(148, .aload_n 0, 1), (149, .getfield 85, 3), (152, .iload 4, 2), (154, .laload, 1), (155, .aload_n 0, 1), (156, .getfield 85, 3), (159, .iload 5, 2), (161, .laload, 1), (162, .ladd, 1), (163, .invokestatic 212, 3), (166, .lastore, 1), (167, .iinc 5 1, 3)] = true := by decide +kernel
theorem zr_634 : decode cX9_rises 148 = .ok (.aload_n 0, 1) ∧ decode cX9_rises 149 = .ok (.getfield 85, 3) ∧ decode cX9_rises 152 = .ok (.iload 4, 2) ∧ decode cX9_rises 154 = .ok (.laload, 1) ∧ decode cX9_rises 155 = .ok (.aload_n 0, 1) ∧ decode cX9_rises 156 = .ok (.getfield 85, 3) ∧ decode cX9_rises 159 = .ok (.iload 5, 2) ∧ decode cX9_rises 161 = .ok (.laload, 1) ∧ decode cX9_rises 162 = .ok (.ladd, 1) ∧ decode cX9_rises 163 = .ok (.invokestatic 212, 3) ∧ decode cX9_rises 166 = .ok (.lastore, 1) ∧ decode cX9_rises 167 = .ok (.iinc 5 1, 3) ∧ True := zj_of zk_634
abbrev dX9_rises_148 := zr_634.1
abbrev dX9_rises_149 := zr_634.2.1
abbrev dX9_rises_152 := zr_634.2.2.1
abbrev dX9_rises_154 := zr_634.2.2.2.1
abbrev dX9_rises_155 := zr_634.2.2.2.2.1
abbrev dX9_rises_156 := zr_634.2.2.2.2.2.1
abbrev dX9_rises_159 := zr_634.2.2.2.2.2.2.1
abbrev dX9_rises_161 := zr_634.2.2.2.2.2.2.2.1
abbrev dX9_rises_162 := zr_634.2.2.2.2.2.2.2.2.1
abbrev dX9_rises_163 := zr_634.2.2.2.2.2.2.2.2.2.1
abbrev dX9_rises_166 := zr_634.2.2.2.2.2.2.2.2.2.2.1
abbrev dX9_rises_167 := zr_634.2.2.2.2.2.2.2.2.2.2.2.1
set_option maxRecDepth 100000 in
theorem zk_635 : zck 170 (cX9_rises.data.toList.drop 170) [(170, .goto (-124), 3), (173, .iload_n 3, 1), (174, .aload_n 0, 1), (175, .getfield 82, 3), (178, .iload 4, 2), (180, .iaload, 1), (181, .invokestatic 181, 3), (184, .istore_n 3, 1), (185, .iinc 4 1, 3), (188, .goto (-167), 3), (191, .iconst (-1), 1), (192, .istore 4, 2)] = true := by decide +kernel
theorem zr_635 : decode cX9_rises 170 = .ok (.goto (-124), 3) ∧ decode cX9_rises 173 = .ok (.iload_n 3, 1) ∧ decode cX9_rises 174 = .ok (.aload_n 0, 1) ∧ decode cX9_rises 175 = .ok (.getfield 82, 3) ∧ decode cX9_rises 178 = .ok (.iload 4, 2) ∧ decode cX9_rises 180 = .ok (.iaload, 1) ∧ decode cX9_rises 181 = .ok (.invokestatic 181, 3) ∧ decode cX9_rises 184 = .ok (.istore_n 3, 1) ∧ decode cX9_rises 185 = .ok (.iinc 4 1, 3) ∧ decode cX9_rises 188 = .ok (.goto (-167), 3) ∧ decode cX9_rises 191 = .ok (.iconst (-1), 1) ∧ decode cX9_rises 192 = .ok (.istore 4, 2) ∧ True := zj_of zk_635
abbrev dX9_rises_170 := zr_635.1
abbrev dX9_rises_173 := zr_635.2.1
abbrev dX9_rises_174 := zr_635.2.2.1
abbrev dX9_rises_175 := zr_635.2.2.2.1
abbrev dX9_rises_178 := zr_635.2.2.2.2.1
abbrev dX9_rises_180 := zr_635.2.2.2.2.2.1
abbrev dX9_rises_181 := zr_635.2.2.2.2.2.2.1
abbrev dX9_rises_184 := zr_635.2.2.2.2.2.2.2.1
abbrev dX9_rises_185 := zr_635.2.2.2.2.2.2.2.2.1
abbrev dX9_rises_188 := zr_635.2.2.2.2.2.2.2.2.2.1
abbrev dX9_rises_191 := zr_635.2.2.2.2.2.2.2.2.2.2.1
abbrev dX9_rises_192 := zr_635.2.2.2.2.2.2.2.2.2.2.2.1
set_option maxRecDepth 100000 in
theorem zk_636 : zck 194 (cX9_rises.data.toList.drop 194) [(194, .lconst 0, 1), (195, .lstore 5, 2), (197, .iload_n 1, 1), (198, .istore 7, 2), (200, .iload 7, 2), (202, .iload_n 2, 1), (203, .if_icmp .ge 69, 3), (206, .aload_n 0, 1), (207, .getfield 82, 3), (210, .iload 7, 2), (212, .iaload, 1), (213, .iload_n 3, 1)] = true := by decide +kernel
theorem zr_636 : decode cX9_rises 194 = .ok (.lconst 0, 1) ∧ decode cX9_rises 195 = .ok (.lstore 5, 2) ∧ decode cX9_rises 197 = .ok (.iload_n 1, 1) ∧ decode cX9_rises 198 = .ok (.istore 7, 2) ∧ decode cX9_rises 200 = .ok (.iload 7, 2) ∧ decode cX9_rises 202 = .ok (.iload_n 2, 1) ∧ decode cX9_rises 203 = .ok (.if_icmp .ge 69, 3) ∧ decode cX9_rises 206 = .ok (.aload_n 0, 1) ∧ decode cX9_rises 207 = .ok (.getfield 82, 3) ∧ decode cX9_rises 210 = .ok (.iload 7, 2) ∧ decode cX9_rises 212 = .ok (.iaload, 1) ∧ decode cX9_rises 213 = .ok (.iload_n 3, 1) ∧ True := zj_of zk_636
abbrev dX9_rises_194 := zr_636.1
abbrev dX9_rises_195 := zr_636.2.1
abbrev dX9_rises_197 := zr_636.2.2.1
abbrev dX9_rises_198 := zr_636.2.2.2.1
abbrev dX9_rises_200 := zr_636.2.2.2.2.1
abbrev dX9_rises_202 := zr_636.2.2.2.2.2.1
abbrev dX9_rises_203 := zr_636.2.2.2.2.2.2.1
abbrev dX9_rises_206 := zr_636.2.2.2.2.2.2.2.1
abbrev dX9_rises_207 := zr_636.2.2.2.2.2.2.2.2.1
abbrev dX9_rises_210 := zr_636.2.2.2.2.2.2.2.2.2.1
abbrev dX9_rises_212 := zr_636.2.2.2.2.2.2.2.2.2.2.1
abbrev dX9_rises_213 := zr_636.2.2.2.2.2.2.2.2.2.2.2.1
set_option maxRecDepth 100000 in
theorem zk_637 : zck 214 (cX9_rises.data.toList.drop 214) [(214, .if_icmp .ne 52, 3), (217, .iload 4, 2), (219, .ifCond .lt 15, 3), (222, .aload_n 0, 1), (223, .getfield 49, 3), (226, .iload 7, 2), (228, .iaload, 1), (229, .iload 4, 2), (231, .if_icmp .ge 13, 3), (234, .aload_n 0, 1), (235, .getfield 49, 3), (238, .iload 7, 2)] = true := by decide +kernel
theorem zr_637 : decode cX9_rises 214 = .ok (.if_icmp .ne 52, 3) ∧ decode cX9_rises 217 = .ok (.iload 4, 2) ∧ decode cX9_rises 219 = .ok (.ifCond .lt 15, 3) ∧ decode cX9_rises 222 = .ok (.aload_n 0, 1) ∧ decode cX9_rises 223 = .ok (.getfield 49, 3) ∧ decode cX9_rises 226 = .ok (.iload 7, 2) ∧ decode cX9_rises 228 = .ok (.iaload, 1) ∧ decode cX9_rises 229 = .ok (.iload 4, 2) ∧ decode cX9_rises 231 = .ok (.if_icmp .ge 13, 3) ∧ decode cX9_rises 234 = .ok (.aload_n 0, 1) ∧ decode cX9_rises 235 = .ok (.getfield 49, 3) ∧ decode cX9_rises 238 = .ok (.iload 7, 2) ∧ True := zj_of zk_637
abbrev dX9_rises_214 := zr_637.1
abbrev dX9_rises_217 := zr_637.2.1
abbrev dX9_rises_219 := zr_637.2.2.1
abbrev dX9_rises_222 := zr_637.2.2.2.1
abbrev dX9_rises_223 := zr_637.2.2.2.2.1
abbrev dX9_rises_226 := zr_637.2.2.2.2.2.1
abbrev dX9_rises_228 := zr_637.2.2.2.2.2.2.1
abbrev dX9_rises_229 := zr_637.2.2.2.2.2.2.2.1
abbrev dX9_rises_231 := zr_637.2.2.2.2.2.2.2.2.1
abbrev dX9_rises_234 := zr_637.2.2.2.2.2.2.2.2.2.1
abbrev dX9_rises_235 := zr_637.2.2.2.2.2.2.2.2.2.2.1
abbrev dX9_rises_238 := zr_637.2.2.2.2.2.2.2.2.2.2.2.1
set_option maxRecDepth 100000 in
theorem zk_638 : zck 240 (cX9_rises.data.toList.drop 240) [(240, .iaload, 1), (241, .goto 5, 3), (244, .iload 4, 2), (246, .istore 4, 2), (248, .ldc2_w 210, 3), (251, .lload 5, 2), (253, .aload_n 0, 1), (254, .getfield 85, 3), (257, .iload 7, 2), (259, .laload, 1), (260, .ladd, 1), (261, .invokestatic 212, 3)] = true := by decide +kernel
theorem zr_638 : decode cX9_rises 240 = .ok (.iaload, 1) ∧ decode cX9_rises 241 = .ok (.goto 5, 3) ∧ decode cX9_rises 244 = .ok (.iload 4, 2) ∧ decode cX9_rises 246 = .ok (.istore 4, 2) ∧ decode cX9_rises 248 = .ok (.ldc2_w 210, 3) ∧ decode cX9_rises 251 = .ok (.lload 5, 2) ∧ decode cX9_rises 253 = .ok (.aload_n 0, 1) ∧ decode cX9_rises 254 = .ok (.getfield 85, 3) ∧ decode cX9_rises 257 = .ok (.iload 7, 2) ∧ decode cX9_rises 259 = .ok (.laload, 1) ∧ decode cX9_rises 260 = .ok (.ladd, 1) ∧ decode cX9_rises 261 = .ok (.invokestatic 212, 3) ∧ True := zj_of zk_638
abbrev dX9_rises_240 := zr_638.1
abbrev dX9_rises_241 := zr_638.2.1
abbrev dX9_rises_244 := zr_638.2.2.1
abbrev dX9_rises_246 := zr_638.2.2.2.1
abbrev dX9_rises_248 := zr_638.2.2.2.2.1
abbrev dX9_rises_251 := zr_638.2.2.2.2.2.1
abbrev dX9_rises_253 := zr_638.2.2.2.2.2.2.1
abbrev dX9_rises_254 := zr_638.2.2.2.2.2.2.2.1
abbrev dX9_rises_257 := zr_638.2.2.2.2.2.2.2.2.1
abbrev dX9_rises_259 := zr_638.2.2.2.2.2.2.2.2.2.1
abbrev dX9_rises_260 := zr_638.2.2.2.2.2.2.2.2.2.2.1
abbrev dX9_rises_261 := zr_638.2.2.2.2.2.2.2.2.2.2.2.1
set_option maxRecDepth 100000 in
theorem zk_639 : zck 264 (cX9_rises.data.toList.drop 264) [(264, .lstore 5, 2), (266, .iinc 7 1, 3), (269, .goto (-69), 3), (272, .aload_n 0, 1), (273, .iconst 0, 1), (274, .putfield 11, 3), (277, .aload_n 0, 1), (278, .iload 4, 2), (280, .i2l, 1), (281, .invokevirtual 142, 3), (284, .aload_n 0, 1), (285, .lload 5, 2)] = true := by decide +kernel
theorem zr_639 : decode cX9_rises 264 = .ok (.lstore 5, 2) ∧ decode cX9_rises 266 = .ok (.iinc 7 1, 3) ∧ decode cX9_rises 269 = .ok (.goto (-69), 3) ∧ decode cX9_rises 272 = .ok (.aload_n 0, 1) ∧ decode cX9_rises 273 = .ok (.iconst 0, 1) ∧ decode cX9_rises 274 = .ok (.putfield 11, 3) ∧ decode cX9_rises 277 = .ok (.aload_n 0, 1) ∧ decode cX9_rises 278 = .ok (.iload 4, 2) ∧ decode cX9_rises 280 = .ok (.i2l, 1) ∧ decode cX9_rises 281 = .ok (.invokevirtual 142, 3) ∧ decode cX9_rises 284 = .ok (.aload_n 0, 1) ∧ decode cX9_rises 285 = .ok (.lload 5, 2) ∧ True := zj_of zk_639
abbrev dX9_rises_264 := zr_639.1
abbrev dX9_rises_266 := zr_639.2.1
abbrev dX9_rises_269 := zr_639.2.2.1
abbrev dX9_rises_272 := zr_639.2.2.2.1
abbrev dX9_rises_273 := zr_639.2.2.2.2.1
abbrev dX9_rises_274 := zr_639.2.2.2.2.2.1
abbrev dX9_rises_277 := zr_639.2.2.2.2.2.2.1
abbrev dX9_rises_278 := zr_639.2.2.2.2.2.2.2.1
abbrev dX9_rises_280 := zr_639.2.2.2.2.2.2.2.2.1
abbrev dX9_rises_281 := zr_639.2.2.2.2.2.2.2.2.2.1
abbrev dX9_rises_284 := zr_639.2.2.2.2.2.2.2.2.2.2.1
abbrev dX9_rises_285 := zr_639.2.2.2.2.2.2.2.2.2.2.2.1
set_option maxRecDepth 100000 in
theorem zk_640 : zck 287 (cX9_rises.data.toList.drop 287) [(287, .invokevirtual 142, 3), (290, .iload_n 3, 1), (291, .ireturn, 1)] = true := by decide +kernel
theorem zr_640 : decode cX9_rises 287 = .ok (.invokevirtual 142, 3) ∧ decode cX9_rises 290 = .ok (.iload_n 3, 1) ∧ decode cX9_rises 291 = .ok (.ireturn, 1) ∧ True := zj_of zk_640
abbrev dX9_rises_287 := zr_640.1
abbrev dX9_rises_290 := zr_640.2.1
abbrev dX9_rises_291 := zr_640.2.2.1
set_option maxRecDepth 100000 in
theorem zk_641 : zck 0 (cX9_marks.data.toList.drop 0) [(0, .aload_n 0, 1), (1, .iconst 0, 1), (2, .putfield 1, 3), (5, .aload_n 0, 1), (6, .iload_n 1, 1), (7, .iload_n 2, 1), (8, .invokevirtual 150, 3), (11, .ifCond .eq 10, 3), (14, .iload_n 3, 1), (15, .invokestatic 129, 3), (18, .ifCond .ne 5, 3), (21, .iconst (-1), 1)] = true := by decide +kernel
theorem zr_641 : decode cX9_marks 0 = .ok (.aload_n 0, 1) ∧ decode cX9_marks 1 = .ok (.iconst 0, 1) ∧ decode cX9_marks 2 = .ok (.putfield 1, 3) ∧ decode cX9_marks 5 = .ok (.aload_n 0, 1) ∧ decode cX9_marks 6 = .ok (.iload_n 1, 1) ∧ decode cX9_marks 7 = .ok (.iload_n 2, 1) ∧ decode cX9_marks 8 = .ok (.invokevirtual 150, 3) ∧ decode cX9_marks 11 = .ok (.ifCond .eq 10, 3) ∧ decode cX9_marks 14 = .ok (.iload_n 3, 1) ∧ decode cX9_marks 15 = .ok (.invokestatic 129, 3) ∧ decode cX9_marks 18 = .ok (.ifCond .ne 5, 3) ∧ decode cX9_marks 21 = .ok (.iconst (-1), 1) ∧ True := zj_of zk_641
abbrev dX9_marks_0 := zr_641.1
abbrev dX9_marks_1 := zr_641.2.1
abbrev dX9_marks_2 := zr_641.2.2.1
abbrev dX9_marks_5 := zr_641.2.2.2.1
abbrev dX9_marks_6 := zr_641.2.2.2.2.1
abbrev dX9_marks_7 := zr_641.2.2.2.2.2.1
abbrev dX9_marks_8 := zr_641.2.2.2.2.2.2.1
abbrev dX9_marks_11 := zr_641.2.2.2.2.2.2.2.1
abbrev dX9_marks_14 := zr_641.2.2.2.2.2.2.2.2.1
abbrev dX9_marks_15 := zr_641.2.2.2.2.2.2.2.2.2.1
abbrev dX9_marks_18 := zr_641.2.2.2.2.2.2.2.2.2.2.1
abbrev dX9_marks_21 := zr_641.2.2.2.2.2.2.2.2.2.2.2.1
set_option maxRecDepth 100000 in
theorem zk_642 : zck 22 (cX9_marks.data.toList.drop 22) [(22, .ireturn, 1), (23, .iconst 0, 1), (24, .istore 4, 2), (26, .aload_n 0, 1), (27, .iconst 0, 1), (28, .putfield 11, 3), (31, .iload_n 1, 1), (32, .istore 5, 2), (34, .iload 5, 2), (36, .iload_n 2, 1), (37, .if_icmp .ge 37, 3), (40, .aload_n 0, 1)] = true := by decide +kernel
theorem zr_642 : decode cX9_marks 22 = .ok (.ireturn, 1) ∧ decode cX9_marks 23 = .ok (.iconst 0, 1) ∧ decode cX9_marks 24 = .ok (.istore 4, 2) ∧ decode cX9_marks 26 = .ok (.aload_n 0, 1) ∧ decode cX9_marks 27 = .ok (.iconst 0, 1) ∧ decode cX9_marks 28 = .ok (.putfield 11, 3) ∧ decode cX9_marks 31 = .ok (.iload_n 1, 1) ∧ decode cX9_marks 32 = .ok (.istore 5, 2) ∧ decode cX9_marks 34 = .ok (.iload 5, 2) ∧ decode cX9_marks 36 = .ok (.iload_n 2, 1) ∧ decode cX9_marks 37 = .ok (.if_icmp .ge 37, 3) ∧ decode cX9_marks 40 = .ok (.aload_n 0, 1) ∧ True := zj_of zk_642
abbrev dX9_marks_22 := zr_642.1
abbrev dX9_marks_23 := zr_642.2.1
abbrev dX9_marks_24 := zr_642.2.2.1
abbrev dX9_marks_26 := zr_642.2.2.2.1
abbrev dX9_marks_27 := zr_642.2.2.2.2.1
abbrev dX9_marks_28 := zr_642.2.2.2.2.2.1
abbrev dX9_marks_31 := zr_642.2.2.2.2.2.2.1
abbrev dX9_marks_32 := zr_642.2.2.2.2.2.2.2.1
abbrev dX9_marks_34 := zr_642.2.2.2.2.2.2.2.2.1
abbrev dX9_marks_36 := zr_642.2.2.2.2.2.2.2.2.2.1
abbrev dX9_marks_37 := zr_642.2.2.2.2.2.2.2.2.2.2.1
abbrev dX9_marks_40 := zr_642.2.2.2.2.2.2.2.2.2.2.2.1
set_option maxRecDepth 100000 in
theorem zk_643 : zck 41 (cX9_marks.data.toList.drop 41) [(41, .getfield 49, 3), (44, .iload 5, 2), (46, .iaload, 1), (47, .iload_n 3, 1), (48, .if_icmp .ne 20, 3), (51, .iload 4, 2), (53, .bipush 32, 2), (55, .if_icmp .ge 10, 3), (58, .aload_n 0, 1), (59, .iload 5, 2), (61, .i2l, 1), (62, .invokevirtual 142, 3)] = true := by decide +kernel
theorem zr_643 : decode cX9_marks 41 = .ok (.getfield 49, 3) ∧ decode cX9_marks 44 = .ok (.iload 5, 2) ∧ decode cX9_marks 46 = .ok (.iaload, 1) ∧ decode cX9_marks 47 = .ok (.iload_n 3, 1) ∧ decode cX9_marks 48 = .ok (.if_icmp .ne 20, 3) ∧ decode cX9_marks 51 = .ok (.iload 4, 2) ∧ decode cX9_marks 53 = .ok (.bipush 32, 2) ∧ decode cX9_marks 55 = .ok (.if_icmp .ge 10, 3) ∧ decode cX9_marks 58 = .ok (.aload_n 0, 1) ∧ decode cX9_marks 59 = .ok (.iload 5, 2) ∧ decode cX9_marks 61 = .ok (.i2l, 1) ∧ decode cX9_marks 62 = .ok (.invokevirtual 142, 3) ∧ True := zj_of zk_643
abbrev dX9_marks_41 := zr_643.1
abbrev dX9_marks_44 := zr_643.2.1
abbrev dX9_marks_46 := zr_643.2.2.1
abbrev dX9_marks_47 := zr_643.2.2.2.1
abbrev dX9_marks_48 := zr_643.2.2.2.2.1
abbrev dX9_marks_51 := zr_643.2.2.2.2.2.1
abbrev dX9_marks_53 := zr_643.2.2.2.2.2.2.1
abbrev dX9_marks_55 := zr_643.2.2.2.2.2.2.2.1
abbrev dX9_marks_58 := zr_643.2.2.2.2.2.2.2.2.1
abbrev dX9_marks_59 := zr_643.2.2.2.2.2.2.2.2.2.1
abbrev dX9_marks_61 := zr_643.2.2.2.2.2.2.2.2.2.2.1
abbrev dX9_marks_62 := zr_643.2.2.2.2.2.2.2.2.2.2.2.1
set_option maxRecDepth 100000 in
theorem zk_644 : zck 65 (cX9_marks.data.toList.drop 65) [(65, .iinc 4 1, 3), (68, .iinc 5 1, 3), (71, .goto (-37), 3), (74, .iload 4, 2), (76, .ireturn, 1)] = true := by decide +kernel
theorem zr_644 : decode cX9_marks 65 = .ok (.iinc 4 1, 3) ∧ decode cX9_marks 68 = .ok (.iinc 5 1, 3) ∧ decode cX9_marks 71 = .ok (.goto (-37), 3) ∧ decode cX9_marks 74 = .ok (.iload 4, 2) ∧ decode cX9_marks 76 = .ok (.ireturn, 1) ∧ True := zj_of zk_644
abbrev dX9_marks_65 := zr_644.1
abbrev dX9_marks_68 := zr_644.2.1
abbrev dX9_marks_71 := zr_644.2.2.1
abbrev dX9_marks_74 := zr_644.2.2.2.1
abbrev dX9_marks_76 := zr_644.2.2.2.2.1
set_option maxRecDepth 100000 in
theorem zk_645 : zck 0 (cX9_counts_.data.toList.drop 0) [(0, .aload_n 0, 1), (1, .iload_n 1, 1), (2, .iload_n 2, 1), (3, .invokevirtual 150, 3), (6, .ifCond .eq 13, 3), (9, .aload_n 0, 1), (10, .iload_n 3, 1), (11, .iload 4, 2), (13, .invokevirtual 150, 3), (16, .ifCond .ne 5, 3), (19, .iconst 0, 1), (20, .ireturn, 1)] = true := by decide +kernel
theorem zr_645 : decode cX9_counts_ 0 = .ok (.aload_n 0, 1) ∧ decode cX9_counts_ 1 = .ok (.iload_n 1, 1) ∧ decode cX9_counts_ 2 = .ok (.iload_n 2, 1) ∧ decode cX9_counts_ 3 = .ok (.invokevirtual 150, 3) ∧ decode cX9_counts_ 6 = .ok (.ifCond .eq 13, 3) ∧ decode cX9_counts_ 9 = .ok (.aload_n 0, 1) ∧ decode cX9_counts_ 10 = .ok (.iload_n 3, 1) ∧ decode cX9_counts_ 11 = .ok (.iload 4, 2) ∧ decode cX9_counts_ 13 = .ok (.invokevirtual 150, 3) ∧ decode cX9_counts_ 16 = .ok (.ifCond .ne 5, 3) ∧ decode cX9_counts_ 19 = .ok (.iconst 0, 1) ∧ decode cX9_counts_ 20 = .ok (.ireturn, 1) ∧ True := zj_of zk_645
abbrev dX9_counts__0 := zr_645.1
abbrev dX9_counts__1 := zr_645.2.1
abbrev dX9_counts__2 := zr_645.2.2.1
abbrev dX9_counts__3 := zr_645.2.2.2.1
abbrev dX9_counts__6 := zr_645.2.2.2.2.1
abbrev dX9_counts__9 := zr_645.2.2.2.2.2.1
abbrev dX9_counts__10 := zr_645.2.2.2.2.2.2.1
abbrev dX9_counts__11 := zr_645.2.2.2.2.2.2.2.1
abbrev dX9_counts__13 := zr_645.2.2.2.2.2.2.2.2.1
abbrev dX9_counts__16 := zr_645.2.2.2.2.2.2.2.2.2.1
abbrev dX9_counts__19 := zr_645.2.2.2.2.2.2.2.2.2.2.1
abbrev dX9_counts__20 := zr_645.2.2.2.2.2.2.2.2.2.2.2.1
set_option maxRecDepth 100000 in
theorem zk_646 : zck 21 (cX9_counts_.data.toList.drop 21) [(21, .aload_n 0, 1), (22, .iconst 0, 1), (23, .iload_n 1, 1), (24, .iload_n 2, 1), (25, .invokevirtual 169, 3), (28, .aload_n 0, 1), (29, .iconst 1, 1), (30, .iload_n 3, 1), (31, .iload 4, 2), (33, .invokevirtual 169, 3), (36, .iconst 1, 1), (37, .ireturn, 1)] = true := by decide +kernel
theorem zr_646 : decode cX9_counts_ 21 = .ok (.aload_n 0, 1) ∧ decode cX9_counts_ 22 = .ok (.iconst 0, 1) ∧ decode cX9_counts_ 23 = .ok (.iload_n 1, 1) ∧ decode cX9_counts_ 24 = .ok (.iload_n 2, 1) ∧ decode cX9_counts_ 25 = .ok (.invokevirtual 169, 3) ∧ decode cX9_counts_ 28 = .ok (.aload_n 0, 1) ∧ decode cX9_counts_ 29 = .ok (.iconst 1, 1) ∧ decode cX9_counts_ 30 = .ok (.iload_n 3, 1) ∧ decode cX9_counts_ 31 = .ok (.iload 4, 2) ∧ decode cX9_counts_ 33 = .ok (.invokevirtual 169, 3) ∧ decode cX9_counts_ 36 = .ok (.iconst 1, 1) ∧ decode cX9_counts_ 37 = .ok (.ireturn, 1) ∧ True := zj_of zk_646
abbrev dX9_counts__21 := zr_646.1
abbrev dX9_counts__22 := zr_646.2.1
abbrev dX9_counts__23 := zr_646.2.2.1
abbrev dX9_counts__24 := zr_646.2.2.2.1
abbrev dX9_counts__25 := zr_646.2.2.2.2.1
abbrev dX9_counts__28 := zr_646.2.2.2.2.2.1
abbrev dX9_counts__29 := zr_646.2.2.2.2.2.2.1
abbrev dX9_counts__30 := zr_646.2.2.2.2.2.2.2.1
abbrev dX9_counts__31 := zr_646.2.2.2.2.2.2.2.2.1
abbrev dX9_counts__33 := zr_646.2.2.2.2.2.2.2.2.2.1
abbrev dX9_counts__36 := zr_646.2.2.2.2.2.2.2.2.2.2.1
abbrev dX9_counts__37 := zr_646.2.2.2.2.2.2.2.2.2.2.2.1
set_option maxRecDepth 100000 in
theorem zk_647 : zck 0 (cX9_common.data.toList.drop 0) [(0, .aload_n 0, 1), (1, .iconst 0, 1), (2, .putfield 1, 3), (5, .aload_n 0, 1), (6, .iload_n 1, 1), (7, .iload_n 2, 1), (8, .iload_n 3, 1), (9, .iload 4, 2), (11, .invokevirtual 215, 3), (14, .ifCond .ne 5, 3), (17, .iconst (-1), 1), (18, .ireturn, 1)] = true := by decide +kernel
theorem zr_647 : decode cX9_common 0 = .ok (.aload_n 0, 1) ∧ decode cX9_common 1 = .ok (.iconst 0, 1) ∧ decode cX9_common 2 = .ok (.putfield 1, 3) ∧ decode cX9_common 5 = .ok (.aload_n 0, 1) ∧ decode cX9_common 6 = .ok (.iload_n 1, 1) ∧ decode cX9_common 7 = .ok (.iload_n 2, 1) ∧ decode cX9_common 8 = .ok (.iload_n 3, 1) ∧ decode cX9_common 9 = .ok (.iload 4, 2) ∧ decode cX9_common 11 = .ok (.invokevirtual 215, 3) ∧ decode cX9_common 14 = .ok (.ifCond .ne 5, 3) ∧ decode cX9_common 17 = .ok (.iconst (-1), 1) ∧ decode cX9_common 18 = .ok (.ireturn, 1) ∧ True := zj_of zk_647
abbrev dX9_common_0 := zr_647.1
abbrev dX9_common_1 := zr_647.2.1
abbrev dX9_common_2 := zr_647.2.2.1
abbrev dX9_common_5 := zr_647.2.2.2.1
abbrev dX9_common_6 := zr_647.2.2.2.2.1
abbrev dX9_common_7 := zr_647.2.2.2.2.2.1
abbrev dX9_common_8 := zr_647.2.2.2.2.2.2.1
abbrev dX9_common_9 := zr_647.2.2.2.2.2.2.2.1
abbrev dX9_common_11 := zr_647.2.2.2.2.2.2.2.2.1
abbrev dX9_common_14 := zr_647.2.2.2.2.2.2.2.2.2.1
abbrev dX9_common_17 := zr_647.2.2.2.2.2.2.2.2.2.2.1
abbrev dX9_common_18 := zr_647.2.2.2.2.2.2.2.2.2.2.2.1
set_option maxRecDepth 100000 in
theorem zk_648 : zck 19 (cX9_common.data.toList.drop 19) [(19, .aload_n 0, 1), (20, .iconst 0, 1), (21, .putfield 11, 3), (24, .aload_n 0, 1), (25, .aload_n 0, 1), (26, .iconst 1, 1), (27, .iconst 1, 1), (28, .invokevirtual 204, 3), (31, .i2l, 1), (32, .invokevirtual 142, 3), (35, .iconst 0, 1), (36, .istore 5, 2)] = true := by decide +kernel
theorem zr_648 : decode cX9_common 19 = .ok (.aload_n 0, 1) ∧ decode cX9_common 20 = .ok (.iconst 0, 1) ∧ decode cX9_common 21 = .ok (.putfield 11, 3) ∧ decode cX9_common 24 = .ok (.aload_n 0, 1) ∧ decode cX9_common 25 = .ok (.aload_n 0, 1) ∧ decode cX9_common 26 = .ok (.iconst 1, 1) ∧ decode cX9_common 27 = .ok (.iconst 1, 1) ∧ decode cX9_common 28 = .ok (.invokevirtual 204, 3) ∧ decode cX9_common 31 = .ok (.i2l, 1) ∧ decode cX9_common 32 = .ok (.invokevirtual 142, 3) ∧ decode cX9_common 35 = .ok (.iconst 0, 1) ∧ decode cX9_common 36 = .ok (.istore 5, 2) ∧ True := zj_of zk_648
abbrev dX9_common_19 := zr_648.1
abbrev dX9_common_20 := zr_648.2.1
abbrev dX9_common_21 := zr_648.2.2.1
abbrev dX9_common_24 := zr_648.2.2.2.1
abbrev dX9_common_25 := zr_648.2.2.2.2.1
abbrev dX9_common_26 := zr_648.2.2.2.2.2.1
abbrev dX9_common_27 := zr_648.2.2.2.2.2.2.1
abbrev dX9_common_28 := zr_648.2.2.2.2.2.2.2.1
abbrev dX9_common_31 := zr_648.2.2.2.2.2.2.2.2.1
abbrev dX9_common_32 := zr_648.2.2.2.2.2.2.2.2.2.1
abbrev dX9_common_35 := zr_648.2.2.2.2.2.2.2.2.2.2.1
abbrev dX9_common_36 := zr_648.2.2.2.2.2.2.2.2.2.2.2.1
set_option maxRecDepth 100000 in
theorem zk_649 : zck 38 (cX9_common.data.toList.drop 38) [(38, .iconst 0, 1), (39, .istore 6, 2), (41, .iload 6, 2), (43, .sipush 256, 3), (46, .if_icmp .ge 70, 3), (49, .aload_n 0, 1), (50, .iconst 0, 1), (51, .iload 6, 2), (53, .invokevirtual 175, 3), (56, .ifCond .le 54, 3), (59, .aload_n 0, 1), (60, .iconst 1, 1)] = true := by decide +kernel
theorem zr_649 : decode cX9_common 38 = .ok (.iconst 0, 1) ∧ decode cX9_common 39 = .ok (.istore 6, 2) ∧ decode cX9_common 41 = .ok (.iload 6, 2) ∧ decode cX9_common 43 = .ok (.sipush 256, 3) ∧ decode cX9_common 46 = .ok (.if_icmp .ge 70, 3) ∧ decode cX9_common 49 = .ok (.aload_n 0, 1) ∧ decode cX9_common 50 = .ok (.iconst 0, 1) ∧ decode cX9_common 51 = .ok (.iload 6, 2) ∧ decode cX9_common 53 = .ok (.invokevirtual 175, 3) ∧ decode cX9_common 56 = .ok (.ifCond .le 54, 3) ∧ decode cX9_common 59 = .ok (.aload_n 0, 1) ∧ decode cX9_common 60 = .ok (.iconst 1, 1) ∧ True := zj_of zk_649
abbrev dX9_common_38 := zr_649.1
abbrev dX9_common_39 := zr_649.2.1
abbrev dX9_common_41 := zr_649.2.2.1
abbrev dX9_common_43 := zr_649.2.2.2.1
abbrev dX9_common_46 := zr_649.2.2.2.2.1
abbrev dX9_common_49 := zr_649.2.2.2.2.2.1
abbrev dX9_common_50 := zr_649.2.2.2.2.2.2.1
abbrev dX9_common_51 := zr_649.2.2.2.2.2.2.2.1
abbrev dX9_common_53 := zr_649.2.2.2.2.2.2.2.2.1
abbrev dX9_common_56 := zr_649.2.2.2.2.2.2.2.2.2.1
abbrev dX9_common_59 := zr_649.2.2.2.2.2.2.2.2.2.2.1
abbrev dX9_common_60 := zr_649.2.2.2.2.2.2.2.2.2.2.2.1
set_option maxRecDepth 100000 in
theorem zk_650 : zck 61 (cX9_common.data.toList.drop 61) [(61, .iload 6, 2), (63, .invokevirtual 175, 3), (66, .ifCond .le 44, 3), (69, .iload 5, 2), (71, .bipush 16, 2), (73, .if_icmp .ge 34, 3), (76, .aload_n 0, 1), (77, .iload 6, 2), (79, .i2l, 1), (80, .invokevirtual 142, 3), (83, .aload_n 0, 1), (84, .aload_n 0, 1)] = true := by decide +kernel
theorem zr_650 : decode cX9_common 61 = .ok (.iload 6, 2) ∧ decode cX9_common 63 = .ok (.invokevirtual 175, 3) ∧ decode cX9_common 66 = .ok (.ifCond .le 44, 3) ∧ decode cX9_common 69 = .ok (.iload 5, 2) ∧ decode cX9_common 71 = .ok (.bipush 16, 2) ∧ decode cX9_common 73 = .ok (.if_icmp .ge 34, 3) ∧ decode cX9_common 76 = .ok (.aload_n 0, 1) ∧ decode cX9_common 77 = .ok (.iload 6, 2) ∧ decode cX9_common 79 = .ok (.i2l, 1) ∧ decode cX9_common 80 = .ok (.invokevirtual 142, 3) ∧ decode cX9_common 83 = .ok (.aload_n 0, 1) ∧ decode cX9_common 84 = .ok (.aload_n 0, 1) ∧ True := zj_of zk_650
abbrev dX9_common_61 := zr_650.1
abbrev dX9_common_63 := zr_650.2.1
abbrev dX9_common_66 := zr_650.2.2.1
abbrev dX9_common_69 := zr_650.2.2.2.1
abbrev dX9_common_71 := zr_650.2.2.2.2.1
abbrev dX9_common_73 := zr_650.2.2.2.2.2.1
abbrev dX9_common_76 := zr_650.2.2.2.2.2.2.1
abbrev dX9_common_77 := zr_650.2.2.2.2.2.2.2.1
abbrev dX9_common_79 := zr_650.2.2.2.2.2.2.2.2.1
abbrev dX9_common_80 := zr_650.2.2.2.2.2.2.2.2.2.1
abbrev dX9_common_83 := zr_650.2.2.2.2.2.2.2.2.2.2.1
abbrev dX9_common_84 := zr_650.2.2.2.2.2.2.2.2.2.2.2.1
set_option maxRecDepth 100000 in
theorem zk_651 : zck 85 (cX9_common.data.toList.drop 85) [(85, .iconst 0, 1), (86, .iload 6, 2), (88, .invokevirtual 175, 3), (91, .i2l, 1), (92, .invokevirtual 142, 3), (95, .aload_n 0, 1), (96, .aload_n 0, 1), (97, .iconst 1, 1), (98, .iload 6, 2), (100, .invokevirtual 175, 3), (103, .i2l, 1), (104, .invokevirtual 142, 3)] = true := by decide +kernel
theorem zr_651 : decode cX9_common 85 = .ok (.iconst 0, 1) ∧ decode cX9_common 86 = .ok (.iload 6, 2) ∧ decode cX9_common 88 = .ok (.invokevirtual 175, 3) ∧ decode cX9_common 91 = .ok (.i2l, 1) ∧ decode cX9_common 92 = .ok (.invokevirtual 142, 3) ∧ decode cX9_common 95 = .ok (.aload_n 0, 1) ∧ decode cX9_common 96 = .ok (.aload_n 0, 1) ∧ decode cX9_common 97 = .ok (.iconst 1, 1) ∧ decode cX9_common 98 = .ok (.iload 6, 2) ∧ decode cX9_common 100 = .ok (.invokevirtual 175, 3) ∧ decode cX9_common 103 = .ok (.i2l, 1) ∧ decode cX9_common 104 = .ok (.invokevirtual 142, 3) ∧ True := zj_of zk_651
abbrev dX9_common_85 := zr_651.1
abbrev dX9_common_86 := zr_651.2.1
abbrev dX9_common_88 := zr_651.2.2.1
abbrev dX9_common_91 := zr_651.2.2.2.1
abbrev dX9_common_92 := zr_651.2.2.2.2.1
abbrev dX9_common_95 := zr_651.2.2.2.2.2.1
abbrev dX9_common_96 := zr_651.2.2.2.2.2.2.1
abbrev dX9_common_97 := zr_651.2.2.2.2.2.2.2.1
abbrev dX9_common_98 := zr_651.2.2.2.2.2.2.2.2.1
abbrev dX9_common_100 := zr_651.2.2.2.2.2.2.2.2.2.1
abbrev dX9_common_103 := zr_651.2.2.2.2.2.2.2.2.2.2.1
abbrev dX9_common_104 := zr_651.2.2.2.2.2.2.2.2.2.2.2.1
set_option maxRecDepth 100000 in
theorem zk_652 : zck 107 (cX9_common.data.toList.drop 107) [(107, .iinc 5 1, 3), (110, .iinc 6 1, 3), (113, .goto (-72), 3), (116, .iload 5, 2), (118, .ireturn, 1)] = true := by decide +kernel
theorem zr_652 : decode cX9_common 107 = .ok (.iinc 5 1, 3) ∧ decode cX9_common 110 = .ok (.iinc 6 1, 3) ∧ decode cX9_common 113 = .ok (.goto (-72), 3) ∧ decode cX9_common 116 = .ok (.iload 5, 2) ∧ decode cX9_common 118 = .ok (.ireturn, 1) ∧ True := zj_of zk_652
abbrev dX9_common_107 := zr_652.1
abbrev dX9_common_110 := zr_652.2.1
abbrev dX9_common_113 := zr_652.2.2.1
abbrev dX9_common_116 := zr_652.2.2.2.1
abbrev dX9_common_118 := zr_652.2.2.2.2.1
set_option maxRecDepth 100000 in
theorem zk_653 : zck 0 (cX9_lacking.data.toList.drop 0) [(0, .aload_n 0, 1), (1, .iconst 0, 1), (2, .putfield 1, 3), (5, .aload_n 0, 1), (6, .iload_n 1, 1), (7, .iload_n 2, 1), (8, .iload_n 3, 1), (9, .iload 4, 2), (11, .invokevirtual 215, 3), (14, .ifCond .ne 5, 3), (17, .iconst (-1), 1), (18, .ireturn, 1)] = true := by decide +kernel
theorem zr_653 : decode cX9_lacking 0 = .ok (.aload_n 0, 1) ∧ decode cX9_lacking 1 = .ok (.iconst 0, 1) ∧ decode cX9_lacking 2 = .ok (.putfield 1, 3) ∧ decode cX9_lacking 5 = .ok (.aload_n 0, 1) ∧ decode cX9_lacking 6 = .ok (.iload_n 1, 1) ∧ decode cX9_lacking 7 = .ok (.iload_n 2, 1) ∧ decode cX9_lacking 8 = .ok (.iload_n 3, 1) ∧ decode cX9_lacking 9 = .ok (.iload 4, 2) ∧ decode cX9_lacking 11 = .ok (.invokevirtual 215, 3) ∧ decode cX9_lacking 14 = .ok (.ifCond .ne 5, 3) ∧ decode cX9_lacking 17 = .ok (.iconst (-1), 1) ∧ decode cX9_lacking 18 = .ok (.ireturn, 1) ∧ True := zj_of zk_653
abbrev dX9_lacking_0 := zr_653.1
abbrev dX9_lacking_1 := zr_653.2.1
abbrev dX9_lacking_2 := zr_653.2.2.1
abbrev dX9_lacking_5 := zr_653.2.2.2.1
abbrev dX9_lacking_6 := zr_653.2.2.2.2.1
abbrev dX9_lacking_7 := zr_653.2.2.2.2.2.1
abbrev dX9_lacking_8 := zr_653.2.2.2.2.2.2.1
abbrev dX9_lacking_9 := zr_653.2.2.2.2.2.2.2.1
abbrev dX9_lacking_11 := zr_653.2.2.2.2.2.2.2.2.1
abbrev dX9_lacking_14 := zr_653.2.2.2.2.2.2.2.2.2.1
abbrev dX9_lacking_17 := zr_653.2.2.2.2.2.2.2.2.2.2.1
abbrev dX9_lacking_18 := zr_653.2.2.2.2.2.2.2.2.2.2.2.1
set_option maxRecDepth 100000 in
theorem zk_654 : zck 19 (cX9_lacking.data.toList.drop 19) [(19, .aload_n 0, 1), (20, .iconst 0, 1), (21, .putfield 11, 3), (24, .iconst 0, 1), (25, .istore 5, 2), (27, .iconst 0, 1), (28, .istore 6, 2), (30, .iload 6, 2), (32, .sipush 256, 3), (35, .if_icmp .ge 58, 3), (38, .aload_n 0, 1), (39, .iconst 0, 1)] = true := by decide +kernel
theorem zr_654 : decode cX9_lacking 19 = .ok (.aload_n 0, 1) ∧ decode cX9_lacking 20 = .ok (.iconst 0, 1) ∧ decode cX9_lacking 21 = .ok (.putfield 11, 3) ∧ decode cX9_lacking 24 = .ok (.iconst 0, 1) ∧ decode cX9_lacking 25 = .ok (.istore 5, 2) ∧ decode cX9_lacking 27 = .ok (.iconst 0, 1) ∧ decode cX9_lacking 28 = .ok (.istore 6, 2) ∧ decode cX9_lacking 30 = .ok (.iload 6, 2) ∧ decode cX9_lacking 32 = .ok (.sipush 256, 3) ∧ decode cX9_lacking 35 = .ok (.if_icmp .ge 58, 3) ∧ decode cX9_lacking 38 = .ok (.aload_n 0, 1) ∧ decode cX9_lacking 39 = .ok (.iconst 0, 1) ∧ True := zj_of zk_654
abbrev dX9_lacking_19 := zr_654.1
abbrev dX9_lacking_20 := zr_654.2.1
abbrev dX9_lacking_21 := zr_654.2.2.1
abbrev dX9_lacking_24 := zr_654.2.2.2.1
abbrev dX9_lacking_25 := zr_654.2.2.2.2.1
abbrev dX9_lacking_27 := zr_654.2.2.2.2.2.1
abbrev dX9_lacking_28 := zr_654.2.2.2.2.2.2.1
abbrev dX9_lacking_30 := zr_654.2.2.2.2.2.2.2.1
abbrev dX9_lacking_32 := zr_654.2.2.2.2.2.2.2.2.1
abbrev dX9_lacking_35 := zr_654.2.2.2.2.2.2.2.2.2.1
abbrev dX9_lacking_38 := zr_654.2.2.2.2.2.2.2.2.2.2.1
abbrev dX9_lacking_39 := zr_654.2.2.2.2.2.2.2.2.2.2.2.1
set_option maxRecDepth 100000 in
theorem zk_655 : zck 40 (cX9_lacking.data.toList.drop 40) [(40, .iload 6, 2), (42, .invokevirtual 175, 3), (45, .ifCond .le 42, 3), (48, .aload_n 0, 1), (49, .iconst 1, 1), (50, .iload 6, 2), (52, .invokevirtual 175, 3), (55, .ifCond .ne 32, 3), (58, .iload 5, 2), (60, .bipush 16, 2), (62, .if_icmp .ge 22, 3), (65, .aload_n 0, 1)] = true := by decide +kernel
theorem zr_655 : decode cX9_lacking 40 = .ok (.iload 6, 2) ∧ decode cX9_lacking 42 = .ok (.invokevirtual 175, 3) ∧ decode cX9_lacking 45 = .ok (.ifCond .le 42, 3) ∧ decode cX9_lacking 48 = .ok (.aload_n 0, 1) ∧ decode cX9_lacking 49 = .ok (.iconst 1, 1) ∧ decode cX9_lacking 50 = .ok (.iload 6, 2) ∧ decode cX9_lacking 52 = .ok (.invokevirtual 175, 3) ∧ decode cX9_lacking 55 = .ok (.ifCond .ne 32, 3) ∧ decode cX9_lacking 58 = .ok (.iload 5, 2) ∧ decode cX9_lacking 60 = .ok (.bipush 16, 2) ∧ decode cX9_lacking 62 = .ok (.if_icmp .ge 22, 3) ∧ decode cX9_lacking 65 = .ok (.aload_n 0, 1) ∧ True := zj_of zk_655
abbrev dX9_lacking_40 := zr_655.1
abbrev dX9_lacking_42 := zr_655.2.1
abbrev dX9_lacking_45 := zr_655.2.2.1
abbrev dX9_lacking_48 := zr_655.2.2.2.1
abbrev dX9_lacking_49 := zr_655.2.2.2.2.1
abbrev dX9_lacking_50 := zr_655.2.2.2.2.2.1
abbrev dX9_lacking_52 := zr_655.2.2.2.2.2.2.1
abbrev dX9_lacking_55 := zr_655.2.2.2.2.2.2.2.1
abbrev dX9_lacking_58 := zr_655.2.2.2.2.2.2.2.2.1
abbrev dX9_lacking_60 := zr_655.2.2.2.2.2.2.2.2.2.1
abbrev dX9_lacking_62 := zr_655.2.2.2.2.2.2.2.2.2.2.1
abbrev dX9_lacking_65 := zr_655.2.2.2.2.2.2.2.2.2.2.2.1
set_option maxRecDepth 100000 in
theorem zk_656 : zck 66 (cX9_lacking.data.toList.drop 66) [(66, .iload 6, 2), (68, .i2l, 1), (69, .invokevirtual 142, 3), (72, .aload_n 0, 1), (73, .aload_n 0, 1), (74, .iconst 0, 1), (75, .iload 6, 2), (77, .invokevirtual 175, 3), (80, .i2l, 1), (81, .invokevirtual 142, 3), (84, .iinc 5 1, 3), (87, .iinc 6 1, 3)] = true := by decide +kernel
theorem zr_656 : decode cX9_lacking 66 = .ok (.iload 6, 2) ∧ decode cX9_lacking 68 = .ok (.i2l, 1) ∧ decode cX9_lacking 69 = .ok (.invokevirtual 142, 3) ∧ decode cX9_lacking 72 = .ok (.aload_n 0, 1) ∧ decode cX9_lacking 73 = .ok (.aload_n 0, 1) ∧ decode cX9_lacking 74 = .ok (.iconst 0, 1) ∧ decode cX9_lacking 75 = .ok (.iload 6, 2) ∧ decode cX9_lacking 77 = .ok (.invokevirtual 175, 3) ∧ decode cX9_lacking 80 = .ok (.i2l, 1) ∧ decode cX9_lacking 81 = .ok (.invokevirtual 142, 3) ∧ decode cX9_lacking 84 = .ok (.iinc 5 1, 3) ∧ decode cX9_lacking 87 = .ok (.iinc 6 1, 3) ∧ True := zj_of zk_656
abbrev dX9_lacking_66 := zr_656.1
abbrev dX9_lacking_68 := zr_656.2.1
abbrev dX9_lacking_69 := zr_656.2.2.1
abbrev dX9_lacking_72 := zr_656.2.2.2.1
abbrev dX9_lacking_73 := zr_656.2.2.2.2.1
abbrev dX9_lacking_74 := zr_656.2.2.2.2.2.1
abbrev dX9_lacking_75 := zr_656.2.2.2.2.2.2.1
abbrev dX9_lacking_77 := zr_656.2.2.2.2.2.2.2.1
abbrev dX9_lacking_80 := zr_656.2.2.2.2.2.2.2.2.1
abbrev dX9_lacking_81 := zr_656.2.2.2.2.2.2.2.2.2.1
abbrev dX9_lacking_84 := zr_656.2.2.2.2.2.2.2.2.2.2.1
abbrev dX9_lacking_87 := zr_656.2.2.2.2.2.2.2.2.2.2.2.1
set_option maxRecDepth 100000 in
theorem zk_657 : zck 90 (cX9_lacking.data.toList.drop 90) [(90, .goto (-60), 3), (93, .iload 5, 2), (95, .ireturn, 1)] = true := by decide +kernel
theorem zr_657 : decode cX9_lacking 90 = .ok (.goto (-60), 3) ∧ decode cX9_lacking 93 = .ok (.iload 5, 2) ∧ decode cX9_lacking 95 = .ok (.ireturn, 1) ∧ True := zj_of zk_657
abbrev dX9_lacking_90 := zr_657.1
abbrev dX9_lacking_93 := zr_657.2.1
abbrev dX9_lacking_95 := zr_657.2.2.1
set_option maxRecDepth 100000 in
theorem zk_658 : zck 0 (cX9_both.data.toList.drop 0) [(0, .aload_n 0, 1), (1, .iconst 0, 1), (2, .putfield 1, 3), (5, .aload_n 0, 1), (6, .iload_n 1, 1), (7, .iload_n 2, 1), (8, .invokevirtual 150, 3), (11, .ifCond .eq 18, 3), (14, .aload_n 0, 1), (15, .iload_n 3, 1), (16, .iload 4, 2), (18, .invokevirtual 150, 3)] = true := by decide +kernel
theorem zr_658 : decode cX9_both 0 = .ok (.aload_n 0, 1) ∧ decode cX9_both 1 = .ok (.iconst 0, 1) ∧ decode cX9_both 2 = .ok (.putfield 1, 3) ∧ decode cX9_both 5 = .ok (.aload_n 0, 1) ∧ decode cX9_both 6 = .ok (.iload_n 1, 1) ∧ decode cX9_both 7 = .ok (.iload_n 2, 1) ∧ decode cX9_both 8 = .ok (.invokevirtual 150, 3) ∧ decode cX9_both 11 = .ok (.ifCond .eq 18, 3) ∧ decode cX9_both 14 = .ok (.aload_n 0, 1) ∧ decode cX9_both 15 = .ok (.iload_n 3, 1) ∧ decode cX9_both 16 = .ok (.iload 4, 2) ∧ decode cX9_both 18 = .ok (.invokevirtual 150, 3) ∧ True := zj_of zk_658
abbrev dX9_both_0 := zr_658.1
abbrev dX9_both_1 := zr_658.2.1
abbrev dX9_both_2 := zr_658.2.2.1
abbrev dX9_both_5 := zr_658.2.2.2.1
abbrev dX9_both_6 := zr_658.2.2.2.2.1
abbrev dX9_both_7 := zr_658.2.2.2.2.2.1
abbrev dX9_both_8 := zr_658.2.2.2.2.2.2.1
abbrev dX9_both_11 := zr_658.2.2.2.2.2.2.2.1
abbrev dX9_both_14 := zr_658.2.2.2.2.2.2.2.2.1
abbrev dX9_both_15 := zr_658.2.2.2.2.2.2.2.2.2.1
abbrev dX9_both_16 := zr_658.2.2.2.2.2.2.2.2.2.2.1
abbrev dX9_both_18 := zr_658.2.2.2.2.2.2.2.2.2.2.2.1
set_option maxRecDepth 100000 in
theorem zk_659 : zck 21 (cX9_both.data.toList.drop 21) [(21, .ifCond .eq 8, 3), (24, .iload 5, 2), (26, .ifCond .ge 5, 3), (29, .iconst (-1), 1), (30, .ireturn, 1), (31, .iload 5, 2), (33, .iload_n 2, 1), (34, .iload_n 1, 1), (35, .isub, 1), (36, .iload 4, 2), (38, .iadd, 1), (39, .iload_n 3, 1)] = true := by decide +kernel
theorem zr_659 : decode cX9_both 21 = .ok (.ifCond .eq 8, 3) ∧ decode cX9_both 24 = .ok (.iload 5, 2) ∧ decode cX9_both 26 = .ok (.ifCond .ge 5, 3) ∧ decode cX9_both 29 = .ok (.iconst (-1), 1) ∧ decode cX9_both 30 = .ok (.ireturn, 1) ∧ decode cX9_both 31 = .ok (.iload 5, 2) ∧ decode cX9_both 33 = .ok (.iload_n 2, 1) ∧ decode cX9_both 34 = .ok (.iload_n 1, 1) ∧ decode cX9_both 35 = .ok (.isub, 1) ∧ decode cX9_both 36 = .ok (.iload 4, 2) ∧ decode cX9_both 38 = .ok (.iadd, 1) ∧ decode cX9_both 39 = .ok (.iload_n 3, 1) ∧ True := zj_of zk_659
abbrev dX9_both_21 := zr_659.1
abbrev dX9_both_24 := zr_659.2.1
abbrev dX9_both_26 := zr_659.2.2.1
abbrev dX9_both_29 := zr_659.2.2.2.1
abbrev dX9_both_30 := zr_659.2.2.2.2.1
abbrev dX9_both_31 := zr_659.2.2.2.2.2.1
abbrev dX9_both_33 := zr_659.2.2.2.2.2.2.1
abbrev dX9_both_34 := zr_659.2.2.2.2.2.2.2.1
abbrev dX9_both_35 := zr_659.2.2.2.2.2.2.2.2.1
abbrev dX9_both_36 := zr_659.2.2.2.2.2.2.2.2.2.1
abbrev dX9_both_38 := zr_659.2.2.2.2.2.2.2.2.2.2.1
abbrev dX9_both_39 := zr_659.2.2.2.2.2.2.2.2.2.2.2.1
set_option maxRecDepth 100000 in
theorem zk_660 : zck 40 (cX9_both.data.toList.drop 40) [(40, .isub, 1), (41, .if_icmp .lt 6, 3), (44, .bipush (-2), 2), (46, .ireturn, 1), (47, .aload_n 0, 1), (48, .iload_n 1, 1), (49, .iload_n 2, 1), (50, .iload_n 3, 1), (51, .iload 4, 2), (53, .invokevirtual 215, 3), (56, .istore 6, 2), (58, .iload 5, 2)] = true := by decide +kernel
theorem zr_660 : decode cX9_both 40 = .ok (.isub, 1) ∧ decode cX9_both 41 = .ok (.if_icmp .lt 6, 3) ∧ decode cX9_both 44 = .ok (.bipush (-2), 2) ∧ decode cX9_both 46 = .ok (.ireturn, 1) ∧ decode cX9_both 47 = .ok (.aload_n 0, 1) ∧ decode cX9_both 48 = .ok (.iload_n 1, 1) ∧ decode cX9_both 49 = .ok (.iload_n 2, 1) ∧ decode cX9_both 50 = .ok (.iload_n 3, 1) ∧ decode cX9_both 51 = .ok (.iload 4, 2) ∧ decode cX9_both 53 = .ok (.invokevirtual 215, 3) ∧ decode cX9_both 56 = .ok (.istore 6, 2) ∧ decode cX9_both 58 = .ok (.iload 5, 2) ∧ True := zj_of zk_660
abbrev dX9_both_40 := zr_660.1
abbrev dX9_both_41 := zr_660.2.1
abbrev dX9_both_44 := zr_660.2.2.1
abbrev dX9_both_46 := zr_660.2.2.2.1
abbrev dX9_both_47 := zr_660.2.2.2.2.1
abbrev dX9_both_48 := zr_660.2.2.2.2.2.1
abbrev dX9_both_49 := zr_660.2.2.2.2.2.2.1
abbrev dX9_both_50 := zr_660.2.2.2.2.2.2.2.1
abbrev dX9_both_51 := zr_660.2.2.2.2.2.2.2.2.1
abbrev dX9_both_53 := zr_660.2.2.2.2.2.2.2.2.2.1
abbrev dX9_both_56 := zr_660.2.2.2.2.2.2.2.2.2.2.1
abbrev dX9_both_58 := zr_660.2.2.2.2.2.2.2.2.2.2.2.1
set_option maxRecDepth 100000 in
theorem zk_661 : zck 60 (cX9_both.data.toList.drop 60) [(60, .istore 7, 2), (62, .iconst 0, 1), (63, .istore 8, 2), (65, .aload_n 0, 1), (66, .iconst 0, 1), (67, .iload 8, 2), (69, .invokevirtual 175, 3), (72, .aload_n 0, 1), (73, .iconst 1, 1), (74, .iload 8, 2), (76, .invokevirtual 175, 3), (79, .iadd, 1)] = true := by decide +kernel
theorem zr_661 : decode cX9_both 60 = .ok (.istore 7, 2) ∧ decode cX9_both 62 = .ok (.iconst 0, 1) ∧ decode cX9_both 63 = .ok (.istore 8, 2) ∧ decode cX9_both 65 = .ok (.aload_n 0, 1) ∧ decode cX9_both 66 = .ok (.iconst 0, 1) ∧ decode cX9_both 67 = .ok (.iload 8, 2) ∧ decode cX9_both 69 = .ok (.invokevirtual 175, 3) ∧ decode cX9_both 72 = .ok (.aload_n 0, 1) ∧ decode cX9_both 73 = .ok (.iconst 1, 1) ∧ decode cX9_both 74 = .ok (.iload 8, 2) ∧ decode cX9_both 76 = .ok (.invokevirtual 175, 3) ∧ decode cX9_both 79 = .ok (.iadd, 1) ∧ True := zj_of zk_661
abbrev dX9_both_60 := zr_661.1
abbrev dX9_both_62 := zr_661.2.1
abbrev dX9_both_63 := zr_661.2.2.1
abbrev dX9_both_65 := zr_661.2.2.2.1
abbrev dX9_both_66 := zr_661.2.2.2.2.1
abbrev dX9_both_67 := zr_661.2.2.2.2.2.1
abbrev dX9_both_69 := zr_661.2.2.2.2.2.2.1
abbrev dX9_both_72 := zr_661.2.2.2.2.2.2.2.1
abbrev dX9_both_73 := zr_661.2.2.2.2.2.2.2.2.1
abbrev dX9_both_74 := zr_661.2.2.2.2.2.2.2.2.2.1
abbrev dX9_both_76 := zr_661.2.2.2.2.2.2.2.2.2.2.1
abbrev dX9_both_79 := zr_661.2.2.2.2.2.2.2.2.2.2.2.1
set_option maxRecDepth 100000 in
theorem zk_662 : zck 80 (cX9_both.data.toList.drop 80) [(80, .iload 7, 2), (82, .if_icmp .gt 29, 3), (85, .iload 7, 2), (87, .aload_n 0, 1), (88, .iconst 0, 1), (89, .iload 8, 2), (91, .invokevirtual 175, 3), (94, .aload_n 0, 1), (95, .iconst 1, 1), (96, .iload 8, 2), (98, .invokevirtual 175, 3), (101, .iadd, 1)] = true := by decide +kernel
theorem zr_662 : decode cX9_both 80 = .ok (.iload 7, 2) ∧ decode cX9_both 82 = .ok (.if_icmp .gt 29, 3) ∧ decode cX9_both 85 = .ok (.iload 7, 2) ∧ decode cX9_both 87 = .ok (.aload_n 0, 1) ∧ decode cX9_both 88 = .ok (.iconst 0, 1) ∧ decode cX9_both 89 = .ok (.iload 8, 2) ∧ decode cX9_both 91 = .ok (.invokevirtual 175, 3) ∧ decode cX9_both 94 = .ok (.aload_n 0, 1) ∧ decode cX9_both 95 = .ok (.iconst 1, 1) ∧ decode cX9_both 96 = .ok (.iload 8, 2) ∧ decode cX9_both 98 = .ok (.invokevirtual 175, 3) ∧ decode cX9_both 101 = .ok (.iadd, 1) ∧ True := zj_of zk_662
abbrev dX9_both_80 := zr_662.1
abbrev dX9_both_82 := zr_662.2.1
abbrev dX9_both_85 := zr_662.2.2.1
abbrev dX9_both_87 := zr_662.2.2.2.1
abbrev dX9_both_88 := zr_662.2.2.2.2.1
abbrev dX9_both_89 := zr_662.2.2.2.2.2.1
abbrev dX9_both_91 := zr_662.2.2.2.2.2.2.1
abbrev dX9_both_94 := zr_662.2.2.2.2.2.2.2.1
abbrev dX9_both_95 := zr_662.2.2.2.2.2.2.2.2.1
abbrev dX9_both_96 := zr_662.2.2.2.2.2.2.2.2.2.1
abbrev dX9_both_98 := zr_662.2.2.2.2.2.2.2.2.2.2.1
abbrev dX9_both_101 := zr_662.2.2.2.2.2.2.2.2.2.2.2.1
set_option maxRecDepth 100000 in
theorem zk_663 : zck 102 (cX9_both.data.toList.drop 102) [(102, .isub, 1), (103, .istore 7, 2), (105, .iinc 8 1, 3), (108, .goto (-43), 3), (111, .aload_n 0, 1), (112, .iconst 0, 1), (113, .putfield 11, 3), (116, .aload_n 0, 1), (117, .aload_n 0, 1), (118, .iconst 0, 1), (119, .iload 8, 2), (121, .invokevirtual 175, 3)] = true := by decide +kernel
theorem zr_663 : decode cX9_both 102 = .ok (.isub, 1) ∧ decode cX9_both 103 = .ok (.istore 7, 2) ∧ decode cX9_both 105 = .ok (.iinc 8 1, 3) ∧ decode cX9_both 108 = .ok (.goto (-43), 3) ∧ decode cX9_both 111 = .ok (.aload_n 0, 1) ∧ decode cX9_both 112 = .ok (.iconst 0, 1) ∧ decode cX9_both 113 = .ok (.putfield 11, 3) ∧ decode cX9_both 116 = .ok (.aload_n 0, 1) ∧ decode cX9_both 117 = .ok (.aload_n 0, 1) ∧ decode cX9_both 118 = .ok (.iconst 0, 1) ∧ decode cX9_both 119 = .ok (.iload 8, 2) ∧ decode cX9_both 121 = .ok (.invokevirtual 175, 3) ∧ True := zj_of zk_663
abbrev dX9_both_102 := zr_663.1
abbrev dX9_both_103 := zr_663.2.1
abbrev dX9_both_105 := zr_663.2.2.1
abbrev dX9_both_108 := zr_663.2.2.2.1
abbrev dX9_both_111 := zr_663.2.2.2.2.1
abbrev dX9_both_112 := zr_663.2.2.2.2.2.1
abbrev dX9_both_113 := zr_663.2.2.2.2.2.2.1
abbrev dX9_both_116 := zr_663.2.2.2.2.2.2.2.1
abbrev dX9_both_117 := zr_663.2.2.2.2.2.2.2.2.1
abbrev dX9_both_118 := zr_663.2.2.2.2.2.2.2.2.2.1
abbrev dX9_both_119 := zr_663.2.2.2.2.2.2.2.2.2.2.1
abbrev dX9_both_121 := zr_663.2.2.2.2.2.2.2.2.2.2.2.1
set_option maxRecDepth 100000 in
theorem zk_664 : zck 124 (cX9_both.data.toList.drop 124) [(124, .i2l, 1), (125, .invokevirtual 142, 3), (128, .aload_n 0, 1), (129, .aload_n 0, 1), (130, .iconst 1, 1), (131, .iload 8, 2), (133, .invokevirtual 175, 3), (136, .i2l, 1), (137, .invokevirtual 142, 3), (140, .iload 8, 2), (142, .ireturn, 1)] = true := by decide +kernel
theorem zr_664 : decode cX9_both 124 = .ok (.i2l, 1) ∧ decode cX9_both 125 = .ok (.invokevirtual 142, 3) ∧ decode cX9_both 128 = .ok (.aload_n 0, 1) ∧ decode cX9_both 129 = .ok (.aload_n 0, 1) ∧ decode cX9_both 130 = .ok (.iconst 1, 1) ∧ decode cX9_both 131 = .ok (.iload 8, 2) ∧ decode cX9_both 133 = .ok (.invokevirtual 175, 3) ∧ decode cX9_both 136 = .ok (.i2l, 1) ∧ decode cX9_both 137 = .ok (.invokevirtual 142, 3) ∧ decode cX9_both 140 = .ok (.iload 8, 2) ∧ decode cX9_both 142 = .ok (.ireturn, 1) ∧ True := zj_of zk_664
abbrev dX9_both_124 := zr_664.1
abbrev dX9_both_125 := zr_664.2.1
abbrev dX9_both_128 := zr_664.2.2.1
abbrev dX9_both_129 := zr_664.2.2.2.1
abbrev dX9_both_130 := zr_664.2.2.2.2.1
abbrev dX9_both_131 := zr_664.2.2.2.2.2.1
abbrev dX9_both_133 := zr_664.2.2.2.2.2.2.1
abbrev dX9_both_136 := zr_664.2.2.2.2.2.2.2.1
abbrev dX9_both_137 := zr_664.2.2.2.2.2.2.2.2.1
abbrev dX9_both_140 := zr_664.2.2.2.2.2.2.2.2.2.1
abbrev dX9_both_142 := zr_664.2.2.2.2.2.2.2.2.2.2.1
set_option maxRecDepth 100000 in
theorem zk_665 : zck 0 (cX9_same.data.toList.drop 0) [(0, .aload_n 0, 1), (1, .iconst 0, 1), (2, .putfield 1, 3), (5, .aload_n 0, 1), (6, .iload_n 1, 1), (7, .iload_n 2, 1), (8, .iload_n 3, 1), (9, .iload 4, 2), (11, .invokevirtual 215, 3), (14, .ifCond .ne 5, 3), (17, .iconst (-1), 1), (18, .ireturn, 1)] = true := by decide +kernel
theorem zr_665 : decode cX9_same 0 = .ok (.aload_n 0, 1) ∧ decode cX9_same 1 = .ok (.iconst 0, 1) ∧ decode cX9_same 2 = .ok (.putfield 1, 3) ∧ decode cX9_same 5 = .ok (.aload_n 0, 1) ∧ decode cX9_same 6 = .ok (.iload_n 1, 1) ∧ decode cX9_same 7 = .ok (.iload_n 2, 1) ∧ decode cX9_same 8 = .ok (.iload_n 3, 1) ∧ decode cX9_same 9 = .ok (.iload 4, 2) ∧ decode cX9_same 11 = .ok (.invokevirtual 215, 3) ∧ decode cX9_same 14 = .ok (.ifCond .ne 5, 3) ∧ decode cX9_same 17 = .ok (.iconst (-1), 1) ∧ decode cX9_same 18 = .ok (.ireturn, 1) ∧ True := zj_of zk_665
abbrev dX9_same_0 := zr_665.1
abbrev dX9_same_1 := zr_665.2.1
abbrev dX9_same_2 := zr_665.2.2.1
abbrev dX9_same_5 := zr_665.2.2.2.1
abbrev dX9_same_6 := zr_665.2.2.2.2.1
abbrev dX9_same_7 := zr_665.2.2.2.2.2.1
abbrev dX9_same_8 := zr_665.2.2.2.2.2.2.1
abbrev dX9_same_9 := zr_665.2.2.2.2.2.2.2.1
abbrev dX9_same_11 := zr_665.2.2.2.2.2.2.2.2.1
abbrev dX9_same_14 := zr_665.2.2.2.2.2.2.2.2.2.1
abbrev dX9_same_17 := zr_665.2.2.2.2.2.2.2.2.2.2.1
abbrev dX9_same_18 := zr_665.2.2.2.2.2.2.2.2.2.2.2.1
set_option maxRecDepth 100000 in
theorem zk_666 : zck 19 (cX9_same.data.toList.drop 19) [(19, .iconst (-1), 1), (20, .istore 5, 2), (22, .iconst 0, 1), (23, .istore 6, 2), (25, .iconst 0, 1), (26, .istore 7, 2), (28, .sipush 255, 3), (31, .istore 8, 2), (33, .iload 8, 2), (35, .ifCond .lt 63, 3), (38, .aload_n 0, 1), (39, .iconst 0, 1)] = true := by decide +kernel
theorem zr_666 : decode cX9_same 19 = .ok (.iconst (-1), 1) ∧ decode cX9_same 20 = .ok (.istore 5, 2) ∧ decode cX9_same 22 = .ok (.iconst 0, 1) ∧ decode cX9_same 23 = .ok (.istore 6, 2) ∧ decode cX9_same 25 = .ok (.iconst 0, 1) ∧ decode cX9_same 26 = .ok (.istore 7, 2) ∧ decode cX9_same 28 = .ok (.sipush 255, 3) ∧ decode cX9_same 31 = .ok (.istore 8, 2) ∧ decode cX9_same 33 = .ok (.iload 8, 2) ∧ decode cX9_same 35 = .ok (.ifCond .lt 63, 3) ∧ decode cX9_same 38 = .ok (.aload_n 0, 1) ∧ decode cX9_same 39 = .ok (.iconst 0, 1) ∧ True := zj_of zk_666
abbrev dX9_same_19 := zr_666.1
abbrev dX9_same_20 := zr_666.2.1
abbrev dX9_same_22 := zr_666.2.2.1
abbrev dX9_same_23 := zr_666.2.2.2.1
abbrev dX9_same_25 := zr_666.2.2.2.2.1
abbrev dX9_same_26 := zr_666.2.2.2.2.2.1
abbrev dX9_same_28 := zr_666.2.2.2.2.2.2.1
abbrev dX9_same_31 := zr_666.2.2.2.2.2.2.2.1
abbrev dX9_same_33 := zr_666.2.2.2.2.2.2.2.2.1
abbrev dX9_same_35 := zr_666.2.2.2.2.2.2.2.2.2.1
abbrev dX9_same_38 := zr_666.2.2.2.2.2.2.2.2.2.2.1
abbrev dX9_same_39 := zr_666.2.2.2.2.2.2.2.2.2.2.2.1
set_option maxRecDepth 100000 in
theorem zk_667 : zck 40 (cX9_same.data.toList.drop 40) [(40, .iload 8, 2), (42, .invokevirtual 175, 3), (45, .aload_n 0, 1), (46, .iconst 1, 1), (47, .iload 8, 2), (49, .invokevirtual 175, 3), (52, .isub, 1), (53, .istore 9, 2), (55, .iload 9, 2), (57, .ifCond .eq 8, 3), (60, .iload 8, 2), (62, .goto 5, 3)] = true := by decide +kernel
theorem zr_667 : decode cX9_same 40 = .ok (.iload 8, 2) ∧ decode cX9_same 42 = .ok (.invokevirtual 175, 3) ∧ decode cX9_same 45 = .ok (.aload_n 0, 1) ∧ decode cX9_same 46 = .ok (.iconst 1, 1) ∧ decode cX9_same 47 = .ok (.iload 8, 2) ∧ decode cX9_same 49 = .ok (.invokevirtual 175, 3) ∧ decode cX9_same 52 = .ok (.isub, 1) ∧ decode cX9_same 53 = .ok (.istore 9, 2) ∧ decode cX9_same 55 = .ok (.iload 9, 2) ∧ decode cX9_same 57 = .ok (.ifCond .eq 8, 3) ∧ decode cX9_same 60 = .ok (.iload 8, 2) ∧ decode cX9_same 62 = .ok (.goto 5, 3) ∧ True := zj_of zk_667
abbrev dX9_same_40 := zr_667.1
abbrev dX9_same_42 := zr_667.2.1
abbrev dX9_same_45 := zr_667.2.2.1
abbrev dX9_same_46 := zr_667.2.2.2.1
abbrev dX9_same_47 := zr_667.2.2.2.2.1
abbrev dX9_same_49 := zr_667.2.2.2.2.2.1
abbrev dX9_same_52 := zr_667.2.2.2.2.2.2.1
abbrev dX9_same_53 := zr_667.2.2.2.2.2.2.2.1
abbrev dX9_same_55 := zr_667.2.2.2.2.2.2.2.2.1
abbrev dX9_same_57 := zr_667.2.2.2.2.2.2.2.2.2.1
abbrev dX9_same_60 := zr_667.2.2.2.2.2.2.2.2.2.2.1
abbrev dX9_same_62 := zr_667.2.2.2.2.2.2.2.2.2.2.2.1
set_option maxRecDepth 100000 in
theorem zk_668 : zck 65 (cX9_same.data.toList.drop 65) [(65, .iload 5, 2), (67, .istore 5, 2), (69, .iload 6, 2), (71, .iconst 0, 1), (72, .iload 9, 2), (74, .invokestatic 181, 3), (77, .iadd, 1), (78, .istore 6, 2), (80, .iload 7, 2), (82, .iconst 0, 1), (83, .iload 9, 2), (85, .ineg, 1)] = true := by decide +kernel
theorem zr_668 : decode cX9_same 65 = .ok (.iload 5, 2) ∧ decode cX9_same 67 = .ok (.istore 5, 2) ∧ decode cX9_same 69 = .ok (.iload 6, 2) ∧ decode cX9_same 71 = .ok (.iconst 0, 1) ∧ decode cX9_same 72 = .ok (.iload 9, 2) ∧ decode cX9_same 74 = .ok (.invokestatic 181, 3) ∧ decode cX9_same 77 = .ok (.iadd, 1) ∧ decode cX9_same 78 = .ok (.istore 6, 2) ∧ decode cX9_same 80 = .ok (.iload 7, 2) ∧ decode cX9_same 82 = .ok (.iconst 0, 1) ∧ decode cX9_same 83 = .ok (.iload 9, 2) ∧ decode cX9_same 85 = .ok (.ineg, 1) ∧ True := zj_of zk_668
abbrev dX9_same_65 := zr_668.1
abbrev dX9_same_67 := zr_668.2.1
abbrev dX9_same_69 := zr_668.2.2.1
abbrev dX9_same_71 := zr_668.2.2.2.1
abbrev dX9_same_72 := zr_668.2.2.2.2.1
abbrev dX9_same_74 := zr_668.2.2.2.2.2.1
abbrev dX9_same_77 := zr_668.2.2.2.2.2.2.1
abbrev dX9_same_78 := zr_668.2.2.2.2.2.2.2.1
abbrev dX9_same_80 := zr_668.2.2.2.2.2.2.2.2.1
abbrev dX9_same_82 := zr_668.2.2.2.2.2.2.2.2.2.1
abbrev dX9_same_83 := zr_668.2.2.2.2.2.2.2.2.2.2.1
abbrev dX9_same_85 := zr_668.2.2.2.2.2.2.2.2.2.2.2.1
set_option maxRecDepth 100000 in
theorem zk_669 : zck 86 (cX9_same.data.toList.drop 86) [(86, .invokestatic 181, 3), (89, .iadd, 1), (90, .istore 7, 2), (92, .iinc 8 (-1), 3), (95, .goto (-62), 3), (98, .aload_n 0, 1), (99, .iconst 0, 1), (100, .putfield 11, 3), (103, .aload_n 0, 1), (104, .iload 5, 2), (106, .i2l, 1), (107, .invokevirtual 142, 3)] = true := by decide +kernel
theorem zr_669 : decode cX9_same 86 = .ok (.invokestatic 181, 3) ∧ decode cX9_same 89 = .ok (.iadd, 1) ∧ decode cX9_same 90 = .ok (.istore 7, 2) ∧ decode cX9_same 92 = .ok (.iinc 8 (-1), 3) ∧ decode cX9_same 95 = .ok (.goto (-62), 3) ∧ decode cX9_same 98 = .ok (.aload_n 0, 1) ∧ decode cX9_same 99 = .ok (.iconst 0, 1) ∧ decode cX9_same 100 = .ok (.putfield 11, 3) ∧ decode cX9_same 103 = .ok (.aload_n 0, 1) ∧ decode cX9_same 104 = .ok (.iload 5, 2) ∧ decode cX9_same 106 = .ok (.i2l, 1) ∧ decode cX9_same 107 = .ok (.invokevirtual 142, 3) ∧ True := zj_of zk_669
abbrev dX9_same_86 := zr_669.1
abbrev dX9_same_89 := zr_669.2.1
abbrev dX9_same_90 := zr_669.2.2.1
abbrev dX9_same_92 := zr_669.2.2.2.1
abbrev dX9_same_95 := zr_669.2.2.2.2.1
abbrev dX9_same_98 := zr_669.2.2.2.2.2.1
abbrev dX9_same_99 := zr_669.2.2.2.2.2.2.1
abbrev dX9_same_100 := zr_669.2.2.2.2.2.2.2.1
abbrev dX9_same_103 := zr_669.2.2.2.2.2.2.2.2.1
abbrev dX9_same_104 := zr_669.2.2.2.2.2.2.2.2.2.1
abbrev dX9_same_106 := zr_669.2.2.2.2.2.2.2.2.2.2.1
abbrev dX9_same_107 := zr_669.2.2.2.2.2.2.2.2.2.2.2.1
set_option maxRecDepth 100000 in
theorem zk_670 : zck 110 (cX9_same.data.toList.drop 110) [(110, .aload_n 0, 1), (111, .iload 6, 2), (113, .i2l, 1), (114, .invokevirtual 142, 3), (117, .aload_n 0, 1), (118, .iload 7, 2), (120, .i2l, 1), (121, .invokevirtual 142, 3), (124, .iload 5, 2), (126, .ifCond .ge 7, 3), (129, .iconst 1, 1), (130, .goto 4, 3)] = true := by decide +kernel
theorem zr_670 : decode cX9_same 110 = .ok (.aload_n 0, 1) ∧ decode cX9_same 111 = .ok (.iload 6, 2) ∧ decode cX9_same 113 = .ok (.i2l, 1) ∧ decode cX9_same 114 = .ok (.invokevirtual 142, 3) ∧ decode cX9_same 117 = .ok (.aload_n 0, 1) ∧ decode cX9_same 118 = .ok (.iload 7, 2) ∧ decode cX9_same 120 = .ok (.i2l, 1) ∧ decode cX9_same 121 = .ok (.invokevirtual 142, 3) ∧ decode cX9_same 124 = .ok (.iload 5, 2) ∧ decode cX9_same 126 = .ok (.ifCond .ge 7, 3) ∧ decode cX9_same 129 = .ok (.iconst 1, 1) ∧ decode cX9_same 130 = .ok (.goto 4, 3) ∧ True := zj_of zk_670
abbrev dX9_same_110 := zr_670.1
abbrev dX9_same_111 := zr_670.2.1
abbrev dX9_same_113 := zr_670.2.2.1
abbrev dX9_same_114 := zr_670.2.2.2.1
abbrev dX9_same_117 := zr_670.2.2.2.2.1
abbrev dX9_same_118 := zr_670.2.2.2.2.2.1
abbrev dX9_same_120 := zr_670.2.2.2.2.2.2.1
abbrev dX9_same_121 := zr_670.2.2.2.2.2.2.2.1
abbrev dX9_same_124 := zr_670.2.2.2.2.2.2.2.2.1
abbrev dX9_same_126 := zr_670.2.2.2.2.2.2.2.2.2.1
abbrev dX9_same_129 := zr_670.2.2.2.2.2.2.2.2.2.2.1
abbrev dX9_same_130 := zr_670.2.2.2.2.2.2.2.2.2.2.2.1
set_option maxRecDepth 100000 in
theorem zk_671 : zck 133 (cX9_same.data.toList.drop 133) [(133, .iconst 0, 1), (134, .invokestatic 31, 3), (137, .ireturn, 1)] = true := by decide +kernel
theorem zr_671 : decode cX9_same 133 = .ok (.iconst 0, 1) ∧ decode cX9_same 134 = .ok (.invokestatic 31, 3) ∧ decode cX9_same 137 = .ok (.ireturn, 1) ∧ True := zj_of zk_671
abbrev dX9_same_133 := zr_671.1
abbrev dX9_same_134 := zr_671.2.1
abbrev dX9_same_137 := zr_671.2.2.1
set_option maxRecDepth 100000 in
theorem zk_672 : zck 0 (cX9_unlike.data.toList.drop 0) [(0, .aload_n 0, 1), (1, .iconst 0, 1), (2, .iconst 0, 1), (3, .aload_n 0, 1), (4, .getfield 88, 3), (7, .invokevirtual 169, 3), (10, .iconst 0, 1), (11, .istore_n 1, 1), (12, .iconst 0, 1), (13, .istore_n 2, 1), (14, .iload_n 2, 1), (15, .sipush 256, 3)] = true := by decide +kernel
theorem zr_672 : decode cX9_unlike 0 = .ok (.aload_n 0, 1) ∧ decode cX9_unlike 1 = .ok (.iconst 0, 1) ∧ decode cX9_unlike 2 = .ok (.iconst 0, 1) ∧ decode cX9_unlike 3 = .ok (.aload_n 0, 1) ∧ decode cX9_unlike 4 = .ok (.getfield 88, 3) ∧ decode cX9_unlike 7 = .ok (.invokevirtual 169, 3) ∧ decode cX9_unlike 10 = .ok (.iconst 0, 1) ∧ decode cX9_unlike 11 = .ok (.istore_n 1, 1) ∧ decode cX9_unlike 12 = .ok (.iconst 0, 1) ∧ decode cX9_unlike 13 = .ok (.istore_n 2, 1) ∧ decode cX9_unlike 14 = .ok (.iload_n 2, 1) ∧ decode cX9_unlike 15 = .ok (.sipush 256, 3) ∧ True := zj_of zk_672
abbrev dX9_unlike_0 := zr_672.1
abbrev dX9_unlike_1 := zr_672.2.1
abbrev dX9_unlike_2 := zr_672.2.2.1
abbrev dX9_unlike_3 := zr_672.2.2.2.1
abbrev dX9_unlike_4 := zr_672.2.2.2.2.1
abbrev dX9_unlike_7 := zr_672.2.2.2.2.2.1
abbrev dX9_unlike_10 := zr_672.2.2.2.2.2.2.1
abbrev dX9_unlike_11 := zr_672.2.2.2.2.2.2.2.1
abbrev dX9_unlike_12 := zr_672.2.2.2.2.2.2.2.2.1
abbrev dX9_unlike_13 := zr_672.2.2.2.2.2.2.2.2.2.1
abbrev dX9_unlike_14 := zr_672.2.2.2.2.2.2.2.2.2.2.1
abbrev dX9_unlike_15 := zr_672.2.2.2.2.2.2.2.2.2.2.2.1
set_option maxRecDepth 100000 in
theorem zk_673 : zck 18 (cX9_unlike.data.toList.drop 18) [(18, .if_icmp .ge 29, 3), (21, .iload_n 1, 1), (22, .aload_n 0, 1), (23, .iconst 0, 1), (24, .iload_n 2, 1), (25, .invokevirtual 175, 3), (28, .ifCond .le 7, 3), (31, .iconst 1, 1), (32, .goto 4, 3), (35, .iconst 0, 1), (36, .invokestatic 31, 3), (39, .iadd, 1)] = true := by decide +kernel
theorem zr_673 : decode cX9_unlike 18 = .ok (.if_icmp .ge 29, 3) ∧ decode cX9_unlike 21 = .ok (.iload_n 1, 1) ∧ decode cX9_unlike 22 = .ok (.aload_n 0, 1) ∧ decode cX9_unlike 23 = .ok (.iconst 0, 1) ∧ decode cX9_unlike 24 = .ok (.iload_n 2, 1) ∧ decode cX9_unlike 25 = .ok (.invokevirtual 175, 3) ∧ decode cX9_unlike 28 = .ok (.ifCond .le 7, 3) ∧ decode cX9_unlike 31 = .ok (.iconst 1, 1) ∧ decode cX9_unlike 32 = .ok (.goto 4, 3) ∧ decode cX9_unlike 35 = .ok (.iconst 0, 1) ∧ decode cX9_unlike 36 = .ok (.invokestatic 31, 3) ∧ decode cX9_unlike 39 = .ok (.iadd, 1) ∧ True := zj_of zk_673
abbrev dX9_unlike_18 := zr_673.1
abbrev dX9_unlike_21 := zr_673.2.1
abbrev dX9_unlike_22 := zr_673.2.2.1
abbrev dX9_unlike_23 := zr_673.2.2.2.1
abbrev dX9_unlike_24 := zr_673.2.2.2.2.1
abbrev dX9_unlike_25 := zr_673.2.2.2.2.2.1
abbrev dX9_unlike_28 := zr_673.2.2.2.2.2.2.1
abbrev dX9_unlike_31 := zr_673.2.2.2.2.2.2.2.1
abbrev dX9_unlike_32 := zr_673.2.2.2.2.2.2.2.2.1
abbrev dX9_unlike_35 := zr_673.2.2.2.2.2.2.2.2.2.1
abbrev dX9_unlike_36 := zr_673.2.2.2.2.2.2.2.2.2.2.1
abbrev dX9_unlike_39 := zr_673.2.2.2.2.2.2.2.2.2.2.2.1
set_option maxRecDepth 100000 in
theorem zk_674 : zck 40 (cX9_unlike.data.toList.drop 40) [(40, .istore_n 1, 1), (41, .iinc 2 1, 3), (44, .goto (-30), 3), (47, .iload_n 1, 1), (48, .ireturn, 1)] = true := by decide +kernel
theorem zr_674 : decode cX9_unlike 40 = .ok (.istore_n 1, 1) ∧ decode cX9_unlike 41 = .ok (.iinc 2 1, 3) ∧ decode cX9_unlike 44 = .ok (.goto (-30), 3) ∧ decode cX9_unlike 47 = .ok (.iload_n 1, 1) ∧ decode cX9_unlike 48 = .ok (.ireturn, 1) ∧ True := zj_of zk_674
abbrev dX9_unlike_40 := zr_674.1
abbrev dX9_unlike_41 := zr_674.2.1
abbrev dX9_unlike_44 := zr_674.2.2.1
abbrev dX9_unlike_47 := zr_674.2.2.2.1
abbrev dX9_unlike_48 := zr_674.2.2.2.2.1
set_option maxRecDepth 100000 in
theorem zk_675 : zck 0 (cX9_together.data.toList.drop 0) [(0, .iconst 0, 1), (1, .istore_n 2, 1), (2, .iconst 0, 1), (3, .istore_n 3, 1), (4, .iload_n 3, 1), (5, .aload_n 0, 1), (6, .getfield 88, 3), (9, .if_icmp .ge 34, 3), (12, .iload_n 2, 1), (13, .iload_n 1, 1), (14, .ifCond .eq 15, 3), (17, .aload_n 0, 1)] = true := by decide +kernel
theorem zr_675 : decode cX9_together 0 = .ok (.iconst 0, 1) ∧ decode cX9_together 1 = .ok (.istore_n 2, 1) ∧ decode cX9_together 2 = .ok (.iconst 0, 1) ∧ decode cX9_together 3 = .ok (.istore_n 3, 1) ∧ decode cX9_together 4 = .ok (.iload_n 3, 1) ∧ decode cX9_together 5 = .ok (.aload_n 0, 1) ∧ decode cX9_together 6 = .ok (.getfield 88, 3) ∧ decode cX9_together 9 = .ok (.if_icmp .ge 34, 3) ∧ decode cX9_together 12 = .ok (.iload_n 2, 1) ∧ decode cX9_together 13 = .ok (.iload_n 1, 1) ∧ decode cX9_together 14 = .ok (.ifCond .eq 15, 3) ∧ decode cX9_together 17 = .ok (.aload_n 0, 1) ∧ True := zj_of zk_675
abbrev dX9_together_0 := zr_675.1
abbrev dX9_together_1 := zr_675.2.1
abbrev dX9_together_2 := zr_675.2.2.1
abbrev dX9_together_3 := zr_675.2.2.2.1
abbrev dX9_together_4 := zr_675.2.2.2.2.1
abbrev dX9_together_5 := zr_675.2.2.2.2.2.1
abbrev dX9_together_6 := zr_675.2.2.2.2.2.2.1
abbrev dX9_together_9 := zr_675.2.2.2.2.2.2.2.1
abbrev dX9_together_12 := zr_675.2.2.2.2.2.2.2.2.1
abbrev dX9_together_13 := zr_675.2.2.2.2.2.2.2.2.2.1
abbrev dX9_together_14 := zr_675.2.2.2.2.2.2.2.2.2.2.1
abbrev dX9_together_17 := zr_675.2.2.2.2.2.2.2.2.2.2.2.1
set_option maxRecDepth 100000 in
theorem zk_676 : zck 18 (cX9_together.data.toList.drop 18) [(18, .getfield 49, 3), (21, .iload_n 3, 1), (22, .iaload, 1), (23, .invokestatic 218, 3), (26, .goto 9, 3), (29, .aload_n 0, 1), (30, .getfield 49, 3), (33, .iload_n 3, 1), (34, .iaload, 1), (35, .iadd, 1), (36, .istore_n 2, 1), (37, .iinc 3 1, 3)] = true := by decide +kernel
theorem zr_676 : decode cX9_together 18 = .ok (.getfield 49, 3) ∧ decode cX9_together 21 = .ok (.iload_n 3, 1) ∧ decode cX9_together 22 = .ok (.iaload, 1) ∧ decode cX9_together 23 = .ok (.invokestatic 218, 3) ∧ decode cX9_together 26 = .ok (.goto 9, 3) ∧ decode cX9_together 29 = .ok (.aload_n 0, 1) ∧ decode cX9_together 30 = .ok (.getfield 49, 3) ∧ decode cX9_together 33 = .ok (.iload_n 3, 1) ∧ decode cX9_together 34 = .ok (.iaload, 1) ∧ decode cX9_together 35 = .ok (.iadd, 1) ∧ decode cX9_together 36 = .ok (.istore_n 2, 1) ∧ decode cX9_together 37 = .ok (.iinc 3 1, 3) ∧ True := zj_of zk_676
abbrev dX9_together_18 := zr_676.1
abbrev dX9_together_21 := zr_676.2.1
abbrev dX9_together_22 := zr_676.2.2.1
abbrev dX9_together_23 := zr_676.2.2.2.1
abbrev dX9_together_26 := zr_676.2.2.2.2.1
abbrev dX9_together_29 := zr_676.2.2.2.2.2.1
abbrev dX9_together_30 := zr_676.2.2.2.2.2.2.1
abbrev dX9_together_33 := zr_676.2.2.2.2.2.2.2.1
abbrev dX9_together_34 := zr_676.2.2.2.2.2.2.2.2.1
abbrev dX9_together_35 := zr_676.2.2.2.2.2.2.2.2.2.1
abbrev dX9_together_36 := zr_676.2.2.2.2.2.2.2.2.2.2.1
abbrev dX9_together_37 := zr_676.2.2.2.2.2.2.2.2.2.2.2.1
set_option maxRecDepth 100000 in
theorem zk_677 : zck 40 (cX9_together.data.toList.drop 40) [(40, .goto (-36), 3), (43, .iload_n 2, 1), (44, .ireturn, 1)] = true := by decide +kernel
theorem zr_677 : decode cX9_together 40 = .ok (.goto (-36), 3) ∧ decode cX9_together 43 = .ok (.iload_n 2, 1) ∧ decode cX9_together 44 = .ok (.ireturn, 1) ∧ True := zj_of zk_677
abbrev dX9_together_40 := zr_677.1
abbrev dX9_together_43 := zr_677.2.1
abbrev dX9_together_44 := zr_677.2.2.1
set_option maxRecDepth 100000 in
theorem zk_678 : zck 0 (cX9_count.data.toList.drop 0) [(0, .aload_n 0, 1), (1, .iconst 0, 1), (2, .putfield 1, 3), (5, .iload_n 1, 1)] = true := by decide +kernel
theorem zr_678 : decode cX9_count 0 = .ok (.aload_n 0, 1) ∧ decode cX9_count 1 = .ok (.iconst 0, 1) ∧ decode cX9_count 2 = .ok (.putfield 1, 3) ∧ decode cX9_count 5 = .ok (.iload_n 1, 1) ∧ True := zj_of zk_678
abbrev dX9_count_0 := zr_678.1
abbrev dX9_count_1 := zr_678.2.1
abbrev dX9_count_2 := zr_678.2.2.1
abbrev dX9_count_5 := zr_678.2.2.2.1
set_option maxRecDepth 100000 in
theorem dX9_count_6 : decode cX9_count 6 = .ok (.tableswitch 70 0 5 #[38, 43, 48, 53, 58, 64], 38) := by decide +kernel
set_option maxRecDepth 100000 in
theorem zk_679 : zck 44 (cX9_count.data.toList.drop 44) [(44, .aload_n 0, 1), (45, .getfield 88, 3), (48, .ireturn, 1), (49, .aload_n 0, 1), (50, .getfield 14, 3), (53, .ireturn, 1), (54, .aload_n 0, 1), (55, .getfield 11, 3), (58, .ireturn, 1), (59, .aload_n 0, 1), (60, .invokevirtual 223, 3), (63, .ireturn, 1)] = true := by decide +kernel
theorem zr_679 : decode cX9_count 44 = .ok (.aload_n 0, 1) ∧ decode cX9_count 45 = .ok (.getfield 88, 3) ∧ decode cX9_count 48 = .ok (.ireturn, 1) ∧ decode cX9_count 49 = .ok (.aload_n 0, 1) ∧ decode cX9_count 50 = .ok (.getfield 14, 3) ∧ decode cX9_count 53 = .ok (.ireturn, 1) ∧ decode cX9_count 54 = .ok (.aload_n 0, 1) ∧ decode cX9_count 55 = .ok (.getfield 11, 3) ∧ decode cX9_count 58 = .ok (.ireturn, 1) ∧ decode cX9_count 59 = .ok (.aload_n 0, 1) ∧ decode cX9_count 60 = .ok (.invokevirtual 223, 3) ∧ decode cX9_count 63 = .ok (.ireturn, 1) ∧ True := zj_of zk_679
abbrev dX9_count_44 := zr_679.1
abbrev dX9_count_45 := zr_679.2.1
abbrev dX9_count_48 := zr_679.2.2.1
abbrev dX9_count_49 := zr_679.2.2.2.1
abbrev dX9_count_50 := zr_679.2.2.2.2.1
abbrev dX9_count_53 := zr_679.2.2.2.2.2.1
abbrev dX9_count_54 := zr_679.2.2.2.2.2.2.1
abbrev dX9_count_55 := zr_679.2.2.2.2.2.2.2.1
abbrev dX9_count_58 := zr_679.2.2.2.2.2.2.2.2.1
abbrev dX9_count_59 := zr_679.2.2.2.2.2.2.2.2.2.1
abbrev dX9_count_60 := zr_679.2.2.2.2.2.2.2.2.2.2.1
abbrev dX9_count_63 := zr_679.2.2.2.2.2.2.2.2.2.2.2.1
set_option maxRecDepth 100000 in
theorem zk_680 : zck 64 (cX9_count.data.toList.drop 64) [(64, .aload_n 0, 1), (65, .iconst 0, 1), (66, .invokevirtual 226, 3), (69, .ireturn, 1), (70, .aload_n 0, 1), (71, .iconst 1, 1), (72, .invokevirtual 226, 3), (75, .ireturn, 1), (76, .iconst (-1), 1), (77, .ireturn, 1)] = true := by decide +kernel
theorem zr_680 : decode cX9_count 64 = .ok (.aload_n 0, 1) ∧ decode cX9_count 65 = .ok (.iconst 0, 1) ∧ decode cX9_count 66 = .ok (.invokevirtual 226, 3) ∧ decode cX9_count 69 = .ok (.ireturn, 1) ∧ decode cX9_count 70 = .ok (.aload_n 0, 1) ∧ decode cX9_count 71 = .ok (.iconst 1, 1) ∧ decode cX9_count 72 = .ok (.invokevirtual 226, 3) ∧ decode cX9_count 75 = .ok (.ireturn, 1) ∧ decode cX9_count 76 = .ok (.iconst (-1), 1) ∧ decode cX9_count 77 = .ok (.ireturn, 1) ∧ True := zj_of zk_680
abbrev dX9_count_64 := zr_680.1
abbrev dX9_count_65 := zr_680.2.1
abbrev dX9_count_66 := zr_680.2.2.1
abbrev dX9_count_69 := zr_680.2.2.2.1
abbrev dX9_count_70 := zr_680.2.2.2.2.1
abbrev dX9_count_71 := zr_680.2.2.2.2.2.1
abbrev dX9_count_72 := zr_680.2.2.2.2.2.2.1
abbrev dX9_count_75 := zr_680.2.2.2.2.2.2.2.1
abbrev dX9_count_76 := zr_680.2.2.2.2.2.2.2.2.1
abbrev dX9_count_77 := zr_680.2.2.2.2.2.2.2.2.2.1
set_option maxRecDepth 100000 in
theorem zk_681 : zck 0 (cX9_row.data.toList.drop 0) [(0, .aload_n 0, 1), (1, .iload_n 1, 1), (2, .i2l, 1), (3, .lconst 0, 1), (4, .aload_n 0, 1), (5, .getfield 11, 3), (8, .iconst 1, 1), (9, .isub, 1), (10, .i2l, 1), (11, .invokestatic 21, 3), (14, .ifCond .ne 7, 3), (17, .iconst 1, 1)] = true := by decide +kernel
theorem zr_681 : decode cX9_row 0 = .ok (.aload_n 0, 1) ∧ decode cX9_row 1 = .ok (.iload_n 1, 1) ∧ decode cX9_row 2 = .ok (.i2l, 1) ∧ decode cX9_row 3 = .ok (.lconst 0, 1) ∧ decode cX9_row 4 = .ok (.aload_n 0, 1) ∧ decode cX9_row 5 = .ok (.getfield 11, 3) ∧ decode cX9_row 8 = .ok (.iconst 1, 1) ∧ decode cX9_row 9 = .ok (.isub, 1) ∧ decode cX9_row 10 = .ok (.i2l, 1) ∧ decode cX9_row 11 = .ok (.invokestatic 21, 3) ∧ decode cX9_row 14 = .ok (.ifCond .ne 7, 3) ∧ decode cX9_row 17 = .ok (.iconst 1, 1) ∧ True := zj_of zk_681
abbrev dX9_row_0 := zr_681.1
abbrev dX9_row_1 := zr_681.2.1
abbrev dX9_row_2 := zr_681.2.2.1
abbrev dX9_row_3 := zr_681.2.2.2.1
abbrev dX9_row_4 := zr_681.2.2.2.2.1
abbrev dX9_row_5 := zr_681.2.2.2.2.2.1
abbrev dX9_row_8 := zr_681.2.2.2.2.2.2.1
abbrev dX9_row_9 := zr_681.2.2.2.2.2.2.2.1
abbrev dX9_row_10 := zr_681.2.2.2.2.2.2.2.2.1
abbrev dX9_row_11 := zr_681.2.2.2.2.2.2.2.2.2.1
abbrev dX9_row_14 := zr_681.2.2.2.2.2.2.2.2.2.2.1
abbrev dX9_row_17 := zr_681.2.2.2.2.2.2.2.2.2.2.2.1
set_option maxRecDepth 100000 in
theorem zk_682 : zck 18 (cX9_row.data.toList.drop 18) [(18, .goto 4, 3), (21, .iconst 0, 1), (22, .invokestatic 31, 3), (25, .putfield 1, 3), (28, .aload_n 0, 1), (29, .getfield 1, 3), (32, .iconst 1, 1), (33, .if_icmp .ne 7, 3), (36, .lconst 0, 1), (37, .goto 9, 3), (40, .aload_n 0, 1), (41, .getfield 7, 3)] = true := by decide +kernel
theorem zr_682 : decode cX9_row 18 = .ok (.goto 4, 3) ∧ decode cX9_row 21 = .ok (.iconst 0, 1) ∧ decode cX9_row 22 = .ok (.invokestatic 31, 3) ∧ decode cX9_row 25 = .ok (.putfield 1, 3) ∧ decode cX9_row 28 = .ok (.aload_n 0, 1) ∧ decode cX9_row 29 = .ok (.getfield 1, 3) ∧ decode cX9_row 32 = .ok (.iconst 1, 1) ∧ decode cX9_row 33 = .ok (.if_icmp .ne 7, 3) ∧ decode cX9_row 36 = .ok (.lconst 0, 1) ∧ decode cX9_row 37 = .ok (.goto 9, 3) ∧ decode cX9_row 40 = .ok (.aload_n 0, 1) ∧ decode cX9_row 41 = .ok (.getfield 7, 3) ∧ True := zj_of zk_682
abbrev dX9_row_18 := zr_682.1
abbrev dX9_row_21 := zr_682.2.1
abbrev dX9_row_22 := zr_682.2.2.1
abbrev dX9_row_25 := zr_682.2.2.2.1
abbrev dX9_row_28 := zr_682.2.2.2.2.1
abbrev dX9_row_29 := zr_682.2.2.2.2.2.1
abbrev dX9_row_32 := zr_682.2.2.2.2.2.2.1
abbrev dX9_row_33 := zr_682.2.2.2.2.2.2.2.1
abbrev dX9_row_36 := zr_682.2.2.2.2.2.2.2.2.1
abbrev dX9_row_37 := zr_682.2.2.2.2.2.2.2.2.2.1
abbrev dX9_row_40 := zr_682.2.2.2.2.2.2.2.2.2.2.1
abbrev dX9_row_41 := zr_682.2.2.2.2.2.2.2.2.2.2.2.1
set_option maxRecDepth 100000 in
theorem zk_683 : zck 44 (cX9_row.data.toList.drop 44) [(44, .iload_n 1, 1), (45, .laload, 1), (46, .lreturn, 1)] = true := by decide +kernel
theorem zr_683 : decode cX9_row 44 = .ok (.iload_n 1, 1) ∧ decode cX9_row 45 = .ok (.laload, 1) ∧ decode cX9_row 46 = .ok (.lreturn, 1) ∧ True := zj_of zk_683
abbrev dX9_row_44 := zr_683.1
abbrev dX9_row_45 := zr_683.2.1
abbrev dX9_row_46 := zr_683.2.2.1
set_option maxRecDepth 100000 in
theorem zk_684 : zck 0 (cJ6_bitCount_0f7a4.data.toList.drop 0) [(0, .iload_n 0, 1), (1, .iload_n 0, 1), (2, .iconst 1, 1), (3, .iushr, 1), (4, .ldc_w 265, 3), (7, .iand, 1), (8, .isub, 1), (9, .istore_n 0, 1), (10, .iload_n 0, 1), (11, .ldc_w 266, 3), (14, .iand, 1), (15, .iload_n 0, 1)] = true := by decide +kernel
theorem zr_684 : decode cJ6_bitCount_0f7a4 0 = .ok (.iload_n 0, 1) ∧ decode cJ6_bitCount_0f7a4 1 = .ok (.iload_n 0, 1) ∧ decode cJ6_bitCount_0f7a4 2 = .ok (.iconst 1, 1) ∧ decode cJ6_bitCount_0f7a4 3 = .ok (.iushr, 1) ∧ decode cJ6_bitCount_0f7a4 4 = .ok (.ldc_w 265, 3) ∧ decode cJ6_bitCount_0f7a4 7 = .ok (.iand, 1) ∧ decode cJ6_bitCount_0f7a4 8 = .ok (.isub, 1) ∧ decode cJ6_bitCount_0f7a4 9 = .ok (.istore_n 0, 1) ∧ decode cJ6_bitCount_0f7a4 10 = .ok (.iload_n 0, 1) ∧ decode cJ6_bitCount_0f7a4 11 = .ok (.ldc_w 266, 3) ∧ decode cJ6_bitCount_0f7a4 14 = .ok (.iand, 1) ∧ decode cJ6_bitCount_0f7a4 15 = .ok (.iload_n 0, 1) ∧ True := zj_of zk_684
abbrev dJ6_bitCount_0f7a4_0 := zr_684.1
abbrev dJ6_bitCount_0f7a4_1 := zr_684.2.1
abbrev dJ6_bitCount_0f7a4_2 := zr_684.2.2.1
abbrev dJ6_bitCount_0f7a4_3 := zr_684.2.2.2.1
abbrev dJ6_bitCount_0f7a4_4 := zr_684.2.2.2.2.1
abbrev dJ6_bitCount_0f7a4_7 := zr_684.2.2.2.2.2.1
abbrev dJ6_bitCount_0f7a4_8 := zr_684.2.2.2.2.2.2.1
abbrev dJ6_bitCount_0f7a4_9 := zr_684.2.2.2.2.2.2.2.1
abbrev dJ6_bitCount_0f7a4_10 := zr_684.2.2.2.2.2.2.2.2.1
abbrev dJ6_bitCount_0f7a4_11 := zr_684.2.2.2.2.2.2.2.2.2.1
abbrev dJ6_bitCount_0f7a4_14 := zr_684.2.2.2.2.2.2.2.2.2.2.1
abbrev dJ6_bitCount_0f7a4_15 := zr_684.2.2.2.2.2.2.2.2.2.2.2.1
set_option maxRecDepth 100000 in
theorem zk_685 : zck 16 (cJ6_bitCount_0f7a4.data.toList.drop 16) [(16, .iconst 2, 1), (17, .iushr, 1), (18, .ldc_w 266, 3), (21, .iand, 1), (22, .iadd, 1), (23, .istore_n 0, 1), (24, .iload_n 0, 1), (25, .iload_n 0, 1), (26, .iconst 4, 1), (27, .iushr, 1), (28, .iadd, 1), (29, .ldc_w 267, 3)] = true := by decide +kernel
theorem zr_685 : decode cJ6_bitCount_0f7a4 16 = .ok (.iconst 2, 1) ∧ decode cJ6_bitCount_0f7a4 17 = .ok (.iushr, 1) ∧ decode cJ6_bitCount_0f7a4 18 = .ok (.ldc_w 266, 3) ∧ decode cJ6_bitCount_0f7a4 21 = .ok (.iand, 1) ∧ decode cJ6_bitCount_0f7a4 22 = .ok (.iadd, 1) ∧ decode cJ6_bitCount_0f7a4 23 = .ok (.istore_n 0, 1) ∧ decode cJ6_bitCount_0f7a4 24 = .ok (.iload_n 0, 1) ∧ decode cJ6_bitCount_0f7a4 25 = .ok (.iload_n 0, 1) ∧ decode cJ6_bitCount_0f7a4 26 = .ok (.iconst 4, 1) ∧ decode cJ6_bitCount_0f7a4 27 = .ok (.iushr, 1) ∧ decode cJ6_bitCount_0f7a4 28 = .ok (.iadd, 1) ∧ decode cJ6_bitCount_0f7a4 29 = .ok (.ldc_w 267, 3) ∧ True := zj_of zk_685
abbrev dJ6_bitCount_0f7a4_16 := zr_685.1
abbrev dJ6_bitCount_0f7a4_17 := zr_685.2.1
abbrev dJ6_bitCount_0f7a4_18 := zr_685.2.2.1
abbrev dJ6_bitCount_0f7a4_21 := zr_685.2.2.2.1
abbrev dJ6_bitCount_0f7a4_22 := zr_685.2.2.2.2.1
abbrev dJ6_bitCount_0f7a4_23 := zr_685.2.2.2.2.2.1
abbrev dJ6_bitCount_0f7a4_24 := zr_685.2.2.2.2.2.2.1
abbrev dJ6_bitCount_0f7a4_25 := zr_685.2.2.2.2.2.2.2.1
abbrev dJ6_bitCount_0f7a4_26 := zr_685.2.2.2.2.2.2.2.2.1
abbrev dJ6_bitCount_0f7a4_27 := zr_685.2.2.2.2.2.2.2.2.2.1
abbrev dJ6_bitCount_0f7a4_28 := zr_685.2.2.2.2.2.2.2.2.2.2.1
abbrev dJ6_bitCount_0f7a4_29 := zr_685.2.2.2.2.2.2.2.2.2.2.2.1
set_option maxRecDepth 100000 in
theorem zk_686 : zck 32 (cJ6_bitCount_0f7a4.data.toList.drop 32) [(32, .iand, 1), (33, .istore_n 0, 1), (34, .iload_n 0, 1), (35, .iload_n 0, 1), (36, .bipush 8, 2), (38, .iushr, 1), (39, .iadd, 1), (40, .istore_n 0, 1), (41, .iload_n 0, 1), (42, .iload_n 0, 1), (43, .bipush 16, 2), (45, .iushr, 1)] = true := by decide +kernel
theorem zr_686 : decode cJ6_bitCount_0f7a4 32 = .ok (.iand, 1) ∧ decode cJ6_bitCount_0f7a4 33 = .ok (.istore_n 0, 1) ∧ decode cJ6_bitCount_0f7a4 34 = .ok (.iload_n 0, 1) ∧ decode cJ6_bitCount_0f7a4 35 = .ok (.iload_n 0, 1) ∧ decode cJ6_bitCount_0f7a4 36 = .ok (.bipush 8, 2) ∧ decode cJ6_bitCount_0f7a4 38 = .ok (.iushr, 1) ∧ decode cJ6_bitCount_0f7a4 39 = .ok (.iadd, 1) ∧ decode cJ6_bitCount_0f7a4 40 = .ok (.istore_n 0, 1) ∧ decode cJ6_bitCount_0f7a4 41 = .ok (.iload_n 0, 1) ∧ decode cJ6_bitCount_0f7a4 42 = .ok (.iload_n 0, 1) ∧ decode cJ6_bitCount_0f7a4 43 = .ok (.bipush 16, 2) ∧ decode cJ6_bitCount_0f7a4 45 = .ok (.iushr, 1) ∧ True := zj_of zk_686
abbrev dJ6_bitCount_0f7a4_32 := zr_686.1
abbrev dJ6_bitCount_0f7a4_33 := zr_686.2.1
abbrev dJ6_bitCount_0f7a4_34 := zr_686.2.2.1
abbrev dJ6_bitCount_0f7a4_35 := zr_686.2.2.2.1
abbrev dJ6_bitCount_0f7a4_36 := zr_686.2.2.2.2.1
abbrev dJ6_bitCount_0f7a4_38 := zr_686.2.2.2.2.2.1
abbrev dJ6_bitCount_0f7a4_39 := zr_686.2.2.2.2.2.2.1
abbrev dJ6_bitCount_0f7a4_40 := zr_686.2.2.2.2.2.2.2.1
abbrev dJ6_bitCount_0f7a4_41 := zr_686.2.2.2.2.2.2.2.2.1
abbrev dJ6_bitCount_0f7a4_42 := zr_686.2.2.2.2.2.2.2.2.2.1
abbrev dJ6_bitCount_0f7a4_43 := zr_686.2.2.2.2.2.2.2.2.2.2.1
abbrev dJ6_bitCount_0f7a4_45 := zr_686.2.2.2.2.2.2.2.2.2.2.2.1
set_option maxRecDepth 100000 in
theorem zk_687 : zck 46 (cJ6_bitCount_0f7a4.data.toList.drop 46) [(46, .iadd, 1), (47, .istore_n 0, 1), (48, .iload_n 0, 1), (49, .bipush 63, 2), (51, .iand, 1), (52, .ireturn, 1)] = true := by decide +kernel
theorem zr_687 : decode cJ6_bitCount_0f7a4 46 = .ok (.iadd, 1) ∧ decode cJ6_bitCount_0f7a4 47 = .ok (.istore_n 0, 1) ∧ decode cJ6_bitCount_0f7a4 48 = .ok (.iload_n 0, 1) ∧ decode cJ6_bitCount_0f7a4 49 = .ok (.bipush 63, 2) ∧ decode cJ6_bitCount_0f7a4 51 = .ok (.iand, 1) ∧ decode cJ6_bitCount_0f7a4 52 = .ok (.ireturn, 1) ∧ True := zj_of zk_687
abbrev dJ6_bitCount_0f7a4_46 := zr_687.1
abbrev dJ6_bitCount_0f7a4_47 := zr_687.2.1
abbrev dJ6_bitCount_0f7a4_48 := zr_687.2.2.1
abbrev dJ6_bitCount_0f7a4_49 := zr_687.2.2.2.1
abbrev dJ6_bitCount_0f7a4_51 := zr_687.2.2.2.2.1
abbrev dJ6_bitCount_0f7a4_52 := zr_687.2.2.2.2.2.1
set_option maxRecDepth 100000 in
theorem zk_688 : zck 0 (cJ13_bitCount_95d88.data.toList.drop 0) [(0, .lload_n 0, 1), (1, .lload_n 0, 1), (2, .iconst 1, 1), (3, .lushr, 1), (4, .ldc2_w 314, 3), (7, .land, 1), (8, .lsub, 1), (9, .lstore_n 0, 1), (10, .lload_n 0, 1), (11, .ldc2_w 316, 3), (14, .land, 1), (15, .lload_n 0, 1)] = true := by decide +kernel
theorem zr_688 : decode cJ13_bitCount_95d88 0 = .ok (.lload_n 0, 1) ∧ decode cJ13_bitCount_95d88 1 = .ok (.lload_n 0, 1) ∧ decode cJ13_bitCount_95d88 2 = .ok (.iconst 1, 1) ∧ decode cJ13_bitCount_95d88 3 = .ok (.lushr, 1) ∧ decode cJ13_bitCount_95d88 4 = .ok (.ldc2_w 314, 3) ∧ decode cJ13_bitCount_95d88 7 = .ok (.land, 1) ∧ decode cJ13_bitCount_95d88 8 = .ok (.lsub, 1) ∧ decode cJ13_bitCount_95d88 9 = .ok (.lstore_n 0, 1) ∧ decode cJ13_bitCount_95d88 10 = .ok (.lload_n 0, 1) ∧ decode cJ13_bitCount_95d88 11 = .ok (.ldc2_w 316, 3) ∧ decode cJ13_bitCount_95d88 14 = .ok (.land, 1) ∧ decode cJ13_bitCount_95d88 15 = .ok (.lload_n 0, 1) ∧ True := zj_of zk_688
abbrev dJ13_bitCount_95d88_0 := zr_688.1
abbrev dJ13_bitCount_95d88_1 := zr_688.2.1
abbrev dJ13_bitCount_95d88_2 := zr_688.2.2.1
abbrev dJ13_bitCount_95d88_3 := zr_688.2.2.2.1
abbrev dJ13_bitCount_95d88_4 := zr_688.2.2.2.2.1
abbrev dJ13_bitCount_95d88_7 := zr_688.2.2.2.2.2.1
abbrev dJ13_bitCount_95d88_8 := zr_688.2.2.2.2.2.2.1
abbrev dJ13_bitCount_95d88_9 := zr_688.2.2.2.2.2.2.2.1
abbrev dJ13_bitCount_95d88_10 := zr_688.2.2.2.2.2.2.2.2.1
abbrev dJ13_bitCount_95d88_11 := zr_688.2.2.2.2.2.2.2.2.2.1
abbrev dJ13_bitCount_95d88_14 := zr_688.2.2.2.2.2.2.2.2.2.2.1
abbrev dJ13_bitCount_95d88_15 := zr_688.2.2.2.2.2.2.2.2.2.2.2.1
set_option maxRecDepth 100000 in
theorem zk_689 : zck 16 (cJ13_bitCount_95d88.data.toList.drop 16) [(16, .iconst 2, 1), (17, .lushr, 1), (18, .ldc2_w 316, 3), (21, .land, 1), (22, .ladd, 1), (23, .lstore_n 0, 1), (24, .lload_n 0, 1), (25, .lload_n 0, 1), (26, .iconst 4, 1), (27, .lushr, 1), (28, .ladd, 1), (29, .ldc2_w 318, 3)] = true := by decide +kernel
theorem zr_689 : decode cJ13_bitCount_95d88 16 = .ok (.iconst 2, 1) ∧ decode cJ13_bitCount_95d88 17 = .ok (.lushr, 1) ∧ decode cJ13_bitCount_95d88 18 = .ok (.ldc2_w 316, 3) ∧ decode cJ13_bitCount_95d88 21 = .ok (.land, 1) ∧ decode cJ13_bitCount_95d88 22 = .ok (.ladd, 1) ∧ decode cJ13_bitCount_95d88 23 = .ok (.lstore_n 0, 1) ∧ decode cJ13_bitCount_95d88 24 = .ok (.lload_n 0, 1) ∧ decode cJ13_bitCount_95d88 25 = .ok (.lload_n 0, 1) ∧ decode cJ13_bitCount_95d88 26 = .ok (.iconst 4, 1) ∧ decode cJ13_bitCount_95d88 27 = .ok (.lushr, 1) ∧ decode cJ13_bitCount_95d88 28 = .ok (.ladd, 1) ∧ decode cJ13_bitCount_95d88 29 = .ok (.ldc2_w 318, 3) ∧ True := zj_of zk_689
abbrev dJ13_bitCount_95d88_16 := zr_689.1
abbrev dJ13_bitCount_95d88_17 := zr_689.2.1
abbrev dJ13_bitCount_95d88_18 := zr_689.2.2.1
abbrev dJ13_bitCount_95d88_21 := zr_689.2.2.2.1
abbrev dJ13_bitCount_95d88_22 := zr_689.2.2.2.2.1
abbrev dJ13_bitCount_95d88_23 := zr_689.2.2.2.2.2.1
abbrev dJ13_bitCount_95d88_24 := zr_689.2.2.2.2.2.2.1
abbrev dJ13_bitCount_95d88_25 := zr_689.2.2.2.2.2.2.2.1
abbrev dJ13_bitCount_95d88_26 := zr_689.2.2.2.2.2.2.2.2.1
abbrev dJ13_bitCount_95d88_27 := zr_689.2.2.2.2.2.2.2.2.2.1
abbrev dJ13_bitCount_95d88_28 := zr_689.2.2.2.2.2.2.2.2.2.2.1
abbrev dJ13_bitCount_95d88_29 := zr_689.2.2.2.2.2.2.2.2.2.2.2.1
set_option maxRecDepth 100000 in
theorem zk_690 : zck 32 (cJ13_bitCount_95d88.data.toList.drop 32) [(32, .land, 1), (33, .lstore_n 0, 1), (34, .lload_n 0, 1), (35, .lload_n 0, 1), (36, .bipush 8, 2), (38, .lushr, 1), (39, .ladd, 1), (40, .lstore_n 0, 1), (41, .lload_n 0, 1), (42, .lload_n 0, 1), (43, .bipush 16, 2), (45, .lushr, 1)] = true := by decide +kernel
theorem zr_690 : decode cJ13_bitCount_95d88 32 = .ok (.land, 1) ∧ decode cJ13_bitCount_95d88 33 = .ok (.lstore_n 0, 1) ∧ decode cJ13_bitCount_95d88 34 = .ok (.lload_n 0, 1) ∧ decode cJ13_bitCount_95d88 35 = .ok (.lload_n 0, 1) ∧ decode cJ13_bitCount_95d88 36 = .ok (.bipush 8, 2) ∧ decode cJ13_bitCount_95d88 38 = .ok (.lushr, 1) ∧ decode cJ13_bitCount_95d88 39 = .ok (.ladd, 1) ∧ decode cJ13_bitCount_95d88 40 = .ok (.lstore_n 0, 1) ∧ decode cJ13_bitCount_95d88 41 = .ok (.lload_n 0, 1) ∧ decode cJ13_bitCount_95d88 42 = .ok (.lload_n 0, 1) ∧ decode cJ13_bitCount_95d88 43 = .ok (.bipush 16, 2) ∧ decode cJ13_bitCount_95d88 45 = .ok (.lushr, 1) ∧ True := zj_of zk_690
abbrev dJ13_bitCount_95d88_32 := zr_690.1
abbrev dJ13_bitCount_95d88_33 := zr_690.2.1
abbrev dJ13_bitCount_95d88_34 := zr_690.2.2.1
abbrev dJ13_bitCount_95d88_35 := zr_690.2.2.2.1
abbrev dJ13_bitCount_95d88_36 := zr_690.2.2.2.2.1
abbrev dJ13_bitCount_95d88_38 := zr_690.2.2.2.2.2.1
abbrev dJ13_bitCount_95d88_39 := zr_690.2.2.2.2.2.2.1
abbrev dJ13_bitCount_95d88_40 := zr_690.2.2.2.2.2.2.2.1
abbrev dJ13_bitCount_95d88_41 := zr_690.2.2.2.2.2.2.2.2.1
abbrev dJ13_bitCount_95d88_42 := zr_690.2.2.2.2.2.2.2.2.2.1
abbrev dJ13_bitCount_95d88_43 := zr_690.2.2.2.2.2.2.2.2.2.2.1
abbrev dJ13_bitCount_95d88_45 := zr_690.2.2.2.2.2.2.2.2.2.2.2.1
set_option maxRecDepth 100000 in
theorem zk_691 : zck 46 (cJ13_bitCount_95d88.data.toList.drop 46) [(46, .ladd, 1), (47, .lstore_n 0, 1), (48, .lload_n 0, 1), (49, .lload_n 0, 1), (50, .bipush 32, 2), (52, .lushr, 1), (53, .ladd, 1), (54, .lstore_n 0, 1), (55, .lload_n 0, 1), (56, .l2i, 1), (57, .bipush 127, 2), (59, .iand, 1)] = true := by decide +kernel
theorem zr_691 : decode cJ13_bitCount_95d88 46 = .ok (.ladd, 1) ∧ decode cJ13_bitCount_95d88 47 = .ok (.lstore_n 0, 1) ∧ decode cJ13_bitCount_95d88 48 = .ok (.lload_n 0, 1) ∧ decode cJ13_bitCount_95d88 49 = .ok (.lload_n 0, 1) ∧ decode cJ13_bitCount_95d88 50 = .ok (.bipush 32, 2) ∧ decode cJ13_bitCount_95d88 52 = .ok (.lushr, 1) ∧ decode cJ13_bitCount_95d88 53 = .ok (.ladd, 1) ∧ decode cJ13_bitCount_95d88 54 = .ok (.lstore_n 0, 1) ∧ decode cJ13_bitCount_95d88 55 = .ok (.lload_n 0, 1) ∧ decode cJ13_bitCount_95d88 56 = .ok (.l2i, 1) ∧ decode cJ13_bitCount_95d88 57 = .ok (.bipush 127, 2) ∧ decode cJ13_bitCount_95d88 59 = .ok (.iand, 1) ∧ True := zj_of zk_691
abbrev dJ13_bitCount_95d88_46 := zr_691.1
abbrev dJ13_bitCount_95d88_47 := zr_691.2.1
abbrev dJ13_bitCount_95d88_48 := zr_691.2.2.1
abbrev dJ13_bitCount_95d88_49 := zr_691.2.2.2.1
abbrev dJ13_bitCount_95d88_50 := zr_691.2.2.2.2.1
abbrev dJ13_bitCount_95d88_52 := zr_691.2.2.2.2.2.1
abbrev dJ13_bitCount_95d88_53 := zr_691.2.2.2.2.2.2.1
abbrev dJ13_bitCount_95d88_54 := zr_691.2.2.2.2.2.2.2.1
abbrev dJ13_bitCount_95d88_55 := zr_691.2.2.2.2.2.2.2.2.1
abbrev dJ13_bitCount_95d88_56 := zr_691.2.2.2.2.2.2.2.2.2.1
abbrev dJ13_bitCount_95d88_57 := zr_691.2.2.2.2.2.2.2.2.2.2.1
abbrev dJ13_bitCount_95d88_59 := zr_691.2.2.2.2.2.2.2.2.2.2.2.1
set_option maxRecDepth 100000 in
theorem zk_692 : zck 60 (cJ13_bitCount_95d88.data.toList.drop 60) [(60, .ireturn, 1)] = true := by decide +kernel
theorem zr_692 : decode cJ13_bitCount_95d88 60 = .ok (.ireturn, 1) ∧ True := zj_of zk_692
abbrev dJ13_bitCount_95d88_60 := zr_692.1
set_option maxRecDepth 100000 in
theorem zk_696 : zck 0 (cJ7_fill_53178.data.toList.drop 0) [(0, .iconst 0, 1), (1, .istore_n 2, 1), (2, .aload_n 0, 1), (3, .arraylength, 1), (4, .istore_n 3, 1), (5, .iload_n 2, 1), (6, .iload_n 3, 1), (7, .if_icmp .ge 13, 3), (10, .aload_n 0, 1), (11, .iload_n 2, 1), (12, .iload_n 1, 1), (13, .iastore, 1)] = true := by decide +kernel
theorem zr_696 : decode cJ7_fill_53178 0 = .ok (.iconst 0, 1) ∧ decode cJ7_fill_53178 1 = .ok (.istore_n 2, 1) ∧ decode cJ7_fill_53178 2 = .ok (.aload_n 0, 1) ∧ decode cJ7_fill_53178 3 = .ok (.arraylength, 1) ∧ decode cJ7_fill_53178 4 = .ok (.istore_n 3, 1) ∧ decode cJ7_fill_53178 5 = .ok (.iload_n 2, 1) ∧ decode cJ7_fill_53178 6 = .ok (.iload_n 3, 1) ∧ decode cJ7_fill_53178 7 = .ok (.if_icmp .ge 13, 3) ∧ decode cJ7_fill_53178 10 = .ok (.aload_n 0, 1) ∧ decode cJ7_fill_53178 11 = .ok (.iload_n 2, 1) ∧ decode cJ7_fill_53178 12 = .ok (.iload_n 1, 1) ∧ decode cJ7_fill_53178 13 = .ok (.iastore, 1) ∧ True := zj_of zk_696
abbrev dJ7_fill_53178_0 := zr_696.1
abbrev dJ7_fill_53178_1 := zr_696.2.1
abbrev dJ7_fill_53178_2 := zr_696.2.2.1
abbrev dJ7_fill_53178_3 := zr_696.2.2.2.1
abbrev dJ7_fill_53178_4 := zr_696.2.2.2.2.1
abbrev dJ7_fill_53178_5 := zr_696.2.2.2.2.2.1
abbrev dJ7_fill_53178_6 := zr_696.2.2.2.2.2.2.1
abbrev dJ7_fill_53178_7 := zr_696.2.2.2.2.2.2.2.1
abbrev dJ7_fill_53178_10 := zr_696.2.2.2.2.2.2.2.2.1
abbrev dJ7_fill_53178_11 := zr_696.2.2.2.2.2.2.2.2.2.1
abbrev dJ7_fill_53178_12 := zr_696.2.2.2.2.2.2.2.2.2.2.1
abbrev dJ7_fill_53178_13 := zr_696.2.2.2.2.2.2.2.2.2.2.2.1
set_option maxRecDepth 100000 in
theorem zk_697 : zck 14 (cJ7_fill_53178.data.toList.drop 14) [(14, .iinc 2 1, 3), (17, .goto (-12), 3), (20, .return_, 1)] = true := by decide +kernel
theorem zr_697 : decode cJ7_fill_53178 14 = .ok (.iinc 2 1, 3) ∧ decode cJ7_fill_53178 17 = .ok (.goto (-12), 3) ∧ decode cJ7_fill_53178 20 = .ok (.return_, 1) ∧ True := zj_of zk_697
abbrev dJ7_fill_53178_14 := zr_697.1
abbrev dJ7_fill_53178_17 := zr_697.2.1
abbrev dJ7_fill_53178_20 := zr_697.2.2.1
