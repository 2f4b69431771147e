set_option maxRecDepth 100000 in
theorem zk_247 : zck 15 (cX8_nearest.data.toList.drop 15) [(15, .if_icmp .ge 6, 3), (18, .bipush (-2), 2), (20, .ireturn, 1), (21, .aload_n 0, 1), (22, .getfield 41, 3), (25, .aload_n 0, 1), (26, .getfield 9, 3), (29, .iload_n 1, 1), (30, .iload_n 2, 1), (31, .invokevirtual 164, 3), (34, .iconst 0, 1), (35, .istore_n 3, 1)] = true := by decide +kernel
theorem zr_247 : decode cX8_nearest 15 = .ok (.if_icmp .ge 6, 3) ∧ decode cX8_nearest 18 = .ok (.bipush (-2), 2) ∧ decode cX8_nearest 20 = .ok (.ireturn, 1) ∧ decode cX8_nearest 21 = .ok (.aload_n 0, 1) ∧ decode cX8_nearest 22 = .ok (.getfield 41, 3) ∧ decode cX8_nearest 25 = .ok (.aload_n 0, 1) ∧ decode cX8_nearest 26 = .ok (.getfield 9, 3) ∧ decode cX8_nearest 29 = .ok (.iload_n 1, 1) ∧ decode cX8_nearest 30 = .ok (.iload_n 2, 1) ∧ decode cX8_nearest 31 = .ok (.invokevirtual 164, 3) ∧ decode cX8_nearest 34 = .ok (.iconst 0, 1) ∧ decode cX8_nearest 35 = .ok (.istore_n 3, 1) ∧ True := zj_of zk_247
abbrev dX8_nearest_15 := zr_247.1
abbrev dX8_nearest_18 := zr_247.2.1
abbrev dX8_nearest_20 := zr_247.2.2.1
abbrev dX8_nearest_21 := zr_247.2.2.2.1
abbrev dX8_nearest_22 := zr_247.2.2.2.2.1
abbrev dX8_nearest_25 := zr_247.2.2.2.2.2.1
abbrev dX8_nearest_26 := zr_247.2.2.2.2.2.2.1
abbrev dX8_nearest_29 := zr_247.2.2.2.2.2.2.2.1
abbrev dX8_nearest_30 := zr_247.2.2.2.2.2.2.2.2.1
abbrev dX8_nearest_31 := zr_247.2.2.2.2.2.2.2.2.2.1
abbrev dX8_nearest_34 := zr_247.2.2.2.2.2.2.2.2.2.2.1
abbrev dX8_nearest_35 := zr_247.2.2.2.2.2.2.2.2.2.2.2.1
set_option maxRecDepth 100000 in
theorem zk_248 : zck 36 (cX8_nearest.data.toList.drop 36) [(36, .iconst 1, 1), (37, .istore 4, 2), (39, .iload 4, 2), (41, .iload_n 2, 1), (42, .iload_n 1, 1), (43, .isub, 1), (44, .iconst 1, 1), (45, .isub, 1), (46, .if_icmp .ge 26, 3), (49, .aload_n 0, 1), (50, .iload 4, 2), (52, .invokevirtual 194, 3)] = true := by decide +kernel
theorem zr_248 : decode cX8_nearest 36 = .ok (.iconst 1, 1) ∧ decode cX8_nearest 37 = .ok (.istore 4, 2) ∧ decode cX8_nearest 39 = .ok (.iload 4, 2) ∧ decode cX8_nearest 41 = .ok (.iload_n 2, 1) ∧ decode cX8_nearest 42 = .ok (.iload_n 1, 1) ∧ decode cX8_nearest 43 = .ok (.isub, 1) ∧ decode cX8_nearest 44 = .ok (.iconst 1, 1) ∧ decode cX8_nearest 45 = .ok (.isub, 1) ∧ decode cX8_nearest 46 = .ok (.if_icmp .ge 26, 3) ∧ decode cX8_nearest 49 = .ok (.aload_n 0, 1) ∧ decode cX8_nearest 50 = .ok (.iload 4, 2) ∧ decode cX8_nearest 52 = .ok (.invokevirtual 194, 3) ∧ True := zj_of zk_248
abbrev dX8_nearest_36 := zr_248.1
abbrev dX8_nearest_37 := zr_248.2.1
abbrev dX8_nearest_39 := zr_248.2.2.1
abbrev dX8_nearest_41 := zr_248.2.2.2.1
abbrev dX8_nearest_42 := zr_248.2.2.2.2.1
abbrev dX8_nearest_43 := zr_248.2.2.2.2.2.1
abbrev dX8_nearest_44 := zr_248.2.2.2.2.2.2.1
abbrev dX8_nearest_45 := zr_248.2.2.2.2.2.2.2.1
abbrev dX8_nearest_46 := zr_248.2.2.2.2.2.2.2.2.1
abbrev dX8_nearest_49 := zr_248.2.2.2.2.2.2.2.2.2.1
abbrev dX8_nearest_50 := zr_248.2.2.2.2.2.2.2.2.2.2.1
abbrev dX8_nearest_52 := zr_248.2.2.2.2.2.2.2.2.2.2.2.1
set_option maxRecDepth 100000 in
theorem zk_249 : zck 55 (cX8_nearest.data.toList.drop 55) [(55, .aload_n 0, 1), (56, .iload_n 3, 1), (57, .invokevirtual 194, 3), (60, .if_icmp .ge 6, 3), (63, .iload 4, 2), (65, .istore_n 3, 1), (66, .iinc 4 1, 3), (69, .goto (-30), 3), (72, .aload_n 0, 1), (73, .aload_n 0, 1), (74, .getfield 41, 3), (77, .iload_n 3, 1)] = true := by decide +kernel
theorem zr_249 : decode cX8_nearest 55 = .ok (.aload_n 0, 1) ∧ decode cX8_nearest 56 = .ok (.iload_n 3, 1) ∧ decode cX8_nearest 57 = .ok (.invokevirtual 194, 3) ∧ decode cX8_nearest 60 = .ok (.if_icmp .ge 6, 3) ∧ decode cX8_nearest 63 = .ok (.iload 4, 2) ∧ decode cX8_nearest 65 = .ok (.istore_n 3, 1) ∧ decode cX8_nearest 66 = .ok (.iinc 4 1, 3) ∧ decode cX8_nearest 69 = .ok (.goto (-30), 3) ∧ decode cX8_nearest 72 = .ok (.aload_n 0, 1) ∧ decode cX8_nearest 73 = .ok (.aload_n 0, 1) ∧ decode cX8_nearest 74 = .ok (.getfield 41, 3) ∧ decode cX8_nearest 77 = .ok (.iload_n 3, 1) ∧ True := zj_of zk_249
abbrev dX8_nearest_55 := zr_249.1
abbrev dX8_nearest_56 := zr_249.2.1
abbrev dX8_nearest_57 := zr_249.2.2.1
abbrev dX8_nearest_60 := zr_249.2.2.2.1
abbrev dX8_nearest_63 := zr_249.2.2.2.2.1
abbrev dX8_nearest_65 := zr_249.2.2.2.2.2.1
abbrev dX8_nearest_66 := zr_249.2.2.2.2.2.2.1
abbrev dX8_nearest_69 := zr_249.2.2.2.2.2.2.2.1
abbrev dX8_nearest_72 := zr_249.2.2.2.2.2.2.2.2.1
abbrev dX8_nearest_73 := zr_249.2.2.2.2.2.2.2.2.2.1
abbrev dX8_nearest_74 := zr_249.2.2.2.2.2.2.2.2.2.2.1
abbrev dX8_nearest_77 := zr_249.2.2.2.2.2.2.2.2.2.2.2.1
set_option maxRecDepth 100000 in
theorem zk_250 : zck 78 (cX8_nearest.data.toList.drop 78) [(78, .invokevirtual 168, 3), (81, .i2l, 1), (82, .aload_n 0, 1), (83, .getfield 41, 3), (86, .iload_n 3, 1), (87, .iconst 1, 1), (88, .iadd, 1), (89, .invokevirtual 168, 3), (92, .i2l, 1), (93, .invokevirtual 135, 3), (96, .aload_n 0, 1), (97, .iload_n 3, 1)] = true := by decide +kernel
theorem zr_250 : decode cX8_nearest 78 = .ok (.invokevirtual 168, 3) ∧ decode cX8_nearest 81 = .ok (.i2l, 1) ∧ decode cX8_nearest 82 = .ok (.aload_n 0, 1) ∧ decode cX8_nearest 83 = .ok (.getfield 41, 3) ∧ decode cX8_nearest 86 = .ok (.iload_n 3, 1) ∧ decode cX8_nearest 87 = .ok (.iconst 1, 1) ∧ decode cX8_nearest 88 = .ok (.iadd, 1) ∧ decode cX8_nearest 89 = .ok (.invokevirtual 168, 3) ∧ decode cX8_nearest 92 = .ok (.i2l, 1) ∧ decode cX8_nearest 93 = .ok (.invokevirtual 135, 3) ∧ decode cX8_nearest 96 = .ok (.aload_n 0, 1) ∧ decode cX8_nearest 97 = .ok (.iload_n 3, 1) ∧ True := zj_of zk_250
abbrev dX8_nearest_78 := zr_250.1
abbrev dX8_nearest_81 := zr_250.2.1
abbrev dX8_nearest_82 := zr_250.2.2.1
abbrev dX8_nearest_83 := zr_250.2.2.2.1
abbrev dX8_nearest_86 := zr_250.2.2.2.2.1
abbrev dX8_nearest_87 := zr_250.2.2.2.2.2.1
abbrev dX8_nearest_88 := zr_250.2.2.2.2.2.2.1
abbrev dX8_nearest_89 := zr_250.2.2.2.2.2.2.2.1
abbrev dX8_nearest_92 := zr_250.2.2.2.2.2.2.2.2.1
abbrev dX8_nearest_93 := zr_250.2.2.2.2.2.2.2.2.2.1
abbrev dX8_nearest_96 := zr_250.2.2.2.2.2.2.2.2.2.2.1
abbrev dX8_nearest_97 := zr_250.2.2.2.2.2.2.2.2.2.2.2.1
set_option maxRecDepth 100000 in
theorem zk_251 : zck 98 (cX8_nearest.data.toList.drop 98) [(98, .invokevirtual 194, 3), (101, .ireturn, 1)] = true := by decide +kernel
theorem zr_251 : decode cX8_nearest 98 = .ok (.invokevirtual 194, 3) ∧ decode cX8_nearest 101 = .ok (.ireturn, 1) ∧ True := zj_of zk_251
abbrev dX8_nearest_98 := zr_251.1
abbrev dX8_nearest_101 := zr_251.2.1
set_option maxRecDepth 100000 in
theorem zk_252 : zck 0 (cX8_dense.data.toList.drop 0) [(0, .aload_n 0, 1), (1, .iload_n 1, 1), (2, .iload_n 2, 1), (3, .invokevirtual 122, 3), (6, .ifCond .eq 10, 3), (9, .iload_n 3, 1), (10, .invokestatic 108, 3), (13, .ifCond .ne 5, 3), (16, .iconst (-1), 1), (17, .ireturn, 1), (18, .aload_n 0, 1), (19, .getfield 41, 3)] = true := by decide +kernel
theorem zr_252 : decode cX8_dense 0 = .ok (.aload_n 0, 1) ∧ decode cX8_dense 1 = .ok (.iload_n 1, 1) ∧ decode cX8_dense 2 = .ok (.iload_n 2, 1) ∧ decode cX8_dense 3 = .ok (.invokevirtual 122, 3) ∧ decode cX8_dense 6 = .ok (.ifCond .eq 10, 3) ∧ decode cX8_dense 9 = .ok (.iload_n 3, 1) ∧ decode cX8_dense 10 = .ok (.invokestatic 108, 3) ∧ decode cX8_dense 13 = .ok (.ifCond .ne 5, 3) ∧ decode cX8_dense 16 = .ok (.iconst (-1), 1) ∧ decode cX8_dense 17 = .ok (.ireturn, 1) ∧ decode cX8_dense 18 = .ok (.aload_n 0, 1) ∧ decode cX8_dense 19 = .ok (.getfield 41, 3) ∧ True := zj_of zk_252
abbrev dX8_dense_0 := zr_252.1
abbrev dX8_dense_1 := zr_252.2.1
abbrev dX8_dense_2 := zr_252.2.2.1
abbrev dX8_dense_3 := zr_252.2.2.2.1
abbrev dX8_dense_6 := zr_252.2.2.2.2.1
abbrev dX8_dense_9 := zr_252.2.2.2.2.2.1
abbrev dX8_dense_10 := zr_252.2.2.2.2.2.2.1
abbrev dX8_dense_13 := zr_252.2.2.2.2.2.2.2.1
abbrev dX8_dense_16 := zr_252.2.2.2.2.2.2.2.2.1
abbrev dX8_dense_17 := zr_252.2.2.2.2.2.2.2.2.2.1
abbrev dX8_dense_18 := zr_252.2.2.2.2.2.2.2.2.2.2.1
abbrev dX8_dense_19 := zr_252.2.2.2.2.2.2.2.2.2.2.2.1
set_option maxRecDepth 100000 in
theorem zk_253 : zck 22 (cX8_dense.data.toList.drop 22) [(22, .aload_n 0, 1), (23, .getfield 9, 3), (26, .iload_n 1, 1), (27, .iload_n 2, 1), (28, .invokevirtual 164, 3), (31, .iconst 0, 1), (32, .istore 4, 2), (34, .iconst (-1), 1), (35, .istore 5, 2), (37, .iconst 0, 1), (38, .istore 6, 2), (40, .iload 6, 2)] = true := by decide +kernel
theorem zr_253 : decode cX8_dense 22 = .ok (.aload_n 0, 1) ∧ decode cX8_dense 23 = .ok (.getfield 9, 3) ∧ decode cX8_dense 26 = .ok (.iload_n 1, 1) ∧ decode cX8_dense 27 = .ok (.iload_n 2, 1) ∧ decode cX8_dense 28 = .ok (.invokevirtual 164, 3) ∧ decode cX8_dense 31 = .ok (.iconst 0, 1) ∧ decode cX8_dense 32 = .ok (.istore 4, 2) ∧ decode cX8_dense 34 = .ok (.iconst (-1), 1) ∧ decode cX8_dense 35 = .ok (.istore 5, 2) ∧ decode cX8_dense 37 = .ok (.iconst 0, 1) ∧ decode cX8_dense 38 = .ok (.istore 6, 2) ∧ decode cX8_dense 40 = .ok (.iload 6, 2) ∧ True := zj_of zk_253
abbrev dX8_dense_22 := zr_253.1
abbrev dX8_dense_23 := zr_253.2.1
abbrev dX8_dense_26 := zr_253.2.2.1
abbrev dX8_dense_27 := zr_253.2.2.2.1
abbrev dX8_dense_28 := zr_253.2.2.2.2.1
abbrev dX8_dense_31 := zr_253.2.2.2.2.2.1
abbrev dX8_dense_32 := zr_253.2.2.2.2.2.2.1
abbrev dX8_dense_34 := zr_253.2.2.2.2.2.2.2.1
abbrev dX8_dense_35 := zr_253.2.2.2.2.2.2.2.2.1
abbrev dX8_dense_37 := zr_253.2.2.2.2.2.2.2.2.2.1
abbrev dX8_dense_38 := zr_253.2.2.2.2.2.2.2.2.2.2.1
abbrev dX8_dense_40 := zr_253.2.2.2.2.2.2.2.2.2.2.2.1
set_option maxRecDepth 100000 in
theorem zk_254 : zck 42 (cX8_dense.data.toList.drop 42) [(42, .iload_n 2, 1), (43, .iload_n 1, 1), (44, .isub, 1), (45, .if_icmp .ge 40, 3), (48, .aload_n 0, 1), (49, .iload 6, 2), (51, .iload_n 3, 1), (52, .invokevirtual 197, 3), (55, .istore 7, 2), (57, .iload 7, 2), (59, .iload 4, 2), (61, .if_icmp .le 18, 3)] = true := by decide +kernel
theorem zr_254 : decode cX8_dense 42 = .ok (.iload_n 2, 1) ∧ decode cX8_dense 43 = .ok (.iload_n 1, 1) ∧ decode cX8_dense 44 = .ok (.isub, 1) ∧ decode cX8_dense 45 = .ok (.if_icmp .ge 40, 3) ∧ decode cX8_dense 48 = .ok (.aload_n 0, 1) ∧ decode cX8_dense 49 = .ok (.iload 6, 2) ∧ decode cX8_dense 51 = .ok (.iload_n 3, 1) ∧ decode cX8_dense 52 = .ok (.invokevirtual 197, 3) ∧ decode cX8_dense 55 = .ok (.istore 7, 2) ∧ decode cX8_dense 57 = .ok (.iload 7, 2) ∧ decode cX8_dense 59 = .ok (.iload 4, 2) ∧ decode cX8_dense 61 = .ok (.if_icmp .le 18, 3) ∧ True := zj_of zk_254
abbrev dX8_dense_42 := zr_254.1
abbrev dX8_dense_43 := zr_254.2.1
abbrev dX8_dense_44 := zr_254.2.2.1
abbrev dX8_dense_45 := zr_254.2.2.2.1
abbrev dX8_dense_48 := zr_254.2.2.2.2.1
abbrev dX8_dense_49 := zr_254.2.2.2.2.2.1
abbrev dX8_dense_51 := zr_254.2.2.2.2.2.2.1
abbrev dX8_dense_52 := zr_254.2.2.2.2.2.2.2.1
abbrev dX8_dense_55 := zr_254.2.2.2.2.2.2.2.2.1
abbrev dX8_dense_57 := zr_254.2.2.2.2.2.2.2.2.2.1
abbrev dX8_dense_59 := zr_254.2.2.2.2.2.2.2.2.2.2.1
abbrev dX8_dense_61 := zr_254.2.2.2.2.2.2.2.2.2.2.2.1
set_option maxRecDepth 100000 in
theorem zk_255 : zck 64 (cX8_dense.data.toList.drop 64) [(64, .iload 7, 2), (66, .istore 4, 2), (68, .aload_n 0, 1), (69, .getfield 41, 3), (72, .iload 6, 2), (74, .invokevirtual 168, 3), (77, .istore 5, 2), (79, .iinc 6 1, 3), (82, .goto (-42), 3), (85, .aload_n 0, 1), (86, .iload 5, 2), (88, .i2l, 1)] = true := by decide +kernel
theorem zr_255 : decode cX8_dense 64 = .ok (.iload 7, 2) ∧ decode cX8_dense 66 = .ok (.istore 4, 2) ∧ decode cX8_dense 68 = .ok (.aload_n 0, 1) ∧ decode cX8_dense 69 = .ok (.getfield 41, 3) ∧ decode cX8_dense 72 = .ok (.iload 6, 2) ∧ decode cX8_dense 74 = .ok (.invokevirtual 168, 3) ∧ decode cX8_dense 77 = .ok (.istore 5, 2) ∧ decode cX8_dense 79 = .ok (.iinc 6 1, 3) ∧ decode cX8_dense 82 = .ok (.goto (-42), 3) ∧ decode cX8_dense 85 = .ok (.aload_n 0, 1) ∧ decode cX8_dense 86 = .ok (.iload 5, 2) ∧ decode cX8_dense 88 = .ok (.i2l, 1) ∧ True := zj_of zk_255
abbrev dX8_dense_64 := zr_255.1
abbrev dX8_dense_66 := zr_255.2.1
abbrev dX8_dense_68 := zr_255.2.2.1
abbrev dX8_dense_69 := zr_255.2.2.2.1
abbrev dX8_dense_72 := zr_255.2.2.2.2.1
abbrev dX8_dense_74 := zr_255.2.2.2.2.2.1
abbrev dX8_dense_77 := zr_255.2.2.2.2.2.2.1
abbrev dX8_dense_79 := zr_255.2.2.2.2.2.2.2.1
abbrev dX8_dense_82 := zr_255.2.2.2.2.2.2.2.2.1
abbrev dX8_dense_85 := zr_255.2.2.2.2.2.2.2.2.2.1
abbrev dX8_dense_86 := zr_255.2.2.2.2.2.2.2.2.2.2.1
abbrev dX8_dense_88 := zr_255.2.2.2.2.2.2.2.2.2.2.2.1
set_option maxRecDepth 100000 in
theorem zk_256 : zck 89 (cX8_dense.data.toList.drop 89) [(89, .invokevirtual 114, 3), (92, .iload 4, 2), (94, .ireturn, 1)] = true := by decide +kernel
theorem zr_256 : decode cX8_dense 89 = .ok (.invokevirtual 114, 3) ∧ decode cX8_dense 92 = .ok (.iload 4, 2) ∧ decode cX8_dense 94 = .ok (.ireturn, 1) ∧ True := zj_of zk_256
abbrev dX8_dense_89 := zr_256.1
abbrev dX8_dense_92 := zr_256.2.1
abbrev dX8_dense_94 := zr_256.2.2.1
set_option maxRecDepth 100000 in
theorem zk_257 : zck 0 (cX8_farthest.data.toList.drop 0) [(0, .aload_n 0, 1), (1, .iload_n 1, 1), (2, .iload_n 2, 1), (3, .invokevirtual 122, 3), (6, .ifCond .eq 10, 3), (9, .iload_n 3, 1), (10, .invokestatic 108, 3), (13, .ifCond .ne 5, 3), (16, .iconst (-1), 1), (17, .ireturn, 1), (18, .aload_n 0, 1), (19, .getfield 41, 3)] = true := by decide +kernel
theorem zr_257 : decode cX8_farthest 0 = .ok (.aload_n 0, 1) ∧ decode cX8_farthest 1 = .ok (.iload_n 1, 1) ∧ decode cX8_farthest 2 = .ok (.iload_n 2, 1) ∧ decode cX8_farthest 3 = .ok (.invokevirtual 122, 3) ∧ decode cX8_farthest 6 = .ok (.ifCond .eq 10, 3) ∧ decode cX8_farthest 9 = .ok (.iload_n 3, 1) ∧ decode cX8_farthest 10 = .ok (.invokestatic 108, 3) ∧ decode cX8_farthest 13 = .ok (.ifCond .ne 5, 3) ∧ decode cX8_farthest 16 = .ok (.iconst (-1), 1) ∧ decode cX8_farthest 17 = .ok (.ireturn, 1) ∧ decode cX8_farthest 18 = .ok (.aload_n 0, 1) ∧ decode cX8_farthest 19 = .ok (.getfield 41, 3) ∧ True := zj_of zk_257
abbrev dX8_farthest_0 := zr_257.1
abbrev dX8_farthest_1 := zr_257.2.1
abbrev dX8_farthest_2 := zr_257.2.2.1
abbrev dX8_farthest_3 := zr_257.2.2.2.1
abbrev dX8_farthest_6 := zr_257.2.2.2.2.1
abbrev dX8_farthest_9 := zr_257.2.2.2.2.2.1
abbrev dX8_farthest_10 := zr_257.2.2.2.2.2.2.1
abbrev dX8_farthest_13 := zr_257.2.2.2.2.2.2.2.1
abbrev dX8_farthest_16 := zr_257.2.2.2.2.2.2.2.2.1
abbrev dX8_farthest_17 := zr_257.2.2.2.2.2.2.2.2.2.1
abbrev dX8_farthest_18 := zr_257.2.2.2.2.2.2.2.2.2.2.1
abbrev dX8_farthest_19 := zr_257.2.2.2.2.2.2.2.2.2.2.2.1
set_option maxRecDepth 100000 in
theorem zk_258 : zck 22 (cX8_farthest.data.toList.drop 22) [(22, .aload_n 0, 1), (23, .getfield 9, 3), (26, .iload_n 1, 1), (27, .iload_n 2, 1), (28, .invokevirtual 164, 3), (31, .sipush 255, 3), (34, .istore 4, 2), (36, .iload 4, 2), (38, .ifCond .lt 42, 3), (41, .aload_n 0, 1), (42, .getfield 41, 3), (45, .iload 4, 2)] = true := by decide +kernel
theorem zr_258 : decode cX8_farthest 22 = .ok (.aload_n 0, 1) ∧ decode cX8_farthest 23 = .ok (.getfield 9, 3) ∧ decode cX8_farthest 26 = .ok (.iload_n 1, 1) ∧ decode cX8_farthest 27 = .ok (.iload_n 2, 1) ∧ decode cX8_farthest 28 = .ok (.invokevirtual 164, 3) ∧ decode cX8_farthest 31 = .ok (.sipush 255, 3) ∧ decode cX8_farthest 34 = .ok (.istore 4, 2) ∧ decode cX8_farthest 36 = .ok (.iload 4, 2) ∧ decode cX8_farthest 38 = .ok (.ifCond .lt 42, 3) ∧ decode cX8_farthest 41 = .ok (.aload_n 0, 1) ∧ decode cX8_farthest 42 = .ok (.getfield 41, 3) ∧ decode cX8_farthest 45 = .ok (.iload 4, 2) ∧ True := zj_of zk_258
abbrev dX8_farthest_22 := zr_258.1
abbrev dX8_farthest_23 := zr_258.2.1
abbrev dX8_farthest_26 := zr_258.2.2.1
abbrev dX8_farthest_27 := zr_258.2.2.2.1
abbrev dX8_farthest_28 := zr_258.2.2.2.2.1
abbrev dX8_farthest_31 := zr_258.2.2.2.2.2.1
abbrev dX8_farthest_34 := zr_258.2.2.2.2.2.2.1
abbrev dX8_farthest_36 := zr_258.2.2.2.2.2.2.2.1
abbrev dX8_farthest_38 := zr_258.2.2.2.2.2.2.2.2.1
abbrev dX8_farthest_41 := zr_258.2.2.2.2.2.2.2.2.2.1
abbrev dX8_farthest_42 := zr_258.2.2.2.2.2.2.2.2.2.2.1
abbrev dX8_farthest_45 := zr_258.2.2.2.2.2.2.2.2.2.2.2.1
set_option maxRecDepth 100000 in
theorem zk_259 : zck 47 (cX8_farthest.data.toList.drop 47) [(47, .iload_n 3, 1), (48, .ixor, 1), (49, .invokevirtual 172, 3), (52, .istore 5, 2), (54, .iload 5, 2), (56, .ifCond .le 18, 3), (59, .aload_n 0, 1), (60, .iload 4, 2), (62, .iload_n 3, 1), (63, .ixor, 1), (64, .i2l, 1), (65, .iload 5, 2)] = true := by decide +kernel
theorem zr_259 : decode cX8_farthest 47 = .ok (.iload_n 3, 1) ∧ decode cX8_farthest 48 = .ok (.ixor, 1) ∧ decode cX8_farthest 49 = .ok (.invokevirtual 172, 3) ∧ decode cX8_farthest 52 = .ok (.istore 5, 2) ∧ decode cX8_farthest 54 = .ok (.iload 5, 2) ∧ decode cX8_farthest 56 = .ok (.ifCond .le 18, 3) ∧ decode cX8_farthest 59 = .ok (.aload_n 0, 1) ∧ decode cX8_farthest 60 = .ok (.iload 4, 2) ∧ decode cX8_farthest 62 = .ok (.iload_n 3, 1) ∧ decode cX8_farthest 63 = .ok (.ixor, 1) ∧ decode cX8_farthest 64 = .ok (.i2l, 1) ∧ decode cX8_farthest 65 = .ok (.iload 5, 2) ∧ True := zj_of zk_259
abbrev dX8_farthest_47 := zr_259.1
abbrev dX8_farthest_48 := zr_259.2.1
abbrev dX8_farthest_49 := zr_259.2.2.1
abbrev dX8_farthest_52 := zr_259.2.2.2.1
abbrev dX8_farthest_54 := zr_259.2.2.2.2.1
abbrev dX8_farthest_56 := zr_259.2.2.2.2.2.1
abbrev dX8_farthest_59 := zr_259.2.2.2.2.2.2.1
abbrev dX8_farthest_60 := zr_259.2.2.2.2.2.2.2.1
abbrev dX8_farthest_62 := zr_259.2.2.2.2.2.2.2.2.1
abbrev dX8_farthest_63 := zr_259.2.2.2.2.2.2.2.2.2.1
abbrev dX8_farthest_64 := zr_259.2.2.2.2.2.2.2.2.2.2.1
abbrev dX8_farthest_65 := zr_259.2.2.2.2.2.2.2.2.2.2.2.1
set_option maxRecDepth 100000 in
theorem zk_260 : zck 67 (cX8_farthest.data.toList.drop 67) [(67, .i2l, 1), (68, .invokevirtual 135, 3), (71, .iload 4, 2), (73, .ireturn, 1), (74, .iinc 4 (-1), 3), (77, .goto (-41), 3), (80, .bipush (-2), 2), (82, .ireturn, 1)] = true := by decide +kernel
theorem zr_260 : decode cX8_farthest 67 = .ok (.i2l, 1) ∧ decode cX8_farthest 68 = .ok (.invokevirtual 135, 3) ∧ decode cX8_farthest 71 = .ok (.iload 4, 2) ∧ decode cX8_farthest 73 = .ok (.ireturn, 1) ∧ decode cX8_farthest 74 = .ok (.iinc 4 (-1), 3) ∧ decode cX8_farthest 77 = .ok (.goto (-41), 3) ∧ decode cX8_farthest 80 = .ok (.bipush (-2), 2) ∧ decode cX8_farthest 82 = .ok (.ireturn, 1) ∧ True := zj_of zk_260
abbrev dX8_farthest_67 := zr_260.1
abbrev dX8_farthest_68 := zr_260.2.1
abbrev dX8_farthest_71 := zr_260.2.2.1
abbrev dX8_farthest_73 := zr_260.2.2.2.1
abbrev dX8_farthest_74 := zr_260.2.2.2.2.1
abbrev dX8_farthest_77 := zr_260.2.2.2.2.2.1
abbrev dX8_farthest_80 := zr_260.2.2.2.2.2.2.1
abbrev dX8_farthest_82 := zr_260.2.2.2.2.2.2.2.1
set_option maxRecDepth 100000 in
theorem zk_261 : zck 0 (cX8_fit.data.toList.drop 0) [(0, .aload_n 0, 1), (1, .iload_n 1, 1), (2, .iload_n 2, 1), (3, .invokevirtual 122, 3), (6, .ifCond .eq 7, 3), (9, .iload_n 3, 1), (10, .ifCond .ge 5, 3), (13, .iconst (-1), 1), (14, .ireturn, 1), (15, .aload_n 0, 1), (16, .getfield 41, 3), (19, .aload_n 0, 1)] = true := by decide +kernel
theorem zr_261 : decode cX8_fit 0 = .ok (.aload_n 0, 1) ∧ decode cX8_fit 1 = .ok (.iload_n 1, 1) ∧ decode cX8_fit 2 = .ok (.iload_n 2, 1) ∧ decode cX8_fit 3 = .ok (.invokevirtual 122, 3) ∧ decode cX8_fit 6 = .ok (.ifCond .eq 7, 3) ∧ decode cX8_fit 9 = .ok (.iload_n 3, 1) ∧ decode cX8_fit 10 = .ok (.ifCond .ge 5, 3) ∧ decode cX8_fit 13 = .ok (.iconst (-1), 1) ∧ decode cX8_fit 14 = .ok (.ireturn, 1) ∧ decode cX8_fit 15 = .ok (.aload_n 0, 1) ∧ decode cX8_fit 16 = .ok (.getfield 41, 3) ∧ decode cX8_fit 19 = .ok (.aload_n 0, 1) ∧ True := zj_of zk_261
abbrev dX8_fit_0 := zr_261.1
abbrev dX8_fit_1 := zr_261.2.1
abbrev dX8_fit_2 := zr_261.2.2.1
abbrev dX8_fit_3 := zr_261.2.2.2.1
abbrev dX8_fit_6 := zr_261.2.2.2.2.1
abbrev dX8_fit_9 := zr_261.2.2.2.2.2.1
abbrev dX8_fit_10 := zr_261.2.2.2.2.2.2.1
abbrev dX8_fit_13 := zr_261.2.2.2.2.2.2.2.1
abbrev dX8_fit_14 := zr_261.2.2.2.2.2.2.2.2.1
abbrev dX8_fit_15 := zr_261.2.2.2.2.2.2.2.2.2.1
abbrev dX8_fit_16 := zr_261.2.2.2.2.2.2.2.2.2.2.1
abbrev dX8_fit_19 := zr_261.2.2.2.2.2.2.2.2.2.2.2.1
set_option maxRecDepth 100000 in
theorem zk_262 : zck 20 (cX8_fit.data.toList.drop 20) [(20, .getfield 9, 3), (23, .iload_n 1, 1), (24, .iload_n 2, 1), (25, .invokevirtual 164, 3), (28, .iconst 0, 1), (29, .istore 4, 2), (31, .iconst 0, 1), (32, .istore 5, 2), (34, .iload 4, 2), (36, .iload_n 2, 1), (37, .iload_n 1, 1), (38, .isub, 1)] = true := by decide +kernel
theorem zr_262 : decode cX8_fit 20 = .ok (.getfield 9, 3) ∧ decode cX8_fit 23 = .ok (.iload_n 1, 1) ∧ decode cX8_fit 24 = .ok (.iload_n 2, 1) ∧ decode cX8_fit 25 = .ok (.invokevirtual 164, 3) ∧ decode cX8_fit 28 = .ok (.iconst 0, 1) ∧ decode cX8_fit 29 = .ok (.istore 4, 2) ∧ decode cX8_fit 31 = .ok (.iconst 0, 1) ∧ decode cX8_fit 32 = .ok (.istore 5, 2) ∧ decode cX8_fit 34 = .ok (.iload 4, 2) ∧ decode cX8_fit 36 = .ok (.iload_n 2, 1) ∧ decode cX8_fit 37 = .ok (.iload_n 1, 1) ∧ decode cX8_fit 38 = .ok (.isub, 1) ∧ True := zj_of zk_262
abbrev dX8_fit_20 := zr_262.1
abbrev dX8_fit_23 := zr_262.2.1
abbrev dX8_fit_24 := zr_262.2.2.1
abbrev dX8_fit_25 := zr_262.2.2.2.1
abbrev dX8_fit_28 := zr_262.2.2.2.2.1
abbrev dX8_fit_29 := zr_262.2.2.2.2.2.1
abbrev dX8_fit_31 := zr_262.2.2.2.2.2.2.1
abbrev dX8_fit_32 := zr_262.2.2.2.2.2.2.2.1
abbrev dX8_fit_34 := zr_262.2.2.2.2.2.2.2.2.1
abbrev dX8_fit_36 := zr_262.2.2.2.2.2.2.2.2.2.1
abbrev dX8_fit_37 := zr_262.2.2.2.2.2.2.2.2.2.2.1
abbrev dX8_fit_38 := zr_262.2.2.2.2.2.2.2.2.2.2.2.1
set_option maxRecDepth 100000 in
theorem zk_263 : zck 39 (cX8_fit.data.toList.drop 39) [(39, .if_icmp .ge 39, 3), (42, .iload 5, 2), (44, .aload_n 0, 1), (45, .getfield 41, 3), (48, .iload 4, 2), (50, .invokevirtual 168, 3), (53, .iadd, 1), (54, .iload_n 3, 1), (55, .if_icmp .gt 23, 3), (58, .iload 5, 2), (60, .aload_n 0, 1), (61, .getfield 41, 3)] = true := by decide +kernel
theorem zr_263 : decode cX8_fit 39 = .ok (.if_icmp .ge 39, 3) ∧ decode cX8_fit 42 = .ok (.iload 5, 2) ∧ decode cX8_fit 44 = .ok (.aload_n 0, 1) ∧ decode cX8_fit 45 = .ok (.getfield 41, 3) ∧ decode cX8_fit 48 = .ok (.iload 4, 2) ∧ decode cX8_fit 50 = .ok (.invokevirtual 168, 3) ∧ decode cX8_fit 53 = .ok (.iadd, 1) ∧ decode cX8_fit 54 = .ok (.iload_n 3, 1) ∧ decode cX8_fit 55 = .ok (.if_icmp .gt 23, 3) ∧ decode cX8_fit 58 = .ok (.iload 5, 2) ∧ decode cX8_fit 60 = .ok (.aload_n 0, 1) ∧ decode cX8_fit 61 = .ok (.getfield 41, 3) ∧ True := zj_of zk_263
abbrev dX8_fit_39 := zr_263.1
abbrev dX8_fit_42 := zr_263.2.1
abbrev dX8_fit_44 := zr_263.2.2.1
abbrev dX8_fit_45 := zr_263.2.2.2.1
abbrev dX8_fit_48 := zr_263.2.2.2.2.1
abbrev dX8_fit_50 := zr_263.2.2.2.2.2.1
abbrev dX8_fit_53 := zr_263.2.2.2.2.2.2.1
abbrev dX8_fit_54 := zr_263.2.2.2.2.2.2.2.1
abbrev dX8_fit_55 := zr_263.2.2.2.2.2.2.2.2.1
abbrev dX8_fit_58 := zr_263.2.2.2.2.2.2.2.2.2.1
abbrev dX8_fit_60 := zr_263.2.2.2.2.2.2.2.2.2.2.1
abbrev dX8_fit_61 := zr_263.2.2.2.2.2.2.2.2.2.2.2.1
set_option maxRecDepth 100000 in
theorem zk_264 : zck 64 (cX8_fit.data.toList.drop 64) [(64, .iload 4, 2), (66, .invokevirtual 168, 3), (69, .iadd, 1), (70, .istore 5, 2), (72, .iinc 4 1, 3), (75, .goto (-41), 3), (78, .aload_n 0, 1), (79, .iload 5, 2), (81, .i2l, 1), (82, .invokevirtual 114, 3), (85, .iload 4, 2), (87, .ireturn, 1)] = true := by decide +kernel
theorem zr_264 : decode cX8_fit 64 = .ok (.iload 4, 2) ∧ decode cX8_fit 66 = .ok (.invokevirtual 168, 3) ∧ decode cX8_fit 69 = .ok (.iadd, 1) ∧ decode cX8_fit 70 = .ok (.istore 5, 2) ∧ decode cX8_fit 72 = .ok (.iinc 4 1, 3) ∧ decode cX8_fit 75 = .ok (.goto (-41), 3) ∧ decode cX8_fit 78 = .ok (.aload_n 0, 1) ∧ decode cX8_fit 79 = .ok (.iload 5, 2) ∧ decode cX8_fit 81 = .ok (.i2l, 1) ∧ decode cX8_fit 82 = .ok (.invokevirtual 114, 3) ∧ decode cX8_fit 85 = .ok (.iload 4, 2) ∧ decode cX8_fit 87 = .ok (.ireturn, 1) ∧ True := zj_of zk_264
abbrev dX8_fit_64 := zr_264.1
abbrev dX8_fit_66 := zr_264.2.1
abbrev dX8_fit_69 := zr_264.2.2.1
abbrev dX8_fit_70 := zr_264.2.2.2.1
abbrev dX8_fit_72 := zr_264.2.2.2.2.1
abbrev dX8_fit_75 := zr_264.2.2.2.2.2.1
abbrev dX8_fit_78 := zr_264.2.2.2.2.2.2.1
abbrev dX8_fit_79 := zr_264.2.2.2.2.2.2.2.1
abbrev dX8_fit_81 := zr_264.2.2.2.2.2.2.2.2.1
abbrev dX8_fit_82 := zr_264.2.2.2.2.2.2.2.2.2.1
abbrev dX8_fit_85 := zr_264.2.2.2.2.2.2.2.2.2.2.1
abbrev dX8_fit_87 := zr_264.2.2.2.2.2.2.2.2.2.2.2.1
set_option maxRecDepth 100000 in
theorem zk_265 : zck 0 (cX8_gap.data.toList.drop 0) [(0, .aload_n 0, 1), (1, .iload_n 1, 1), (2, .iload_n 2, 1), (3, .invokevirtual 122, 3), (6, .ifCond .ne 5, 3), (9, .iconst (-1), 1), (10, .ireturn, 1), (11, .iload_n 2, 1), (12, .iload_n 1, 1), (13, .isub, 1), (14, .iconst 2, 1), (15, .if_icmp .ge 6, 3)] = true := by decide +kernel
theorem zr_265 : decode cX8_gap 0 = .ok (.aload_n 0, 1) ∧ decode cX8_gap 1 = .ok (.iload_n 1, 1) ∧ decode cX8_gap 2 = .ok (.iload_n 2, 1) ∧ decode cX8_gap 3 = .ok (.invokevirtual 122, 3) ∧ decode cX8_gap 6 = .ok (.ifCond .ne 5, 3) ∧ decode cX8_gap 9 = .ok (.iconst (-1), 1) ∧ decode cX8_gap 10 = .ok (.ireturn, 1) ∧ decode cX8_gap 11 = .ok (.iload_n 2, 1) ∧ decode cX8_gap 12 = .ok (.iload_n 1, 1) ∧ decode cX8_gap 13 = .ok (.isub, 1) ∧ decode cX8_gap 14 = .ok (.iconst 2, 1) ∧ decode cX8_gap 15 = .ok (.if_icmp .ge 6, 3) ∧ True := zj_of zk_265
abbrev dX8_gap_0 := zr_265.1
abbrev dX8_gap_1 := zr_265.2.1
abbrev dX8_gap_2 := zr_265.2.2.1
abbrev dX8_gap_3 := zr_265.2.2.2.1
abbrev dX8_gap_6 := zr_265.2.2.2.2.1
abbrev dX8_gap_9 := zr_265.2.2.2.2.2.1
abbrev dX8_gap_10 := zr_265.2.2.2.2.2.2.1
abbrev dX8_gap_11 := zr_265.2.2.2.2.2.2.2.1
abbrev dX8_gap_12 := zr_265.2.2.2.2.2.2.2.2.1
abbrev dX8_gap_13 := zr_265.2.2.2.2.2.2.2.2.2.1
abbrev dX8_gap_14 := zr_265.2.2.2.2.2.2.2.2.2.2.1
abbrev dX8_gap_15 := zr_265.2.2.2.2.2.2.2.2.2.2.2.1
set_option maxRecDepth 100000 in
theorem zk_266 : zck 18 (cX8_gap.data.toList.drop 18) [(18, .bipush (-2), 2), (20, .ireturn, 1), (21, .aload_n 0, 1), (22, .getfield 41, 3), (25, .aload_n 0, 1), (26, .getfield 9, 3), (29, .iload_n 1, 1), (30, .iload_n 2, 1), (31, .invokevirtual 164, 3), (34, .iconst 0, 1), (35, .istore_n 3, 1), (36, .iconst 1, 1)] = true := by decide +kernel
theorem zr_266 : decode cX8_gap 18 = .ok (.bipush (-2), 2) ∧ decode cX8_gap 20 = .ok (.ireturn, 1) ∧ decode cX8_gap 21 = .ok (.aload_n 0, 1) ∧ decode cX8_gap 22 = .ok (.getfield 41, 3) ∧ decode cX8_gap 25 = .ok (.aload_n 0, 1) ∧ decode cX8_gap 26 = .ok (.getfield 9, 3) ∧ decode cX8_gap 29 = .ok (.iload_n 1, 1) ∧ decode cX8_gap 30 = .ok (.iload_n 2, 1) ∧ decode cX8_gap 31 = .ok (.invokevirtual 164, 3) ∧ decode cX8_gap 34 = .ok (.iconst 0, 1) ∧ decode cX8_gap 35 = .ok (.istore_n 3, 1) ∧ decode cX8_gap 36 = .ok (.iconst 1, 1) ∧ True := zj_of zk_266
abbrev dX8_gap_18 := zr_266.1
abbrev dX8_gap_20 := zr_266.2.1
abbrev dX8_gap_21 := zr_266.2.2.1
abbrev dX8_gap_22 := zr_266.2.2.2.1
abbrev dX8_gap_25 := zr_266.2.2.2.2.1
abbrev dX8_gap_26 := zr_266.2.2.2.2.2.1
abbrev dX8_gap_29 := zr_266.2.2.2.2.2.2.1
abbrev dX8_gap_30 := zr_266.2.2.2.2.2.2.2.1
abbrev dX8_gap_31 := zr_266.2.2.2.2.2.2.2.2.1
abbrev dX8_gap_34 := zr_266.2.2.2.2.2.2.2.2.2.1
abbrev dX8_gap_35 := zr_266.2.2.2.2.2.2.2.2.2.2.1
abbrev dX8_gap_36 := zr_266.2.2.2.2.2.2.2.2.2.2.2.1
set_option maxRecDepth 100000 in
theorem zk_267 : zck 37 (cX8_gap.data.toList.drop 37) [(37, .istore 4, 2), (39, .iload 4, 2), (41, .iload_n 2, 1), (42, .iload_n 1, 1), (43, .isub, 1), (44, .iconst 1, 1), (45, .isub, 1), (46, .if_icmp .ge 26, 3), (49, .aload_n 0, 1), (50, .iload 4, 2), (52, .invokevirtual 200, 3), (55, .aload_n 0, 1)] = true := by decide +kernel
theorem zr_267 : decode cX8_gap 37 = .ok (.istore 4, 2) ∧ decode cX8_gap 39 = .ok (.iload 4, 2) ∧ decode cX8_gap 41 = .ok (.iload_n 2, 1) ∧ decode cX8_gap 42 = .ok (.iload_n 1, 1) ∧ decode cX8_gap 43 = .ok (.isub, 1) ∧ decode cX8_gap 44 = .ok (.iconst 1, 1) ∧ decode cX8_gap 45 = .ok (.isub, 1) ∧ decode cX8_gap 46 = .ok (.if_icmp .ge 26, 3) ∧ decode cX8_gap 49 = .ok (.aload_n 0, 1) ∧ decode cX8_gap 50 = .ok (.iload 4, 2) ∧ decode cX8_gap 52 = .ok (.invokevirtual 200, 3) ∧ decode cX8_gap 55 = .ok (.aload_n 0, 1) ∧ True := zj_of zk_267
abbrev dX8_gap_37 := zr_267.1
abbrev dX8_gap_39 := zr_267.2.1
abbrev dX8_gap_41 := zr_267.2.2.1
abbrev dX8_gap_42 := zr_267.2.2.2.1
abbrev dX8_gap_43 := zr_267.2.2.2.2.1
abbrev dX8_gap_44 := zr_267.2.2.2.2.2.1
abbrev dX8_gap_45 := zr_267.2.2.2.2.2.2.1
abbrev dX8_gap_46 := zr_267.2.2.2.2.2.2.2.1
abbrev dX8_gap_49 := zr_267.2.2.2.2.2.2.2.2.1
abbrev dX8_gap_50 := zr_267.2.2.2.2.2.2.2.2.2.1
abbrev dX8_gap_52 := zr_267.2.2.2.2.2.2.2.2.2.2.1
abbrev dX8_gap_55 := zr_267.2.2.2.2.2.2.2.2.2.2.2.1
set_option maxRecDepth 100000 in
theorem zk_268 : zck 56 (cX8_gap.data.toList.drop 56) [(56, .iload_n 3, 1), (57, .invokevirtual 200, 3), (60, .if_icmp .le 6, 3), (63, .iload 4, 2), (65, .istore_n 3, 1), (66, .iinc 4 1, 3), (69, .goto (-30), 3), (72, .aload_n 0, 1), (73, .aload_n 0, 1), (74, .getfield 41, 3), (77, .iload_n 3, 1), (78, .invokevirtual 168, 3)] = true := by decide +kernel
theorem zr_268 : decode cX8_gap 56 = .ok (.iload_n 3, 1) ∧ decode cX8_gap 57 = .ok (.invokevirtual 200, 3) ∧ decode cX8_gap 60 = .ok (.if_icmp .le 6, 3) ∧ decode cX8_gap 63 = .ok (.iload 4, 2) ∧ decode cX8_gap 65 = .ok (.istore_n 3, 1) ∧ decode cX8_gap 66 = .ok (.iinc 4 1, 3) ∧ decode cX8_gap 69 = .ok (.goto (-30), 3) ∧ decode cX8_gap 72 = .ok (.aload_n 0, 1) ∧ decode cX8_gap 73 = .ok (.aload_n 0, 1) ∧ decode cX8_gap 74 = .ok (.getfield 41, 3) ∧ decode cX8_gap 77 = .ok (.iload_n 3, 1) ∧ decode cX8_gap 78 = .ok (.invokevirtual 168, 3) ∧ True := zj_of zk_268
abbrev dX8_gap_56 := zr_268.1
abbrev dX8_gap_57 := zr_268.2.1
abbrev dX8_gap_60 := zr_268.2.2.1
abbrev dX8_gap_63 := zr_268.2.2.2.1
abbrev dX8_gap_65 := zr_268.2.2.2.2.1
abbrev dX8_gap_66 := zr_268.2.2.2.2.2.1
abbrev dX8_gap_69 := zr_268.2.2.2.2.2.2.1
abbrev dX8_gap_72 := zr_268.2.2.2.2.2.2.2.1
abbrev dX8_gap_73 := zr_268.2.2.2.2.2.2.2.2.1
abbrev dX8_gap_74 := zr_268.2.2.2.2.2.2.2.2.2.1
abbrev dX8_gap_77 := zr_268.2.2.2.2.2.2.2.2.2.2.1
abbrev dX8_gap_78 := zr_268.2.2.2.2.2.2.2.2.2.2.2.1
set_option maxRecDepth 100000 in
theorem zk_269 : zck 81 (cX8_gap.data.toList.drop 81) [(81, .i2l, 1), (82, .aload_n 0, 1), (83, .getfield 41, 3), (86, .iload_n 3, 1), (87, .iconst 1, 1), (88, .iadd, 1), (89, .invokevirtual 168, 3), (92, .i2l, 1), (93, .invokevirtual 135, 3), (96, .aload_n 0, 1), (97, .iload_n 3, 1), (98, .invokevirtual 200, 3)] = true := by decide +kernel
theorem zr_269 : decode cX8_gap 81 = .ok (.i2l, 1) ∧ decode cX8_gap 82 = .ok (.aload_n 0, 1) ∧ decode cX8_gap 83 = .ok (.getfield 41, 3) ∧ decode cX8_gap 86 = .ok (.iload_n 3, 1) ∧ decode cX8_gap 87 = .ok (.iconst 1, 1) ∧ decode cX8_gap 88 = .ok (.iadd, 1) ∧ decode cX8_gap 89 = .ok (.invokevirtual 168, 3) ∧ decode cX8_gap 92 = .ok (.i2l, 1) ∧ decode cX8_gap 93 = .ok (.invokevirtual 135, 3) ∧ decode cX8_gap 96 = .ok (.aload_n 0, 1) ∧ decode cX8_gap 97 = .ok (.iload_n 3, 1) ∧ decode cX8_gap 98 = .ok (.invokevirtual 200, 3) ∧ True := zj_of zk_269
abbrev dX8_gap_81 := zr_269.1
abbrev dX8_gap_82 := zr_269.2.1
abbrev dX8_gap_83 := zr_269.2.2.1
abbrev dX8_gap_86 := zr_269.2.2.2.1
abbrev dX8_gap_87 := zr_269.2.2.2.2.1
abbrev dX8_gap_88 := zr_269.2.2.2.2.2.1
abbrev dX8_gap_89 := zr_269.2.2.2.2.2.2.1
abbrev dX8_gap_92 := zr_269.2.2.2.2.2.2.2.1
abbrev dX8_gap_93 := zr_269.2.2.2.2.2.2.2.2.1
abbrev dX8_gap_96 := zr_269.2.2.2.2.2.2.2.2.2.1
abbrev dX8_gap_97 := zr_269.2.2.2.2.2.2.2.2.2.2.1
abbrev dX8_gap_98 := zr_269.2.2.2.2.2.2.2.2.2.2.2.1
set_option maxRecDepth 100000 in
theorem zk_270 : zck 101 (cX8_gap.data.toList.drop 101) [(101, .ireturn, 1)] = true := by decide +kernel
theorem zr_270 : decode cX8_gap 101 = .ok (.ireturn, 1) ∧ True := zj_of zk_270
abbrev dX8_gap_101 := zr_270.1
set_option maxRecDepth 100000 in
theorem zk_271 : zck 0 (cX8_narrow.data.toList.drop 0) [(0, .iload_n 1, 1), (1, .invokestatic 108, 3), (4, .ifCond .eq 10, 3), (7, .iload_n 2, 1), (8, .invokestatic 185, 3), (11, .ifCond .ne 5, 3), (14, .iconst (-1), 1), (15, .ireturn, 1), (16, .bipush 65, 2), (18, .istore_n 3, 1), (19, .iconst 0, 1), (20, .istore 4, 2)] = true := by decide +kernel
theorem zr_271 : decode cX8_narrow 0 = .ok (.iload_n 1, 1) ∧ decode cX8_narrow 1 = .ok (.invokestatic 108, 3) ∧ decode cX8_narrow 4 = .ok (.ifCond .eq 10, 3) ∧ decode cX8_narrow 7 = .ok (.iload_n 2, 1) ∧ decode cX8_narrow 8 = .ok (.invokestatic 185, 3) ∧ decode cX8_narrow 11 = .ok (.ifCond .ne 5, 3) ∧ decode cX8_narrow 14 = .ok (.iconst (-1), 1) ∧ decode cX8_narrow 15 = .ok (.ireturn, 1) ∧ decode cX8_narrow 16 = .ok (.bipush 65, 2) ∧ decode cX8_narrow 18 = .ok (.istore_n 3, 1) ∧ decode cX8_narrow 19 = .ok (.iconst 0, 1) ∧ decode cX8_narrow 20 = .ok (.istore 4, 2) ∧ True := zj_of zk_271
abbrev dX8_narrow_0 := zr_271.1
abbrev dX8_narrow_1 := zr_271.2.1
abbrev dX8_narrow_4 := zr_271.2.2.1
abbrev dX8_narrow_7 := zr_271.2.2.2.1
abbrev dX8_narrow_8 := zr_271.2.2.2.2.1
abbrev dX8_narrow_11 := zr_271.2.2.2.2.2.1
abbrev dX8_narrow_14 := zr_271.2.2.2.2.2.2.1
abbrev dX8_narrow_15 := zr_271.2.2.2.2.2.2.2.1
abbrev dX8_narrow_16 := zr_271.2.2.2.2.2.2.2.2.1
abbrev dX8_narrow_18 := zr_271.2.2.2.2.2.2.2.2.2.1
abbrev dX8_narrow_19 := zr_271.2.2.2.2.2.2.2.2.2.2.1
abbrev dX8_narrow_20 := zr_271.2.2.2.2.2.2.2.2.2.2.2.1
set_option maxRecDepth 100000 in
theorem zk_272 : zck 22 (cX8_narrow.data.toList.drop 22) [(22, .iconst 0, 1), (23, .istore 5, 2), (25, .iconst 0, 1), (26, .istore 6, 2), (28, .iload 6, 2), (30, .aload_n 0, 1), (31, .getfield 13, 3), (34, .if_icmp .ge 53, 3), (37, .aload_n 0, 1), (38, .iload_n 1, 1), (39, .iload_n 2, 1), (40, .iload 6, 2)] = true := by decide +kernel
theorem zr_272 : decode cX8_narrow 22 = .ok (.iconst 0, 1) ∧ decode cX8_narrow 23 = .ok (.istore 5, 2) ∧ decode cX8_narrow 25 = .ok (.iconst 0, 1) ∧ decode cX8_narrow 26 = .ok (.istore 6, 2) ∧ decode cX8_narrow 28 = .ok (.iload 6, 2) ∧ decode cX8_narrow 30 = .ok (.aload_n 0, 1) ∧ decode cX8_narrow 31 = .ok (.getfield 13, 3) ∧ decode cX8_narrow 34 = .ok (.if_icmp .ge 53, 3) ∧ decode cX8_narrow 37 = .ok (.aload_n 0, 1) ∧ decode cX8_narrow 38 = .ok (.iload_n 1, 1) ∧ decode cX8_narrow 39 = .ok (.iload_n 2, 1) ∧ decode cX8_narrow 40 = .ok (.iload 6, 2) ∧ True := zj_of zk_272
abbrev dX8_narrow_22 := zr_272.1
abbrev dX8_narrow_23 := zr_272.2.1
abbrev dX8_narrow_25 := zr_272.2.2.1
abbrev dX8_narrow_26 := zr_272.2.2.2.1
abbrev dX8_narrow_28 := zr_272.2.2.2.2.1
abbrev dX8_narrow_30 := zr_272.2.2.2.2.2.1
abbrev dX8_narrow_31 := zr_272.2.2.2.2.2.2.1
abbrev dX8_narrow_34 := zr_272.2.2.2.2.2.2.2.1
abbrev dX8_narrow_37 := zr_272.2.2.2.2.2.2.2.2.1
abbrev dX8_narrow_38 := zr_272.2.2.2.2.2.2.2.2.2.1
abbrev dX8_narrow_39 := zr_272.2.2.2.2.2.2.2.2.2.2.1
abbrev dX8_narrow_40 := zr_272.2.2.2.2.2.2.2.2.2.2.2.1
set_option maxRecDepth 100000 in
theorem zk_273 : zck 42 (cX8_narrow.data.toList.drop 42) [(42, .invokevirtual 203, 3), (45, .istore 7, 2), (47, .iload 7, 2), (49, .iconst (-1), 1), (50, .if_icmp .eq 22, 3), (53, .iload 7, 2), (55, .iload_n 3, 1), (56, .if_icmp .ge 16, 3), (59, .iload 7, 2), (61, .istore_n 3, 1), (62, .iload 6, 2), (64, .istore 4, 2)] = true := by decide +kernel
theorem zr_273 : decode cX8_narrow 42 = .ok (.invokevirtual 203, 3) ∧ decode cX8_narrow 45 = .ok (.istore 7, 2) ∧ decode cX8_narrow 47 = .ok (.iload 7, 2) ∧ decode cX8_narrow 49 = .ok (.iconst (-1), 1) ∧ decode cX8_narrow 50 = .ok (.if_icmp .eq 22, 3) ∧ decode cX8_narrow 53 = .ok (.iload 7, 2) ∧ decode cX8_narrow 55 = .ok (.iload_n 3, 1) ∧ decode cX8_narrow 56 = .ok (.if_icmp .ge 16, 3) ∧ decode cX8_narrow 59 = .ok (.iload 7, 2) ∧ decode cX8_narrow 61 = .ok (.istore_n 3, 1) ∧ decode cX8_narrow 62 = .ok (.iload 6, 2) ∧ decode cX8_narrow 64 = .ok (.istore 4, 2) ∧ True := zj_of zk_273
abbrev dX8_narrow_42 := zr_273.1
abbrev dX8_narrow_45 := zr_273.2.1
abbrev dX8_narrow_47 := zr_273.2.2.1
abbrev dX8_narrow_49 := zr_273.2.2.2.1
abbrev dX8_narrow_50 := zr_273.2.2.2.2.1
abbrev dX8_narrow_53 := zr_273.2.2.2.2.2.1
abbrev dX8_narrow_55 := zr_273.2.2.2.2.2.2.1
abbrev dX8_narrow_56 := zr_273.2.2.2.2.2.2.2.1
abbrev dX8_narrow_59 := zr_273.2.2.2.2.2.2.2.2.1
abbrev dX8_narrow_61 := zr_273.2.2.2.2.2.2.2.2.2.1
abbrev dX8_narrow_62 := zr_273.2.2.2.2.2.2.2.2.2.2.1
abbrev dX8_narrow_64 := zr_273.2.2.2.2.2.2.2.2.2.2.2.1
set_option maxRecDepth 100000 in
theorem zk_274 : zck 66 (cX8_narrow.data.toList.drop 66) [(66, .iconst 1, 1), (67, .istore 5, 2), (69, .goto 12, 3), (72, .iload 7, 2), (74, .iload_n 3, 1), (75, .if_icmp .ne 6, 3), (78, .iinc 5 1, 3), (81, .iinc 6 1, 3), (84, .goto (-56), 3), (87, .iload 5, 2), (89, .ifCond .ne 6, 3), (92, .bipush (-2), 2)] = true := by decide +kernel
theorem zr_274 : decode cX8_narrow 66 = .ok (.iconst 1, 1) ∧ decode cX8_narrow 67 = .ok (.istore 5, 2) ∧ decode cX8_narrow 69 = .ok (.goto 12, 3) ∧ decode cX8_narrow 72 = .ok (.iload 7, 2) ∧ decode cX8_narrow 74 = .ok (.iload_n 3, 1) ∧ decode cX8_narrow 75 = .ok (.if_icmp .ne 6, 3) ∧ decode cX8_narrow 78 = .ok (.iinc 5 1, 3) ∧ decode cX8_narrow 81 = .ok (.iinc 6 1, 3) ∧ decode cX8_narrow 84 = .ok (.goto (-56), 3) ∧ decode cX8_narrow 87 = .ok (.iload 5, 2) ∧ decode cX8_narrow 89 = .ok (.ifCond .ne 6, 3) ∧ decode cX8_narrow 92 = .ok (.bipush (-2), 2) ∧ True := zj_of zk_274
abbrev dX8_narrow_66 := zr_274.1
abbrev dX8_narrow_67 := zr_274.2.1
abbrev dX8_narrow_69 := zr_274.2.2.1
abbrev dX8_narrow_72 := zr_274.2.2.2.1
abbrev dX8_narrow_74 := zr_274.2.2.2.2.1
abbrev dX8_narrow_75 := zr_274.2.2.2.2.2.1
abbrev dX8_narrow_78 := zr_274.2.2.2.2.2.2.1
abbrev dX8_narrow_81 := zr_274.2.2.2.2.2.2.2.1
abbrev dX8_narrow_84 := zr_274.2.2.2.2.2.2.2.2.1
abbrev dX8_narrow_87 := zr_274.2.2.2.2.2.2.2.2.2.1
abbrev dX8_narrow_89 := zr_274.2.2.2.2.2.2.2.2.2.2.1
abbrev dX8_narrow_92 := zr_274.2.2.2.2.2.2.2.2.2.2.2.1
set_option maxRecDepth 100000 in
theorem zk_275 : zck 94 (cX8_narrow.data.toList.drop 94) [(94, .ireturn, 1), (95, .aload_n 0, 1), (96, .iload 4, 2), (98, .i2l, 1), (99, .iload 4, 2), (101, .iload_n 3, 1), (102, .iadd, 1), (103, .i2l, 1), (104, .invokevirtual 135, 3), (107, .aload_n 0, 1), (108, .getfield 34, 3), (111, .iload 5, 2)] = true := by decide +kernel
theorem zr_275 : decode cX8_narrow 94 = .ok (.ireturn, 1) ∧ decode cX8_narrow 95 = .ok (.aload_n 0, 1) ∧ decode cX8_narrow 96 = .ok (.iload 4, 2) ∧ decode cX8_narrow 98 = .ok (.i2l, 1) ∧ decode cX8_narrow 99 = .ok (.iload 4, 2) ∧ decode cX8_narrow 101 = .ok (.iload_n 3, 1) ∧ decode cX8_narrow 102 = .ok (.iadd, 1) ∧ decode cX8_narrow 103 = .ok (.i2l, 1) ∧ decode cX8_narrow 104 = .ok (.invokevirtual 135, 3) ∧ decode cX8_narrow 107 = .ok (.aload_n 0, 1) ∧ decode cX8_narrow 108 = .ok (.getfield 34, 3) ∧ decode cX8_narrow 111 = .ok (.iload 5, 2) ∧ True := zj_of zk_275
abbrev dX8_narrow_94 := zr_275.1
abbrev dX8_narrow_95 := zr_275.2.1
abbrev dX8_narrow_96 := zr_275.2.2.1
abbrev dX8_narrow_98 := zr_275.2.2.2.1
abbrev dX8_narrow_99 := zr_275.2.2.2.2.1
abbrev dX8_narrow_101 := zr_275.2.2.2.2.2.1
abbrev dX8_narrow_102 := zr_275.2.2.2.2.2.2.1
abbrev dX8_narrow_103 := zr_275.2.2.2.2.2.2.2.1
abbrev dX8_narrow_104 := zr_275.2.2.2.2.2.2.2.2.1
abbrev dX8_narrow_107 := zr_275.2.2.2.2.2.2.2.2.2.1
abbrev dX8_narrow_108 := zr_275.2.2.2.2.2.2.2.2.2.2.1
abbrev dX8_narrow_111 := zr_275.2.2.2.2.2.2.2.2.2.2.2.1
set_option maxRecDepth 100000 in
theorem zk_276 : zck 113 (cX8_narrow.data.toList.drop 113) [(113, .i2l, 1), (114, .invokevirtual 155, 3), (117, .iload_n 3, 1), (118, .ireturn, 1)] = true := by decide +kernel
theorem zr_276 : decode cX8_narrow 113 = .ok (.i2l, 1) ∧ decode cX8_narrow 114 = .ok (.invokevirtual 155, 3) ∧ decode cX8_narrow 117 = .ok (.iload_n 3, 1) ∧ decode cX8_narrow 118 = .ok (.ireturn, 1) ∧ True := zj_of zk_276
abbrev dX8_narrow_113 := zr_276.1
abbrev dX8_narrow_114 := zr_276.2.1
abbrev dX8_narrow_117 := zr_276.2.2.1
abbrev dX8_narrow_118 := zr_276.2.2.2.1
set_option maxRecDepth 100000 in
theorem zk_277 : zck 0 (cX8_lone.data.toList.drop 0) [(0, .aload_n 0, 1), (1, .iload_n 1, 1), (2, .iload_n 2, 1), (3, .invokevirtual 122, 3), (6, .ifCond .ne 5, 3), (9, .iconst (-1), 1), (10, .ireturn, 1), (11, .aload_n 0, 1), (12, .getfield 41, 3), (15, .aload_n 0, 1), (16, .getfield 9, 3), (19, .iload_n 1, 1)] = true := by decide +kernel
theorem zr_277 : decode cX8_lone 0 = .ok (.aload_n 0, 1) ∧ decode cX8_lone 1 = .ok (.iload_n 1, 1) ∧ decode cX8_lone 2 = .ok (.iload_n 2, 1) ∧ decode cX8_lone 3 = .ok (.invokevirtual 122, 3) ∧ decode cX8_lone 6 = .ok (.ifCond .ne 5, 3) ∧ decode cX8_lone 9 = .ok (.iconst (-1), 1) ∧ decode cX8_lone 10 = .ok (.ireturn, 1) ∧ decode cX8_lone 11 = .ok (.aload_n 0, 1) ∧ decode cX8_lone 12 = .ok (.getfield 41, 3) ∧ decode cX8_lone 15 = .ok (.aload_n 0, 1) ∧ decode cX8_lone 16 = .ok (.getfield 9, 3) ∧ decode cX8_lone 19 = .ok (.iload_n 1, 1) ∧ True := zj_of zk_277
abbrev dX8_lone_0 := zr_277.1
abbrev dX8_lone_1 := zr_277.2.1
abbrev dX8_lone_2 := zr_277.2.2.1
abbrev dX8_lone_3 := zr_277.2.2.2.1
abbrev dX8_lone_6 := zr_277.2.2.2.2.1
abbrev dX8_lone_9 := zr_277.2.2.2.2.2.1
abbrev dX8_lone_10 := zr_277.2.2.2.2.2.2.1
abbrev dX8_lone_11 := zr_277.2.2.2.2.2.2.2.1
abbrev dX8_lone_12 := zr_277.2.2.2.2.2.2.2.2.1
abbrev dX8_lone_15 := zr_277.2.2.2.2.2.2.2.2.2.1
abbrev dX8_lone_16 := zr_277.2.2.2.2.2.2.2.2.2.2.1
abbrev dX8_lone_19 := zr_277.2.2.2.2.2.2.2.2.2.2.2.1
set_option maxRecDepth 100000 in
theorem zk_278 : zck 20 (cX8_lone.data.toList.drop 20) [(20, .iload_n 2, 1), (21, .invokevirtual 164, 3), (24, .iconst 0, 1), (25, .istore_n 3, 1), (26, .iconst (-1), 1), (27, .istore 4, 2), (29, .iconst (-1), 1), (30, .istore 5, 2), (32, .iconst 0, 1), (33, .istore 6, 2), (35, .iload 6, 2), (37, .sipush 255, 3)] = true := by decide +kernel
theorem zr_278 : decode cX8_lone 20 = .ok (.iload_n 2, 1) ∧ decode cX8_lone 21 = .ok (.invokevirtual 164, 3) ∧ decode cX8_lone 24 = .ok (.iconst 0, 1) ∧ decode cX8_lone 25 = .ok (.istore_n 3, 1) ∧ decode cX8_lone 26 = .ok (.iconst (-1), 1) ∧ decode cX8_lone 27 = .ok (.istore 4, 2) ∧ decode cX8_lone 29 = .ok (.iconst (-1), 1) ∧ decode cX8_lone 30 = .ok (.istore 5, 2) ∧ decode cX8_lone 32 = .ok (.iconst 0, 1) ∧ decode cX8_lone 33 = .ok (.istore 6, 2) ∧ decode cX8_lone 35 = .ok (.iload 6, 2) ∧ decode cX8_lone 37 = .ok (.sipush 255, 3) ∧ True := zj_of zk_278
abbrev dX8_lone_20 := zr_278.1
abbrev dX8_lone_21 := zr_278.2.1
abbrev dX8_lone_24 := zr_278.2.2.1
abbrev dX8_lone_25 := zr_278.2.2.2.1
abbrev dX8_lone_26 := zr_278.2.2.2.2.1
abbrev dX8_lone_27 := zr_278.2.2.2.2.2.1
abbrev dX8_lone_29 := zr_278.2.2.2.2.2.2.1
abbrev dX8_lone_30 := zr_278.2.2.2.2.2.2.2.1
abbrev dX8_lone_32 := zr_278.2.2.2.2.2.2.2.2.1
abbrev dX8_lone_33 := zr_278.2.2.2.2.2.2.2.2.2.1
abbrev dX8_lone_35 := zr_278.2.2.2.2.2.2.2.2.2.2.1
abbrev dX8_lone_37 := zr_278.2.2.2.2.2.2.2.2.2.2.2.1
set_option maxRecDepth 100000 in
theorem zk_279 : zck 40 (cX8_lone.data.toList.drop 40) [(40, .if_icmp .gt 44, 3), (43, .aload_n 0, 1), (44, .getfield 41, 3), (47, .iload 6, 2), (49, .invokevirtual 172, 3), (52, .iconst 1, 1), (53, .if_icmp .ne 25, 3), (56, .iinc 3 1, 3), (59, .iload 4, 2), (61, .iconst (-1), 1), (62, .if_icmp .ne 8, 3), (65, .iload 6, 2)] = true := by decide +kernel
theorem zr_279 : decode cX8_lone 40 = .ok (.if_icmp .gt 44, 3) ∧ decode cX8_lone 43 = .ok (.aload_n 0, 1) ∧ decode cX8_lone 44 = .ok (.getfield 41, 3) ∧ decode cX8_lone 47 = .ok (.iload 6, 2) ∧ decode cX8_lone 49 = .ok (.invokevirtual 172, 3) ∧ decode cX8_lone 52 = .ok (.iconst 1, 1) ∧ decode cX8_lone 53 = .ok (.if_icmp .ne 25, 3) ∧ decode cX8_lone 56 = .ok (.iinc 3 1, 3) ∧ decode cX8_lone 59 = .ok (.iload 4, 2) ∧ decode cX8_lone 61 = .ok (.iconst (-1), 1) ∧ decode cX8_lone 62 = .ok (.if_icmp .ne 8, 3) ∧ decode cX8_lone 65 = .ok (.iload 6, 2) ∧ True := zj_of zk_279
abbrev dX8_lone_40 := zr_279.1
abbrev dX8_lone_43 := zr_279.2.1
abbrev dX8_lone_44 := zr_279.2.2.1
abbrev dX8_lone_47 := zr_279.2.2.2.1
abbrev dX8_lone_49 := zr_279.2.2.2.2.1
abbrev dX8_lone_52 := zr_279.2.2.2.2.2.1
abbrev dX8_lone_53 := zr_279.2.2.2.2.2.2.1
abbrev dX8_lone_56 := zr_279.2.2.2.2.2.2.2.1
abbrev dX8_lone_59 := zr_279.2.2.2.2.2.2.2.2.1
abbrev dX8_lone_61 := zr_279.2.2.2.2.2.2.2.2.2.1
abbrev dX8_lone_62 := zr_279.2.2.2.2.2.2.2.2.2.2.1
abbrev dX8_lone_65 := zr_279.2.2.2.2.2.2.2.2.2.2.2.1
set_option maxRecDepth 100000 in
theorem zk_280 : zck 67 (cX8_lone.data.toList.drop 67) [(67, .goto 5, 3), (70, .iload 4, 2), (72, .istore 4, 2), (74, .iload 6, 2), (76, .istore 5, 2), (78, .iinc 6 1, 3), (81, .goto (-46), 3), (84, .aload_n 0, 1), (85, .iload 4, 2), (87, .i2l, 1), (88, .iload 5, 2), (90, .i2l, 1)] = true := by decide +kernel
theorem zr_280 : decode cX8_lone 67 = .ok (.goto 5, 3) ∧ decode cX8_lone 70 = .ok (.iload 4, 2) ∧ decode cX8_lone 72 = .ok (.istore 4, 2) ∧ decode cX8_lone 74 = .ok (.iload 6, 2) ∧ decode cX8_lone 76 = .ok (.istore 5, 2) ∧ decode cX8_lone 78 = .ok (.iinc 6 1, 3) ∧ decode cX8_lone 81 = .ok (.goto (-46), 3) ∧ decode cX8_lone 84 = .ok (.aload_n 0, 1) ∧ decode cX8_lone 85 = .ok (.iload 4, 2) ∧ decode cX8_lone 87 = .ok (.i2l, 1) ∧ decode cX8_lone 88 = .ok (.iload 5, 2) ∧ decode cX8_lone 90 = .ok (.i2l, 1) ∧ True := zj_of zk_280
abbrev dX8_lone_67 := zr_280.1
abbrev dX8_lone_70 := zr_280.2.1
abbrev dX8_lone_72 := zr_280.2.2.1
abbrev dX8_lone_74 := zr_280.2.2.2.1
abbrev dX8_lone_76 := zr_280.2.2.2.2.1
abbrev dX8_lone_78 := zr_280.2.2.2.2.2.1
abbrev dX8_lone_81 := zr_280.2.2.2.2.2.2.1
abbrev dX8_lone_84 := zr_280.2.2.2.2.2.2.2.1
abbrev dX8_lone_85 := zr_280.2.2.2.2.2.2.2.2.1
abbrev dX8_lone_87 := zr_280.2.2.2.2.2.2.2.2.2.1
abbrev dX8_lone_88 := zr_280.2.2.2.2.2.2.2.2.2.2.1
abbrev dX8_lone_90 := zr_280.2.2.2.2.2.2.2.2.2.2.2.1
set_option maxRecDepth 100000 in
theorem zk_281 : zck 91 (cX8_lone.data.toList.drop 91) [(91, .invokevirtual 135, 3), (94, .iload_n 3, 1), (95, .ireturn, 1)] = true := by decide +kernel
theorem zr_281 : decode cX8_lone 91 = .ok (.invokevirtual 135, 3) ∧ decode cX8_lone 94 = .ok (.iload_n 3, 1) ∧ decode cX8_lone 95 = .ok (.ireturn, 1) ∧ True := zj_of zk_281
abbrev dX8_lone_91 := zr_281.1
abbrev dX8_lone_94 := zr_281.2.1
abbrev dX8_lone_95 := zr_281.2.2.1
set_option maxRecDepth 100000 in
theorem zk_282 : zck 0 (cX8_rises.data.toList.drop 0) [(0, .aload_n 0, 1), (1, .iload_n 1, 1), (2, .iload_n 2, 1), (3, .invokevirtual 122, 3), (6, .ifCond .ne 5, 3), (9, .iconst (-1), 1), (10, .ireturn, 1), (11, .aload_n 0, 1), (12, .getfield 72, 3), (15, .aload_n 0, 1), (16, .getfield 9, 3), (19, .iload_n 1, 1)] = true := by decide +kernel
theorem zr_282 : decode cX8_rises 0 = .ok (.aload_n 0, 1) ∧ decode cX8_rises 1 = .ok (.iload_n 1, 1) ∧ decode cX8_rises 2 = .ok (.iload_n 2, 1) ∧ decode cX8_rises 3 = .ok (.invokevirtual 122, 3) ∧ decode cX8_rises 6 = .ok (.ifCond .ne 5, 3) ∧ decode cX8_rises 9 = .ok (.iconst (-1), 1) ∧ decode cX8_rises 10 = .ok (.ireturn, 1) ∧ decode cX8_rises 11 = .ok (.aload_n 0, 1) ∧ decode cX8_rises 12 = .ok (.getfield 72, 3) ∧ decode cX8_rises 15 = .ok (.aload_n 0, 1) ∧ decode cX8_rises 16 = .ok (.getfield 9, 3) ∧ decode cX8_rises 19 = .ok (.iload_n 1, 1) ∧ True := zj_of zk_282
abbrev dX8_rises_0 := zr_282.1
abbrev dX8_rises_1 := zr_282.2.1
abbrev dX8_rises_2 := zr_282.2.2.1
abbrev dX8_rises_3 := zr_282.2.2.2.1
abbrev dX8_rises_6 := zr_282.2.2.2.2.1
abbrev dX8_rises_9 := zr_282.2.2.2.2.2.1
abbrev dX8_rises_10 := zr_282.2.2.2.2.2.2.1
abbrev dX8_rises_11 := zr_282.2.2.2.2.2.2.2.1
abbrev dX8_rises_12 := zr_282.2.2.2.2.2.2.2.2.1
abbrev dX8_rises_15 := zr_282.2.2.2.2.2.2.2.2.2.1
abbrev dX8_rises_16 := zr_282.2.2.2.2.2.2.2.2.2.2.1
abbrev dX8_rises_19 := zr_282.2.2.2.2.2.2.2.2.2.2.2.1
set_option maxRecDepth 100000 in
theorem zk_283 : zck 20 (cX8_rises.data.toList.drop 20) [(20, .iload_n 2, 1), (21, .invokevirtual 206, 3), (24, .aload_n 0, 1), (25, .getfield 72, 3), (28, .getfield 207, 3), (31, .istore_n 3, 1), (32, .aload_n 0, 1), (33, .aload_n 0, 1), (34, .getfield 72, 3), (37, .aload_n 0, 1), (38, .getfield 9, 3), (41, .iload_n 1, 1)] = true := by decide +kernel
theorem zr_283 : decode cX8_rises 20 = .ok (.iload_n 2, 1) ∧ decode cX8_rises 21 = .ok (.invokevirtual 206, 3) ∧ decode cX8_rises 24 = .ok (.aload_n 0, 1) ∧ decode cX8_rises 25 = .ok (.getfield 72, 3) ∧ decode cX8_rises 28 = .ok (.getfield 207, 3) ∧ decode cX8_rises 31 = .ok (.istore_n 3, 1) ∧ decode cX8_rises 32 = .ok (.aload_n 0, 1) ∧ decode cX8_rises 33 = .ok (.aload_n 0, 1) ∧ decode cX8_rises 34 = .ok (.getfield 72, 3) ∧ decode cX8_rises 37 = .ok (.aload_n 0, 1) ∧ decode cX8_rises 38 = .ok (.getfield 9, 3) ∧ decode cX8_rises 41 = .ok (.iload_n 1, 1) ∧ True := zj_of zk_283
abbrev dX8_rises_20 := zr_283.1
abbrev dX8_rises_21 := zr_283.2.1
abbrev dX8_rises_24 := zr_283.2.2.1
abbrev dX8_rises_25 := zr_283.2.2.2.1
abbrev dX8_rises_28 := zr_283.2.2.2.2.1
abbrev dX8_rises_31 := zr_283.2.2.2.2.2.1
abbrev dX8_rises_32 := zr_283.2.2.2.2.2.2.1
abbrev dX8_rises_33 := zr_283.2.2.2.2.2.2.2.1
abbrev dX8_rises_34 := zr_283.2.2.2.2.2.2.2.2.1
abbrev dX8_rises_37 := zr_283.2.2.2.2.2.2.2.2.2.1
abbrev dX8_rises_38 := zr_283.2.2.2.2.2.2.2.2.2.2.1
abbrev dX8_rises_41 := zr_283.2.2.2.2.2.2.2.2.2.2.2.1
set_option maxRecDepth 100000 in
theorem zk_284 : zck 42 (cX8_rises.data.toList.drop 42) [(42, .iload_n 2, 1), (43, .invokevirtual 210, 3), (46, .i2l, 1), (47, .aload_n 0, 1), (48, .getfield 72, 3), (51, .iload_n 1, 1), (52, .iload_n 2, 1), (53, .invokevirtual 214, 3), (56, .ldc2_w 218, 3), (59, .invokestatic 220, 3), (62, .invokevirtual 135, 3), (65, .iload_n 3, 1)] = true := by decide +kernel
theorem zr_284 : decode cX8_rises 42 = .ok (.iload_n 2, 1) ∧ decode cX8_rises 43 = .ok (.invokevirtual 210, 3) ∧ decode cX8_rises 46 = .ok (.i2l, 1) ∧ decode cX8_rises 47 = .ok (.aload_n 0, 1) ∧ decode cX8_rises 48 = .ok (.getfield 72, 3) ∧ decode cX8_rises 51 = .ok (.iload_n 1, 1) ∧ decode cX8_rises 52 = .ok (.iload_n 2, 1) ∧ decode cX8_rises 53 = .ok (.invokevirtual 214, 3) ∧ decode cX8_rises 56 = .ok (.ldc2_w 218, 3) ∧ decode cX8_rises 59 = .ok (.invokestatic 220, 3) ∧ decode cX8_rises 62 = .ok (.invokevirtual 135, 3) ∧ decode cX8_rises 65 = .ok (.iload_n 3, 1) ∧ True := zj_of zk_284
abbrev dX8_rises_42 := zr_284.1
abbrev dX8_rises_43 := zr_284.2.1
abbrev dX8_rises_46 := zr_284.2.2.1
abbrev dX8_rises_47 := zr_284.2.2.2.1
abbrev dX8_rises_48 := zr_284.2.2.2.2.1
abbrev dX8_rises_51 := zr_284.2.2.2.2.2.1
abbrev dX8_rises_52 := zr_284.2.2.2.2.2.2.1
abbrev dX8_rises_53 := zr_284.2.2.2.2.2.2.2.1
abbrev dX8_rises_56 := zr_284.2.2.2.2.2.2.2.2.1
abbrev dX8_rises_59 := zr_284.2.2.2.2.2.2.2.2.2.1
abbrev dX8_rises_62 := zr_284.2.2.2.2.2.2.2.2.2.2.1
abbrev dX8_rises_65 := zr_284.2.2.2.2.2.2.2.2.2.2.2.1
set_option maxRecDepth 100000 in
theorem zk_285 : zck 66 (cX8_rises.data.toList.drop 66) [(66, .ireturn, 1)] = true := by decide +kernel
theorem zr_285 : decode cX8_rises 66 = .ok (.ireturn, 1) ∧ True := zj_of zk_285
abbrev dX8_rises_66 := zr_285.1
set_option maxRecDepth 100000 in
theorem zk_286 : zck 0 (cX8_marks.data.toList.drop 0) [(0, .aload_n 0, 1), (1, .iload_n 1, 1), (2, .iload_n 2, 1), (3, .invokevirtual 122, 3), (6, .ifCond .eq 10, 3), (9, .iload_n 3, 1), (10, .invokestatic 108, 3), (13, .ifCond .ne 5, 3), (16, .iconst (-1), 1), (17, .ireturn, 1), (18, .iconst 0, 1), (19, .istore 4, 2)] = true := by decide +kernel
theorem zr_286 : decode cX8_marks 0 = .ok (.aload_n 0, 1) ∧ decode cX8_marks 1 = .ok (.iload_n 1, 1) ∧ decode cX8_marks 2 = .ok (.iload_n 2, 1) ∧ decode cX8_marks 3 = .ok (.invokevirtual 122, 3) ∧ decode cX8_marks 6 = .ok (.ifCond .eq 10, 3) ∧ decode cX8_marks 9 = .ok (.iload_n 3, 1) ∧ decode cX8_marks 10 = .ok (.invokestatic 108, 3) ∧ decode cX8_marks 13 = .ok (.ifCond .ne 5, 3) ∧ decode cX8_marks 16 = .ok (.iconst (-1), 1) ∧ decode cX8_marks 17 = .ok (.ireturn, 1) ∧ decode cX8_marks 18 = .ok (.iconst 0, 1) ∧ decode cX8_marks 19 = .ok (.istore 4, 2) ∧ True := zj_of zk_286
abbrev dX8_marks_0 := zr_286.1
abbrev dX8_marks_1 := zr_286.2.1
abbrev dX8_marks_2 := zr_286.2.2.1
abbrev dX8_marks_3 := zr_286.2.2.2.1
abbrev dX8_marks_6 := zr_286.2.2.2.2.1
abbrev dX8_marks_9 := zr_286.2.2.2.2.2.1
abbrev dX8_marks_10 := zr_286.2.2.2.2.2.2.1
abbrev dX8_marks_13 := zr_286.2.2.2.2.2.2.2.1
abbrev dX8_marks_16 := zr_286.2.2.2.2.2.2.2.2.1
abbrev dX8_marks_17 := zr_286.2.2.2.2.2.2.2.2.2.1
abbrev dX8_marks_18 := zr_286.2.2.2.2.2.2.2.2.2.2.1
abbrev dX8_marks_19 := zr_286.2.2.2.2.2.2.2.2.2.2.2.1
set_option maxRecDepth 100000 in
theorem zk_287 : zck 21 (cX8_marks.data.toList.drop 21) [(21, .aload_n 0, 1), (22, .getfield 34, 3), (25, .invokevirtual 152, 3), (28, .iload_n 1, 1), (29, .istore 5, 2), (31, .iload 5, 2), (33, .iload_n 2, 1), (34, .if_icmp .ge 40, 3), (37, .aload_n 0, 1), (38, .getfield 9, 3), (41, .iload 5, 2), (43, .iaload, 1)] = true := by decide +kernel
theorem zr_287 : decode cX8_marks 21 = .ok (.aload_n 0, 1) ∧ decode cX8_marks 22 = .ok (.getfield 34, 3) ∧ decode cX8_marks 25 = .ok (.invokevirtual 152, 3) ∧ decode cX8_marks 28 = .ok (.iload_n 1, 1) ∧ decode cX8_marks 29 = .ok (.istore 5, 2) ∧ decode cX8_marks 31 = .ok (.iload 5, 2) ∧ decode cX8_marks 33 = .ok (.iload_n 2, 1) ∧ decode cX8_marks 34 = .ok (.if_icmp .ge 40, 3) ∧ decode cX8_marks 37 = .ok (.aload_n 0, 1) ∧ decode cX8_marks 38 = .ok (.getfield 9, 3) ∧ decode cX8_marks 41 = .ok (.iload 5, 2) ∧ decode cX8_marks 43 = .ok (.iaload, 1) ∧ True := zj_of zk_287
abbrev dX8_marks_21 := zr_287.1
abbrev dX8_marks_22 := zr_287.2.1
abbrev dX8_marks_25 := zr_287.2.2.1
abbrev dX8_marks_28 := zr_287.2.2.2.1
abbrev dX8_marks_29 := zr_287.2.2.2.2.1
abbrev dX8_marks_31 := zr_287.2.2.2.2.2.1
abbrev dX8_marks_33 := zr_287.2.2.2.2.2.2.1
abbrev dX8_marks_34 := zr_287.2.2.2.2.2.2.2.1
abbrev dX8_marks_37 := zr_287.2.2.2.2.2.2.2.2.1
abbrev dX8_marks_38 := zr_287.2.2.2.2.2.2.2.2.2.1
abbrev dX8_marks_41 := zr_287.2.2.2.2.2.2.2.2.2.2.1
abbrev dX8_marks_43 := zr_287.2.2.2.2.2.2.2.2.2.2.2.1
set_option maxRecDepth 100000 in
theorem zk_288 : zck 44 (cX8_marks.data.toList.drop 44) [(44, .iload_n 3, 1), (45, .if_icmp .ne 23, 3), (48, .iload 4, 2), (50, .bipush 32, 2), (52, .if_icmp .ge 13, 3), (55, .aload_n 0, 1), (56, .getfield 34, 3), (59, .iload 5, 2), (61, .i2l, 1), (62, .invokevirtual 155, 3), (65, .iinc 4 1, 3), (68, .iinc 5 1, 3)] = true := by decide +kernel
theorem zr_288 : decode cX8_marks 44 = .ok (.iload_n 3, 1) ∧ decode cX8_marks 45 = .ok (.if_icmp .ne 23, 3) ∧ decode cX8_marks 48 = .ok (.iload 4, 2) ∧ decode cX8_marks 50 = .ok (.bipush 32, 2) ∧ decode cX8_marks 52 = .ok (.if_icmp .ge 13, 3) ∧ decode cX8_marks 55 = .ok (.aload_n 0, 1) ∧ decode cX8_marks 56 = .ok (.getfield 34, 3) ∧ decode cX8_marks 59 = .ok (.iload 5, 2) ∧ decode cX8_marks 61 = .ok (.i2l, 1) ∧ decode cX8_marks 62 = .ok (.invokevirtual 155, 3) ∧ decode cX8_marks 65 = .ok (.iinc 4 1, 3) ∧ decode cX8_marks 68 = .ok (.iinc 5 1, 3) ∧ True := zj_of zk_288
abbrev dX8_marks_44 := zr_288.1
abbrev dX8_marks_45 := zr_288.2.1
abbrev dX8_marks_48 := zr_288.2.2.1
abbrev dX8_marks_50 := zr_288.2.2.2.1
abbrev dX8_marks_52 := zr_288.2.2.2.2.1
abbrev dX8_marks_55 := zr_288.2.2.2.2.2.1
abbrev dX8_marks_56 := zr_288.2.2.2.2.2.2.1
abbrev dX8_marks_59 := zr_288.2.2.2.2.2.2.2.1
abbrev dX8_marks_61 := zr_288.2.2.2.2.2.2.2.2.1
abbrev dX8_marks_62 := zr_288.2.2.2.2.2.2.2.2.2.1
abbrev dX8_marks_65 := zr_288.2.2.2.2.2.2.2.2.2.2.1
abbrev dX8_marks_68 := zr_288.2.2.2.2.2.2.2.2.2.2.2.1
set_option maxRecDepth 100000 in
theorem zk_289 : zck 71 (cX8_marks.data.toList.drop 71) [(71, .goto (-40), 3), (74, .iload 4, 2), (76, .ireturn, 1)] = true := by decide +kernel
theorem zr_289 : decode cX8_marks 71 = .ok (.goto (-40), 3) ∧ decode cX8_marks 74 = .ok (.iload 4, 2) ∧ decode cX8_marks 76 = .ok (.ireturn, 1) ∧ True := zj_of zk_289
abbrev dX8_marks_71 := zr_289.1
abbrev dX8_marks_74 := zr_289.2.1
abbrev dX8_marks_76 := zr_289.2.2.1
set_option maxRecDepth 100000 in
theorem zk_290 : zck 0 (cX8_common.data.toList.drop 0) [(0, .aload_n 0, 1), (1, .iload_n 1, 1), (2, .iload_n 2, 1), (3, .iload_n 3, 1), (4, .iload 4, 2), (6, .invokevirtual 226, 3), (9, .ifCond .ne 5, 3), (12, .iconst (-1), 1), (13, .ireturn, 1), (14, .aload_n 0, 1), (15, .aload_n 0, 1), (16, .getfield 41, 3)] = true := by decide +kernel
theorem zr_290 : decode cX8_common 0 = .ok (.aload_n 0, 1) ∧ decode cX8_common 1 = .ok (.iload_n 1, 1) ∧ decode cX8_common 2 = .ok (.iload_n 2, 1) ∧ decode cX8_common 3 = .ok (.iload_n 3, 1) ∧ decode cX8_common 4 = .ok (.iload 4, 2) ∧ decode cX8_common 6 = .ok (.invokevirtual 226, 3) ∧ decode cX8_common 9 = .ok (.ifCond .ne 5, 3) ∧ decode cX8_common 12 = .ok (.iconst (-1), 1) ∧ decode cX8_common 13 = .ok (.ireturn, 1) ∧ decode cX8_common 14 = .ok (.aload_n 0, 1) ∧ decode cX8_common 15 = .ok (.aload_n 0, 1) ∧ decode cX8_common 16 = .ok (.getfield 41, 3) ∧ True := zj_of zk_290
abbrev dX8_common_0 := zr_290.1
abbrev dX8_common_1 := zr_290.2.1
abbrev dX8_common_2 := zr_290.2.2.1
abbrev dX8_common_3 := zr_290.2.2.2.1
abbrev dX8_common_4 := zr_290.2.2.2.2.1
abbrev dX8_common_6 := zr_290.2.2.2.2.2.1
abbrev dX8_common_9 := zr_290.2.2.2.2.2.2.1
abbrev dX8_common_12 := zr_290.2.2.2.2.2.2.2.1
abbrev dX8_common_13 := zr_290.2.2.2.2.2.2.2.2.1
abbrev dX8_common_14 := zr_290.2.2.2.2.2.2.2.2.2.1
abbrev dX8_common_15 := zr_290.2.2.2.2.2.2.2.2.2.2.1
abbrev dX8_common_16 := zr_290.2.2.2.2.2.2.2.2.2.2.2.1
set_option maxRecDepth 100000 in
theorem zk_291 : zck 19 (cX8_common.data.toList.drop 19) [(19, .aload_n 0, 1), (20, .getfield 45, 3), (23, .invokevirtual 230, 3), (26, .i2l, 1), (27, .invokevirtual 114, 3), (30, .iconst 0, 1), (31, .istore 5, 2), (33, .iconst 0, 1), (34, .istore 6, 2), (36, .iload 6, 2), (38, .sipush 255, 3), (41, .if_icmp .gt 87, 3)] = true := by decide +kernel
theorem zr_291 : decode cX8_common 19 = .ok (.aload_n 0, 1) ∧ decode cX8_common 20 = .ok (.getfield 45, 3) ∧ decode cX8_common 23 = .ok (.invokevirtual 230, 3) ∧ decode cX8_common 26 = .ok (.i2l, 1) ∧ decode cX8_common 27 = .ok (.invokevirtual 114, 3) ∧ decode cX8_common 30 = .ok (.iconst 0, 1) ∧ decode cX8_common 31 = .ok (.istore 5, 2) ∧ decode cX8_common 33 = .ok (.iconst 0, 1) ∧ decode cX8_common 34 = .ok (.istore 6, 2) ∧ decode cX8_common 36 = .ok (.iload 6, 2) ∧ decode cX8_common 38 = .ok (.sipush 255, 3) ∧ decode cX8_common 41 = .ok (.if_icmp .gt 87, 3) ∧ True := zj_of zk_291
abbrev dX8_common_19 := zr_291.1
abbrev dX8_common_20 := zr_291.2.1
abbrev dX8_common_23 := zr_291.2.2.1
abbrev dX8_common_26 := zr_291.2.2.2.1
abbrev dX8_common_27 := zr_291.2.2.2.2.1
abbrev dX8_common_30 := zr_291.2.2.2.2.2.1
abbrev dX8_common_31 := zr_291.2.2.2.2.2.2.1
abbrev dX8_common_33 := zr_291.2.2.2.2.2.2.2.1
abbrev dX8_common_34 := zr_291.2.2.2.2.2.2.2.2.1
abbrev dX8_common_36 := zr_291.2.2.2.2.2.2.2.2.2.1
abbrev dX8_common_38 := zr_291.2.2.2.2.2.2.2.2.2.2.1
abbrev dX8_common_41 := zr_291.2.2.2.2.2.2.2.2.2.2.2.1
set_option maxRecDepth 100000 in
theorem zk_292 : zck 44 (cX8_common.data.toList.drop 44) [(44, .aload_n 0, 1), (45, .getfield 41, 3), (48, .iload 6, 2), (50, .invokevirtual 172, 3), (53, .ifCond .le 69, 3), (56, .aload_n 0, 1), (57, .getfield 45, 3), (60, .iload 6, 2), (62, .invokevirtual 172, 3), (65, .ifCond .le 57, 3), (68, .iload 5, 2), (70, .bipush 16, 2)] = true := by decide +kernel
theorem zr_292 : decode cX8_common 44 = .ok (.aload_n 0, 1) ∧ decode cX8_common 45 = .ok (.getfield 41, 3) ∧ decode cX8_common 48 = .ok (.iload 6, 2) ∧ decode cX8_common 50 = .ok (.invokevirtual 172, 3) ∧ decode cX8_common 53 = .ok (.ifCond .le 69, 3) ∧ decode cX8_common 56 = .ok (.aload_n 0, 1) ∧ decode cX8_common 57 = .ok (.getfield 45, 3) ∧ decode cX8_common 60 = .ok (.iload 6, 2) ∧ decode cX8_common 62 = .ok (.invokevirtual 172, 3) ∧ decode cX8_common 65 = .ok (.ifCond .le 57, 3) ∧ decode cX8_common 68 = .ok (.iload 5, 2) ∧ decode cX8_common 70 = .ok (.bipush 16, 2) ∧ True := zj_of zk_292
abbrev dX8_common_44 := zr_292.1
abbrev dX8_common_45 := zr_292.2.1
abbrev dX8_common_48 := zr_292.2.2.1
abbrev dX8_common_50 := zr_292.2.2.2.1
abbrev dX8_common_53 := zr_292.2.2.2.2.1
abbrev dX8_common_56 := zr_292.2.2.2.2.2.1
abbrev dX8_common_57 := zr_292.2.2.2.2.2.2.1
abbrev dX8_common_60 := zr_292.2.2.2.2.2.2.2.1
abbrev dX8_common_62 := zr_292.2.2.2.2.2.2.2.2.1
abbrev dX8_common_65 := zr_292.2.2.2.2.2.2.2.2.2.1
abbrev dX8_common_68 := zr_292.2.2.2.2.2.2.2.2.2.2.1
abbrev dX8_common_70 := zr_292.2.2.2.2.2.2.2.2.2.2.2.1
set_option maxRecDepth 100000 in
theorem zk_293 : zck 72 (cX8_common.data.toList.drop 72) [(72, .if_icmp .ge 47, 3), (75, .aload_n 0, 1), (76, .getfield 34, 3), (79, .iload 6, 2), (81, .i2l, 1), (82, .invokevirtual 155, 3), (85, .aload_n 0, 1), (86, .getfield 34, 3), (89, .aload_n 0, 1), (90, .getfield 41, 3), (93, .iload 6, 2), (95, .invokevirtual 172, 3)] = true := by decide +kernel
theorem zr_293 : decode cX8_common 72 = .ok (.if_icmp .ge 47, 3) ∧ decode cX8_common 75 = .ok (.aload_n 0, 1) ∧ decode cX8_common 76 = .ok (.getfield 34, 3) ∧ decode cX8_common 79 = .ok (.iload 6, 2) ∧ decode cX8_common 81 = .ok (.i2l, 1) ∧ decode cX8_common 82 = .ok (.invokevirtual 155, 3) ∧ decode cX8_common 85 = .ok (.aload_n 0, 1) ∧ decode cX8_common 86 = .ok (.getfield 34, 3) ∧ decode cX8_common 89 = .ok (.aload_n 0, 1) ∧ decode cX8_common 90 = .ok (.getfield 41, 3) ∧ decode cX8_common 93 = .ok (.iload 6, 2) ∧ decode cX8_common 95 = .ok (.invokevirtual 172, 3) ∧ True := zj_of zk_293
abbrev dX8_common_72 := zr_293.1
abbrev dX8_common_75 := zr_293.2.1
abbrev dX8_common_76 := zr_293.2.2.1
abbrev dX8_common_79 := zr_293.2.2.2.1
abbrev dX8_common_81 := zr_293.2.2.2.2.1
abbrev dX8_common_82 := zr_293.2.2.2.2.2.1
abbrev dX8_common_85 := zr_293.2.2.2.2.2.2.1
abbrev dX8_common_86 := zr_293.2.2.2.2.2.2.2.1
abbrev dX8_common_89 := zr_293.2.2.2.2.2.2.2.2.1
abbrev dX8_common_90 := zr_293.2.2.2.2.2.2.2.2.2.1
abbrev dX8_common_93 := zr_293.2.2.2.2.2.2.2.2.2.2.1
abbrev dX8_common_95 := zr_293.2.2.2.2.2.2.2.2.2.2.2.1
set_option maxRecDepth 100000 in
theorem zk_294 : zck 98 (cX8_common.data.toList.drop 98) [(98, .i2l, 1), (99, .invokevirtual 155, 3), (102, .aload_n 0, 1), (103, .getfield 34, 3), (106, .aload_n 0, 1), (107, .getfield 45, 3), (110, .iload 6, 2), (112, .invokevirtual 172, 3), (115, .i2l, 1), (116, .invokevirtual 155, 3), (119, .iinc 5 1, 3), (122, .iinc 6 1, 3)] = true := by decide +kernel
theorem zr_294 : decode cX8_common 98 = .ok (.i2l, 1) ∧ decode cX8_common 99 = .ok (.invokevirtual 155, 3) ∧ decode cX8_common 102 = .ok (.aload_n 0, 1) ∧ decode cX8_common 103 = .ok (.getfield 34, 3) ∧ decode cX8_common 106 = .ok (.aload_n 0, 1) ∧ decode cX8_common 107 = .ok (.getfield 45, 3) ∧ decode cX8_common 110 = .ok (.iload 6, 2) ∧ decode cX8_common 112 = .ok (.invokevirtual 172, 3) ∧ decode cX8_common 115 = .ok (.i2l, 1) ∧ decode cX8_common 116 = .ok (.invokevirtual 155, 3) ∧ decode cX8_common 119 = .ok (.iinc 5 1, 3) ∧ decode cX8_common 122 = .ok (.iinc 6 1, 3) ∧ True := zj_of zk_294
abbrev dX8_common_98 := zr_294.1
abbrev dX8_common_99 := zr_294.2.1
abbrev dX8_common_102 := zr_294.2.2.1
abbrev dX8_common_103 := zr_294.2.2.2.1
abbrev dX8_common_106 := zr_294.2.2.2.2.1
abbrev dX8_common_107 := zr_294.2.2.2.2.2.1
abbrev dX8_common_110 := zr_294.2.2.2.2.2.2.1
abbrev dX8_common_112 := zr_294.2.2.2.2.2.2.2.1
abbrev dX8_common_115 := zr_294.2.2.2.2.2.2.2.2.1
abbrev dX8_common_116 := zr_294.2.2.2.2.2.2.2.2.2.1
abbrev dX8_common_119 := zr_294.2.2.2.2.2.2.2.2.2.2.1
abbrev dX8_common_122 := zr_294.2.2.2.2.2.2.2.2.2.2.2.1
set_option maxRecDepth 100000 in
theorem zk_295 : zck 125 (cX8_common.data.toList.drop 125) [(125, .goto (-89), 3), (128, .iload 5, 2), (130, .ireturn, 1)] = true := by decide +kernel
theorem zr_295 : decode cX8_common 125 = .ok (.goto (-89), 3) ∧ decode cX8_common 128 = .ok (.iload 5, 2) ∧ decode cX8_common 130 = .ok (.ireturn, 1) ∧ True := zj_of zk_295
abbrev dX8_common_125 := zr_295.1
abbrev dX8_common_128 := zr_295.2.1
abbrev dX8_common_130 := zr_295.2.2.1
set_option maxRecDepth 100000 in
theorem zk_296 : zck 0 (cX8_lacking.data.toList.drop 0) [(0, .aload_n 0, 1), (1, .iload_n 1, 1), (2, .iload_n 2, 1), (3, .iload_n 3, 1), (4, .iload 4, 2), (6, .invokevirtual 226, 3), (9, .ifCond .ne 5, 3), (12, .iconst (-1), 1), (13, .ireturn, 1), (14, .aload_n 0, 1), (15, .getfield 34, 3), (18, .invokevirtual 152, 3)] = true := by decide +kernel
theorem zr_296 : decode cX8_lacking 0 = .ok (.aload_n 0, 1) ∧ decode cX8_lacking 1 = .ok (.iload_n 1, 1) ∧ decode cX8_lacking 2 = .ok (.iload_n 2, 1) ∧ decode cX8_lacking 3 = .ok (.iload_n 3, 1) ∧ decode cX8_lacking 4 = .ok (.iload 4, 2) ∧ decode cX8_lacking 6 = .ok (.invokevirtual 226, 3) ∧ decode cX8_lacking 9 = .ok (.ifCond .ne 5, 3) ∧ decode cX8_lacking 12 = .ok (.iconst (-1), 1) ∧ decode cX8_lacking 13 = .ok (.ireturn, 1) ∧ decode cX8_lacking 14 = .ok (.aload_n 0, 1) ∧ decode cX8_lacking 15 = .ok (.getfield 34, 3) ∧ decode cX8_lacking 18 = .ok (.invokevirtual 152, 3) ∧ True := zj_of zk_296
abbrev dX8_lacking_0 := zr_296.1
abbrev dX8_lacking_1 := zr_296.2.1
abbrev dX8_lacking_2 := zr_296.2.2.1
abbrev dX8_lacking_3 := zr_296.2.2.2.1
abbrev dX8_lacking_4 := zr_296.2.2.2.2.1
abbrev dX8_lacking_6 := zr_296.2.2.2.2.2.1
abbrev dX8_lacking_9 := zr_296.2.2.2.2.2.2.1
abbrev dX8_lacking_12 := zr_296.2.2.2.2.2.2.2.1
abbrev dX8_lacking_13 := zr_296.2.2.2.2.2.2.2.2.1
abbrev dX8_lacking_14 := zr_296.2.2.2.2.2.2.2.2.2.1
abbrev dX8_lacking_15 := zr_296.2.2.2.2.2.2.2.2.2.2.1
abbrev dX8_lacking_18 := zr_296.2.2.2.2.2.2.2.2.2.2.2.1
set_option maxRecDepth 100000 in
theorem zk_297 : zck 21 (cX8_lacking.data.toList.drop 21) [(21, .iconst 0, 1), (22, .istore 5, 2), (24, .iconst 0, 1), (25, .istore 6, 2), (27, .iload 6, 2), (29, .sipush 255, 3), (32, .if_icmp .gt 70, 3), (35, .aload_n 0, 1), (36, .getfield 41, 3), (39, .iload 6, 2), (41, .invokevirtual 172, 3), (44, .ifCond .le 52, 3)] = true := by decide +kernel
theorem zr_297 : decode cX8_lacking 21 = .ok (.iconst 0, 1) ∧ decode cX8_lacking 22 = .ok (.istore 5, 2) ∧ decode cX8_lacking 24 = .ok (.iconst 0, 1) ∧ decode cX8_lacking 25 = .ok (.istore 6, 2) ∧ decode cX8_lacking 27 = .ok (.iload 6, 2) ∧ decode cX8_lacking 29 = .ok (.sipush 255, 3) ∧ decode cX8_lacking 32 = .ok (.if_icmp .gt 70, 3) ∧ decode cX8_lacking 35 = .ok (.aload_n 0, 1) ∧ decode cX8_lacking 36 = .ok (.getfield 41, 3) ∧ decode cX8_lacking 39 = .ok (.iload 6, 2) ∧ decode cX8_lacking 41 = .ok (.invokevirtual 172, 3) ∧ decode cX8_lacking 44 = .ok (.ifCond .le 52, 3) ∧ True := zj_of zk_297
abbrev dX8_lacking_21 := zr_297.1
abbrev dX8_lacking_22 := zr_297.2.1
abbrev dX8_lacking_24 := zr_297.2.2.1
abbrev dX8_lacking_25 := zr_297.2.2.2.1
abbrev dX8_lacking_27 := zr_297.2.2.2.2.1
abbrev dX8_lacking_29 := zr_297.2.2.2.2.2.1
abbrev dX8_lacking_32 := zr_297.2.2.2.2.2.2.1
abbrev dX8_lacking_35 := zr_297.2.2.2.2.2.2.2.1
abbrev dX8_lacking_36 := zr_297.2.2.2.2.2.2.2.2.1
abbrev dX8_lacking_39 := zr_297.2.2.2.2.2.2.2.2.2.1
abbrev dX8_lacking_41 := zr_297.2.2.2.2.2.2.2.2.2.2.1
abbrev dX8_lacking_44 := zr_297.2.2.2.2.2.2.2.2.2.2.2.1
set_option maxRecDepth 100000 in
theorem zk_298 : zck 47 (cX8_lacking.data.toList.drop 47) [(47, .aload_n 0, 1), (48, .getfield 45, 3), (51, .iload 6, 2), (53, .invokevirtual 172, 3), (56, .ifCond .ne 40, 3), (59, .iload 5, 2), (61, .bipush 16, 2), (63, .if_icmp .ge 30, 3), (66, .aload_n 0, 1), (67, .getfield 34, 3), (70, .iload 6, 2), (72, .i2l, 1)] = true := by decide +kernel
theorem zr_298 : decode cX8_lacking 47 = .ok (.aload_n 0, 1) ∧ decode cX8_lacking 48 = .ok (.getfield 45, 3) ∧ decode cX8_lacking 51 = .ok (.iload 6, 2) ∧ decode cX8_lacking 53 = .ok (.invokevirtual 172, 3) ∧ decode cX8_lacking 56 = .ok (.ifCond .ne 40, 3) ∧ decode cX8_lacking 59 = .ok (.iload 5, 2) ∧ decode cX8_lacking 61 = .ok (.bipush 16, 2) ∧ decode cX8_lacking 63 = .ok (.if_icmp .ge 30, 3) ∧ decode cX8_lacking 66 = .ok (.aload_n 0, 1) ∧ decode cX8_lacking 67 = .ok (.getfield 34, 3) ∧ decode cX8_lacking 70 = .ok (.iload 6, 2) ∧ decode cX8_lacking 72 = .ok (.i2l, 1) ∧ True := zj_of zk_298
abbrev dX8_lacking_47 := zr_298.1
abbrev dX8_lacking_48 := zr_298.2.1
abbrev dX8_lacking_51 := zr_298.2.2.1
abbrev dX8_lacking_53 := zr_298.2.2.2.1
abbrev dX8_lacking_56 := zr_298.2.2.2.2.1
abbrev dX8_lacking_59 := zr_298.2.2.2.2.2.1
abbrev dX8_lacking_61 := zr_298.2.2.2.2.2.2.1
abbrev dX8_lacking_63 := zr_298.2.2.2.2.2.2.2.1
abbrev dX8_lacking_66 := zr_298.2.2.2.2.2.2.2.2.1
abbrev dX8_lacking_67 := zr_298.2.2.2.2.2.2.2.2.2.1
abbrev dX8_lacking_70 := zr_298.2.2.2.2.2.2.2.2.2.2.1
abbrev dX8_lacking_72 := zr_298.2.2.2.2.2.2.2.2.2.2.2.1
set_option maxRecDepth 100000 in
theorem zk_299 : zck 73 (cX8_lacking.data.toList.drop 73) [(73, .invokevirtual 155, 3), (76, .aload_n 0, 1), (77, .getfield 34, 3), (80, .aload_n 0, 1), (81, .getfield 41, 3), (84, .iload 6, 2), (86, .invokevirtual 172, 3), (89, .i2l, 1), (90, .invokevirtual 155, 3), (93, .iinc 5 1, 3), (96, .iinc 6 1, 3), (99, .goto (-72), 3)] = true := by decide +kernel
theorem zr_299 : decode cX8_lacking 73 = .ok (.invokevirtual 155, 3) ∧ decode cX8_lacking 76 = .ok (.aload_n 0, 1) ∧ decode cX8_lacking 77 = .ok (.getfield 34, 3) ∧ decode cX8_lacking 80 = .ok (.aload_n 0, 1) ∧ decode cX8_lacking 81 = .ok (.getfield 41, 3) ∧ decode cX8_lacking 84 = .ok (.iload 6, 2) ∧ decode cX8_lacking 86 = .ok (.invokevirtual 172, 3) ∧ decode cX8_lacking 89 = .ok (.i2l, 1) ∧ decode cX8_lacking 90 = .ok (.invokevirtual 155, 3) ∧ decode cX8_lacking 93 = .ok (.iinc 5 1, 3) ∧ decode cX8_lacking 96 = .ok (.iinc 6 1, 3) ∧ decode cX8_lacking 99 = .ok (.goto (-72), 3) ∧ True := zj_of zk_299
abbrev dX8_lacking_73 := zr_299.1
abbrev dX8_lacking_76 := zr_299.2.1
abbrev dX8_lacking_77 := zr_299.2.2.1
abbrev dX8_lacking_80 := zr_299.2.2.2.1
abbrev dX8_lacking_81 := zr_299.2.2.2.2.1
abbrev dX8_lacking_84 := zr_299.2.2.2.2.2.1
abbrev dX8_lacking_86 := zr_299.2.2.2.2.2.2.1
abbrev dX8_lacking_89 := zr_299.2.2.2.2.2.2.2.1
abbrev dX8_lacking_90 := zr_299.2.2.2.2.2.2.2.2.1
abbrev dX8_lacking_93 := zr_299.2.2.2.2.2.2.2.2.2.1
abbrev dX8_lacking_96 := zr_299.2.2.2.2.2.2.2.2.2.2.1
abbrev dX8_lacking_99 := zr_299.2.2.2.2.2.2.2.2.2.2.2.1
set_option maxRecDepth 100000 in
theorem zk_300 : zck 102 (cX8_lacking.data.toList.drop 102) [(102, .iload 5, 2), (104, .ireturn, 1)] = true := by decide +kernel
theorem zr_300 : decode cX8_lacking 102 = .ok (.iload 5, 2) ∧ decode cX8_lacking 104 = .ok (.ireturn, 1) ∧ True := zj_of zk_300
abbrev dX8_lacking_102 := zr_300.1
abbrev dX8_lacking_104 := zr_300.2.1
set_option maxRecDepth 100000 in
theorem zk_301 : zck 0 (cX8_both.data.toList.drop 0) [(0, .iload 5, 2), (2, .ifCond .lt 15, 3), (5, .aload_n 0, 1), (6, .iload_n 1, 1), (7, .iload_n 2, 1), (8, .iload_n 3, 1), (9, .iload 4, 2), (11, .invokevirtual 226, 3), (14, .ifCond .ne 5, 3), (17, .iconst (-1), 1), (18, .ireturn, 1), (19, .iconst 0, 1)] = true := by decide +kernel
theorem zr_301 : decode cX8_both 0 = .ok (.iload 5, 2) ∧ decode cX8_both 2 = .ok (.ifCond .lt 15, 3) ∧ decode cX8_both 5 = .ok (.aload_n 0, 1) ∧ decode cX8_both 6 = .ok (.iload_n 1, 1) ∧ decode cX8_both 7 = .ok (.iload_n 2, 1) ∧ decode cX8_both 8 = .ok (.iload_n 3, 1) ∧ decode cX8_both 9 = .ok (.iload 4, 2) ∧ decode cX8_both 11 = .ok (.invokevirtual 226, 3) ∧ decode cX8_both 14 = .ok (.ifCond .ne 5, 3) ∧ decode cX8_both 17 = .ok (.iconst (-1), 1) ∧ decode cX8_both 18 = .ok (.ireturn, 1) ∧ decode cX8_both 19 = .ok (.iconst 0, 1) ∧ True := zj_of zk_301
abbrev dX8_both_0 := zr_301.1
abbrev dX8_both_2 := zr_301.2.1
abbrev dX8_both_5 := zr_301.2.2.1
abbrev dX8_both_6 := zr_301.2.2.2.1
abbrev dX8_both_7 := zr_301.2.2.2.2.1
abbrev dX8_both_8 := zr_301.2.2.2.2.2.1
abbrev dX8_both_9 := zr_301.2.2.2.2.2.2.1
abbrev dX8_both_11 := zr_301.2.2.2.2.2.2.2.1
abbrev dX8_both_14 := zr_301.2.2.2.2.2.2.2.2.1
abbrev dX8_both_17 := zr_301.2.2.2.2.2.2.2.2.2.1
abbrev dX8_both_18 := zr_301.2.2.2.2.2.2.2.2.2.2.1
abbrev dX8_both_19 := zr_301.2.2.2.2.2.2.2.2.2.2.2.1
set_option maxRecDepth 100000 in
theorem zk_302 : zck 20 (cX8_both.data.toList.drop 20) [(20, .istore 6, 2), (22, .iconst 0, 1), (23, .istore 7, 2), (25, .iload 7, 2), (27, .sipush 255, 3), (30, .if_icmp .gt 67, 3), (33, .iload 6, 2), (35, .aload_n 0, 1), (36, .getfield 41, 3), (39, .iload 7, 2), (41, .invokevirtual 172, 3), (44, .aload_n 0, 1)] = true := by decide +kernel
theorem zr_302 : decode cX8_both 20 = .ok (.istore 6, 2) ∧ decode cX8_both 22 = .ok (.iconst 0, 1) ∧ decode cX8_both 23 = .ok (.istore 7, 2) ∧ decode cX8_both 25 = .ok (.iload 7, 2) ∧ decode cX8_both 27 = .ok (.sipush 255, 3) ∧ decode cX8_both 30 = .ok (.if_icmp .gt 67, 3) ∧ decode cX8_both 33 = .ok (.iload 6, 2) ∧ decode cX8_both 35 = .ok (.aload_n 0, 1) ∧ decode cX8_both 36 = .ok (.getfield 41, 3) ∧ decode cX8_both 39 = .ok (.iload 7, 2) ∧ decode cX8_both 41 = .ok (.invokevirtual 172, 3) ∧ decode cX8_both 44 = .ok (.aload_n 0, 1) ∧ True := zj_of zk_302
abbrev dX8_both_20 := zr_302.1
abbrev dX8_both_22 := zr_302.2.1
abbrev dX8_both_23 := zr_302.2.2.1
abbrev dX8_both_25 := zr_302.2.2.2.1
abbrev dX8_both_27 := zr_302.2.2.2.2.1
abbrev dX8_both_30 := zr_302.2.2.2.2.2.1
abbrev dX8_both_33 := zr_302.2.2.2.2.2.2.1
abbrev dX8_both_35 := zr_302.2.2.2.2.2.2.2.1
abbrev dX8_both_36 := zr_302.2.2.2.2.2.2.2.2.1
abbrev dX8_both_39 := zr_302.2.2.2.2.2.2.2.2.2.1
abbrev dX8_both_41 := zr_302.2.2.2.2.2.2.2.2.2.2.1
abbrev dX8_both_44 := zr_302.2.2.2.2.2.2.2.2.2.2.2.1
set_option maxRecDepth 100000 in
theorem zk_303 : zck 45 (cX8_both.data.toList.drop 45) [(45, .getfield 45, 3), (48, .iload 7, 2), (50, .invokevirtual 172, 3), (53, .iadd, 1), (54, .iadd, 1), (55, .istore 6, 2), (57, .iload 5, 2), (59, .iload 6, 2), (61, .if_icmp .ge 30, 3), (64, .aload_n 0, 1), (65, .aload_n 0, 1), (66, .getfield 41, 3)] = true := by decide +kernel
theorem zr_303 : decode cX8_both 45 = .ok (.getfield 45, 3) ∧ decode cX8_both 48 = .ok (.iload 7, 2) ∧ decode cX8_both 50 = .ok (.invokevirtual 172, 3) ∧ decode cX8_both 53 = .ok (.iadd, 1) ∧ decode cX8_both 54 = .ok (.iadd, 1) ∧ decode cX8_both 55 = .ok (.istore 6, 2) ∧ decode cX8_both 57 = .ok (.iload 5, 2) ∧ decode cX8_both 59 = .ok (.iload 6, 2) ∧ decode cX8_both 61 = .ok (.if_icmp .ge 30, 3) ∧ decode cX8_both 64 = .ok (.aload_n 0, 1) ∧ decode cX8_both 65 = .ok (.aload_n 0, 1) ∧ decode cX8_both 66 = .ok (.getfield 41, 3) ∧ True := zj_of zk_303
abbrev dX8_both_45 := zr_303.1
abbrev dX8_both_48 := zr_303.2.1
abbrev dX8_both_50 := zr_303.2.2.1
abbrev dX8_both_53 := zr_303.2.2.2.1
abbrev dX8_both_54 := zr_303.2.2.2.2.1
abbrev dX8_both_55 := zr_303.2.2.2.2.2.1
abbrev dX8_both_57 := zr_303.2.2.2.2.2.2.1
abbrev dX8_both_59 := zr_303.2.2.2.2.2.2.2.1
abbrev dX8_both_61 := zr_303.2.2.2.2.2.2.2.2.1
abbrev dX8_both_64 := zr_303.2.2.2.2.2.2.2.2.2.1
abbrev dX8_both_65 := zr_303.2.2.2.2.2.2.2.2.2.2.1
abbrev dX8_both_66 := zr_303.2.2.2.2.2.2.2.2.2.2.2.1
set_option maxRecDepth 100000 in
theorem zk_304 : zck 69 (cX8_both.data.toList.drop 69) [(69, .iload 7, 2), (71, .invokevirtual 172, 3), (74, .i2l, 1), (75, .aload_n 0, 1), (76, .getfield 45, 3), (79, .iload 7, 2), (81, .invokevirtual 172, 3), (84, .i2l, 1), (85, .invokevirtual 135, 3), (88, .iload 7, 2), (90, .ireturn, 1), (91, .iinc 7 1, 3)] = true := by decide +kernel
theorem zr_304 : decode cX8_both 69 = .ok (.iload 7, 2) ∧ decode cX8_both 71 = .ok (.invokevirtual 172, 3) ∧ decode cX8_both 74 = .ok (.i2l, 1) ∧ decode cX8_both 75 = .ok (.aload_n 0, 1) ∧ decode cX8_both 76 = .ok (.getfield 45, 3) ∧ decode cX8_both 79 = .ok (.iload 7, 2) ∧ decode cX8_both 81 = .ok (.invokevirtual 172, 3) ∧ decode cX8_both 84 = .ok (.i2l, 1) ∧ decode cX8_both 85 = .ok (.invokevirtual 135, 3) ∧ decode cX8_both 88 = .ok (.iload 7, 2) ∧ decode cX8_both 90 = .ok (.ireturn, 1) ∧ decode cX8_both 91 = .ok (.iinc 7 1, 3) ∧ True := zj_of zk_304
abbrev dX8_both_69 := zr_304.1
abbrev dX8_both_71 := zr_304.2.1
abbrev dX8_both_74 := zr_304.2.2.1
abbrev dX8_both_75 := zr_304.2.2.2.1
abbrev dX8_both_76 := zr_304.2.2.2.2.1
abbrev dX8_both_79 := zr_304.2.2.2.2.2.1
abbrev dX8_both_81 := zr_304.2.2.2.2.2.2.1
abbrev dX8_both_84 := zr_304.2.2.2.2.2.2.2.1
abbrev dX8_both_85 := zr_304.2.2.2.2.2.2.2.2.1
abbrev dX8_both_88 := zr_304.2.2.2.2.2.2.2.2.2.1
abbrev dX8_both_90 := zr_304.2.2.2.2.2.2.2.2.2.2.1
abbrev dX8_both_91 := zr_304.2.2.2.2.2.2.2.2.2.2.2.1
set_option maxRecDepth 100000 in
theorem zk_305 : zck 94 (cX8_both.data.toList.drop 94) [(94, .goto (-69), 3), (97, .bipush (-2), 2), (99, .ireturn, 1)] = true := by decide +kernel
theorem zr_305 : decode cX8_both 94 = .ok (.goto (-69), 3) ∧ decode cX8_both 97 = .ok (.bipush (-2), 2) ∧ decode cX8_both 99 = .ok (.ireturn, 1) ∧ True := zj_of zk_305
abbrev dX8_both_94 := zr_305.1
abbrev dX8_both_97 := zr_305.2.1
abbrev dX8_both_99 := zr_305.2.2.1
set_option maxRecDepth 100000 in
theorem zk_306 : zck 0 (cX8_same.data.toList.drop 0) [(0, .aload_n 0, 1), (1, .iload_n 1, 1), (2, .iload_n 2, 1), (3, .iload_n 3, 1), (4, .iload 4, 2), (6, .invokevirtual 226, 3), (9, .ifCond .ne 5, 3), (12, .iconst (-1), 1), (13, .ireturn, 1), (14, .iconst (-1), 1), (15, .istore 5, 2), (17, .iconst 0, 1)] = true := by decide +kernel
theorem zr_306 : decode cX8_same 0 = .ok (.aload_n 0, 1) ∧ decode cX8_same 1 = .ok (.iload_n 1, 1) ∧ decode cX8_same 2 = .ok (.iload_n 2, 1) ∧ decode cX8_same 3 = .ok (.iload_n 3, 1) ∧ decode cX8_same 4 = .ok (.iload 4, 2) ∧ decode cX8_same 6 = .ok (.invokevirtual 226, 3) ∧ decode cX8_same 9 = .ok (.ifCond .ne 5, 3) ∧ decode cX8_same 12 = .ok (.iconst (-1), 1) ∧ decode cX8_same 13 = .ok (.ireturn, 1) ∧ decode cX8_same 14 = .ok (.iconst (-1), 1) ∧ decode cX8_same 15 = .ok (.istore 5, 2) ∧ decode cX8_same 17 = .ok (.iconst 0, 1) ∧ True := zj_of zk_306
abbrev dX8_same_0 := zr_306.1
abbrev dX8_same_1 := zr_306.2.1
abbrev dX8_same_2 := zr_306.2.2.1
abbrev dX8_same_3 := zr_306.2.2.2.1
abbrev dX8_same_4 := zr_306.2.2.2.2.1
abbrev dX8_same_6 := zr_306.2.2.2.2.2.1
abbrev dX8_same_9 := zr_306.2.2.2.2.2.2.1
abbrev dX8_same_12 := zr_306.2.2.2.2.2.2.2.1
abbrev dX8_same_13 := zr_306.2.2.2.2.2.2.2.2.1
abbrev dX8_same_14 := zr_306.2.2.2.2.2.2.2.2.2.1
abbrev dX8_same_15 := zr_306.2.2.2.2.2.2.2.2.2.2.1
abbrev dX8_same_17 := zr_306.2.2.2.2.2.2.2.2.2.2.2.1
set_option maxRecDepth 100000 in
theorem zk_307 : zck 18 (cX8_same.data.toList.drop 18) [(18, .istore 6, 2), (20, .iconst 0, 1), (21, .istore 7, 2), (23, .iconst 0, 1), (24, .istore 8, 2), (26, .iload 8, 2), (28, .sipush 255, 3), (31, .if_icmp .gt 68, 3), (34, .aload_n 0, 1), (35, .getfield 41, 3), (38, .iload 8, 2), (40, .invokevirtual 172, 3)] = true := by decide +kernel
theorem zr_307 : decode cX8_same 18 = .ok (.istore 6, 2) ∧ decode cX8_same 20 = .ok (.iconst 0, 1) ∧ decode cX8_same 21 = .ok (.istore 7, 2) ∧ decode cX8_same 23 = .ok (.iconst 0, 1) ∧ decode cX8_same 24 = .ok (.istore 8, 2) ∧ decode cX8_same 26 = .ok (.iload 8, 2) ∧ decode cX8_same 28 = .ok (.sipush 255, 3) ∧ decode cX8_same 31 = .ok (.if_icmp .gt 68, 3) ∧ decode cX8_same 34 = .ok (.aload_n 0, 1) ∧ decode cX8_same 35 = .ok (.getfield 41, 3) ∧ decode cX8_same 38 = .ok (.iload 8, 2) ∧ decode cX8_same 40 = .ok (.invokevirtual 172, 3) ∧ True := zj_of zk_307
abbrev dX8_same_18 := zr_307.1
abbrev dX8_same_20 := zr_307.2.1
abbrev dX8_same_21 := zr_307.2.2.1
abbrev dX8_same_23 := zr_307.2.2.2.1
abbrev dX8_same_24 := zr_307.2.2.2.2.1
abbrev dX8_same_26 := zr_307.2.2.2.2.2.1
abbrev dX8_same_28 := zr_307.2.2.2.2.2.2.1
abbrev dX8_same_31 := zr_307.2.2.2.2.2.2.2.1
abbrev dX8_same_34 := zr_307.2.2.2.2.2.2.2.2.1
abbrev dX8_same_35 := zr_307.2.2.2.2.2.2.2.2.2.1
abbrev dX8_same_38 := zr_307.2.2.2.2.2.2.2.2.2.2.1
abbrev dX8_same_40 := zr_307.2.2.2.2.2.2.2.2.2.2.2.1
set_option maxRecDepth 100000 in
theorem zk_308 : zck 43 (cX8_same.data.toList.drop 43) [(43, .aload_n 0, 1), (44, .getfield 45, 3), (47, .iload 8, 2), (49, .invokevirtual 172, 3), (52, .isub, 1), (53, .istore 9, 2), (55, .iload 9, 2), (57, .ifCond .eq 13, 3), (60, .iload 5, 2), (62, .iconst (-1), 1), (63, .if_icmp .ne 7, 3), (66, .iload 8, 2)] = true := by decide +kernel
theorem zr_308 : decode cX8_same 43 = .ok (.aload_n 0, 1) ∧ decode cX8_same 44 = .ok (.getfield 45, 3) ∧ decode cX8_same 47 = .ok (.iload 8, 2) ∧ decode cX8_same 49 = .ok (.invokevirtual 172, 3) ∧ decode cX8_same 52 = .ok (.isub, 1) ∧ decode cX8_same 53 = .ok (.istore 9, 2) ∧ decode cX8_same 55 = .ok (.iload 9, 2) ∧ decode cX8_same 57 = .ok (.ifCond .eq 13, 3) ∧ decode cX8_same 60 = .ok (.iload 5, 2) ∧ decode cX8_same 62 = .ok (.iconst (-1), 1) ∧ decode cX8_same 63 = .ok (.if_icmp .ne 7, 3) ∧ decode cX8_same 66 = .ok (.iload 8, 2) ∧ True := zj_of zk_308
abbrev dX8_same_43 := zr_308.1
abbrev dX8_same_44 := zr_308.2.1
abbrev dX8_same_47 := zr_308.2.2.1
abbrev dX8_same_49 := zr_308.2.2.2.1
abbrev dX8_same_52 := zr_308.2.2.2.2.1
abbrev dX8_same_53 := zr_308.2.2.2.2.2.1
abbrev dX8_same_55 := zr_308.2.2.2.2.2.2.1
abbrev dX8_same_57 := zr_308.2.2.2.2.2.2.2.1
abbrev dX8_same_60 := zr_308.2.2.2.2.2.2.2.2.1
abbrev dX8_same_62 := zr_308.2.2.2.2.2.2.2.2.2.1
abbrev dX8_same_63 := zr_308.2.2.2.2.2.2.2.2.2.2.1
abbrev dX8_same_66 := zr_308.2.2.2.2.2.2.2.2.2.2.2.1
set_option maxRecDepth 100000 in
theorem zk_309 : zck 68 (cX8_same.data.toList.drop 68) [(68, .istore 5, 2), (70, .iload 6, 2), (72, .iload 9, 2), (74, .iconst 0, 1), (75, .invokestatic 234, 3), (78, .iadd, 1), (79, .istore 6, 2), (81, .iload 7, 2), (83, .iload 9, 2), (85, .ineg, 1), (86, .iconst 0, 1), (87, .invokestatic 234, 3)] = true := by decide +kernel
theorem zr_309 : decode cX8_same 68 = .ok (.istore 5, 2) ∧ decode cX8_same 70 = .ok (.iload 6, 2) ∧ decode cX8_same 72 = .ok (.iload 9, 2) ∧ decode cX8_same 74 = .ok (.iconst 0, 1) ∧ decode cX8_same 75 = .ok (.invokestatic 234, 3) ∧ decode cX8_same 78 = .ok (.iadd, 1) ∧ decode cX8_same 79 = .ok (.istore 6, 2) ∧ decode cX8_same 81 = .ok (.iload 7, 2) ∧ decode cX8_same 83 = .ok (.iload 9, 2) ∧ decode cX8_same 85 = .ok (.ineg, 1) ∧ decode cX8_same 86 = .ok (.iconst 0, 1) ∧ decode cX8_same 87 = .ok (.invokestatic 234, 3) ∧ True := zj_of zk_309
abbrev dX8_same_68 := zr_309.1
abbrev dX8_same_70 := zr_309.2.1
abbrev dX8_same_72 := zr_309.2.2.1
abbrev dX8_same_74 := zr_309.2.2.2.1
abbrev dX8_same_75 := zr_309.2.2.2.2.1
abbrev dX8_same_78 := zr_309.2.2.2.2.2.1
abbrev dX8_same_79 := zr_309.2.2.2.2.2.2.1
abbrev dX8_same_81 := zr_309.2.2.2.2.2.2.2.1
abbrev dX8_same_83 := zr_309.2.2.2.2.2.2.2.2.1
abbrev dX8_same_85 := zr_309.2.2.2.2.2.2.2.2.2.1
abbrev dX8_same_86 := zr_309.2.2.2.2.2.2.2.2.2.2.1
abbrev dX8_same_87 := zr_309.2.2.2.2.2.2.2.2.2.2.2.1
set_option maxRecDepth 100000 in
theorem zk_310 : zck 90 (cX8_same.data.toList.drop 90) [(90, .iadd, 1), (91, .istore 7, 2), (93, .iinc 8 1, 3), (96, .goto (-70), 3), (99, .aload_n 0, 1), (100, .iload 5, 2), (102, .i2l, 1), (103, .iload 6, 2), (105, .i2l, 1), (106, .invokevirtual 135, 3), (109, .aload_n 0, 1), (110, .getfield 34, 3)] = true := by decide +kernel
theorem zr_310 : decode cX8_same 90 = .ok (.iadd, 1) ∧ decode cX8_same 91 = .ok (.istore 7, 2) ∧ decode cX8_same 93 = .ok (.iinc 8 1, 3) ∧ decode cX8_same 96 = .ok (.goto (-70), 3) ∧ decode cX8_same 99 = .ok (.aload_n 0, 1) ∧ decode cX8_same 100 = .ok (.iload 5, 2) ∧ decode cX8_same 102 = .ok (.i2l, 1) ∧ decode cX8_same 103 = .ok (.iload 6, 2) ∧ decode cX8_same 105 = .ok (.i2l, 1) ∧ decode cX8_same 106 = .ok (.invokevirtual 135, 3) ∧ decode cX8_same 109 = .ok (.aload_n 0, 1) ∧ decode cX8_same 110 = .ok (.getfield 34, 3) ∧ True := zj_of zk_310
abbrev dX8_same_90 := zr_310.1
abbrev dX8_same_91 := zr_310.2.1
abbrev dX8_same_93 := zr_310.2.2.1
abbrev dX8_same_96 := zr_310.2.2.2.1
abbrev dX8_same_99 := zr_310.2.2.2.2.1
abbrev dX8_same_100 := zr_310.2.2.2.2.2.1
abbrev dX8_same_102 := zr_310.2.2.2.2.2.2.1
abbrev dX8_same_103 := zr_310.2.2.2.2.2.2.2.1
abbrev dX8_same_105 := zr_310.2.2.2.2.2.2.2.2.1
abbrev dX8_same_106 := zr_310.2.2.2.2.2.2.2.2.2.1
abbrev dX8_same_109 := zr_310.2.2.2.2.2.2.2.2.2.2.1
abbrev dX8_same_110 := zr_310.2.2.2.2.2.2.2.2.2.2.2.1
set_option maxRecDepth 100000 in
theorem zk_311 : zck 113 (cX8_same.data.toList.drop 113) [(113, .iload 7, 2), (115, .i2l, 1), (116, .invokevirtual 155, 3), (119, .iload 5, 2), (121, .iconst (-1), 1), (122, .if_icmp .ne 7, 3), (125, .iconst 1, 1), (126, .goto 4, 3), (129, .iconst 0, 1), (130, .ireturn, 1)] = true := by decide +kernel
theorem zr_311 : decode cX8_same 113 = .ok (.iload 7, 2) ∧ decode cX8_same 115 = .ok (.i2l, 1) ∧ decode cX8_same 116 = .ok (.invokevirtual 155, 3) ∧ decode cX8_same 119 = .ok (.iload 5, 2) ∧ decode cX8_same 121 = .ok (.iconst (-1), 1) ∧ decode cX8_same 122 = .ok (.if_icmp .ne 7, 3) ∧ decode cX8_same 125 = .ok (.iconst 1, 1) ∧ decode cX8_same 126 = .ok (.goto 4, 3) ∧ decode cX8_same 129 = .ok (.iconst 0, 1) ∧ decode cX8_same 130 = .ok (.ireturn, 1) ∧ True := zj_of zk_311
abbrev dX8_same_113 := zr_311.1
abbrev dX8_same_115 := zr_311.2.1
abbrev dX8_same_116 := zr_311.2.2.1
abbrev dX8_same_119 := zr_311.2.2.2.1
abbrev dX8_same_121 := zr_311.2.2.2.2.1
abbrev dX8_same_122 := zr_311.2.2.2.2.2.1
abbrev dX8_same_125 := zr_311.2.2.2.2.2.2.1
abbrev dX8_same_126 := zr_311.2.2.2.2.2.2.2.1
abbrev dX8_same_129 := zr_311.2.2.2.2.2.2.2.2.1
abbrev dX8_same_130 := zr_311.2.2.2.2.2.2.2.2.2.1
set_option maxRecDepth 100000 in
theorem zk_312 : zck 0 (cX8_count.data.toList.drop 0) [(0, .iload_n 1, 1)] = true := by decide +kernel
theorem zr_312 : decode cX8_count 0 = .ok (.iload_n 1, 1) ∧ True := zj_of zk_312
abbrev dX8_count_0 := zr_312.1
set_option maxRecDepth 100000 in
theorem dX8_count_1 : decode cX8_count 1 = .ok (.tableswitch 75 0 5 #[39, 44, 52, 60, 65, 70], 39) := by decide +kernel
set_option maxRecDepth 100000 in
theorem zk_313 : zck 40 (cX8_count.data.toList.drop 40) [(40, .aload_n 0, 1), (41, .getfield 13, 3), (44, .ireturn, 1), (45, .aload_n 0, 1), (46, .getfield 27, 3), (49, .getfield 129, 3), (52, .ireturn, 1), (53, .aload_n 0, 1), (54, .getfield 34, 3), (57, .getfield 237, 3), (60, .ireturn, 1), (61, .aload_n 0, 1)] = true := by decide +kernel
theorem zr_313 : decode cX8_count 40 = .ok (.aload_n 0, 1) ∧ decode cX8_count 41 = .ok (.getfield 13, 3) ∧ decode cX8_count 44 = .ok (.ireturn, 1) ∧ decode cX8_count 45 = .ok (.aload_n 0, 1) ∧ decode cX8_count 46 = .ok (.getfield 27, 3) ∧ decode cX8_count 49 = .ok (.getfield 129, 3) ∧ decode cX8_count 52 = .ok (.ireturn, 1) ∧ decode cX8_count 53 = .ok (.aload_n 0, 1) ∧ decode cX8_count 54 = .ok (.getfield 34, 3) ∧ decode cX8_count 57 = .ok (.getfield 237, 3) ∧ decode cX8_count 60 = .ok (.ireturn, 1) ∧ decode cX8_count 61 = .ok (.aload_n 0, 1) ∧ True := zj_of zk_313
abbrev dX8_count_40 := zr_313.1
abbrev dX8_count_41 := zr_313.2.1
abbrev dX8_count_44 := zr_313.2.2.1
abbrev dX8_count_45 := zr_313.2.2.2.1
abbrev dX8_count_46 := zr_313.2.2.2.2.1
abbrev dX8_count_49 := zr_313.2.2.2.2.2.1
abbrev dX8_count_52 := zr_313.2.2.2.2.2.2.1
abbrev dX8_count_53 := zr_313.2.2.2.2.2.2.2.1
abbrev dX8_count_54 := zr_313.2.2.2.2.2.2.2.2.1
abbrev dX8_count_57 := zr_313.2.2.2.2.2.2.2.2.2.1
abbrev dX8_count_60 := zr_313.2.2.2.2.2.2.2.2.2.2.1
abbrev dX8_count_61 := zr_313.2.2.2.2.2.2.2.2.2.2.2.1
set_option maxRecDepth 100000 in
theorem zk_314 : zck 62 (cX8_count.data.toList.drop 62) [(62, .invokevirtual 238, 3), (65, .ireturn, 1), (66, .aload_n 0, 1), (67, .invokevirtual 241, 3), (70, .ireturn, 1), (71, .aload_n 0, 1), (72, .invokevirtual 244, 3), (75, .ireturn, 1), (76, .iconst (-1), 1), (77, .ireturn, 1)] = true := by decide +kernel
theorem zr_314 : decode cX8_count 62 = .ok (.invokevirtual 238, 3) ∧ decode cX8_count 65 = .ok (.ireturn, 1) ∧ decode cX8_count 66 = .ok (.aload_n 0, 1) ∧ decode cX8_count 67 = .ok (.invokevirtual 241, 3) ∧ decode cX8_count 70 = .ok (.ireturn, 1) ∧ decode cX8_count 71 = .ok (.aload_n 0, 1) ∧ decode cX8_count 72 = .ok (.invokevirtual 244, 3) ∧ decode cX8_count 75 = .ok (.ireturn, 1) ∧ decode cX8_count 76 = .ok (.iconst (-1), 1) ∧ decode cX8_count 77 = .ok (.ireturn, 1) ∧ True := zj_of zk_314
abbrev dX8_count_62 := zr_314.1
abbrev dX8_count_65 := zr_314.2.1
abbrev dX8_count_66 := zr_314.2.2.1
abbrev dX8_count_67 := zr_314.2.2.2.1
abbrev dX8_count_70 := zr_314.2.2.2.2.1
abbrev dX8_count_71 := zr_314.2.2.2.2.2.1
abbrev dX8_count_72 := zr_314.2.2.2.2.2.2.1
abbrev dX8_count_75 := zr_314.2.2.2.2.2.2.2.1
abbrev dX8_count_76 := zr_314.2.2.2.2.2.2.2.2.1
abbrev dX8_count_77 := zr_314.2.2.2.2.2.2.2.2.2.1
set_option maxRecDepth 100000 in
theorem zk_315 : zck 0 (cX8_row.data.toList.drop 0) [(0, .iload_n 1, 1), (1, .ifCond .lt 14, 3), (4, .iload_n 1, 1), (5, .aload_n 0, 1), (6, .getfield 34, 3), (9, .getfield 237, 3), (12, .if_icmp .lt 13, 3), (15, .new 247, 3), (18, .dup, 1), (19, .ldc 249, 2), (21, .invokespecial 251, 3), (24, .athrow, 1)] = true := by decide +kernel
theorem zr_315 : decode cX8_row 0 = .ok (.iload_n 1, 1) ∧ decode cX8_row 1 = .ok (.ifCond .lt 14, 3) ∧ decode cX8_row 4 = .ok (.iload_n 1, 1) ∧ decode cX8_row 5 = .ok (.aload_n 0, 1) ∧ decode cX8_row 6 = .ok (.getfield 34, 3) ∧ decode cX8_row 9 = .ok (.getfield 237, 3) ∧ decode cX8_row 12 = .ok (.if_icmp .lt 13, 3) ∧ decode cX8_row 15 = .ok (.new 247, 3) ∧ decode cX8_row 18 = .ok (.dup, 1) ∧ decode cX8_row 19 = .ok (.ldc 249, 2) ∧ decode cX8_row 21 = .ok (.invokespecial 251, 3) ∧ decode cX8_row 24 = .ok (.athrow, 1) ∧ True := zj_of zk_315
abbrev dX8_row_0 := zr_315.1
abbrev dX8_row_1 := zr_315.2.1
abbrev dX8_row_4 := zr_315.2.2.1
abbrev dX8_row_5 := zr_315.2.2.2.1
abbrev dX8_row_6 := zr_315.2.2.2.2.1
abbrev dX8_row_9 := zr_315.2.2.2.2.2.1
abbrev dX8_row_12 := zr_315.2.2.2.2.2.2.1
abbrev dX8_row_15 := zr_315.2.2.2.2.2.2.2.1
abbrev dX8_row_18 := zr_315.2.2.2.2.2.2.2.2.1
abbrev dX8_row_19 := zr_315.2.2.2.2.2.2.2.2.2.1
abbrev dX8_row_21 := zr_315.2.2.2.2.2.2.2.2.2.2.1
abbrev dX8_row_24 := zr_315.2.2.2.2.2.2.2.2.2.2.2.1
set_option maxRecDepth 100000 in
theorem zk_316 : zck 25 (cX8_row.data.toList.drop 25) [(25, .aload_n 0, 1), (26, .getfield 34, 3), (29, .getfield 254, 3), (32, .iload_n 1, 1), (33, .laload, 1), (34, .lreturn, 1)] = true := by decide +kernel
theorem zr_316 : decode cX8_row 25 = .ok (.aload_n 0, 1) ∧ decode cX8_row 26 = .ok (.getfield 34, 3) ∧ decode cX8_row 29 = .ok (.getfield 254, 3) ∧ decode cX8_row 32 = .ok (.iload_n 1, 1) ∧ decode cX8_row 33 = .ok (.laload, 1) ∧ decode cX8_row 34 = .ok (.lreturn, 1) ∧ True := zj_of zk_316
abbrev dX8_row_25 := zr_316.1
abbrev dX8_row_26 := zr_316.2.1
abbrev dX8_row_29 := zr_316.2.2.1
abbrev dX8_row_32 := zr_316.2.2.2.1
abbrev dX8_row_33 := zr_316.2.2.2.2.1
abbrev dX8_row_34 := zr_316.2.2.2.2.2.1
set_option maxRecDepth 100000 in
theorem zk_317 : zck 0 (cX8_isNumber.data.toList.drop 0) [(0, .iload_n 0, 1), (1, .ifCond .lt 14, 3), (4, .iload_n 0, 1), (5, .sipush 255, 3), (8, .if_icmp .gt 7, 3), (11, .iconst 1, 1), (12, .goto 4, 3), (15, .iconst 0, 1), (16, .ireturn, 1)] = true := by decide +kernel
theorem zr_317 : decode cX8_isNumber 0 = .ok (.iload_n 0, 1) ∧ decode cX8_isNumber 1 = .ok (.ifCond .lt 14, 3) ∧ decode cX8_isNumber 4 = .ok (.iload_n 0, 1) ∧ decode cX8_isNumber 5 = .ok (.sipush 255, 3) ∧ decode cX8_isNumber 8 = .ok (.if_icmp .gt 7, 3) ∧ decode cX8_isNumber 11 = .ok (.iconst 1, 1) ∧ decode cX8_isNumber 12 = .ok (.goto 4, 3) ∧ decode cX8_isNumber 15 = .ok (.iconst 0, 1) ∧ decode cX8_isNumber 16 = .ok (.ireturn, 1) ∧ True := zj_of zk_317
abbrev dX8_isNumber_0 := zr_317.1
abbrev dX8_isNumber_1 := zr_317.2.1
abbrev dX8_isNumber_4 := zr_317.2.2.1
abbrev dX8_isNumber_5 := zr_317.2.2.2.1
abbrev dX8_isNumber_8 := zr_317.2.2.2.2.1
abbrev dX8_isNumber_11 := zr_317.2.2.2.2.2.1
abbrev dX8_isNumber_12 := zr_317.2.2.2.2.2.2.1
abbrev dX8_isNumber_15 := zr_317.2.2.2.2.2.2.2.1
abbrev dX8_isNumber_16 := zr_317.2.2.2.2.2.2.2.2.1
set_option maxRecDepth 100000 in
theorem zk_318 : zck 0 (cX8_isTimes.data.toList.drop 0) [(0, .iload_n 0, 1), (1, .iconst 1, 1), (2, .if_icmp .lt 13, 3), (5, .iload_n 0, 1), (6, .bipush 64, 2), (8, .if_icmp .gt 7, 3), (11, .iconst 1, 1), (12, .goto 4, 3), (15, .iconst 0, 1), (16, .ireturn, 1)] = true := by decide +kernel
theorem zr_318 : decode cX8_isTimes 0 = .ok (.iload_n 0, 1) ∧ decode cX8_isTimes 1 = .ok (.iconst 1, 1) ∧ decode cX8_isTimes 2 = .ok (.if_icmp .lt 13, 3) ∧ decode cX8_isTimes 5 = .ok (.iload_n 0, 1) ∧ decode cX8_isTimes 6 = .ok (.bipush 64, 2) ∧ decode cX8_isTimes 8 = .ok (.if_icmp .gt 7, 3) ∧ decode cX8_isTimes 11 = .ok (.iconst 1, 1) ∧ decode cX8_isTimes 12 = .ok (.goto 4, 3) ∧ decode cX8_isTimes 15 = .ok (.iconst 0, 1) ∧ decode cX8_isTimes 16 = .ok (.ireturn, 1) ∧ True := zj_of zk_318
abbrev dX8_isTimes_0 := zr_318.1
abbrev dX8_isTimes_1 := zr_318.2.1
abbrev dX8_isTimes_2 := zr_318.2.2.1
abbrev dX8_isTimes_5 := zr_318.2.2.2.1
abbrev dX8_isTimes_6 := zr_318.2.2.2.2.1
abbrev dX8_isTimes_8 := zr_318.2.2.2.2.2.1
abbrev dX8_isTimes_11 := zr_318.2.2.2.2.2.2.1
abbrev dX8_isTimes_12 := zr_318.2.2.2.2.2.2.2.1
abbrev dX8_isTimes_15 := zr_318.2.2.2.2.2.2.2.2.1
abbrev dX8_isTimes_16 := zr_318.2.2.2.2.2.2.2.2.2.1
set_option maxRecDepth 100000 in
theorem zk_319 : zck 0 (cX8_isPlace.data.toList.drop 0) [(0, .iload_n 1, 1), (1, .ifCond .lt 15, 3), (4, .iload_n 1, 1), (5, .aload_n 0, 1), (6, .getfield 13, 3), (9, .if_icmp .ge 7, 3), (12, .iconst 1, 1), (13, .goto 4, 3), (16, .iconst 0, 1), (17, .ireturn, 1)] = true := by decide +kernel
theorem zr_319 : decode cX8_isPlace 0 = .ok (.iload_n 1, 1) ∧ decode cX8_isPlace 1 = .ok (.ifCond .lt 15, 3) ∧ decode cX8_isPlace 4 = .ok (.iload_n 1, 1) ∧ decode cX8_isPlace 5 = .ok (.aload_n 0, 1) ∧ decode cX8_isPlace 6 = .ok (.getfield 13, 3) ∧ decode cX8_isPlace 9 = .ok (.if_icmp .ge 7, 3) ∧ decode cX8_isPlace 12 = .ok (.iconst 1, 1) ∧ decode cX8_isPlace 13 = .ok (.goto 4, 3) ∧ decode cX8_isPlace 16 = .ok (.iconst 0, 1) ∧ decode cX8_isPlace 17 = .ok (.ireturn, 1) ∧ True := zj_of zk_319
abbrev dX8_isPlace_0 := zr_319.1
abbrev dX8_isPlace_1 := zr_319.2.1
abbrev dX8_isPlace_4 := zr_319.2.2.1
abbrev dX8_isPlace_5 := zr_319.2.2.2.1
abbrev dX8_isPlace_6 := zr_319.2.2.2.2.1
abbrev dX8_isPlace_9 := zr_319.2.2.2.2.2.1
abbrev dX8_isPlace_12 := zr_319.2.2.2.2.2.2.1
abbrev dX8_isPlace_13 := zr_319.2.2.2.2.2.2.2.1
abbrev dX8_isPlace_16 := zr_319.2.2.2.2.2.2.2.2.1
abbrev dX8_isPlace_17 := zr_319.2.2.2.2.2.2.2.2.2.1
set_option maxRecDepth 100000 in
theorem zk_320 : zck 0 (cX8_isSpan.data.toList.drop 0) [(0, .iload_n 1, 1), (1, .ifCond .lt 20, 3), (4, .iload_n 1, 1), (5, .iload_n 2, 1), (6, .if_icmp .gt 15, 3), (9, .iload_n 2, 1), (10, .aload_n 0, 1), (11, .getfield 13, 3), (14, .if_icmp .gt 7, 3), (17, .iconst 1, 1), (18, .goto 4, 3), (21, .iconst 0, 1)] = true := by decide +kernel
theorem zr_320 : decode cX8_isSpan 0 = .ok (.iload_n 1, 1) ∧ decode cX8_isSpan 1 = .ok (.ifCond .lt 20, 3) ∧ decode cX8_isSpan 4 = .ok (.iload_n 1, 1) ∧ decode cX8_isSpan 5 = .ok (.iload_n 2, 1) ∧ decode cX8_isSpan 6 = .ok (.if_icmp .gt 15, 3) ∧ decode cX8_isSpan 9 = .ok (.iload_n 2, 1) ∧ decode cX8_isSpan 10 = .ok (.aload_n 0, 1) ∧ decode cX8_isSpan 11 = .ok (.getfield 13, 3) ∧ decode cX8_isSpan 14 = .ok (.if_icmp .gt 7, 3) ∧ decode cX8_isSpan 17 = .ok (.iconst 1, 1) ∧ decode cX8_isSpan 18 = .ok (.goto 4, 3) ∧ decode cX8_isSpan 21 = .ok (.iconst 0, 1) ∧ True := zj_of zk_320
abbrev dX8_isSpan_0 := zr_320.1
abbrev dX8_isSpan_1 := zr_320.2.1
abbrev dX8_isSpan_4 := zr_320.2.2.1
abbrev dX8_isSpan_5 := zr_320.2.2.2.1
abbrev dX8_isSpan_6 := zr_320.2.2.2.2.1
abbrev dX8_isSpan_9 := zr_320.2.2.2.2.2.1
abbrev dX8_isSpan_10 := zr_320.2.2.2.2.2.2.1
abbrev dX8_isSpan_11 := zr_320.2.2.2.2.2.2.2.1
abbrev dX8_isSpan_14 := zr_320.2.2.2.2.2.2.2.2.1
abbrev dX8_isSpan_17 := zr_320.2.2.2.2.2.2.2.2.2.1
abbrev dX8_isSpan_18 := zr_320.2.2.2.2.2.2.2.2.2.2.1
abbrev dX8_isSpan_21 := zr_320.2.2.2.2.2.2.2.2.2.2.2.1
set_option maxRecDepth 100000 in
theorem zk_321 : zck 22 (cX8_isSpan.data.toList.drop 22) [(22, .ireturn, 1)] = true := by decide +kernel
theorem zr_321 : decode cX8_isSpan 22 = .ok (.ireturn, 1) ∧ True := zj_of zk_321
abbrev dX8_isSpan_22 := zr_321.1
set_option maxRecDepth 100000 in
theorem zk_322 : zck 0 (cX8_settle.data.toList.drop 0) [(0, .aload_n 0, 1), (1, .getfield 65, 3), (4, .invokevirtual 257, 3), (7, .aload_n 0, 1), (8, .getfield 20, 3), (11, .aload_n 0, 1), (12, .getfield 9, 3), (15, .aload_n 0, 1), (16, .getfield 13, 3), (19, .invokevirtual 260, 3), (22, .ireturn, 1)] = true := by decide +kernel
theorem zr_322 : decode cX8_settle 0 = .ok (.aload_n 0, 1) ∧ decode cX8_settle 1 = .ok (.getfield 65, 3) ∧ decode cX8_settle 4 = .ok (.invokevirtual 257, 3) ∧ decode cX8_settle 7 = .ok (.aload_n 0, 1) ∧ decode cX8_settle 8 = .ok (.getfield 20, 3) ∧ decode cX8_settle 11 = .ok (.aload_n 0, 1) ∧ decode cX8_settle 12 = .ok (.getfield 9, 3) ∧ decode cX8_settle 15 = .ok (.aload_n 0, 1) ∧ decode cX8_settle 16 = .ok (.getfield 13, 3) ∧ decode cX8_settle 19 = .ok (.invokevirtual 260, 3) ∧ decode cX8_settle 22 = .ok (.ireturn, 1) ∧ True := zj_of zk_322
abbrev dX8_settle_0 := zr_322.1
abbrev dX8_settle_1 := zr_322.2.1
abbrev dX8_settle_4 := zr_322.2.2.1
abbrev dX8_settle_7 := zr_322.2.2.2.1
abbrev dX8_settle_8 := zr_322.2.2.2.2.1
abbrev dX8_settle_11 := zr_322.2.2.2.2.2.1
abbrev dX8_settle_12 := zr_322.2.2.2.2.2.2.1
abbrev dX8_settle_15 := zr_322.2.2.2.2.2.2.2.1
abbrev dX8_settle_16 := zr_322.2.2.2.2.2.2.2.2.1
abbrev dX8_settle_19 := zr_322.2.2.2.2.2.2.2.2.2.1
abbrev dX8_settle_22 := zr_322.2.2.2.2.2.2.2.2.2.2.1
set_option maxRecDepth 100000 in
theorem zk_323 : zck 0 (cX8_tell.data.toList.drop 0) [(0, .aload_n 0, 1), (1, .getfield 34, 3), (4, .invokevirtual 152, 3), (7, .aload_n 0, 1), (8, .getfield 34, 3), (11, .lload_n 1, 1), (12, .invokevirtual 155, 3), (15, .return_, 1)] = true := by decide +kernel
theorem zr_323 : decode cX8_tell 0 = .ok (.aload_n 0, 1) ∧ decode cX8_tell 1 = .ok (.getfield 34, 3) ∧ decode cX8_tell 4 = .ok (.invokevirtual 152, 3) ∧ decode cX8_tell 7 = .ok (.aload_n 0, 1) ∧ decode cX8_tell 8 = .ok (.getfield 34, 3) ∧ decode cX8_tell 11 = .ok (.lload_n 1, 1) ∧ decode cX8_tell 12 = .ok (.invokevirtual 155, 3) ∧ decode cX8_tell 15 = .ok (.return_, 1) ∧ True := zj_of zk_323
abbrev dX8_tell_0 := zr_323.1
abbrev dX8_tell_1 := zr_323.2.1
abbrev dX8_tell_4 := zr_323.2.2.1
abbrev dX8_tell_7 := zr_323.2.2.2.1
abbrev dX8_tell_8 := zr_323.2.2.2.2.1
abbrev dX8_tell_11 := zr_323.2.2.2.2.2.1
abbrev dX8_tell_12 := zr_323.2.2.2.2.2.2.1
abbrev dX8_tell_15 := zr_323.2.2.2.2.2.2.2.1
set_option maxRecDepth 100000 in
theorem zk_324 : zck 0 (cX8_tell_.data.toList.drop 0) [(0, .aload_n 0, 1), (1, .getfield 34, 3), (4, .invokevirtual 152, 3), (7, .aload_n 0, 1), (8, .getfield 34, 3), (11, .lload_n 1, 1), (12, .invokevirtual 155, 3), (15, .aload_n 0, 1), (16, .getfield 34, 3), (19, .lload_n 3, 1), (20, .invokevirtual 155, 3), (23, .return_, 1)] = true := by decide +kernel
theorem zr_324 : decode cX8_tell_ 0 = .ok (.aload_n 0, 1) ∧ decode cX8_tell_ 1 = .ok (.getfield 34, 3) ∧ decode cX8_tell_ 4 = .ok (.invokevirtual 152, 3) ∧ decode cX8_tell_ 7 = .ok (.aload_n 0, 1) ∧ decode cX8_tell_ 8 = .ok (.getfield 34, 3) ∧ decode cX8_tell_ 11 = .ok (.lload_n 1, 1) ∧ decode cX8_tell_ 12 = .ok (.invokevirtual 155, 3) ∧ decode cX8_tell_ 15 = .ok (.aload_n 0, 1) ∧ decode cX8_tell_ 16 = .ok (.getfield 34, 3) ∧ decode cX8_tell_ 19 = .ok (.lload_n 3, 1) ∧ decode cX8_tell_ 20 = .ok (.invokevirtual 155, 3) ∧ decode cX8_tell_ 23 = .ok (.return_, 1) ∧ True := zj_of zk_324
abbrev dX8_tell__0 := zr_324.1
abbrev dX8_tell__1 := zr_324.2.1
abbrev dX8_tell__4 := zr_324.2.2.1
abbrev dX8_tell__7 := zr_324.2.2.2.1
abbrev dX8_tell__8 := zr_324.2.2.2.2.1
abbrev dX8_tell__11 := zr_324.2.2.2.2.2.1
abbrev dX8_tell__12 := zr_324.2.2.2.2.2.2.1
abbrev dX8_tell__15 := zr_324.2.2.2.2.2.2.2.1
abbrev dX8_tell__16 := zr_324.2.2.2.2.2.2.2.2.1
abbrev dX8_tell__19 := zr_324.2.2.2.2.2.2.2.2.2.1
abbrev dX8_tell__20 := zr_324.2.2.2.2.2.2.2.2.2.2.1
abbrev dX8_tell__23 := zr_324.2.2.2.2.2.2.2.2.2.2.2.1
set_option maxRecDepth 100000 in
theorem zk_325 : zck 0 (cX8_exchange.data.toList.drop 0) [(0, .aload_n 0, 1), (1, .getfield 9, 3), (4, .iload_n 1, 1), (5, .iaload, 1), (6, .istore_n 3, 1), (7, .aload_n 0, 1), (8, .getfield 9, 3), (11, .iload_n 1, 1), (12, .aload_n 0, 1), (13, .getfield 9, 3), (16, .iload_n 2, 1), (17, .iaload, 1)] = true := by decide +kernel
theorem zr_325 : decode cX8_exchange 0 = .ok (.aload_n 0, 1) ∧ decode cX8_exchange 1 = .ok (.getfield 9, 3) ∧ decode cX8_exchange 4 = .ok (.iload_n 1, 1) ∧ decode cX8_exchange 5 = .ok (.iaload, 1) ∧ decode cX8_exchange 6 = .ok (.istore_n 3, 1) ∧ decode cX8_exchange 7 = .ok (.aload_n 0, 1) ∧ decode cX8_exchange 8 = .ok (.getfield 9, 3) ∧ decode cX8_exchange 11 = .ok (.iload_n 1, 1) ∧ decode cX8_exchange 12 = .ok (.aload_n 0, 1) ∧ decode cX8_exchange 13 = .ok (.getfield 9, 3) ∧ decode cX8_exchange 16 = .ok (.iload_n 2, 1) ∧ decode cX8_exchange 17 = .ok (.iaload, 1) ∧ True := zj_of zk_325
abbrev dX8_exchange_0 := zr_325.1
abbrev dX8_exchange_1 := zr_325.2.1
abbrev dX8_exchange_4 := zr_325.2.2.1
abbrev dX8_exchange_5 := zr_325.2.2.2.1
abbrev dX8_exchange_6 := zr_325.2.2.2.2.1
abbrev dX8_exchange_7 := zr_325.2.2.2.2.2.1
abbrev dX8_exchange_8 := zr_325.2.2.2.2.2.2.1
abbrev dX8_exchange_11 := zr_325.2.2.2.2.2.2.2.1
abbrev dX8_exchange_12 := zr_325.2.2.2.2.2.2.2.2.1
abbrev dX8_exchange_13 := zr_325.2.2.2.2.2.2.2.2.2.1
abbrev dX8_exchange_16 := zr_325.2.2.2.2.2.2.2.2.2.2.1
abbrev dX8_exchange_17 := zr_325.2.2.2.2.2.2.2.2.2.2.2.1
set_option maxRecDepth 100000 in
theorem zk_326 : zck 18 (cX8_exchange.data.toList.drop 18) [(18, .iastore, 1), (19, .aload_n 0, 1), (20, .getfield 9, 3), (23, .iload_n 2, 1), (24, .iload_n 3, 1), (25, .iastore, 1), (26, .return_, 1)] = true := by decide +kernel
theorem zr_326 : decode cX8_exchange 18 = .ok (.iastore, 1) ∧ decode cX8_exchange 19 = .ok (.aload_n 0, 1) ∧ decode cX8_exchange 20 = .ok (.getfield 9, 3) ∧ decode cX8_exchange 23 = .ok (.iload_n 2, 1) ∧ decode cX8_exchange 24 = .ok (.iload_n 3, 1) ∧ decode cX8_exchange 25 = .ok (.iastore, 1) ∧ decode cX8_exchange 26 = .ok (.return_, 1) ∧ True := zj_of zk_326
abbrev dX8_exchange_18 := zr_326.1
abbrev dX8_exchange_19 := zr_326.2.1
abbrev dX8_exchange_20 := zr_326.2.2.1
abbrev dX8_exchange_23 := zr_326.2.2.2.1
abbrev dX8_exchange_24 := zr_326.2.2.2.2.1
abbrev dX8_exchange_25 := zr_326.2.2.2.2.2.1
abbrev dX8_exchange_26 := zr_326.2.2.2.2.2.2.1
set_option maxRecDepth 100000 in
theorem zk_327 : zck 0 (cX8_takeBoth.data.toList.drop 0) [(0, .aload_n 0, 1), (1, .iload_n 1, 1), (2, .iload_n 2, 1), (3, .invokevirtual 122, 3), (6, .ifCond .eq 13, 3), (9, .aload_n 0, 1), (10, .iload_n 3, 1), (11, .iload 4, 2), (13, .invokevirtual 122, 3), (16, .ifCond .ne 5, 3), (19, .iconst 0, 1), (20, .ireturn, 1)] = true := by decide +kernel
theorem zr_327 : decode cX8_takeBoth 0 = .ok (.aload_n 0, 1) ∧ decode cX8_takeBoth 1 = .ok (.iload_n 1, 1) ∧ decode cX8_takeBoth 2 = .ok (.iload_n 2, 1) ∧ decode cX8_takeBoth 3 = .ok (.invokevirtual 122, 3) ∧ decode cX8_takeBoth 6 = .ok (.ifCond .eq 13, 3) ∧ decode cX8_takeBoth 9 = .ok (.aload_n 0, 1) ∧ decode cX8_takeBoth 10 = .ok (.iload_n 3, 1) ∧ decode cX8_takeBoth 11 = .ok (.iload 4, 2) ∧ decode cX8_takeBoth 13 = .ok (.invokevirtual 122, 3) ∧ decode cX8_takeBoth 16 = .ok (.ifCond .ne 5, 3) ∧ decode cX8_takeBoth 19 = .ok (.iconst 0, 1) ∧ decode cX8_takeBoth 20 = .ok (.ireturn, 1) ∧ True := zj_of zk_327
abbrev dX8_takeBoth_0 := zr_327.1
abbrev dX8_takeBoth_1 := zr_327.2.1
abbrev dX8_takeBoth_2 := zr_327.2.2.1
abbrev dX8_takeBoth_3 := zr_327.2.2.2.1
abbrev dX8_takeBoth_6 := zr_327.2.2.2.2.1
abbrev dX8_takeBoth_9 := zr_327.2.2.2.2.2.1
abbrev dX8_takeBoth_10 := zr_327.2.2.2.2.2.2.1
abbrev dX8_takeBoth_11 := zr_327.2.2.2.2.2.2.2.1
abbrev dX8_takeBoth_13 := zr_327.2.2.2.2.2.2.2.2.1
abbrev dX8_takeBoth_16 := zr_327.2.2.2.2.2.2.2.2.2.1
abbrev dX8_takeBoth_19 := zr_327.2.2.2.2.2.2.2.2.2.2.1
abbrev dX8_takeBoth_20 := zr_327.2.2.2.2.2.2.2.2.2.2.2.1
set_option maxRecDepth 100000 in
theorem zk_328 : zck 21 (cX8_takeBoth.data.toList.drop 21) [(21, .aload_n 0, 1), (22, .getfield 41, 3), (25, .aload_n 0, 1), (26, .getfield 9, 3), (29, .iload_n 1, 1), (30, .iload_n 2, 1), (31, .invokevirtual 164, 3), (34, .aload_n 0, 1), (35, .getfield 45, 3), (38, .aload_n 0, 1), (39, .getfield 9, 3), (42, .iload_n 3, 1)] = true := by decide +kernel
theorem zr_328 : decode cX8_takeBoth 21 = .ok (.aload_n 0, 1) ∧ decode cX8_takeBoth 22 = .ok (.getfield 41, 3) ∧ decode cX8_takeBoth 25 = .ok (.aload_n 0, 1) ∧ decode cX8_takeBoth 26 = .ok (.getfield 9, 3) ∧ decode cX8_takeBoth 29 = .ok (.iload_n 1, 1) ∧ decode cX8_takeBoth 30 = .ok (.iload_n 2, 1) ∧ decode cX8_takeBoth 31 = .ok (.invokevirtual 164, 3) ∧ decode cX8_takeBoth 34 = .ok (.aload_n 0, 1) ∧ decode cX8_takeBoth 35 = .ok (.getfield 45, 3) ∧ decode cX8_takeBoth 38 = .ok (.aload_n 0, 1) ∧ decode cX8_takeBoth 39 = .ok (.getfield 9, 3) ∧ decode cX8_takeBoth 42 = .ok (.iload_n 3, 1) ∧ True := zj_of zk_328
abbrev dX8_takeBoth_21 := zr_328.1
abbrev dX8_takeBoth_22 := zr_328.2.1
abbrev dX8_takeBoth_25 := zr_328.2.2.1
abbrev dX8_takeBoth_26 := zr_328.2.2.2.1
abbrev dX8_takeBoth_29 := zr_328.2.2.2.2.1
abbrev dX8_takeBoth_30 := zr_328.2.2.2.2.2.1
abbrev dX8_takeBoth_31 := zr_328.2.2.2.2.2.2.1
abbrev dX8_takeBoth_34 := zr_328.2.2.2.2.2.2.2.1
abbrev dX8_takeBoth_35 := zr_328.2.2.2.2.2.2.2.2.1
abbrev dX8_takeBoth_38 := zr_328.2.2.2.2.2.2.2.2.2.1
abbrev dX8_takeBoth_39 := zr_328.2.2.2.2.2.2.2.2.2.2.1
abbrev dX8_takeBoth_42 := zr_328.2.2.2.2.2.2.2.2.2.2.2.1
set_option maxRecDepth 100000 in
theorem zk_329 : zck 43 (cX8_takeBoth.data.toList.drop 43) [(43, .iload 4, 2), (45, .invokevirtual 164, 3), (48, .iconst 1, 1), (49, .ireturn, 1)] = true := by decide +kernel
theorem zr_329 : decode cX8_takeBoth 43 = .ok (.iload 4, 2) ∧ decode cX8_takeBoth 45 = .ok (.invokevirtual 164, 3) ∧ decode cX8_takeBoth 48 = .ok (.iconst 1, 1) ∧ decode cX8_takeBoth 49 = .ok (.ireturn, 1) ∧ True := zj_of zk_329
abbrev dX8_takeBoth_43 := zr_329.1
abbrev dX8_takeBoth_45 := zr_329.2.1
abbrev dX8_takeBoth_48 := zr_329.2.2.1
abbrev dX8_takeBoth_49 := zr_329.2.2.2.1
set_option maxRecDepth 100000 in
theorem zk_330 : zck 0 (cX8_timesIn.data.toList.drop 0) [(0, .iconst 0, 1), (1, .istore 4, 2), (3, .iload_n 2, 1), (4, .istore 5, 2), (6, .iload 5, 2), (8, .iload_n 3, 1), (9, .if_icmp .ge 23, 3), (12, .aload_n 0, 1), (13, .getfield 9, 3), (16, .iload 5, 2), (18, .iaload, 1), (19, .iload_n 1, 1)] = true := by decide +kernel
theorem zr_330 : decode cX8_timesIn 0 = .ok (.iconst 0, 1) ∧ decode cX8_timesIn 1 = .ok (.istore 4, 2) ∧ decode cX8_timesIn 3 = .ok (.iload_n 2, 1) ∧ decode cX8_timesIn 4 = .ok (.istore 5, 2) ∧ decode cX8_timesIn 6 = .ok (.iload 5, 2) ∧ decode cX8_timesIn 8 = .ok (.iload_n 3, 1) ∧ decode cX8_timesIn 9 = .ok (.if_icmp .ge 23, 3) ∧ decode cX8_timesIn 12 = .ok (.aload_n 0, 1) ∧ decode cX8_timesIn 13 = .ok (.getfield 9, 3) ∧ decode cX8_timesIn 16 = .ok (.iload 5, 2) ∧ decode cX8_timesIn 18 = .ok (.iaload, 1) ∧ decode cX8_timesIn 19 = .ok (.iload_n 1, 1) ∧ True := zj_of zk_330
abbrev dX8_timesIn_0 := zr_330.1
abbrev dX8_timesIn_1 := zr_330.2.1
abbrev dX8_timesIn_3 := zr_330.2.2.1
abbrev dX8_timesIn_4 := zr_330.2.2.2.1
abbrev dX8_timesIn_6 := zr_330.2.2.2.2.1
abbrev dX8_timesIn_8 := zr_330.2.2.2.2.2.1
abbrev dX8_timesIn_9 := zr_330.2.2.2.2.2.2.1
abbrev dX8_timesIn_12 := zr_330.2.2.2.2.2.2.2.1
abbrev dX8_timesIn_13 := zr_330.2.2.2.2.2.2.2.2.1
abbrev dX8_timesIn_16 := zr_330.2.2.2.2.2.2.2.2.2.1
abbrev dX8_timesIn_18 := zr_330.2.2.2.2.2.2.2.2.2.2.1
abbrev dX8_timesIn_19 := zr_330.2.2.2.2.2.2.2.2.2.2.2.1
set_option maxRecDepth 100000 in
theorem zk_331 : zck 20 (cX8_timesIn.data.toList.drop 20) [(20, .if_icmp .ne 6, 3), (23, .iinc 4 1, 3), (26, .iinc 5 1, 3), (29, .goto (-23), 3), (32, .iload 4, 2), (34, .ireturn, 1)] = true := by decide +kernel
theorem zr_331 : decode cX8_timesIn 20 = .ok (.if_icmp .ne 6, 3) ∧ decode cX8_timesIn 23 = .ok (.iinc 4 1, 3) ∧ decode cX8_timesIn 26 = .ok (.iinc 5 1, 3) ∧ decode cX8_timesIn 29 = .ok (.goto (-23), 3) ∧ decode cX8_timesIn 32 = .ok (.iload 4, 2) ∧ decode cX8_timesIn 34 = .ok (.ireturn, 1) ∧ True := zj_of zk_331
abbrev dX8_timesIn_20 := zr_331.1
abbrev dX8_timesIn_23 := zr_331.2.1
abbrev dX8_timesIn_26 := zr_331.2.2.1
abbrev dX8_timesIn_29 := zr_331.2.2.2.1
abbrev dX8_timesIn_32 := zr_331.2.2.2.2.1
abbrev dX8_timesIn_34 := zr_331.2.2.2.2.2.1
set_option maxRecDepth 100000 in
theorem zk_332 : zck 0 (cX8_nextPlaceOf.data.toList.drop 0) [(0, .iload_n 2, 1), (1, .istore_n 3, 1), (2, .iload_n 3, 1), (3, .aload_n 0, 1), (4, .getfield 13, 3), (7, .if_icmp .ge 21, 3), (10, .aload_n 0, 1), (11, .getfield 9, 3), (14, .iload_n 3, 1), (15, .iaload, 1), (16, .iload_n 1, 1), (17, .if_icmp .ne 5, 3)] = true := by decide +kernel
theorem zr_332 : decode cX8_nextPlaceOf 0 = .ok (.iload_n 2, 1) ∧ decode cX8_nextPlaceOf 1 = .ok (.istore_n 3, 1) ∧ decode cX8_nextPlaceOf 2 = .ok (.iload_n 3, 1) ∧ decode cX8_nextPlaceOf 3 = .ok (.aload_n 0, 1) ∧ decode cX8_nextPlaceOf 4 = .ok (.getfield 13, 3) ∧ decode cX8_nextPlaceOf 7 = .ok (.if_icmp .ge 21, 3) ∧ decode cX8_nextPlaceOf 10 = .ok (.aload_n 0, 1) ∧ decode cX8_nextPlaceOf 11 = .ok (.getfield 9, 3) ∧ decode cX8_nextPlaceOf 14 = .ok (.iload_n 3, 1) ∧ decode cX8_nextPlaceOf 15 = .ok (.iaload, 1) ∧ decode cX8_nextPlaceOf 16 = .ok (.iload_n 1, 1) ∧ decode cX8_nextPlaceOf 17 = .ok (.if_icmp .ne 5, 3) ∧ True := zj_of zk_332
abbrev dX8_nextPlaceOf_0 := zr_332.1
abbrev dX8_nextPlaceOf_1 := zr_332.2.1
abbrev dX8_nextPlaceOf_2 := zr_332.2.2.1
abbrev dX8_nextPlaceOf_3 := zr_332.2.2.2.1
abbrev dX8_nextPlaceOf_4 := zr_332.2.2.2.2.1
abbrev dX8_nextPlaceOf_7 := zr_332.2.2.2.2.2.1
abbrev dX8_nextPlaceOf_10 := zr_332.2.2.2.2.2.2.1
abbrev dX8_nextPlaceOf_11 := zr_332.2.2.2.2.2.2.2.1
abbrev dX8_nextPlaceOf_14 := zr_332.2.2.2.2.2.2.2.2.1
abbrev dX8_nextPlaceOf_15 := zr_332.2.2.2.2.2.2.2.2.2.1
abbrev dX8_nextPlaceOf_16 := zr_332.2.2.2.2.2.2.2.2.2.2.1
abbrev dX8_nextPlaceOf_17 := zr_332.2.2.2.2.2.2.2.2.2.2.2.1
set_option maxRecDepth 100000 in
theorem zk_333 : zck 20 (cX8_nextPlaceOf.data.toList.drop 20) [(20, .iload_n 3, 1), (21, .ireturn, 1), (22, .iinc 3 1, 3), (25, .goto (-23), 3), (28, .iconst (-1), 1), (29, .ireturn, 1)] = true := by decide +kernel
theorem zr_333 : decode cX8_nextPlaceOf 20 = .ok (.iload_n 3, 1) ∧ decode cX8_nextPlaceOf 21 = .ok (.ireturn, 1) ∧ decode cX8_nextPlaceOf 22 = .ok (.iinc 3 1, 3) ∧ decode cX8_nextPlaceOf 25 = .ok (.goto (-23), 3) ∧ decode cX8_nextPlaceOf 28 = .ok (.iconst (-1), 1) ∧ decode cX8_nextPlaceOf 29 = .ok (.ireturn, 1) ∧ True := zj_of zk_333
abbrev dX8_nextPlaceOf_20 := zr_333.1
abbrev dX8_nextPlaceOf_21 := zr_333.2.1
abbrev dX8_nextPlaceOf_22 := zr_333.2.2.1
abbrev dX8_nextPlaceOf_25 := zr_333.2.2.2.1
abbrev dX8_nextPlaceOf_28 := zr_333.2.2.2.2.1
abbrev dX8_nextPlaceOf_29 := zr_333.2.2.2.2.2.1
set_option maxRecDepth 100000 in
theorem zk_334 : zck 0 (cX8_lengthWith.data.toList.drop 0) [(0, .aload_n 0, 1), (1, .getfield 9, 3), (4, .iload_n 3, 1), (5, .iaload, 1), (6, .iload_n 1, 1), (7, .if_icmp .eq 5, 3), (10, .iconst (-1), 1), (11, .ireturn, 1), (12, .iconst 0, 1), (13, .istore 4, 2), (15, .iload_n 3, 1), (16, .istore 5, 2)] = true := by decide +kernel
theorem zr_334 : decode cX8_lengthWith 0 = .ok (.aload_n 0, 1) ∧ decode cX8_lengthWith 1 = .ok (.getfield 9, 3) ∧ decode cX8_lengthWith 4 = .ok (.iload_n 3, 1) ∧ decode cX8_lengthWith 5 = .ok (.iaload, 1) ∧ decode cX8_lengthWith 6 = .ok (.iload_n 1, 1) ∧ decode cX8_lengthWith 7 = .ok (.if_icmp .eq 5, 3) ∧ decode cX8_lengthWith 10 = .ok (.iconst (-1), 1) ∧ decode cX8_lengthWith 11 = .ok (.ireturn, 1) ∧ decode cX8_lengthWith 12 = .ok (.iconst 0, 1) ∧ decode cX8_lengthWith 13 = .ok (.istore 4, 2) ∧ decode cX8_lengthWith 15 = .ok (.iload_n 3, 1) ∧ decode cX8_lengthWith 16 = .ok (.istore 5, 2) ∧ True := zj_of zk_334
abbrev dX8_lengthWith_0 := zr_334.1
abbrev dX8_lengthWith_1 := zr_334.2.1
abbrev dX8_lengthWith_4 := zr_334.2.2.1
abbrev dX8_lengthWith_5 := zr_334.2.2.2.1
abbrev dX8_lengthWith_6 := zr_334.2.2.2.2.1
abbrev dX8_lengthWith_7 := zr_334.2.2.2.2.2.1
abbrev dX8_lengthWith_10 := zr_334.2.2.2.2.2.2.1
abbrev dX8_lengthWith_11 := zr_334.2.2.2.2.2.2.2.1
abbrev dX8_lengthWith_12 := zr_334.2.2.2.2.2.2.2.2.1
abbrev dX8_lengthWith_13 := zr_334.2.2.2.2.2.2.2.2.2.1
abbrev dX8_lengthWith_15 := zr_334.2.2.2.2.2.2.2.2.2.2.1
abbrev dX8_lengthWith_16 := zr_334.2.2.2.2.2.2.2.2.2.2.2.1
set_option maxRecDepth 100000 in
theorem zk_335 : zck 18 (cX8_lengthWith.data.toList.drop 18) [(18, .iload 5, 2), (20, .aload_n 0, 1), (21, .getfield 13, 3), (24, .if_icmp .ge 36, 3), (27, .aload_n 0, 1), (28, .getfield 9, 3), (31, .iload 5, 2), (33, .iaload, 1), (34, .iload_n 1, 1), (35, .if_icmp .ne 6, 3), (38, .iinc 4 1, 3), (41, .iload 4, 2)] = true := by decide +kernel
theorem zr_335 : decode cX8_lengthWith 18 = .ok (.iload 5, 2) ∧ decode cX8_lengthWith 20 = .ok (.aload_n 0, 1) ∧ decode cX8_lengthWith 21 = .ok (.getfield 13, 3) ∧ decode cX8_lengthWith 24 = .ok (.if_icmp .ge 36, 3) ∧ decode cX8_lengthWith 27 = .ok (.aload_n 0, 1) ∧ decode cX8_lengthWith 28 = .ok (.getfield 9, 3) ∧ decode cX8_lengthWith 31 = .ok (.iload 5, 2) ∧ decode cX8_lengthWith 33 = .ok (.iaload, 1) ∧ decode cX8_lengthWith 34 = .ok (.iload_n 1, 1) ∧ decode cX8_lengthWith 35 = .ok (.if_icmp .ne 6, 3) ∧ decode cX8_lengthWith 38 = .ok (.iinc 4 1, 3) ∧ decode cX8_lengthWith 41 = .ok (.iload 4, 2) ∧ True := zj_of zk_335
abbrev dX8_lengthWith_18 := zr_335.1
abbrev dX8_lengthWith_20 := zr_335.2.1
abbrev dX8_lengthWith_21 := zr_335.2.2.1
abbrev dX8_lengthWith_24 := zr_335.2.2.2.1
abbrev dX8_lengthWith_27 := zr_335.2.2.2.2.1
abbrev dX8_lengthWith_28 := zr_335.2.2.2.2.2.1
abbrev dX8_lengthWith_31 := zr_335.2.2.2.2.2.2.1
abbrev dX8_lengthWith_33 := zr_335.2.2.2.2.2.2.2.1
abbrev dX8_lengthWith_34 := zr_335.2.2.2.2.2.2.2.2.1
abbrev dX8_lengthWith_35 := zr_335.2.2.2.2.2.2.2.2.2.1
abbrev dX8_lengthWith_38 := zr_335.2.2.2.2.2.2.2.2.2.2.1
abbrev dX8_lengthWith_41 := zr_335.2.2.2.2.2.2.2.2.2.2.2.1
set_option maxRecDepth 100000 in
theorem zk_336 : zck 43 (cX8_lengthWith.data.toList.drop 43) [(43, .iload_n 2, 1), (44, .if_icmp .ne 10, 3), (47, .iload 5, 2), (49, .iconst 1, 1), (50, .iadd, 1), (51, .iload_n 3, 1), (52, .isub, 1), (53, .ireturn, 1), (54, .iinc 5 1, 3), (57, .goto (-39), 3), (60, .iconst (-1), 1), (61, .ireturn, 1)] = true := by decide +kernel
theorem zr_336 : decode cX8_lengthWith 43 = .ok (.iload_n 2, 1) ∧ decode cX8_lengthWith 44 = .ok (.if_icmp .ne 10, 3) ∧ decode cX8_lengthWith 47 = .ok (.iload 5, 2) ∧ decode cX8_lengthWith 49 = .ok (.iconst 1, 1) ∧ decode cX8_lengthWith 50 = .ok (.iadd, 1) ∧ decode cX8_lengthWith 51 = .ok (.iload_n 3, 1) ∧ decode cX8_lengthWith 52 = .ok (.isub, 1) ∧ decode cX8_lengthWith 53 = .ok (.ireturn, 1) ∧ decode cX8_lengthWith 54 = .ok (.iinc 5 1, 3) ∧ decode cX8_lengthWith 57 = .ok (.goto (-39), 3) ∧ decode cX8_lengthWith 60 = .ok (.iconst (-1), 1) ∧ decode cX8_lengthWith 61 = .ok (.ireturn, 1) ∧ True := zj_of zk_336
abbrev dX8_lengthWith_43 := zr_336.1
abbrev dX8_lengthWith_44 := zr_336.2.1
abbrev dX8_lengthWith_47 := zr_336.2.2.1
abbrev dX8_lengthWith_49 := zr_336.2.2.2.1
abbrev dX8_lengthWith_50 := zr_336.2.2.2.2.1
abbrev dX8_lengthWith_51 := zr_336.2.2.2.2.2.1
abbrev dX8_lengthWith_52 := zr_336.2.2.2.2.2.2.1
abbrev dX8_lengthWith_53 := zr_336.2.2.2.2.2.2.2.1
abbrev dX8_lengthWith_54 := zr_336.2.2.2.2.2.2.2.2.1
abbrev dX8_lengthWith_57 := zr_336.2.2.2.2.2.2.2.2.2.1
abbrev dX8_lengthWith_60 := zr_336.2.2.2.2.2.2.2.2.2.2.1
abbrev dX8_lengthWith_61 := zr_336.2.2.2.2.2.2.2.2.2.2.2.1
set_option maxRecDepth 100000 in
theorem zk_337 : zck 0 (cX8_apart.data.toList.drop 0) [(0, .aload_n 0, 1), (1, .getfield 41, 3), (4, .iload_n 1, 1), (5, .invokevirtual 168, 3), (8, .aload_n 0, 1), (9, .getfield 41, 3), (12, .iload_n 1, 1), (13, .iconst 1, 1), (14, .iadd, 1), (15, .invokevirtual 168, 3), (18, .ixor, 1), (19, .ireturn, 1)] = true := by decide +kernel
theorem zr_337 : decode cX8_apart 0 = .ok (.aload_n 0, 1) ∧ decode cX8_apart 1 = .ok (.getfield 41, 3) ∧ decode cX8_apart 4 = .ok (.iload_n 1, 1) ∧ decode cX8_apart 5 = .ok (.invokevirtual 168, 3) ∧ decode cX8_apart 8 = .ok (.aload_n 0, 1) ∧ decode cX8_apart 9 = .ok (.getfield 41, 3) ∧ decode cX8_apart 12 = .ok (.iload_n 1, 1) ∧ decode cX8_apart 13 = .ok (.iconst 1, 1) ∧ decode cX8_apart 14 = .ok (.iadd, 1) ∧ decode cX8_apart 15 = .ok (.invokevirtual 168, 3) ∧ decode cX8_apart 18 = .ok (.ixor, 1) ∧ decode cX8_apart 19 = .ok (.ireturn, 1) ∧ True := zj_of zk_337
abbrev dX8_apart_0 := zr_337.1
abbrev dX8_apart_1 := zr_337.2.1
abbrev dX8_apart_4 := zr_337.2.2.1
abbrev dX8_apart_5 := zr_337.2.2.2.1
abbrev dX8_apart_8 := zr_337.2.2.2.2.1
abbrev dX8_apart_9 := zr_337.2.2.2.2.2.1
abbrev dX8_apart_12 := zr_337.2.2.2.2.2.2.1
abbrev dX8_apart_13 := zr_337.2.2.2.2.2.2.2.1
abbrev dX8_apart_14 := zr_337.2.2.2.2.2.2.2.2.1
abbrev dX8_apart_15 := zr_337.2.2.2.2.2.2.2.2.2.1
abbrev dX8_apart_18 := zr_337.2.2.2.2.2.2.2.2.2.2.1
abbrev dX8_apart_19 := zr_337.2.2.2.2.2.2.2.2.2.2.2.1
set_option maxRecDepth 100000 in
theorem zk_338 : zck 0 (cX8_step.data.toList.drop 0) [(0, .aload_n 0, 1), (1, .getfield 41, 3), (4, .iload_n 1, 1), (5, .iconst 1, 1), (6, .iadd, 1), (7, .invokevirtual 168, 3), (10, .aload_n 0, 1), (11, .getfield 41, 3), (14, .iload_n 1, 1), (15, .invokevirtual 168, 3), (18, .isub, 1), (19, .ireturn, 1)] = true := by decide +kernel
theorem zr_338 : decode cX8_step 0 = .ok (.aload_n 0, 1) ∧ decode cX8_step 1 = .ok (.getfield 41, 3) ∧ decode cX8_step 4 = .ok (.iload_n 1, 1) ∧ decode cX8_step 5 = .ok (.iconst 1, 1) ∧ decode cX8_step 6 = .ok (.iadd, 1) ∧ decode cX8_step 7 = .ok (.invokevirtual 168, 3) ∧ decode cX8_step 10 = .ok (.aload_n 0, 1) ∧ decode cX8_step 11 = .ok (.getfield 41, 3) ∧ decode cX8_step 14 = .ok (.iload_n 1, 1) ∧ decode cX8_step 15 = .ok (.invokevirtual 168, 3) ∧ decode cX8_step 18 = .ok (.isub, 1) ∧ decode cX8_step 19 = .ok (.ireturn, 1) ∧ True := zj_of zk_338
abbrev dX8_step_0 := zr_338.1
abbrev dX8_step_1 := zr_338.2.1
abbrev dX8_step_4 := zr_338.2.2.1
abbrev dX8_step_5 := zr_338.2.2.2.1
abbrev dX8_step_6 := zr_338.2.2.2.2.1
abbrev dX8_step_7 := zr_338.2.2.2.2.2.1
abbrev dX8_step_10 := zr_338.2.2.2.2.2.2.1
abbrev dX8_step_11 := zr_338.2.2.2.2.2.2.2.1
abbrev dX8_step_14 := zr_338.2.2.2.2.2.2.2.2.1
abbrev dX8_step_15 := zr_338.2.2.2.2.2.2.2.2.2.1
abbrev dX8_step_18 := zr_338.2.2.2.2.2.2.2.2.2.2.1
abbrev dX8_step_19 := zr_338.2.2.2.2.2.2.2.2.2.2.2.1
set_option maxRecDepth 100000 in
theorem zk_339 : zck 0 (cX8_reachFrom.data.toList.drop 0) [(0, .iconst 0, 1), (1, .istore_n 3, 1), (2, .iload_n 1, 1), (3, .istore 4, 2), (5, .iload 4, 2), (7, .aload_n 0, 1), (8, .getfield 41, 3), (11, .getfield 263, 3), (14, .if_icmp .ge 34, 3), (17, .aload_n 0, 1), (18, .getfield 41, 3), (21, .iload 4, 2)] = true := by decide +kernel
theorem zr_339 : decode cX8_reachFrom 0 = .ok (.iconst 0, 1) ∧ decode cX8_reachFrom 1 = .ok (.istore_n 3, 1) ∧ decode cX8_reachFrom 2 = .ok (.iload_n 1, 1) ∧ decode cX8_reachFrom 3 = .ok (.istore 4, 2) ∧ decode cX8_reachFrom 5 = .ok (.iload 4, 2) ∧ decode cX8_reachFrom 7 = .ok (.aload_n 0, 1) ∧ decode cX8_reachFrom 8 = .ok (.getfield 41, 3) ∧ decode cX8_reachFrom 11 = .ok (.getfield 263, 3) ∧ decode cX8_reachFrom 14 = .ok (.if_icmp .ge 34, 3) ∧ decode cX8_reachFrom 17 = .ok (.aload_n 0, 1) ∧ decode cX8_reachFrom 18 = .ok (.getfield 41, 3) ∧ decode cX8_reachFrom 21 = .ok (.iload 4, 2) ∧ True := zj_of zk_339
abbrev dX8_reachFrom_0 := zr_339.1
abbrev dX8_reachFrom_1 := zr_339.2.1
abbrev dX8_reachFrom_2 := zr_339.2.2.1
abbrev dX8_reachFrom_3 := zr_339.2.2.2.1
abbrev dX8_reachFrom_5 := zr_339.2.2.2.2.1
abbrev dX8_reachFrom_7 := zr_339.2.2.2.2.2.1
abbrev dX8_reachFrom_8 := zr_339.2.2.2.2.2.2.1
abbrev dX8_reachFrom_11 := zr_339.2.2.2.2.2.2.2.1
abbrev dX8_reachFrom_14 := zr_339.2.2.2.2.2.2.2.2.1
abbrev dX8_reachFrom_17 := zr_339.2.2.2.2.2.2.2.2.2.1
abbrev dX8_reachFrom_18 := zr_339.2.2.2.2.2.2.2.2.2.2.1
abbrev dX8_reachFrom_21 := zr_339.2.2.2.2.2.2.2.2.2.2.2.1
set_option maxRecDepth 100000 in
theorem zk_340 : zck 23 (cX8_reachFrom.data.toList.drop 23) [(23, .invokevirtual 168, 3), (26, .aload_n 0, 1), (27, .getfield 41, 3), (30, .iload_n 1, 1), (31, .invokevirtual 168, 3), (34, .isub, 1), (35, .iload_n 2, 1), (36, .if_icmp .gt 6, 3), (39, .iinc 3 1, 3), (42, .iinc 4 1, 3), (45, .goto (-40), 3), (48, .iload_n 3, 1)] = true := by decide +kernel
theorem zr_340 : decode cX8_reachFrom 23 = .ok (.invokevirtual 168, 3) ∧ decode cX8_reachFrom 26 = .ok (.aload_n 0, 1) ∧ decode cX8_reachFrom 27 = .ok (.getfield 41, 3) ∧ decode cX8_reachFrom 30 = .ok (.iload_n 1, 1) ∧ decode cX8_reachFrom 31 = .ok (.invokevirtual 168, 3) ∧ decode cX8_reachFrom 34 = .ok (.isub, 1) ∧ decode cX8_reachFrom 35 = .ok (.iload_n 2, 1) ∧ decode cX8_reachFrom 36 = .ok (.if_icmp .gt 6, 3) ∧ decode cX8_reachFrom 39 = .ok (.iinc 3 1, 3) ∧ decode cX8_reachFrom 42 = .ok (.iinc 4 1, 3) ∧ decode cX8_reachFrom 45 = .ok (.goto (-40), 3) ∧ decode cX8_reachFrom 48 = .ok (.iload_n 3, 1) ∧ True := zj_of zk_340
abbrev dX8_reachFrom_23 := zr_340.1
abbrev dX8_reachFrom_26 := zr_340.2.1
abbrev dX8_reachFrom_27 := zr_340.2.2.1
abbrev dX8_reachFrom_30 := zr_340.2.2.2.1
abbrev dX8_reachFrom_31 := zr_340.2.2.2.2.1
abbrev dX8_reachFrom_34 := zr_340.2.2.2.2.2.1
abbrev dX8_reachFrom_35 := zr_340.2.2.2.2.2.2.1
abbrev dX8_reachFrom_36 := zr_340.2.2.2.2.2.2.2.1
abbrev dX8_reachFrom_39 := zr_340.2.2.2.2.2.2.2.2.1
abbrev dX8_reachFrom_42 := zr_340.2.2.2.2.2.2.2.2.2.1
abbrev dX8_reachFrom_45 := zr_340.2.2.2.2.2.2.2.2.2.2.1
abbrev dX8_reachFrom_48 := zr_340.2.2.2.2.2.2.2.2.2.2.2.1
set_option maxRecDepth 100000 in
theorem zk_341 : zck 49 (cX8_reachFrom.data.toList.drop 49) [(49, .ireturn, 1)] = true := by decide +kernel
theorem zr_341 : decode cX8_reachFrom 49 = .ok (.ireturn, 1) ∧ True := zj_of zk_341
abbrev dX8_reachFrom_49 := zr_341.1
set_option maxRecDepth 100000 in
theorem zk_342 : zck 0 (cX8_unlikeNumbers.data.toList.drop 0) [(0, .iconst 0, 1), (1, .istore_n 1, 1), (2, .iconst 0, 1), (3, .istore_n 2, 1), (4, .iload_n 2, 1), (5, .aload_n 0, 1), (6, .getfield 13, 3), (9, .if_icmp .ge 27, 3), (12, .aload_n 0, 1), (13, .aload_n 0, 1), (14, .getfield 9, 3), (17, .iload_n 2, 1)] = true := by decide +kernel
theorem zr_342 : decode cX8_unlikeNumbers 0 = .ok (.iconst 0, 1) ∧ decode cX8_unlikeNumbers 1 = .ok (.istore_n 1, 1) ∧ decode cX8_unlikeNumbers 2 = .ok (.iconst 0, 1) ∧ decode cX8_unlikeNumbers 3 = .ok (.istore_n 2, 1) ∧ decode cX8_unlikeNumbers 4 = .ok (.iload_n 2, 1) ∧ decode cX8_unlikeNumbers 5 = .ok (.aload_n 0, 1) ∧ decode cX8_unlikeNumbers 6 = .ok (.getfield 13, 3) ∧ decode cX8_unlikeNumbers 9 = .ok (.if_icmp .ge 27, 3) ∧ decode cX8_unlikeNumbers 12 = .ok (.aload_n 0, 1) ∧ decode cX8_unlikeNumbers 13 = .ok (.aload_n 0, 1) ∧ decode cX8_unlikeNumbers 14 = .ok (.getfield 9, 3) ∧ decode cX8_unlikeNumbers 17 = .ok (.iload_n 2, 1) ∧ True := zj_of zk_342
abbrev dX8_unlikeNumbers_0 := zr_342.1
abbrev dX8_unlikeNumbers_1 := zr_342.2.1
abbrev dX8_unlikeNumbers_2 := zr_342.2.2.1
abbrev dX8_unlikeNumbers_3 := zr_342.2.2.2.1
abbrev dX8_unlikeNumbers_4 := zr_342.2.2.2.2.1
abbrev dX8_unlikeNumbers_5 := zr_342.2.2.2.2.2.1
abbrev dX8_unlikeNumbers_6 := zr_342.2.2.2.2.2.2.1
abbrev dX8_unlikeNumbers_9 := zr_342.2.2.2.2.2.2.2.1
abbrev dX8_unlikeNumbers_12 := zr_342.2.2.2.2.2.2.2.2.1
abbrev dX8_unlikeNumbers_13 := zr_342.2.2.2.2.2.2.2.2.2.1
abbrev dX8_unlikeNumbers_14 := zr_342.2.2.2.2.2.2.2.2.2.2.1
abbrev dX8_unlikeNumbers_17 := zr_342.2.2.2.2.2.2.2.2.2.2.2.1
set_option maxRecDepth 100000 in
theorem zk_343 : zck 18 (cX8_unlikeNumbers.data.toList.drop 18) [(18, .iaload, 1), (19, .iconst 0, 1), (20, .iload_n 2, 1), (21, .invokevirtual 178, 3), (24, .ifCond .ne 6, 3), (27, .iinc 1 1, 3), (30, .iinc 2 1, 3), (33, .goto (-29), 3), (36, .iload_n 1, 1), (37, .ireturn, 1)] = true := by decide +kernel
theorem zr_343 : decode cX8_unlikeNumbers 18 = .ok (.iaload, 1) ∧ decode cX8_unlikeNumbers 19 = .ok (.iconst 0, 1) ∧ decode cX8_unlikeNumbers 20 = .ok (.iload_n 2, 1) ∧ decode cX8_unlikeNumbers 21 = .ok (.invokevirtual 178, 3) ∧ decode cX8_unlikeNumbers 24 = .ok (.ifCond .ne 6, 3) ∧ decode cX8_unlikeNumbers 27 = .ok (.iinc 1 1, 3) ∧ decode cX8_unlikeNumbers 30 = .ok (.iinc 2 1, 3) ∧ decode cX8_unlikeNumbers 33 = .ok (.goto (-29), 3) ∧ decode cX8_unlikeNumbers 36 = .ok (.iload_n 1, 1) ∧ decode cX8_unlikeNumbers 37 = .ok (.ireturn, 1) ∧ True := zj_of zk_343
abbrev dX8_unlikeNumbers_18 := zr_343.1
abbrev dX8_unlikeNumbers_19 := zr_343.2.1
abbrev dX8_unlikeNumbers_20 := zr_343.2.2.1
abbrev dX8_unlikeNumbers_21 := zr_343.2.2.2.1
abbrev dX8_unlikeNumbers_24 := zr_343.2.2.2.2.1
abbrev dX8_unlikeNumbers_27 := zr_343.2.2.2.2.2.1
abbrev dX8_unlikeNumbers_30 := zr_343.2.2.2.2.2.2.1
abbrev dX8_unlikeNumbers_33 := zr_343.2.2.2.2.2.2.2.1
abbrev dX8_unlikeNumbers_36 := zr_343.2.2.2.2.2.2.2.2.1
abbrev dX8_unlikeNumbers_37 := zr_343.2.2.2.2.2.2.2.2.2.1
set_option maxRecDepth 100000 in
theorem zk_344 : zck 0 (cX8_sumOfAll.data.toList.drop 0) [(0, .iconst 0, 1), (1, .istore_n 1, 1), (2, .iconst 0, 1), (3, .istore_n 2, 1), (4, .iload_n 2, 1), (5, .aload_n 0, 1), (6, .getfield 13, 3), (9, .if_icmp .ge 18, 3), (12, .iload_n 1, 1), (13, .aload_n 0, 1), (14, .getfield 9, 3), (17, .iload_n 2, 1)] = true := by decide +kernel
theorem zr_344 : decode cX8_sumOfAll 0 = .ok (.iconst 0, 1) ∧ decode cX8_sumOfAll 1 = .ok (.istore_n 1, 1) ∧ decode cX8_sumOfAll 2 = .ok (.iconst 0, 1) ∧ decode cX8_sumOfAll 3 = .ok (.istore_n 2, 1) ∧ decode cX8_sumOfAll 4 = .ok (.iload_n 2, 1) ∧ decode cX8_sumOfAll 5 = .ok (.aload_n 0, 1) ∧ decode cX8_sumOfAll 6 = .ok (.getfield 13, 3) ∧ decode cX8_sumOfAll 9 = .ok (.if_icmp .ge 18, 3) ∧ decode cX8_sumOfAll 12 = .ok (.iload_n 1, 1) ∧ decode cX8_sumOfAll 13 = .ok (.aload_n 0, 1) ∧ decode cX8_sumOfAll 14 = .ok (.getfield 9, 3) ∧ decode cX8_sumOfAll 17 = .ok (.iload_n 2, 1) ∧ True := zj_of zk_344
abbrev dX8_sumOfAll_0 := zr_344.1
abbrev dX8_sumOfAll_1 := zr_344.2.1
abbrev dX8_sumOfAll_2 := zr_344.2.2.1
abbrev dX8_sumOfAll_3 := zr_344.2.2.2.1
abbrev dX8_sumOfAll_4 := zr_344.2.2.2.2.1
abbrev dX8_sumOfAll_5 := zr_344.2.2.2.2.2.1
abbrev dX8_sumOfAll_6 := zr_344.2.2.2.2.2.2.1
abbrev dX8_sumOfAll_9 := zr_344.2.2.2.2.2.2.2.1
abbrev dX8_sumOfAll_12 := zr_344.2.2.2.2.2.2.2.2.1
abbrev dX8_sumOfAll_13 := zr_344.2.2.2.2.2.2.2.2.2.1
abbrev dX8_sumOfAll_14 := zr_344.2.2.2.2.2.2.2.2.2.2.1
abbrev dX8_sumOfAll_17 := zr_344.2.2.2.2.2.2.2.2.2.2.2.1
set_option maxRecDepth 100000 in
theorem zk_345 : zck 18 (cX8_sumOfAll.data.toList.drop 18) [(18, .iaload, 1), (19, .iadd, 1), (20, .istore_n 1, 1), (21, .iinc 2 1, 3), (24, .goto (-20), 3), (27, .iload_n 1, 1), (28, .ireturn, 1)] = true := by decide +kernel
theorem zr_345 : decode cX8_sumOfAll 18 = .ok (.iaload, 1) ∧ decode cX8_sumOfAll 19 = .ok (.iadd, 1) ∧ decode cX8_sumOfAll 20 = .ok (.istore_n 1, 1) ∧ decode cX8_sumOfAll 21 = .ok (.iinc 2 1, 3) ∧ decode cX8_sumOfAll 24 = .ok (.goto (-20), 3) ∧ decode cX8_sumOfAll 27 = .ok (.iload_n 1, 1) ∧ decode cX8_sumOfAll 28 = .ok (.ireturn, 1) ∧ True := zj_of zk_345
abbrev dX8_sumOfAll_18 := zr_345.1
abbrev dX8_sumOfAll_19 := zr_345.2.1
abbrev dX8_sumOfAll_20 := zr_345.2.2.1
abbrev dX8_sumOfAll_21 := zr_345.2.2.2.1
abbrev dX8_sumOfAll_24 := zr_345.2.2.2.2.1
abbrev dX8_sumOfAll_27 := zr_345.2.2.2.2.2.1
abbrev dX8_sumOfAll_28 := zr_345.2.2.2.2.2.2.1
set_option maxRecDepth 100000 in
theorem zk_346 : zck 0 (cX8_onesOfAll.data.toList.drop 0) [(0, .iconst 0, 1), (1, .istore_n 1, 1), (2, .iconst 0, 1), (3, .istore_n 2, 1), (4, .iload_n 2, 1), (5, .aload_n 0, 1), (6, .getfield 13, 3), (9, .if_icmp .ge 21, 3), (12, .iload_n 1, 1), (13, .aload_n 0, 1), (14, .getfield 9, 3), (17, .iload_n 2, 1)] = true := by decide +kernel
theorem zr_346 : decode cX8_onesOfAll 0 = .ok (.iconst 0, 1) ∧ decode cX8_onesOfAll 1 = .ok (.istore_n 1, 1) ∧ decode cX8_onesOfAll 2 = .ok (.iconst 0, 1) ∧ decode cX8_onesOfAll 3 = .ok (.istore_n 2, 1) ∧ decode cX8_onesOfAll 4 = .ok (.iload_n 2, 1) ∧ decode cX8_onesOfAll 5 = .ok (.aload_n 0, 1) ∧ decode cX8_onesOfAll 6 = .ok (.getfield 13, 3) ∧ decode cX8_onesOfAll 9 = .ok (.if_icmp .ge 21, 3) ∧ decode cX8_onesOfAll 12 = .ok (.iload_n 1, 1) ∧ decode cX8_onesOfAll 13 = .ok (.aload_n 0, 1) ∧ decode cX8_onesOfAll 14 = .ok (.getfield 9, 3) ∧ decode cX8_onesOfAll 17 = .ok (.iload_n 2, 1) ∧ True := zj_of zk_346
abbrev dX8_onesOfAll_0 := zr_346.1
abbrev dX8_onesOfAll_1 := zr_346.2.1
abbrev dX8_onesOfAll_2 := zr_346.2.2.1
abbrev dX8_onesOfAll_3 := zr_346.2.2.2.1
abbrev dX8_onesOfAll_4 := zr_346.2.2.2.2.1
abbrev dX8_onesOfAll_5 := zr_346.2.2.2.2.2.1
abbrev dX8_onesOfAll_6 := zr_346.2.2.2.2.2.2.1
abbrev dX8_onesOfAll_9 := zr_346.2.2.2.2.2.2.2.1
abbrev dX8_onesOfAll_12 := zr_346.2.2.2.2.2.2.2.2.1
abbrev dX8_onesOfAll_13 := zr_346.2.2.2.2.2.2.2.2.2.1
abbrev dX8_onesOfAll_14 := zr_346.2.2.2.2.2.2.2.2.2.2.1
abbrev dX8_onesOfAll_17 := zr_346.2.2.2.2.2.2.2.2.2.2.2.1
set_option maxRecDepth 100000 in
theorem zk_347 : zck 18 (cX8_onesOfAll.data.toList.drop 18) [(18, .iaload, 1), (19, .invokestatic 264, 3), (22, .iadd, 1), (23, .istore_n 1, 1), (24, .iinc 2 1, 3), (27, .goto (-23), 3), (30, .iload_n 1, 1), (31, .ireturn, 1)] = true := by decide +kernel
theorem zr_347 : decode cX8_onesOfAll 18 = .ok (.iaload, 1) ∧ decode cX8_onesOfAll 19 = .ok (.invokestatic 264, 3) ∧ decode cX8_onesOfAll 22 = .ok (.iadd, 1) ∧ decode cX8_onesOfAll 23 = .ok (.istore_n 1, 1) ∧ decode cX8_onesOfAll 24 = .ok (.iinc 2 1, 3) ∧ decode cX8_onesOfAll 27 = .ok (.goto (-23), 3) ∧ decode cX8_onesOfAll 30 = .ok (.iload_n 1, 1) ∧ decode cX8_onesOfAll 31 = .ok (.ireturn, 1) ∧ True := zj_of zk_347
abbrev dX8_onesOfAll_18 := zr_347.1
abbrev dX8_onesOfAll_19 := zr_347.2.1
abbrev dX8_onesOfAll_22 := zr_347.2.2.1
abbrev dX8_onesOfAll_23 := zr_347.2.2.2.1
abbrev dX8_onesOfAll_24 := zr_347.2.2.2.2.1
abbrev dX8_onesOfAll_27 := zr_347.2.2.2.2.2.1
abbrev dX8_onesOfAll_30 := zr_347.2.2.2.2.2.2.1
abbrev dX8_onesOfAll_31 := zr_347.2.2.2.2.2.2.2.1
set_option maxRecDepth 100000 in
theorem zk_348 : zck 0 (cX8_lowest.data.toList.drop 0) [(0, .iload_n 0, 1), (1, .bipush 64, 2), (3, .if_icmp .lt 9, 3), (6, .ldc2_w 268, 3), (9, .goto 8, 3), (12, .lconst 1, 1), (13, .iload_n 0, 1), (14, .lshl, 1), (15, .lconst 1, 1), (16, .lsub, 1), (17, .lreturn, 1)] = true := by decide +kernel
theorem zr_348 : decode cX8_lowest 0 = .ok (.iload_n 0, 1) ∧ decode cX8_lowest 1 = .ok (.bipush 64, 2) ∧ decode cX8_lowest 3 = .ok (.if_icmp .lt 9, 3) ∧ decode cX8_lowest 6 = .ok (.ldc2_w 268, 3) ∧ decode cX8_lowest 9 = .ok (.goto 8, 3) ∧ decode cX8_lowest 12 = .ok (.lconst 1, 1) ∧ decode cX8_lowest 13 = .ok (.iload_n 0, 1) ∧ decode cX8_lowest 14 = .ok (.lshl, 1) ∧ decode cX8_lowest 15 = .ok (.lconst 1, 1) ∧ decode cX8_lowest 16 = .ok (.lsub, 1) ∧ decode cX8_lowest 17 = .ok (.lreturn, 1) ∧ True := zj_of zk_348
abbrev dX8_lowest_0 := zr_348.1
abbrev dX8_lowest_1 := zr_348.2.1
abbrev dX8_lowest_3 := zr_348.2.2.1
abbrev dX8_lowest_6 := zr_348.2.2.2.1
abbrev dX8_lowest_9 := zr_348.2.2.2.2.1
abbrev dX8_lowest_12 := zr_348.2.2.2.2.2.1
abbrev dX8_lowest_13 := zr_348.2.2.2.2.2.2.1
abbrev dX8_lowest_14 := zr_348.2.2.2.2.2.2.2.1
abbrev dX8_lowest_15 := zr_348.2.2.2.2.2.2.2.2.1
abbrev dX8_lowest_16 := zr_348.2.2.2.2.2.2.2.2.2.1
abbrev dX8_lowest_17 := zr_348.2.2.2.2.2.2.2.2.2.2.1
set_option maxRecDepth 100000 in
theorem zk_349 : zck 0 (cX8_bitAt.data.toList.drop 0) [(0, .lload_n 0, 1), (1, .iload_n 2, 1), (2, .lushr, 1), (3, .lconst 1, 1), (4, .land, 1), (5, .l2i, 1), (6, .ireturn, 1)] = true := by decide +kernel
theorem zr_349 : decode cX8_bitAt 0 = .ok (.lload_n 0, 1) ∧ decode cX8_bitAt 1 = .ok (.iload_n 2, 1) ∧ decode cX8_bitAt 2 = .ok (.lushr, 1) ∧ decode cX8_bitAt 3 = .ok (.lconst 1, 1) ∧ decode cX8_bitAt 4 = .ok (.land, 1) ∧ decode cX8_bitAt 5 = .ok (.l2i, 1) ∧ decode cX8_bitAt 6 = .ok (.ireturn, 1) ∧ True := zj_of zk_349
abbrev dX8_bitAt_0 := zr_349.1
abbrev dX8_bitAt_1 := zr_349.2.1
abbrev dX8_bitAt_2 := zr_349.2.2.1
abbrev dX8_bitAt_3 := zr_349.2.2.2.1
abbrev dX8_bitAt_4 := zr_349.2.2.2.2.1
abbrev dX8_bitAt_5 := zr_349.2.2.2.2.2.1
abbrev dX8_bitAt_6 := zr_349.2.2.2.2.2.2.1
set_option maxRecDepth 100000 in
theorem zk_350 : zck 0 (cX8_runsOf.data.toList.drop 0) [(0, .iload_n 2, 1), (1, .ifCond .gt 5, 3), (4, .iconst 0, 1), (5, .ireturn, 1), (6, .iconst 1, 1), (7, .lload_n 0, 1), (8, .lload_n 0, 1), (9, .iconst 1, 1), (10, .lushr, 1), (11, .lxor, 1), (12, .iload_n 2, 1), (13, .iconst 1, 1)] = true := by decide +kernel
theorem zr_350 : decode cX8_runsOf 0 = .ok (.iload_n 2, 1) ∧ decode cX8_runsOf 1 = .ok (.ifCond .gt 5, 3) ∧ decode cX8_runsOf 4 = .ok (.iconst 0, 1) ∧ decode cX8_runsOf 5 = .ok (.ireturn, 1) ∧ decode cX8_runsOf 6 = .ok (.iconst 1, 1) ∧ decode cX8_runsOf 7 = .ok (.lload_n 0, 1) ∧ decode cX8_runsOf 8 = .ok (.lload_n 0, 1) ∧ decode cX8_runsOf 9 = .ok (.iconst 1, 1) ∧ decode cX8_runsOf 10 = .ok (.lushr, 1) ∧ decode cX8_runsOf 11 = .ok (.lxor, 1) ∧ decode cX8_runsOf 12 = .ok (.iload_n 2, 1) ∧ decode cX8_runsOf 13 = .ok (.iconst 1, 1) ∧ True := zj_of zk_350
abbrev dX8_runsOf_0 := zr_350.1
abbrev dX8_runsOf_1 := zr_350.2.1
abbrev dX8_runsOf_4 := zr_350.2.2.1
abbrev dX8_runsOf_5 := zr_350.2.2.2.1
abbrev dX8_runsOf_6 := zr_350.2.2.2.2.1
abbrev dX8_runsOf_7 := zr_350.2.2.2.2.2.1
abbrev dX8_runsOf_8 := zr_350.2.2.2.2.2.2.1
abbrev dX8_runsOf_9 := zr_350.2.2.2.2.2.2.2.1
abbrev dX8_runsOf_10 := zr_350.2.2.2.2.2.2.2.2.1
abbrev dX8_runsOf_11 := zr_350.2.2.2.2.2.2.2.2.2.1
abbrev dX8_runsOf_12 := zr_350.2.2.2.2.2.2.2.2.2.2.1
abbrev dX8_runsOf_13 := zr_350.2.2.2.2.2.2.2.2.2.2.2.1
set_option maxRecDepth 100000 in
theorem zk_351 : zck 14 (cX8_runsOf.data.toList.drop 14) [(14, .isub, 1), (15, .invokestatic 270, 3), (18, .land, 1), (19, .invokestatic 138, 3), (22, .iadd, 1), (23, .ireturn, 1)] = true := by decide +kernel
theorem zr_351 : decode cX8_runsOf 14 = .ok (.isub, 1) ∧ decode cX8_runsOf 15 = .ok (.invokestatic 270, 3) ∧ decode cX8_runsOf 18 = .ok (.land, 1) ∧ decode cX8_runsOf 19 = .ok (.invokestatic 138, 3) ∧ decode cX8_runsOf 22 = .ok (.iadd, 1) ∧ decode cX8_runsOf 23 = .ok (.ireturn, 1) ∧ True := zj_of zk_351
abbrev dX8_runsOf_14 := zr_351.1
abbrev dX8_runsOf_15 := zr_351.2.1
abbrev dX8_runsOf_18 := zr_351.2.2.1
abbrev dX8_runsOf_19 := zr_351.2.2.2.1
abbrev dX8_runsOf_22 := zr_351.2.2.2.2.1
abbrev dX8_runsOf_23 := zr_351.2.2.2.2.2.1
set_option maxRecDepth 100000 in
theorem zk_352 : zck 0 (cX8_nextSpot.data.toList.drop 0) [(0, .lload_n 0, 1), (1, .iload_n 3, 1), (2, .invokestatic 270, 3), (5, .land, 1), (6, .invokestatic 138, 3), (9, .istore 4, 2), (11, .lload_n 0, 1), (12, .iload_n 3, 1), (13, .invokestatic 274, 3), (16, .ifCond .ne 8, 3), (19, .iload_n 3, 1), (20, .iload 4, 2)] = true := by decide +kernel
theorem zr_352 : decode cX8_nextSpot 0 = .ok (.lload_n 0, 1) ∧ decode cX8_nextSpot 1 = .ok (.iload_n 3, 1) ∧ decode cX8_nextSpot 2 = .ok (.invokestatic 270, 3) ∧ decode cX8_nextSpot 5 = .ok (.land, 1) ∧ decode cX8_nextSpot 6 = .ok (.invokestatic 138, 3) ∧ decode cX8_nextSpot 9 = .ok (.istore 4, 2) ∧ decode cX8_nextSpot 11 = .ok (.lload_n 0, 1) ∧ decode cX8_nextSpot 12 = .ok (.iload_n 3, 1) ∧ decode cX8_nextSpot 13 = .ok (.invokestatic 274, 3) ∧ decode cX8_nextSpot 16 = .ok (.ifCond .ne 8, 3) ∧ decode cX8_nextSpot 19 = .ok (.iload_n 3, 1) ∧ decode cX8_nextSpot 20 = .ok (.iload 4, 2) ∧ True := zj_of zk_352
abbrev dX8_nextSpot_0 := zr_352.1
abbrev dX8_nextSpot_1 := zr_352.2.1
abbrev dX8_nextSpot_2 := zr_352.2.2.1
abbrev dX8_nextSpot_5 := zr_352.2.2.2.1
abbrev dX8_nextSpot_6 := zr_352.2.2.2.2.1
abbrev dX8_nextSpot_9 := zr_352.2.2.2.2.2.1
abbrev dX8_nextSpot_11 := zr_352.2.2.2.2.2.2.1
abbrev dX8_nextSpot_12 := zr_352.2.2.2.2.2.2.2.1
abbrev dX8_nextSpot_13 := zr_352.2.2.2.2.2.2.2.2.1
abbrev dX8_nextSpot_16 := zr_352.2.2.2.2.2.2.2.2.2.1
abbrev dX8_nextSpot_19 := zr_352.2.2.2.2.2.2.2.2.2.2.1
abbrev dX8_nextSpot_20 := zr_352.2.2.2.2.2.2.2.2.2.2.2.1
set_option maxRecDepth 100000 in
theorem zk_353 : zck 22 (cX8_nextSpot.data.toList.drop 22) [(22, .isub, 1), (23, .ireturn, 1), (24, .iload_n 2, 1), (25, .lload_n 0, 1), (26, .invokestatic 138, 3), (29, .isub, 1), (30, .iload 4, 2), (32, .iadd, 1), (33, .ireturn, 1)] = true := by decide +kernel
theorem zr_353 : decode cX8_nextSpot 22 = .ok (.isub, 1) ∧ decode cX8_nextSpot 23 = .ok (.ireturn, 1) ∧ decode cX8_nextSpot 24 = .ok (.iload_n 2, 1) ∧ decode cX8_nextSpot 25 = .ok (.lload_n 0, 1) ∧ decode cX8_nextSpot 26 = .ok (.invokestatic 138, 3) ∧ decode cX8_nextSpot 29 = .ok (.isub, 1) ∧ decode cX8_nextSpot 30 = .ok (.iload 4, 2) ∧ decode cX8_nextSpot 32 = .ok (.iadd, 1) ∧ decode cX8_nextSpot 33 = .ok (.ireturn, 1) ∧ True := zj_of zk_353
abbrev dX8_nextSpot_22 := zr_353.1
abbrev dX8_nextSpot_23 := zr_353.2.1
abbrev dX8_nextSpot_24 := zr_353.2.2.1
abbrev dX8_nextSpot_25 := zr_353.2.2.2.1
abbrev dX8_nextSpot_26 := zr_353.2.2.2.2.1
abbrev dX8_nextSpot_29 := zr_353.2.2.2.2.2.1
abbrev dX8_nextSpot_30 := zr_353.2.2.2.2.2.2.1
abbrev dX8_nextSpot_32 := zr_353.2.2.2.2.2.2.2.1
abbrev dX8_nextSpot_33 := zr_353.2.2.2.2.2.2.2.2.1
set_option maxRecDepth 100000 in
theorem zk_354 : zck 0 (cX8_spotIn.data.toList.drop 0) [(0, .iload_n 2, 1), (1, .istore 4, 2), (3, .iconst 0, 1), (4, .istore 5, 2), (6, .iload 5, 2), (8, .iload_n 3, 1), (9, .if_icmp .ge 28, 3), (12, .iload 5, 2), (14, .aload_n 0, 1), (15, .arraylength, 1), (16, .if_icmp .ge 21, 3), (19, .aload_n 0, 1)] = true := by decide +kernel
theorem zr_354 : decode cX8_spotIn 0 = .ok (.iload_n 2, 1) ∧ decode cX8_spotIn 1 = .ok (.istore 4, 2) ∧ decode cX8_spotIn 3 = .ok (.iconst 0, 1) ∧ decode cX8_spotIn 4 = .ok (.istore 5, 2) ∧ decode cX8_spotIn 6 = .ok (.iload 5, 2) ∧ decode cX8_spotIn 8 = .ok (.iload_n 3, 1) ∧ decode cX8_spotIn 9 = .ok (.if_icmp .ge 28, 3) ∧ decode cX8_spotIn 12 = .ok (.iload 5, 2) ∧ decode cX8_spotIn 14 = .ok (.aload_n 0, 1) ∧ decode cX8_spotIn 15 = .ok (.arraylength, 1) ∧ decode cX8_spotIn 16 = .ok (.if_icmp .ge 21, 3) ∧ decode cX8_spotIn 19 = .ok (.aload_n 0, 1) ∧ True := zj_of zk_354
abbrev dX8_spotIn_0 := zr_354.1
abbrev dX8_spotIn_1 := zr_354.2.1
abbrev dX8_spotIn_3 := zr_354.2.2.1
abbrev dX8_spotIn_4 := zr_354.2.2.2.1
abbrev dX8_spotIn_6 := zr_354.2.2.2.2.1
abbrev dX8_spotIn_8 := zr_354.2.2.2.2.2.1
abbrev dX8_spotIn_9 := zr_354.2.2.2.2.2.2.1
abbrev dX8_spotIn_12 := zr_354.2.2.2.2.2.2.2.1
abbrev dX8_spotIn_14 := zr_354.2.2.2.2.2.2.2.2.1
abbrev dX8_spotIn_15 := zr_354.2.2.2.2.2.2.2.2.2.1
abbrev dX8_spotIn_16 := zr_354.2.2.2.2.2.2.2.2.2.2.1
abbrev dX8_spotIn_19 := zr_354.2.2.2.2.2.2.2.2.2.2.2.1
set_option maxRecDepth 100000 in
theorem zk_355 : zck 20 (cX8_spotIn.data.toList.drop 20) [(20, .iload 5, 2), (22, .laload, 1), (23, .iload_n 1, 1), (24, .iload 4, 2), (26, .invokestatic 277, 3), (29, .istore 4, 2), (31, .iinc 5 1, 3), (34, .goto (-28), 3), (37, .iload 4, 2), (39, .ireturn, 1)] = true := by decide +kernel
theorem zr_355 : decode cX8_spotIn 20 = .ok (.iload 5, 2) ∧ decode cX8_spotIn 22 = .ok (.laload, 1) ∧ decode cX8_spotIn 23 = .ok (.iload_n 1, 1) ∧ decode cX8_spotIn 24 = .ok (.iload 4, 2) ∧ decode cX8_spotIn 26 = .ok (.invokestatic 277, 3) ∧ decode cX8_spotIn 29 = .ok (.istore 4, 2) ∧ decode cX8_spotIn 31 = .ok (.iinc 5 1, 3) ∧ decode cX8_spotIn 34 = .ok (.goto (-28), 3) ∧ decode cX8_spotIn 37 = .ok (.iload 4, 2) ∧ decode cX8_spotIn 39 = .ok (.ireturn, 1) ∧ True := zj_of zk_355
abbrev dX8_spotIn_20 := zr_355.1
abbrev dX8_spotIn_22 := zr_355.2.1
abbrev dX8_spotIn_23 := zr_355.2.2.1
abbrev dX8_spotIn_24 := zr_355.2.2.2.1
abbrev dX8_spotIn_26 := zr_355.2.2.2.2.1
abbrev dX8_spotIn_29 := zr_355.2.2.2.2.2.1
abbrev dX8_spotIn_31 := zr_355.2.2.2.2.2.2.1
abbrev dX8_spotIn_34 := zr_355.2.2.2.2.2.2.2.1
abbrev dX8_spotIn_37 := zr_355.2.2.2.2.2.2.2.2.1
abbrev dX8_spotIn_39 := zr_355.2.2.2.2.2.2.2.2.2.1
set_option maxRecDepth 100000 in
theorem zk_356 : zck 0 (cX8_numberIn.data.toList.drop 0) [(0, .iconst 0, 1), (1, .istore_n 3, 1), (2, .iload_n 2, 1), (3, .istore 4, 2), (5, .iconst 0, 1), (6, .istore 5, 2), (8, .iload 5, 2), (10, .aload_n 0, 1), (11, .arraylength, 1), (12, .if_icmp .ge 35, 3), (15, .iload_n 3, 1), (16, .iconst 1, 1)] = true := by decide +kernel
theorem zr_356 : decode cX8_numberIn 0 = .ok (.iconst 0, 1) ∧ decode cX8_numberIn 1 = .ok (.istore_n 3, 1) ∧ decode cX8_numberIn 2 = .ok (.iload_n 2, 1) ∧ decode cX8_numberIn 3 = .ok (.istore 4, 2) ∧ decode cX8_numberIn 5 = .ok (.iconst 0, 1) ∧ decode cX8_numberIn 6 = .ok (.istore 5, 2) ∧ decode cX8_numberIn 8 = .ok (.iload 5, 2) ∧ decode cX8_numberIn 10 = .ok (.aload_n 0, 1) ∧ decode cX8_numberIn 11 = .ok (.arraylength, 1) ∧ decode cX8_numberIn 12 = .ok (.if_icmp .ge 35, 3) ∧ decode cX8_numberIn 15 = .ok (.iload_n 3, 1) ∧ decode cX8_numberIn 16 = .ok (.iconst 1, 1) ∧ True := zj_of zk_356
abbrev dX8_numberIn_0 := zr_356.1
abbrev dX8_numberIn_1 := zr_356.2.1
abbrev dX8_numberIn_2 := zr_356.2.2.1
abbrev dX8_numberIn_3 := zr_356.2.2.2.1
abbrev dX8_numberIn_5 := zr_356.2.2.2.2.1
abbrev dX8_numberIn_6 := zr_356.2.2.2.2.2.1
abbrev dX8_numberIn_8 := zr_356.2.2.2.2.2.2.1
abbrev dX8_numberIn_10 := zr_356.2.2.2.2.2.2.2.1
abbrev dX8_numberIn_11 := zr_356.2.2.2.2.2.2.2.2.1
abbrev dX8_numberIn_12 := zr_356.2.2.2.2.2.2.2.2.2.1
abbrev dX8_numberIn_15 := zr_356.2.2.2.2.2.2.2.2.2.2.1
abbrev dX8_numberIn_16 := zr_356.2.2.2.2.2.2.2.2.2.2.2.1
set_option maxRecDepth 100000 in
theorem zk_357 : zck 17 (cX8_numberIn.data.toList.drop 17) [(17, .ishl, 1), (18, .aload_n 0, 1), (19, .iload 5, 2), (21, .laload, 1), (22, .iload 4, 2), (24, .invokestatic 274, 3), (27, .ior, 1), (28, .istore_n 3, 1), (29, .aload_n 0, 1), (30, .iload 5, 2), (32, .laload, 1), (33, .iload_n 1, 1)] = true := by decide +kernel
theorem zr_357 : decode cX8_numberIn 17 = .ok (.ishl, 1) ∧ decode cX8_numberIn 18 = .ok (.aload_n 0, 1) ∧ decode cX8_numberIn 19 = .ok (.iload 5, 2) ∧ decode cX8_numberIn 21 = .ok (.laload, 1) ∧ decode cX8_numberIn 22 = .ok (.iload 4, 2) ∧ decode cX8_numberIn 24 = .ok (.invokestatic 274, 3) ∧ decode cX8_numberIn 27 = .ok (.ior, 1) ∧ decode cX8_numberIn 28 = .ok (.istore_n 3, 1) ∧ decode cX8_numberIn 29 = .ok (.aload_n 0, 1) ∧ decode cX8_numberIn 30 = .ok (.iload 5, 2) ∧ decode cX8_numberIn 32 = .ok (.laload, 1) ∧ decode cX8_numberIn 33 = .ok (.iload_n 1, 1) ∧ True := zj_of zk_357
abbrev dX8_numberIn_17 := zr_357.1
abbrev dX8_numberIn_18 := zr_357.2.1
abbrev dX8_numberIn_19 := zr_357.2.2.1
abbrev dX8_numberIn_21 := zr_357.2.2.2.1
abbrev dX8_numberIn_22 := zr_357.2.2.2.2.1
abbrev dX8_numberIn_24 := zr_357.2.2.2.2.2.1
abbrev dX8_numberIn_27 := zr_357.2.2.2.2.2.2.1
abbrev dX8_numberIn_28 := zr_357.2.2.2.2.2.2.2.1
abbrev dX8_numberIn_29 := zr_357.2.2.2.2.2.2.2.2.1
abbrev dX8_numberIn_30 := zr_357.2.2.2.2.2.2.2.2.2.1
abbrev dX8_numberIn_32 := zr_357.2.2.2.2.2.2.2.2.2.2.1
abbrev dX8_numberIn_33 := zr_357.2.2.2.2.2.2.2.2.2.2.2.1
set_option maxRecDepth 100000 in
theorem zk_358 : zck 34 (cX8_numberIn.data.toList.drop 34) [(34, .iload 4, 2), (36, .invokestatic 277, 3), (39, .istore 4, 2), (41, .iinc 5 1, 3), (44, .goto (-36), 3), (47, .iload_n 3, 1), (48, .ireturn, 1)] = true := by decide +kernel
theorem zr_358 : decode cX8_numberIn 34 = .ok (.iload 4, 2) ∧ decode cX8_numberIn 36 = .ok (.invokestatic 277, 3) ∧ decode cX8_numberIn 39 = .ok (.istore 4, 2) ∧ decode cX8_numberIn 41 = .ok (.iinc 5 1, 3) ∧ decode cX8_numberIn 44 = .ok (.goto (-36), 3) ∧ decode cX8_numberIn 47 = .ok (.iload_n 3, 1) ∧ decode cX8_numberIn 48 = .ok (.ireturn, 1) ∧ True := zj_of zk_358
abbrev dX8_numberIn_34 := zr_358.1
abbrev dX8_numberIn_36 := zr_358.2.1
abbrev dX8_numberIn_39 := zr_358.2.2.1
abbrev dX8_numberIn_41 := zr_358.2.2.2.1
abbrev dX8_numberIn_44 := zr_358.2.2.2.2.1
abbrev dX8_numberIn_47 := zr_358.2.2.2.2.2.1
abbrev dX8_numberIn_48 := zr_358.2.2.2.2.2.2.1
set_option maxRecDepth 100000 in
theorem zk_359 : zck 0 (cX9_in.data.toList.drop 0) [(0, .lload_n 0, 1), (1, .lload_n 2, 1), (2, .lcmp, 1), (3, .ifCond .lt 14, 3), (6, .lload_n 0, 1), (7, .lload 4, 2), (9, .lcmp, 1), (10, .ifCond .gt 7, 3), (13, .iconst 1, 1), (14, .goto 4, 3), (17, .iconst 0, 1), (18, .ireturn, 1)] = true := by decide +kernel
theorem zr_359 : decode cX9_in 0 = .ok (.lload_n 0, 1) ∧ decode cX9_in 1 = .ok (.lload_n 2, 1) ∧ decode cX9_in 2 = .ok (.lcmp, 1) ∧ decode cX9_in 3 = .ok (.ifCond .lt 14, 3) ∧ decode cX9_in 6 = .ok (.lload_n 0, 1) ∧ decode cX9_in 7 = .ok (.lload 4, 2) ∧ decode cX9_in 9 = .ok (.lcmp, 1) ∧ decode cX9_in 10 = .ok (.ifCond .gt 7, 3) ∧ decode cX9_in 13 = .ok (.iconst 1, 1) ∧ decode cX9_in 14 = .ok (.goto 4, 3) ∧ decode cX9_in 17 = .ok (.iconst 0, 1) ∧ decode cX9_in 18 = .ok (.ireturn, 1) ∧ True := zj_of zk_359
abbrev dX9_in_0 := zr_359.1
abbrev dX9_in_1 := zr_359.2.1
abbrev dX9_in_2 := zr_359.2.2.1
abbrev dX9_in_3 := zr_359.2.2.2.1
abbrev dX9_in_6 := zr_359.2.2.2.2.1
abbrev dX9_in_7 := zr_359.2.2.2.2.2.1
abbrev dX9_in_9 := zr_359.2.2.2.2.2.2.1
abbrev dX9_in_10 := zr_359.2.2.2.2.2.2.2.1
abbrev dX9_in_13 := zr_359.2.2.2.2.2.2.2.2.1
abbrev dX9_in_14 := zr_359.2.2.2.2.2.2.2.2.2.1
abbrev dX9_in_17 := zr_359.2.2.2.2.2.2.2.2.2.2.1
abbrev dX9_in_18 := zr_359.2.2.2.2.2.2.2.2.2.2.2.1
set_option maxRecDepth 100000 in
theorem zk_360 : zck 0 (cX9_flag.data.toList.drop 0) [(0, .iload_n 0, 1), (1, .ifCond .eq 7, 3), (4, .iconst 1, 1), (5, .goto 4, 3), (8, .iconst 0, 1), (9, .ireturn, 1)] = true := by decide +kernel
theorem zr_360 : decode cX9_flag 0 = .ok (.iload_n 0, 1) ∧ decode cX9_flag 1 = .ok (.ifCond .eq 7, 3) ∧ decode cX9_flag 4 = .ok (.iconst 1, 1) ∧ decode cX9_flag 5 = .ok (.goto 4, 3) ∧ decode cX9_flag 8 = .ok (.iconst 0, 1) ∧ decode cX9_flag 9 = .ok (.ireturn, 1) ∧ True := zj_of zk_360
abbrev dX9_flag_0 := zr_360.1
abbrev dX9_flag_1 := zr_360.2.1
abbrev dX9_flag_4 := zr_360.2.2.1
abbrev dX9_flag_5 := zr_360.2.2.2.1
abbrev dX9_flag_8 := zr_360.2.2.2.2.1
abbrev dX9_flag_9 := zr_360.2.2.2.2.2.1
set_option maxRecDepth 100000 in
theorem zk_361 : zck 0 (cX9_enters.data.toList.drop 0) [(0, .aload_n 0, 1), (1, .getfield 7, 3), (4, .aload_n 0, 1), (5, .getfield 11, 3), (8, .lload_n 1, 1), (9, .lastore, 1), (10, .aload_n 0, 1), (11, .dup, 1), (12, .getfield 11, 3), (15, .iconst 1, 1), (16, .iadd, 1), (17, .putfield 11, 3)] = true := by decide +kernel
theorem zr_361 : decode cX9_enters 0 = .ok (.aload_n 0, 1) ∧ decode cX9_enters 1 = .ok (.getfield 7, 3) ∧ decode cX9_enters 4 = .ok (.aload_n 0, 1) ∧ decode cX9_enters 5 = .ok (.getfield 11, 3) ∧ decode cX9_enters 8 = .ok (.lload_n 1, 1) ∧ decode cX9_enters 9 = .ok (.lastore, 1) ∧ decode cX9_enters 10 = .ok (.aload_n 0, 1) ∧ decode cX9_enters 11 = .ok (.dup, 1) ∧ decode cX9_enters 12 = .ok (.getfield 11, 3) ∧ decode cX9_enters 15 = .ok (.iconst 1, 1) ∧ decode cX9_enters 16 = .ok (.iadd, 1) ∧ decode cX9_enters 17 = .ok (.putfield 11, 3) ∧ True := zj_of zk_361
abbrev dX9_enters_0 := zr_361.1
abbrev dX9_enters_1 := zr_361.2.1
abbrev dX9_enters_4 := zr_361.2.2.1
abbrev dX9_enters_5 := zr_361.2.2.2.1
abbrev dX9_enters_8 := zr_361.2.2.2.2.1
abbrev dX9_enters_9 := zr_361.2.2.2.2.2.1
abbrev dX9_enters_10 := zr_361.2.2.2.2.2.2.1
abbrev dX9_enters_11 := zr_361.2.2.2.2.2.2.2.1
abbrev dX9_enters_12 := zr_361.2.2.2.2.2.2.2.2.1
abbrev dX9_enters_15 := zr_361.2.2.2.2.2.2.2.2.2.1
abbrev dX9_enters_16 := zr_361.2.2.2.2.2.2.2.2.2.2.1
abbrev dX9_enters_17 := zr_361.2.2.2.2.2.2.2.2.2.2.2.1
set_option maxRecDepth 100000 in
theorem zk_362 : zck 20 (cX9_enters.data.toList.drop 20) [(20, .return_, 1)] = true := by decide +kernel
theorem zr_362 : decode cX9_enters 20 = .ok (.return_, 1) ∧ True := zj_of zk_362
abbrev dX9_enters_20 := zr_362.1
set_option maxRecDepth 100000 in
theorem zk_363 : zck 0 (cX9_sign.data.toList.drop 0) [(0, .aload_n 0, 1), (1, .iconst 0, 1), (2, .putfield 1, 3), (5, .aload_n 0, 1), (6, .getfield 14, 3), (9, .bipush 96, 2), (11, .if_icmp .le 5, 3), (14, .iconst (-1), 1), (15, .ireturn, 1), (16, .iconst 0, 1), (17, .istore_n 2, 1), (18, .iload_n 2, 1)] = true := by decide +kernel
theorem zr_363 : decode cX9_sign 0 = .ok (.aload_n 0, 1) ∧ decode cX9_sign 1 = .ok (.iconst 0, 1) ∧ decode cX9_sign 2 = .ok (.putfield 1, 3) ∧ decode cX9_sign 5 = .ok (.aload_n 0, 1) ∧ decode cX9_sign 6 = .ok (.getfield 14, 3) ∧ decode cX9_sign 9 = .ok (.bipush 96, 2) ∧ decode cX9_sign 11 = .ok (.if_icmp .le 5, 3) ∧ decode cX9_sign 14 = .ok (.iconst (-1), 1) ∧ decode cX9_sign 15 = .ok (.ireturn, 1) ∧ decode cX9_sign 16 = .ok (.iconst 0, 1) ∧ decode cX9_sign 17 = .ok (.istore_n 2, 1) ∧ decode cX9_sign 18 = .ok (.iload_n 2, 1) ∧ True := zj_of zk_363
abbrev dX9_sign_0 := zr_363.1
abbrev dX9_sign_1 := zr_363.2.1
abbrev dX9_sign_2 := zr_363.2.2.1
abbrev dX9_sign_5 := zr_363.2.2.2.1
abbrev dX9_sign_6 := zr_363.2.2.2.2.1
abbrev dX9_sign_9 := zr_363.2.2.2.2.2.1
abbrev dX9_sign_11 := zr_363.2.2.2.2.2.2.1
abbrev dX9_sign_14 := zr_363.2.2.2.2.2.2.2.1
abbrev dX9_sign_15 := zr_363.2.2.2.2.2.2.2.2.1
abbrev dX9_sign_16 := zr_363.2.2.2.2.2.2.2.2.2.1
abbrev dX9_sign_17 := zr_363.2.2.2.2.2.2.2.2.2.2.1
abbrev dX9_sign_18 := zr_363.2.2.2.2.2.2.2.2.2.2.2.1
set_option maxRecDepth 100000 in
theorem zk_364 : zck 19 (cX9_sign.data.toList.drop 19) [(19, .iconst 4, 1), (20, .if_icmp .ge 33, 3), (23, .aload_n 0, 1), (24, .getfield 17, 3), (27, .aload_n 0, 1), (28, .getfield 14, 3), (31, .iload_n 2, 1), (32, .iadd, 1), (33, .iload_n 1, 1), (34, .bipush 24, 2), (36, .bipush 8, 2), (38, .iload_n 2, 1)] = true := by decide +kernel
theorem zr_364 : decode cX9_sign 19 = .ok (.iconst 4, 1) ∧ decode cX9_sign 20 = .ok (.if_icmp .ge 33, 3) ∧ decode cX9_sign 23 = .ok (.aload_n 0, 1) ∧ decode cX9_sign 24 = .ok (.getfield 17, 3) ∧ decode cX9_sign 27 = .ok (.aload_n 0, 1) ∧ decode cX9_sign 28 = .ok (.getfield 14, 3) ∧ decode cX9_sign 31 = .ok (.iload_n 2, 1) ∧ decode cX9_sign 32 = .ok (.iadd, 1) ∧ decode cX9_sign 33 = .ok (.iload_n 1, 1) ∧ decode cX9_sign 34 = .ok (.bipush 24, 2) ∧ decode cX9_sign 36 = .ok (.bipush 8, 2) ∧ decode cX9_sign 38 = .ok (.iload_n 2, 1) ∧ True := zj_of zk_364
abbrev dX9_sign_19 := zr_364.1
abbrev dX9_sign_20 := zr_364.2.1
abbrev dX9_sign_23 := zr_364.2.2.1
abbrev dX9_sign_24 := zr_364.2.2.2.1
abbrev dX9_sign_27 := zr_364.2.2.2.2.1
abbrev dX9_sign_28 := zr_364.2.2.2.2.2.1
abbrev dX9_sign_31 := zr_364.2.2.2.2.2.2.1
abbrev dX9_sign_32 := zr_364.2.2.2.2.2.2.2.1
abbrev dX9_sign_33 := zr_364.2.2.2.2.2.2.2.2.1
abbrev dX9_sign_34 := zr_364.2.2.2.2.2.2.2.2.2.1
abbrev dX9_sign_36 := zr_364.2.2.2.2.2.2.2.2.2.2.1
abbrev dX9_sign_38 := zr_364.2.2.2.2.2.2.2.2.2.2.2.1
set_option maxRecDepth 100000 in
theorem zk_365 : zck 39 (cX9_sign.data.toList.drop 39) [(39, .imul, 1), (40, .isub, 1), (41, .ishr, 1), (42, .sipush 255, 3), (45, .iand, 1), (46, .iastore, 1), (47, .iinc 2 1, 3), (50, .goto (-32), 3), (53, .aload_n 0, 1), (54, .dup, 1), (55, .getfield 14, 3), (58, .iconst 4, 1)] = true := by decide +kernel
theorem zr_365 : decode cX9_sign 39 = .ok (.imul, 1) ∧ decode cX9_sign 40 = .ok (.isub, 1) ∧ decode cX9_sign 41 = .ok (.ishr, 1) ∧ decode cX9_sign 42 = .ok (.sipush 255, 3) ∧ decode cX9_sign 45 = .ok (.iand, 1) ∧ decode cX9_sign 46 = .ok (.iastore, 1) ∧ decode cX9_sign 47 = .ok (.iinc 2 1, 3) ∧ decode cX9_sign 50 = .ok (.goto (-32), 3) ∧ decode cX9_sign 53 = .ok (.aload_n 0, 1) ∧ decode cX9_sign 54 = .ok (.dup, 1) ∧ decode cX9_sign 55 = .ok (.getfield 14, 3) ∧ decode cX9_sign 58 = .ok (.iconst 4, 1) ∧ True := zj_of zk_365
abbrev dX9_sign_39 := zr_365.1
abbrev dX9_sign_40 := zr_365.2.1
abbrev dX9_sign_41 := zr_365.2.2.1
abbrev dX9_sign_42 := zr_365.2.2.2.1
abbrev dX9_sign_45 := zr_365.2.2.2.2.1
abbrev dX9_sign_46 := zr_365.2.2.2.2.2.1
abbrev dX9_sign_47 := zr_365.2.2.2.2.2.2.1
abbrev dX9_sign_50 := zr_365.2.2.2.2.2.2.2.1
abbrev dX9_sign_53 := zr_365.2.2.2.2.2.2.2.2.1
abbrev dX9_sign_54 := zr_365.2.2.2.2.2.2.2.2.2.1
abbrev dX9_sign_55 := zr_365.2.2.2.2.2.2.2.2.2.2.1
abbrev dX9_sign_58 := zr_365.2.2.2.2.2.2.2.2.2.2.2.1
set_option maxRecDepth 100000 in
theorem zk_366 : zck 59 (cX9_sign.data.toList.drop 59) [(59, .iadd, 1), (60, .putfield 14, 3), (63, .aload_n 0, 1), (64, .getfield 14, 3), (67, .ireturn, 1)] = true := by decide +kernel
theorem zr_366 : decode cX9_sign 59 = .ok (.iadd, 1) ∧ decode cX9_sign 60 = .ok (.putfield 14, 3) ∧ decode cX9_sign 63 = .ok (.aload_n 0, 1) ∧ decode cX9_sign 64 = .ok (.getfield 14, 3) ∧ decode cX9_sign 67 = .ok (.ireturn, 1) ∧ True := zj_of zk_366
abbrev dX9_sign_59 := zr_366.1
abbrev dX9_sign_60 := zr_366.2.1
abbrev dX9_sign_63 := zr_366.2.2.1
abbrev dX9_sign_64 := zr_366.2.2.2.1
abbrev dX9_sign_67 := zr_366.2.2.2.2.1
set_option maxRecDepth 100000 in
theorem zk_367 : zck 0 (cX9_end.data.toList.drop 0) [(0, .aload_n 0, 1), (1, .iconst 0, 1), (2, .putfield 1, 3), (5, .iload_n 1, 1), (6, .i2l, 1), (7, .lconst 0, 1), (8, .aload_n 0, 1), (9, .getfield 14, 3), (12, .i2l, 1), (13, .invokestatic 21, 3), (16, .ifCond .ne 5, 3), (19, .iconst 0, 1)] = true := by decide +kernel
theorem zr_367 : decode cX9_end 0 = .ok (.aload_n 0, 1) ∧ decode cX9_end 1 = .ok (.iconst 0, 1) ∧ decode cX9_end 2 = .ok (.putfield 1, 3) ∧ decode cX9_end 5 = .ok (.iload_n 1, 1) ∧ decode cX9_end 6 = .ok (.i2l, 1) ∧ decode cX9_end 7 = .ok (.lconst 0, 1) ∧ decode cX9_end 8 = .ok (.aload_n 0, 1) ∧ decode cX9_end 9 = .ok (.getfield 14, 3) ∧ decode cX9_end 12 = .ok (.i2l, 1) ∧ decode cX9_end 13 = .ok (.invokestatic 21, 3) ∧ decode cX9_end 16 = .ok (.ifCond .ne 5, 3) ∧ decode cX9_end 19 = .ok (.iconst 0, 1) ∧ True := zj_of zk_367
abbrev dX9_end_0 := zr_367.1
abbrev dX9_end_1 := zr_367.2.1
abbrev dX9_end_2 := zr_367.2.2.1
abbrev dX9_end_5 := zr_367.2.2.2.1
abbrev dX9_end_6 := zr_367.2.2.2.2.1
abbrev dX9_end_7 := zr_367.2.2.2.2.2.1
abbrev dX9_end_8 := zr_367.2.2.2.2.2.2.1
abbrev dX9_end_9 := zr_367.2.2.2.2.2.2.2.1
abbrev dX9_end_12 := zr_367.2.2.2.2.2.2.2.2.1
abbrev dX9_end_13 := zr_367.2.2.2.2.2.2.2.2.2.1
abbrev dX9_end_16 := zr_367.2.2.2.2.2.2.2.2.2.2.1
abbrev dX9_end_19 := zr_367.2.2.2.2.2.2.2.2.2.2.2.1
set_option maxRecDepth 100000 in
theorem zk_368 : zck 20 (cX9_end.data.toList.drop 20) [(20, .ireturn, 1), (21, .aload_n 0, 1), (22, .iload_n 1, 1), (23, .putfield 14, 3), (26, .iconst 1, 1), (27, .ireturn, 1)] = true := by decide +kernel
theorem zr_368 : decode cX9_end 20 = .ok (.ireturn, 1) ∧ decode cX9_end 21 = .ok (.aload_n 0, 1) ∧ decode cX9_end 22 = .ok (.iload_n 1, 1) ∧ decode cX9_end 23 = .ok (.putfield 14, 3) ∧ decode cX9_end 26 = .ok (.iconst 1, 1) ∧ decode cX9_end 27 = .ok (.ireturn, 1) ∧ True := zj_of zk_368
abbrev dX9_end_20 := zr_368.1
abbrev dX9_end_21 := zr_368.2.1
abbrev dX9_end_22 := zr_368.2.2.1
abbrev dX9_end_23 := zr_368.2.2.2.1
abbrev dX9_end_26 := zr_368.2.2.2.2.1
abbrev dX9_end_27 := zr_368.2.2.2.2.2.1
set_option maxRecDepth 100000 in
theorem zk_369 : zck 0 (cX9_reads.data.toList.drop 0) [(0, .aload_n 0, 1), (1, .aload_n 0, 1), (2, .getfield 14, 3), (5, .putfield 25, 3), (8, .aload_n 0, 1), (9, .iconst 0, 1), (10, .putfield 14, 3), (13, .aload_n 0, 1), (14, .iconst 0, 1), (15, .putfield 28, 3), (18, .return_, 1)] = true := by decide +kernel
theorem zr_369 : decode cX9_reads 0 = .ok (.aload_n 0, 1) ∧ decode cX9_reads 1 = .ok (.aload_n 0, 1) ∧ decode cX9_reads 2 = .ok (.getfield 14, 3) ∧ decode cX9_reads 5 = .ok (.putfield 25, 3) ∧ decode cX9_reads 8 = .ok (.aload_n 0, 1) ∧ decode cX9_reads 9 = .ok (.iconst 0, 1) ∧ decode cX9_reads 10 = .ok (.putfield 14, 3) ∧ decode cX9_reads 13 = .ok (.aload_n 0, 1) ∧ decode cX9_reads 14 = .ok (.iconst 0, 1) ∧ decode cX9_reads 15 = .ok (.putfield 28, 3) ∧ decode cX9_reads 18 = .ok (.return_, 1) ∧ True := zj_of zk_369
abbrev dX9_reads_0 := zr_369.1
abbrev dX9_reads_1 := zr_369.2.1
abbrev dX9_reads_2 := zr_369.2.2.1
abbrev dX9_reads_5 := zr_369.2.2.2.1
abbrev dX9_reads_8 := zr_369.2.2.2.2.1
abbrev dX9_reads_9 := zr_369.2.2.2.2.2.1
abbrev dX9_reads_10 := zr_369.2.2.2.2.2.2.1
abbrev dX9_reads_13 := zr_369.2.2.2.2.2.2.2.1
abbrev dX9_reads_14 := zr_369.2.2.2.2.2.2.2.2.1
abbrev dX9_reads_15 := zr_369.2.2.2.2.2.2.2.2.2.1
abbrev dX9_reads_18 := zr_369.2.2.2.2.2.2.2.2.2.2.1
set_option maxRecDepth 100000 in
theorem zk_370 : zck 0 (cX9_takes.data.toList.drop 0) [(0, .aload_n 0, 1), (1, .getfield 28, 3), (4, .aload_n 0, 1), (5, .getfield 25, 3), (8, .if_icmp .ge 20, 3), (11, .aload_n 0, 1), (12, .getfield 17, 3), (15, .aload_n 0, 1), (16, .getfield 28, 3), (19, .iaload, 1), (20, .iload_n 1, 1), (21, .if_icmp .ne 7, 3)] = true := by decide +kernel
theorem zr_370 : decode cX9_takes 0 = .ok (.aload_n 0, 1) ∧ decode cX9_takes 1 = .ok (.getfield 28, 3) ∧ decode cX9_takes 4 = .ok (.aload_n 0, 1) ∧ decode cX9_takes 5 = .ok (.getfield 25, 3) ∧ decode cX9_takes 8 = .ok (.if_icmp .ge 20, 3) ∧ decode cX9_takes 11 = .ok (.aload_n 0, 1) ∧ decode cX9_takes 12 = .ok (.getfield 17, 3) ∧ decode cX9_takes 15 = .ok (.aload_n 0, 1) ∧ decode cX9_takes 16 = .ok (.getfield 28, 3) ∧ decode cX9_takes 19 = .ok (.iaload, 1) ∧ decode cX9_takes 20 = .ok (.iload_n 1, 1) ∧ decode cX9_takes 21 = .ok (.if_icmp .ne 7, 3) ∧ True := zj_of zk_370
abbrev dX9_takes_0 := zr_370.1
abbrev dX9_takes_1 := zr_370.2.1
abbrev dX9_takes_4 := zr_370.2.2.1
abbrev dX9_takes_5 := zr_370.2.2.2.1
abbrev dX9_takes_8 := zr_370.2.2.2.2.1
abbrev dX9_takes_11 := zr_370.2.2.2.2.2.1
abbrev dX9_takes_12 := zr_370.2.2.2.2.2.2.1
abbrev dX9_takes_15 := zr_370.2.2.2.2.2.2.2.1
abbrev dX9_takes_16 := zr_370.2.2.2.2.2.2.2.2.1
abbrev dX9_takes_19 := zr_370.2.2.2.2.2.2.2.2.2.1
abbrev dX9_takes_20 := zr_370.2.2.2.2.2.2.2.2.2.2.1
abbrev dX9_takes_21 := zr_370.2.2.2.2.2.2.2.2.2.2.2.1
set_option maxRecDepth 100000 in
theorem zk_371 : zck 24 (cX9_takes.data.toList.drop 24) [(24, .iconst 1, 1), (25, .goto 4, 3), (28, .iconst 0, 1), (29, .istore_n 2, 1), (30, .aload_n 0, 1), (31, .dup, 1), (32, .getfield 28, 3), (35, .iload_n 2, 1), (36, .invokestatic 31, 3), (39, .iadd, 1), (40, .putfield 28, 3), (43, .iload_n 2, 1)] = true := by decide +kernel
theorem zr_371 : decode cX9_takes 24 = .ok (.iconst 1, 1) ∧ decode cX9_takes 25 = .ok (.goto 4, 3) ∧ decode cX9_takes 28 = .ok (.iconst 0, 1) ∧ decode cX9_takes 29 = .ok (.istore_n 2, 1) ∧ decode cX9_takes 30 = .ok (.aload_n 0, 1) ∧ decode cX9_takes 31 = .ok (.dup, 1) ∧ decode cX9_takes 32 = .ok (.getfield 28, 3) ∧ decode cX9_takes 35 = .ok (.iload_n 2, 1) ∧ decode cX9_takes 36 = .ok (.invokestatic 31, 3) ∧ decode cX9_takes 39 = .ok (.iadd, 1) ∧ decode cX9_takes 40 = .ok (.putfield 28, 3) ∧ decode cX9_takes 43 = .ok (.iload_n 2, 1) ∧ True := zj_of zk_371
abbrev dX9_takes_24 := zr_371.1
abbrev dX9_takes_25 := zr_371.2.1
abbrev dX9_takes_28 := zr_371.2.2.1
abbrev dX9_takes_29 := zr_371.2.2.2.1
abbrev dX9_takes_30 := zr_371.2.2.2.2.1
abbrev dX9_takes_31 := zr_371.2.2.2.2.2.1
abbrev dX9_takes_32 := zr_371.2.2.2.2.2.2.1
abbrev dX9_takes_35 := zr_371.2.2.2.2.2.2.2.1
abbrev dX9_takes_36 := zr_371.2.2.2.2.2.2.2.2.1
abbrev dX9_takes_39 := zr_371.2.2.2.2.2.2.2.2.2.1
abbrev dX9_takes_40 := zr_371.2.2.2.2.2.2.2.2.2.2.1
abbrev dX9_takes_43 := zr_371.2.2.2.2.2.2.2.2.2.2.2.1
set_option maxRecDepth 100000 in
theorem zk_372 : zck 44 (cX9_takes.data.toList.drop 44) [(44, .ireturn, 1)] = true := by decide +kernel
theorem zr_372 : decode cX9_takes 44 = .ok (.ireturn, 1) ∧ True := zj_of zk_372
abbrev dX9_takes_44 := zr_372.1
set_option maxRecDepth 100000 in
theorem zk_373 : zck 0 (cX9_isDigit.data.toList.drop 0) [(0, .aload_n 0, 1), (1, .getfield 28, 3), (4, .aload_n 0, 1), (5, .getfield 25, 3), (8, .if_icmp .ge 29, 3), (11, .aload_n 0, 1), (12, .getfield 17, 3), (15, .aload_n 0, 1), (16, .getfield 28, 3), (19, .iaload, 1), (20, .i2l, 1), (21, .ldc2_w 35, 3)] = true := by decide +kernel
theorem zr_373 : decode cX9_isDigit 0 = .ok (.aload_n 0, 1) ∧ decode cX9_isDigit 1 = .ok (.getfield 28, 3) ∧ decode cX9_isDigit 4 = .ok (.aload_n 0, 1) ∧ decode cX9_isDigit 5 = .ok (.getfield 25, 3) ∧ decode cX9_isDigit 8 = .ok (.if_icmp .ge 29, 3) ∧ decode cX9_isDigit 11 = .ok (.aload_n 0, 1) ∧ decode cX9_isDigit 12 = .ok (.getfield 17, 3) ∧ decode cX9_isDigit 15 = .ok (.aload_n 0, 1) ∧ decode cX9_isDigit 16 = .ok (.getfield 28, 3) ∧ decode cX9_isDigit 19 = .ok (.iaload, 1) ∧ decode cX9_isDigit 20 = .ok (.i2l, 1) ∧ decode cX9_isDigit 21 = .ok (.ldc2_w 35, 3) ∧ True := zj_of zk_373
abbrev dX9_isDigit_0 := zr_373.1
abbrev dX9_isDigit_1 := zr_373.2.1
abbrev dX9_isDigit_4 := zr_373.2.2.1
abbrev dX9_isDigit_5 := zr_373.2.2.2.1
abbrev dX9_isDigit_8 := zr_373.2.2.2.2.1
abbrev dX9_isDigit_11 := zr_373.2.2.2.2.2.1
abbrev dX9_isDigit_12 := zr_373.2.2.2.2.2.2.1
abbrev dX9_isDigit_15 := zr_373.2.2.2.2.2.2.2.1
abbrev dX9_isDigit_16 := zr_373.2.2.2.2.2.2.2.2.1
abbrev dX9_isDigit_19 := zr_373.2.2.2.2.2.2.2.2.2.1
abbrev dX9_isDigit_20 := zr_373.2.2.2.2.2.2.2.2.2.2.1
abbrev dX9_isDigit_21 := zr_373.2.2.2.2.2.2.2.2.2.2.2.1
set_option maxRecDepth 100000 in
theorem zk_374 : zck 24 (cX9_isDigit.data.toList.drop 24) [(24, .ldc2_w 37, 3), (27, .invokestatic 21, 3), (30, .ifCond .eq 7, 3), (33, .iconst 1, 1), (34, .goto 4, 3), (37, .iconst 0, 1), (38, .ireturn, 1)] = true := by decide +kernel
theorem zr_374 : decode cX9_isDigit 24 = .ok (.ldc2_w 37, 3) ∧ decode cX9_isDigit 27 = .ok (.invokestatic 21, 3) ∧ decode cX9_isDigit 30 = .ok (.ifCond .eq 7, 3) ∧ decode cX9_isDigit 33 = .ok (.iconst 1, 1) ∧ decode cX9_isDigit 34 = .ok (.goto 4, 3) ∧ decode cX9_isDigit 37 = .ok (.iconst 0, 1) ∧ decode cX9_isDigit 38 = .ok (.ireturn, 1) ∧ True := zj_of zk_374
abbrev dX9_isDigit_24 := zr_374.1
abbrev dX9_isDigit_27 := zr_374.2.1
abbrev dX9_isDigit_30 := zr_374.2.2.1
abbrev dX9_isDigit_33 := zr_374.2.2.2.1
abbrev dX9_isDigit_34 := zr_374.2.2.2.2.1
abbrev dX9_isDigit_37 := zr_374.2.2.2.2.2.1
abbrev dX9_isDigit_38 := zr_374.2.2.2.2.2.2.1
set_option maxRecDepth 100000 in
theorem zk_375 : zck 0 (cX9_number.data.toList.drop 0) [(0, .iconst 0, 1), (1, .istore 4, 2), (3, .iconst 0, 1), (4, .istore 5, 2), (6, .aload_n 0, 1), (7, .invokevirtual 39, 3), (10, .ifCond .eq 45, 3), (13, .iload 5, 2), (15, .iload_n 1, 1), (16, .if_icmp .ge 39, 3), (19, .bipush 10, 2), (21, .iload 4, 2)] = true := by decide +kernel
theorem zr_375 : decode cX9_number 0 = .ok (.iconst 0, 1) ∧ decode cX9_number 1 = .ok (.istore 4, 2) ∧ decode cX9_number 3 = .ok (.iconst 0, 1) ∧ decode cX9_number 4 = .ok (.istore 5, 2) ∧ decode cX9_number 6 = .ok (.aload_n 0, 1) ∧ decode cX9_number 7 = .ok (.invokevirtual 39, 3) ∧ decode cX9_number 10 = .ok (.ifCond .eq 45, 3) ∧ decode cX9_number 13 = .ok (.iload 5, 2) ∧ decode cX9_number 15 = .ok (.iload_n 1, 1) ∧ decode cX9_number 16 = .ok (.if_icmp .ge 39, 3) ∧ decode cX9_number 19 = .ok (.bipush 10, 2) ∧ decode cX9_number 21 = .ok (.iload 4, 2) ∧ True := zj_of zk_375
abbrev dX9_number_0 := zr_375.1
abbrev dX9_number_1 := zr_375.2.1
abbrev dX9_number_3 := zr_375.2.2.1
abbrev dX9_number_4 := zr_375.2.2.2.1
abbrev dX9_number_6 := zr_375.2.2.2.2.1
abbrev dX9_number_7 := zr_375.2.2.2.2.2.1
abbrev dX9_number_10 := zr_375.2.2.2.2.2.2.1
abbrev dX9_number_13 := zr_375.2.2.2.2.2.2.2.1
abbrev dX9_number_15 := zr_375.2.2.2.2.2.2.2.2.1
abbrev dX9_number_16 := zr_375.2.2.2.2.2.2.2.2.2.1
abbrev dX9_number_19 := zr_375.2.2.2.2.2.2.2.2.2.2.1
abbrev dX9_number_21 := zr_375.2.2.2.2.2.2.2.2.2.2.2.1
set_option maxRecDepth 100000 in
theorem zk_376 : zck 23 (cX9_number.data.toList.drop 23) [(23, .imul, 1), (24, .aload_n 0, 1), (25, .getfield 17, 3), (28, .aload_n 0, 1), (29, .getfield 28, 3), (32, .iaload, 1), (33, .iadd, 1), (34, .bipush 48, 2), (36, .isub, 1), (37, .istore 4, 2), (39, .aload_n 0, 1), (40, .dup, 1)] = true := by decide +kernel
theorem zr_376 : decode cX9_number 23 = .ok (.imul, 1) ∧ decode cX9_number 24 = .ok (.aload_n 0, 1) ∧ decode cX9_number 25 = .ok (.getfield 17, 3) ∧ decode cX9_number 28 = .ok (.aload_n 0, 1) ∧ decode cX9_number 29 = .ok (.getfield 28, 3) ∧ decode cX9_number 32 = .ok (.iaload, 1) ∧ decode cX9_number 33 = .ok (.iadd, 1) ∧ decode cX9_number 34 = .ok (.bipush 48, 2) ∧ decode cX9_number 36 = .ok (.isub, 1) ∧ decode cX9_number 37 = .ok (.istore 4, 2) ∧ decode cX9_number 39 = .ok (.aload_n 0, 1) ∧ decode cX9_number 40 = .ok (.dup, 1) ∧ True := zj_of zk_376
abbrev dX9_number_23 := zr_376.1
abbrev dX9_number_24 := zr_376.2.1
abbrev dX9_number_25 := zr_376.2.2.1
abbrev dX9_number_28 := zr_376.2.2.2.1
abbrev dX9_number_29 := zr_376.2.2.2.2.1
abbrev dX9_number_32 := zr_376.2.2.2.2.2.1
abbrev dX9_number_33 := zr_376.2.2.2.2.2.2.1
abbrev dX9_number_34 := zr_376.2.2.2.2.2.2.2.1
abbrev dX9_number_36 := zr_376.2.2.2.2.2.2.2.2.1
abbrev dX9_number_37 := zr_376.2.2.2.2.2.2.2.2.2.1
abbrev dX9_number_39 := zr_376.2.2.2.2.2.2.2.2.2.2.1
abbrev dX9_number_40 := zr_376.2.2.2.2.2.2.2.2.2.2.2.1
set_option maxRecDepth 100000 in
theorem zk_377 : zck 41 (cX9_number.data.toList.drop 41) [(41, .getfield 28, 3), (44, .iconst 1, 1), (45, .iadd, 1), (46, .putfield 28, 3), (49, .iinc 5 1, 3), (52, .goto (-46), 3), (55, .iload 5, 2), (57, .ifCond .eq 10, 3), (60, .aload_n 0, 1), (61, .invokevirtual 39, 3), (64, .ifCond .eq 5, 3), (67, .iconst (-1), 1)] = true := by decide +kernel
theorem zr_377 : decode cX9_number 41 = .ok (.getfield 28, 3) ∧ decode cX9_number 44 = .ok (.iconst 1, 1) ∧ decode cX9_number 45 = .ok (.iadd, 1) ∧ decode cX9_number 46 = .ok (.putfield 28, 3) ∧ decode cX9_number 49 = .ok (.iinc 5 1, 3) ∧ decode cX9_number 52 = .ok (.goto (-46), 3) ∧ decode cX9_number 55 = .ok (.iload 5, 2) ∧ decode cX9_number 57 = .ok (.ifCond .eq 10, 3) ∧ decode cX9_number 60 = .ok (.aload_n 0, 1) ∧ decode cX9_number 61 = .ok (.invokevirtual 39, 3) ∧ decode cX9_number 64 = .ok (.ifCond .eq 5, 3) ∧ decode cX9_number 67 = .ok (.iconst (-1), 1) ∧ True := zj_of zk_377
abbrev dX9_number_41 := zr_377.1
abbrev dX9_number_44 := zr_377.2.1
abbrev dX9_number_45 := zr_377.2.2.1
abbrev dX9_number_46 := zr_377.2.2.2.1
abbrev dX9_number_49 := zr_377.2.2.2.2.1
abbrev dX9_number_52 := zr_377.2.2.2.2.2.1
abbrev dX9_number_55 := zr_377.2.2.2.2.2.2.1
abbrev dX9_number_57 := zr_377.2.2.2.2.2.2.2.1
abbrev dX9_number_60 := zr_377.2.2.2.2.2.2.2.2.1
abbrev dX9_number_61 := zr_377.2.2.2.2.2.2.2.2.2.1
abbrev dX9_number_64 := zr_377.2.2.2.2.2.2.2.2.2.2.1
abbrev dX9_number_67 := zr_377.2.2.2.2.2.2.2.2.2.2.2.1
set_option maxRecDepth 100000 in
theorem zk_378 : zck 68 (cX9_number.data.toList.drop 68) [(68, .ireturn, 1), (69, .iload 4, 2), (71, .i2l, 1), (72, .iload_n 2, 1), (73, .i2l, 1), (74, .iload_n 3, 1), (75, .i2l, 1), (76, .invokestatic 21, 3), (79, .ifCond .ne 15, 3), (82, .aload_n 0, 1), (83, .dup, 1), (84, .getfield 28, 3)] = true := by decide +kernel
theorem zr_378 : decode cX9_number 68 = .ok (.ireturn, 1) ∧ decode cX9_number 69 = .ok (.iload 4, 2) ∧ decode cX9_number 71 = .ok (.i2l, 1) ∧ decode cX9_number 72 = .ok (.iload_n 2, 1) ∧ decode cX9_number 73 = .ok (.i2l, 1) ∧ decode cX9_number 74 = .ok (.iload_n 3, 1) ∧ decode cX9_number 75 = .ok (.i2l, 1) ∧ decode cX9_number 76 = .ok (.invokestatic 21, 3) ∧ decode cX9_number 79 = .ok (.ifCond .ne 15, 3) ∧ decode cX9_number 82 = .ok (.aload_n 0, 1) ∧ decode cX9_number 83 = .ok (.dup, 1) ∧ decode cX9_number 84 = .ok (.getfield 28, 3) ∧ True := zj_of zk_378
abbrev dX9_number_68 := zr_378.1
abbrev dX9_number_69 := zr_378.2.1
abbrev dX9_number_71 := zr_378.2.2.1
abbrev dX9_number_72 := zr_378.2.2.2.1
abbrev dX9_number_73 := zr_378.2.2.2.2.1
abbrev dX9_number_74 := zr_378.2.2.2.2.2.1
abbrev dX9_number_75 := zr_378.2.2.2.2.2.2.1
abbrev dX9_number_76 := zr_378.2.2.2.2.2.2.2.1
abbrev dX9_number_79 := zr_378.2.2.2.2.2.2.2.2.1
abbrev dX9_number_82 := zr_378.2.2.2.2.2.2.2.2.2.1
abbrev dX9_number_83 := zr_378.2.2.2.2.2.2.2.2.2.2.1
abbrev dX9_number_84 := zr_378.2.2.2.2.2.2.2.2.2.2.2.1
set_option maxRecDepth 100000 in
theorem zk_379 : zck 87 (cX9_number.data.toList.drop 87) [(87, .iconst 1, 1), (88, .isub, 1), (89, .putfield 28, 3), (92, .iconst (-1), 1), (93, .ireturn, 1), (94, .iload 4, 2), (96, .ireturn, 1)] = true := by decide +kernel
theorem zr_379 : decode cX9_number 87 = .ok (.iconst 1, 1) ∧ decode cX9_number 88 = .ok (.isub, 1) ∧ decode cX9_number 89 = .ok (.putfield 28, 3) ∧ decode cX9_number 92 = .ok (.iconst (-1), 1) ∧ decode cX9_number 93 = .ok (.ireturn, 1) ∧ decode cX9_number 94 = .ok (.iload 4, 2) ∧ decode cX9_number 96 = .ok (.ireturn, 1) ∧ True := zj_of zk_379
abbrev dX9_number_87 := zr_379.1
abbrev dX9_number_88 := zr_379.2.1
abbrev dX9_number_89 := zr_379.2.2.1
abbrev dX9_number_92 := zr_379.2.2.2.1
abbrev dX9_number_93 := zr_379.2.2.2.2.1
abbrev dX9_number_94 := zr_379.2.2.2.2.2.1
abbrev dX9_number_96 := zr_379.2.2.2.2.2.2.1
set_option maxRecDepth 100000 in
theorem zk_380 : zck 0 (cX9_init.data.toList.drop 0) [(0, .aload_n 0, 1), (1, .invokespecial 43, 3), (4, .aload_n 0, 1), (5, .bipush 64, 2)] = true := by decide +kernel
theorem zr_380 : decode cX9_init 0 = .ok (.aload_n 0, 1) ∧ decode cX9_init 1 = .ok (.invokespecial 43, 3) ∧ decode cX9_init 4 = .ok (.aload_n 0, 1) ∧ decode cX9_init 5 = .ok (.bipush 64, 2) ∧ True := zj_of zk_380
abbrev dX9_init_0 := zr_380.1
abbrev dX9_init_1 := zr_380.2.1
abbrev dX9_init_4 := zr_380.2.2.1
abbrev dX9_init_5 := zr_380.2.2.2.1
set_option maxRecDepth 100000 in
theorem dX9_init_7 : decode cX9_init 7 = .ok (.newarray .long, 2) := by decide +kernel
set_option maxRecDepth 100000 in
theorem zk_381 : zck 9 (cX9_init.data.toList.drop 9) [(9, .putfield 7, 3), (12, .aload_n 0, 1), (13, .bipush 100, 2)] = true := by decide +kernel
theorem zr_381 : decode cX9_init 9 = .ok (.putfield 7, 3) ∧ decode cX9_init 12 = .ok (.aload_n 0, 1) ∧ decode cX9_init 13 = .ok (.bipush 100, 2) ∧ True := zj_of zk_381
abbrev dX9_init_9 := zr_381.1
abbrev dX9_init_12 := zr_381.2.1
abbrev dX9_init_13 := zr_381.2.2.1
set_option maxRecDepth 100000 in
theorem dX9_init_15 : decode cX9_init 15 = .ok (.newarray .int, 2) := by decide +kernel
set_option maxRecDepth 100000 in
theorem zk_382 : zck 17 (cX9_init.data.toList.drop 17) [(17, .putfield 17, 3), (20, .aload_n 0, 1), (21, .bipush 64, 2)] = true := by decide +kernel
theorem zr_382 : decode cX9_init 17 = .ok (.putfield 17, 3) ∧ decode cX9_init 20 = .ok (.aload_n 0, 1) ∧ decode cX9_init 21 = .ok (.bipush 64, 2) ∧ True := zj_of zk_382
abbrev dX9_init_17 := zr_382.1
abbrev dX9_init_20 := zr_382.2.1
abbrev dX9_init_21 := zr_382.2.2.1
set_option maxRecDepth 100000 in
theorem dX9_init_23 : decode cX9_init 23 = .ok (.newarray .int, 2) := by decide +kernel
set_option maxRecDepth 100000 in
theorem zk_383 : zck 25 (cX9_init.data.toList.drop 25) [(25, .putfield 49, 3), (28, .aload_n 0, 1), (29, .bipush 64, 2)] = true := by decide +kernel
theorem zr_383 : decode cX9_init 25 = .ok (.putfield 49, 3) ∧ decode cX9_init 28 = .ok (.aload_n 0, 1) ∧ decode cX9_init 29 = .ok (.bipush 64, 2) ∧ True := zj_of zk_383
abbrev dX9_init_25 := zr_383.1
abbrev dX9_init_28 := zr_383.2.1
abbrev dX9_init_29 := zr_383.2.2.1
set_option maxRecDepth 100000 in
theorem dX9_init_31 : decode cX9_init 31 = .ok (.newarray .int, 2) := by decide +kernel
set_option maxRecDepth 100000 in
theorem zk_384 : zck 33 (cX9_init.data.toList.drop 33) [(33, .putfield 52, 3), (36, .aload_n 0, 1), (37, .bipush 88, 2)] = true := by decide +kernel
theorem zr_384 : decode cX9_init 33 = .ok (.putfield 52, 3) ∧ decode cX9_init 36 = .ok (.aload_n 0, 1) ∧ decode cX9_init 37 = .ok (.bipush 88, 2) ∧ True := zj_of zk_384
abbrev dX9_init_33 := zr_384.1
abbrev dX9_init_36 := zr_384.2.1
abbrev dX9_init_37 := zr_384.2.2.1
set_option maxRecDepth 100000 in
theorem dX9_init_39 : decode cX9_init 39 = .ok (.newarray .int, 2) := by decide +kernel
set_option maxRecDepth 100000 in
theorem zk_385 : zck 41 (cX9_init.data.toList.drop 41) [(41, .putfield 55, 3), (44, .aload_n 0, 1), (45, .bipush 64, 2)] = true := by decide +kernel
theorem zr_385 : decode cX9_init 41 = .ok (.putfield 55, 3) ∧ decode cX9_init 44 = .ok (.aload_n 0, 1) ∧ decode cX9_init 45 = .ok (.bipush 64, 2) ∧ True := zj_of zk_385
abbrev dX9_init_41 := zr_385.1
abbrev dX9_init_44 := zr_385.2.1
abbrev dX9_init_45 := zr_385.2.2.1
set_option maxRecDepth 100000 in
theorem dX9_init_47 : decode cX9_init 47 = .ok (.newarray .int, 2) := by decide +kernel
set_option maxRecDepth 100000 in
theorem zk_386 : zck 49 (cX9_init.data.toList.drop 49) [(49, .putfield 58, 3), (52, .aload_n 0, 1), (53, .bipush 64, 2)] = true := by decide +kernel
theorem zr_386 : decode cX9_init 49 = .ok (.putfield 58, 3) ∧ decode cX9_init 52 = .ok (.aload_n 0, 1) ∧ decode cX9_init 53 = .ok (.bipush 64, 2) ∧ True := zj_of zk_386
abbrev dX9_init_49 := zr_386.1
abbrev dX9_init_52 := zr_386.2.1
abbrev dX9_init_53 := zr_386.2.2.1
set_option maxRecDepth 100000 in
theorem dX9_init_55 : decode cX9_init 55 = .ok (.newarray .int, 2) := by decide +kernel
set_option maxRecDepth 100000 in
theorem zk_387 : zck 57 (cX9_init.data.toList.drop 57) [(57, .putfield 61, 3), (60, .aload_n 0, 1), (61, .sipush 512, 3)] = true := by decide +kernel
theorem zr_387 : decode cX9_init 57 = .ok (.putfield 61, 3) ∧ decode cX9_init 60 = .ok (.aload_n 0, 1) ∧ decode cX9_init 61 = .ok (.sipush 512, 3) ∧ True := zj_of zk_387
abbrev dX9_init_57 := zr_387.1
abbrev dX9_init_60 := zr_387.2.1
abbrev dX9_init_61 := zr_387.2.2.1
set_option maxRecDepth 100000 in
theorem dX9_init_64 : decode cX9_init 64 = .ok (.newarray .int, 2) := by decide +kernel
set_option maxRecDepth 100000 in
theorem zk_388 : zck 66 (cX9_init.data.toList.drop 66) [(66, .putfield 64, 3), (69, .aload_n 0, 1), (70, .sipush 512, 3)] = true := by decide +kernel
theorem zr_388 : decode cX9_init 66 = .ok (.putfield 64, 3) ∧ decode cX9_init 69 = .ok (.aload_n 0, 1) ∧ decode cX9_init 70 = .ok (.sipush 512, 3) ∧ True := zj_of zk_388
abbrev dX9_init_66 := zr_388.1
abbrev dX9_init_69 := zr_388.2.1
abbrev dX9_init_70 := zr_388.2.2.1
set_option maxRecDepth 100000 in
theorem dX9_init_73 : decode cX9_init 73 = .ok (.newarray .int, 2) := by decide +kernel
set_option maxRecDepth 100000 in
theorem zk_389 : zck 75 (cX9_init.data.toList.drop 75) [(75, .putfield 67, 3), (78, .aload_n 0, 1), (79, .bipush 8, 2)] = true := by decide +kernel
theorem zr_389 : decode cX9_init 75 = .ok (.putfield 67, 3) ∧ decode cX9_init 78 = .ok (.aload_n 0, 1) ∧ decode cX9_init 79 = .ok (.bipush 8, 2) ∧ True := zj_of zk_389
abbrev dX9_init_75 := zr_389.1
abbrev dX9_init_78 := zr_389.2.1
abbrev dX9_init_79 := zr_389.2.2.1
set_option maxRecDepth 100000 in
theorem dX9_init_81 : decode cX9_init 81 = .ok (.newarray .int, 2) := by decide +kernel
set_option maxRecDepth 100000 in
theorem zk_390 : zck 83 (cX9_init.data.toList.drop 83) [(83, .putfield 70, 3), (86, .aload_n 0, 1), (87, .bipush 8, 2)] = true := by decide +kernel
theorem zr_390 : decode cX9_init 83 = .ok (.putfield 70, 3) ∧ decode cX9_init 86 = .ok (.aload_n 0, 1) ∧ decode cX9_init 87 = .ok (.bipush 8, 2) ∧ True := zj_of zk_390
abbrev dX9_init_83 := zr_390.1
abbrev dX9_init_86 := zr_390.2.1
abbrev dX9_init_87 := zr_390.2.2.1
set_option maxRecDepth 100000 in
theorem dX9_init_89 : decode cX9_init 89 = .ok (.newarray .int, 2) := by decide +kernel
set_option maxRecDepth 100000 in
theorem zk_391 : zck 91 (cX9_init.data.toList.drop 91) [(91, .putfield 73, 3), (94, .aload_n 0, 1), (95, .sipush 512, 3)] = true := by decide +kernel
theorem zr_391 : decode cX9_init 91 = .ok (.putfield 73, 3) ∧ decode cX9_init 94 = .ok (.aload_n 0, 1) ∧ decode cX9_init 95 = .ok (.sipush 512, 3) ∧ True := zj_of zk_391
abbrev dX9_init_91 := zr_391.1
abbrev dX9_init_94 := zr_391.2.1
abbrev dX9_init_95 := zr_391.2.2.1
set_option maxRecDepth 100000 in
theorem dX9_init_98 : decode cX9_init 98 = .ok (.newarray .int, 2) := by decide +kernel
set_option maxRecDepth 100000 in
theorem zk_392 : zck 100 (cX9_init.data.toList.drop 100) [(100, .putfield 76, 3), (103, .aload_n 0, 1), (104, .sipush 128, 3)] = true := by decide +kernel
theorem zr_392 : decode cX9_init 100 = .ok (.putfield 76, 3) ∧ decode cX9_init 103 = .ok (.aload_n 0, 1) ∧ decode cX9_init 104 = .ok (.sipush 128, 3) ∧ True := zj_of zk_392
abbrev dX9_init_100 := zr_392.1
abbrev dX9_init_103 := zr_392.2.1
abbrev dX9_init_104 := zr_392.2.2.1
set_option maxRecDepth 100000 in
theorem dX9_init_107 : decode cX9_init 107 = .ok (.newarray .int, 2) := by decide +kernel
set_option maxRecDepth 100000 in
theorem zk_393 : zck 109 (cX9_init.data.toList.drop 109) [(109, .putfield 79, 3), (112, .aload_n 0, 1), (113, .bipush 64, 2)] = true := by decide +kernel
theorem zr_393 : decode cX9_init 109 = .ok (.putfield 79, 3) ∧ decode cX9_init 112 = .ok (.aload_n 0, 1) ∧ decode cX9_init 113 = .ok (.bipush 64, 2) ∧ True := zj_of zk_393
abbrev dX9_init_109 := zr_393.1
abbrev dX9_init_112 := zr_393.2.1
abbrev dX9_init_113 := zr_393.2.2.1
set_option maxRecDepth 100000 in
theorem dX9_init_115 : decode cX9_init 115 = .ok (.newarray .int, 2) := by decide +kernel
set_option maxRecDepth 100000 in
theorem zk_394 : zck 117 (cX9_init.data.toList.drop 117) [(117, .putfield 82, 3), (120, .aload_n 0, 1), (121, .bipush 64, 2)] = true := by decide +kernel
theorem zr_394 : decode cX9_init 117 = .ok (.putfield 82, 3) ∧ decode cX9_init 120 = .ok (.aload_n 0, 1) ∧ decode cX9_init 121 = .ok (.bipush 64, 2) ∧ True := zj_of zk_394
abbrev dX9_init_117 := zr_394.1
abbrev dX9_init_120 := zr_394.2.1
abbrev dX9_init_121 := zr_394.2.2.1
set_option maxRecDepth 100000 in
theorem dX9_init_123 : decode cX9_init 123 = .ok (.newarray .long, 2) := by decide +kernel
set_option maxRecDepth 100000 in
theorem zk_395 : zck 125 (cX9_init.data.toList.drop 125) [(125, .putfield 85, 3), (128, .aload_n 0, 1), (129, .iconst 0, 1), (130, .putfield 88, 3), (133, .return_, 1)] = true := by decide +kernel
theorem zr_395 : decode cX9_init 125 = .ok (.putfield 85, 3) ∧ decode cX9_init 128 = .ok (.aload_n 0, 1) ∧ decode cX9_init 129 = .ok (.iconst 0, 1) ∧ decode cX9_init 130 = .ok (.putfield 88, 3) ∧ decode cX9_init 133 = .ok (.return_, 1) ∧ True := zj_of zk_395
abbrev dX9_init_125 := zr_395.1
abbrev dX9_init_128 := zr_395.2.1
abbrev dX9_init_129 := zr_395.2.2.1
abbrev dX9_init_130 := zr_395.2.2.2.1
abbrev dX9_init_133 := zr_395.2.2.2.2.1
set_option maxRecDepth 100000 in
theorem zk_396 : zck 0 (cX9_isNumber.data.toList.drop 0) [(0, .iload_n 0, 1), (1, .i2l, 1), (2, .lconst 0, 1), (3, .ldc2_w 91, 3), (6, .invokestatic 21, 3), (9, .ireturn, 1)] = true := by decide +kernel
theorem zr_396 : decode cX9_isNumber 0 = .ok (.iload_n 0, 1) ∧ decode cX9_isNumber 1 = .ok (.i2l, 1) ∧ decode cX9_isNumber 2 = .ok (.lconst 0, 1) ∧ decode cX9_isNumber 3 = .ok (.ldc2_w 91, 3) ∧ decode cX9_isNumber 6 = .ok (.invokestatic 21, 3) ∧ decode cX9_isNumber 9 = .ok (.ireturn, 1) ∧ True := zj_of zk_396
abbrev dX9_isNumber_0 := zr_396.1
abbrev dX9_isNumber_1 := zr_396.2.1
abbrev dX9_isNumber_2 := zr_396.2.2.1
abbrev dX9_isNumber_3 := zr_396.2.2.2.1
abbrev dX9_isNumber_6 := zr_396.2.2.2.2.1
abbrev dX9_isNumber_9 := zr_396.2.2.2.2.2.1
set_option maxRecDepth 100000 in
theorem zk_397 : zck 0 (cX9_isPlace.data.toList.drop 0) [(0, .iload_n 1, 1), (1, .i2l, 1), (2, .lconst 0, 1), (3, .aload_n 0, 1), (4, .getfield 88, 3), (7, .iconst 1, 1), (8, .isub, 1), (9, .i2l, 1), (10, .invokestatic 21, 3), (13, .ireturn, 1)] = true := by decide +kernel
theorem zr_397 : decode cX9_isPlace 0 = .ok (.iload_n 1, 1) ∧ decode cX9_isPlace 1 = .ok (.i2l, 1) ∧ decode cX9_isPlace 2 = .ok (.lconst 0, 1) ∧ decode cX9_isPlace 3 = .ok (.aload_n 0, 1) ∧ decode cX9_isPlace 4 = .ok (.getfield 88, 3) ∧ decode cX9_isPlace 7 = .ok (.iconst 1, 1) ∧ decode cX9_isPlace 8 = .ok (.isub, 1) ∧ decode cX9_isPlace 9 = .ok (.i2l, 1) ∧ decode cX9_isPlace 10 = .ok (.invokestatic 21, 3) ∧ decode cX9_isPlace 13 = .ok (.ireturn, 1) ∧ True := zj_of zk_397
abbrev dX9_isPlace_0 := zr_397.1
abbrev dX9_isPlace_1 := zr_397.2.1
abbrev dX9_isPlace_2 := zr_397.2.2.1
abbrev dX9_isPlace_3 := zr_397.2.2.2.1
abbrev dX9_isPlace_4 := zr_397.2.2.2.2.1
abbrev dX9_isPlace_7 := zr_397.2.2.2.2.2.1
abbrev dX9_isPlace_8 := zr_397.2.2.2.2.2.2.1
abbrev dX9_isPlace_9 := zr_397.2.2.2.2.2.2.2.1
abbrev dX9_isPlace_10 := zr_397.2.2.2.2.2.2.2.2.1
abbrev dX9_isPlace_13 := zr_397.2.2.2.2.2.2.2.2.2.1
set_option maxRecDepth 100000 in
theorem zk_398 : zck 0 (cX9_isSpan.data.toList.drop 0) [(0, .iload_n 1, 1), (1, .ifCond .lt 20, 3), (4, .iload_n 1, 1), (5, .iload_n 2, 1), (6, .if_icmp .gt 15, 3), (9, .iload_n 2, 1), (10, .aload_n 0, 1), (11, .getfield 88, 3), (14, .if_icmp .gt 7, 3), (17, .iconst 1, 1), (18, .goto 4, 3), (21, .iconst 0, 1)] = true := by decide +kernel
theorem zr_398 : decode cX9_isSpan 0 = .ok (.iload_n 1, 1) ∧ decode cX9_isSpan 1 = .ok (.ifCond .lt 20, 3) ∧ decode cX9_isSpan 4 = .ok (.iload_n 1, 1) ∧ decode cX9_isSpan 5 = .ok (.iload_n 2, 1) ∧ decode cX9_isSpan 6 = .ok (.if_icmp .gt 15, 3) ∧ decode cX9_isSpan 9 = .ok (.iload_n 2, 1) ∧ decode cX9_isSpan 10 = .ok (.aload_n 0, 1) ∧ decode cX9_isSpan 11 = .ok (.getfield 88, 3) ∧ decode cX9_isSpan 14 = .ok (.if_icmp .gt 7, 3) ∧ decode cX9_isSpan 17 = .ok (.iconst 1, 1) ∧ decode cX9_isSpan 18 = .ok (.goto 4, 3) ∧ decode cX9_isSpan 21 = .ok (.iconst 0, 1) ∧ True := zj_of zk_398
abbrev dX9_isSpan_0 := zr_398.1
abbrev dX9_isSpan_1 := zr_398.2.1
abbrev dX9_isSpan_4 := zr_398.2.2.1
abbrev dX9_isSpan_5 := zr_398.2.2.2.1
abbrev dX9_isSpan_6 := zr_398.2.2.2.2.1
abbrev dX9_isSpan_9 := zr_398.2.2.2.2.2.1
abbrev dX9_isSpan_10 := zr_398.2.2.2.2.2.2.1
abbrev dX9_isSpan_11 := zr_398.2.2.2.2.2.2.2.1
abbrev dX9_isSpan_14 := zr_398.2.2.2.2.2.2.2.2.1
abbrev dX9_isSpan_17 := zr_398.2.2.2.2.2.2.2.2.2.1
abbrev dX9_isSpan_18 := zr_398.2.2.2.2.2.2.2.2.2.2.1
abbrev dX9_isSpan_21 := zr_398.2.2.2.2.2.2.2.2.2.2.2.1
set_option maxRecDepth 100000 in
theorem zk_399 : zck 22 (cX9_isSpan.data.toList.drop 22) [(22, .ireturn, 1)] = true := by decide +kernel
theorem zr_399 : decode cX9_isSpan 22 = .ok (.ireturn, 1) ∧ True := zj_of zk_399
abbrev dX9_isSpan_22 := zr_399.1
set_option maxRecDepth 100000 in
theorem zk_400 : zck 0 (cX9_becomesRead.data.toList.drop 0) [(0, .aload_n 0, 1), (1, .aload_n 0, 1), (2, .getfield 93, 3), (5, .putfield 88, 3), (8, .iconst 0, 1), (9, .istore_n 1, 1), (10, .iload_n 1, 1), (11, .aload_n 0, 1), (12, .getfield 88, 3), (15, .if_icmp .ge 21, 3), (18, .aload_n 0, 1), (19, .getfield 49, 3)] = true := by decide +kernel
theorem zr_400 : decode cX9_becomesRead 0 = .ok (.aload_n 0, 1) ∧ decode cX9_becomesRead 1 = .ok (.aload_n 0, 1) ∧ decode cX9_becomesRead 2 = .ok (.getfield 93, 3) ∧ decode cX9_becomesRead 5 = .ok (.putfield 88, 3) ∧ decode cX9_becomesRead 8 = .ok (.iconst 0, 1) ∧ decode cX9_becomesRead 9 = .ok (.istore_n 1, 1) ∧ decode cX9_becomesRead 10 = .ok (.iload_n 1, 1) ∧ decode cX9_becomesRead 11 = .ok (.aload_n 0, 1) ∧ decode cX9_becomesRead 12 = .ok (.getfield 88, 3) ∧ decode cX9_becomesRead 15 = .ok (.if_icmp .ge 21, 3) ∧ decode cX9_becomesRead 18 = .ok (.aload_n 0, 1) ∧ decode cX9_becomesRead 19 = .ok (.getfield 49, 3) ∧ True := zj_of zk_400
abbrev dX9_becomesRead_0 := zr_400.1
abbrev dX9_becomesRead_1 := zr_400.2.1
abbrev dX9_becomesRead_2 := zr_400.2.2.1
abbrev dX9_becomesRead_5 := zr_400.2.2.2.1
abbrev dX9_becomesRead_8 := zr_400.2.2.2.2.1
abbrev dX9_becomesRead_9 := zr_400.2.2.2.2.2.1
abbrev dX9_becomesRead_10 := zr_400.2.2.2.2.2.2.1
abbrev dX9_becomesRead_11 := zr_400.2.2.2.2.2.2.2.1
abbrev dX9_becomesRead_12 := zr_400.2.2.2.2.2.2.2.2.1
abbrev dX9_becomesRead_15 := zr_400.2.2.2.2.2.2.2.2.2.1
abbrev dX9_becomesRead_18 := zr_400.2.2.2.2.2.2.2.2.2.2.1
abbrev dX9_becomesRead_19 := zr_400.2.2.2.2.2.2.2.2.2.2.2.1
set_option maxRecDepth 100000 in
theorem zk_401 : zck 22 (cX9_becomesRead.data.toList.drop 22) [(22, .iload_n 1, 1), (23, .aload_n 0, 1), (24, .getfield 52, 3), (27, .iload_n 1, 1), (28, .iaload, 1), (29, .iastore, 1), (30, .iinc 1 1, 3), (33, .goto (-23), 3), (36, .return_, 1)] = true := by decide +kernel
theorem zr_401 : decode cX9_becomesRead 22 = .ok (.iload_n 1, 1) ∧ decode cX9_becomesRead 23 = .ok (.aload_n 0, 1) ∧ decode cX9_becomesRead 24 = .ok (.getfield 52, 3) ∧ decode cX9_becomesRead 27 = .ok (.iload_n 1, 1) ∧ decode cX9_becomesRead 28 = .ok (.iaload, 1) ∧ decode cX9_becomesRead 29 = .ok (.iastore, 1) ∧ decode cX9_becomesRead 30 = .ok (.iinc 1 1, 3) ∧ decode cX9_becomesRead 33 = .ok (.goto (-23), 3) ∧ decode cX9_becomesRead 36 = .ok (.return_, 1) ∧ True := zj_of zk_401
abbrev dX9_becomesRead_22 := zr_401.1
abbrev dX9_becomesRead_23 := zr_401.2.1
abbrev dX9_becomesRead_24 := zr_401.2.2.1
abbrev dX9_becomesRead_27 := zr_401.2.2.2.1
abbrev dX9_becomesRead_28 := zr_401.2.2.2.2.1
abbrev dX9_becomesRead_29 := zr_401.2.2.2.2.2.1
abbrev dX9_becomesRead_30 := zr_401.2.2.2.2.2.2.1
abbrev dX9_becomesRead_33 := zr_401.2.2.2.2.2.2.2.1
abbrev dX9_becomesRead_36 := zr_401.2.2.2.2.2.2.2.2.1
set_option maxRecDepth 100000 in
theorem zk_402 : zck 0 (cX9_readsPart.data.toList.drop 0) [(0, .aload_n 0, 1), (1, .getfield 28, 3), (4, .istore_n 1, 1), (5, .aload_n 0, 1), (6, .iconst 3, 1), (7, .iconst 0, 1), (8, .sipush 255, 3), (11, .invokevirtual 96, 3), (14, .istore_n 2, 1), (15, .iload_n 2, 1), (16, .ifCond .ge 5, 3), (19, .iconst 0, 1)] = true := by decide +kernel
theorem zr_402 : decode cX9_readsPart 0 = .ok (.aload_n 0, 1) ∧ decode cX9_readsPart 1 = .ok (.getfield 28, 3) ∧ decode cX9_readsPart 4 = .ok (.istore_n 1, 1) ∧ decode cX9_readsPart 5 = .ok (.aload_n 0, 1) ∧ decode cX9_readsPart 6 = .ok (.iconst 3, 1) ∧ decode cX9_readsPart 7 = .ok (.iconst 0, 1) ∧ decode cX9_readsPart 8 = .ok (.sipush 255, 3) ∧ decode cX9_readsPart 11 = .ok (.invokevirtual 96, 3) ∧ decode cX9_readsPart 14 = .ok (.istore_n 2, 1) ∧ decode cX9_readsPart 15 = .ok (.iload_n 2, 1) ∧ decode cX9_readsPart 16 = .ok (.ifCond .ge 5, 3) ∧ decode cX9_readsPart 19 = .ok (.iconst 0, 1) ∧ True := zj_of zk_402
abbrev dX9_readsPart_0 := zr_402.1
abbrev dX9_readsPart_1 := zr_402.2.1
abbrev dX9_readsPart_4 := zr_402.2.2.1
abbrev dX9_readsPart_5 := zr_402.2.2.2.1
abbrev dX9_readsPart_6 := zr_402.2.2.2.2.1
abbrev dX9_readsPart_7 := zr_402.2.2.2.2.2.1
abbrev dX9_readsPart_8 := zr_402.2.2.2.2.2.2.1
abbrev dX9_readsPart_11 := zr_402.2.2.2.2.2.2.2.1
abbrev dX9_readsPart_14 := zr_402.2.2.2.2.2.2.2.2.1
abbrev dX9_readsPart_15 := zr_402.2.2.2.2.2.2.2.2.2.1
abbrev dX9_readsPart_16 := zr_402.2.2.2.2.2.2.2.2.2.2.1
abbrev dX9_readsPart_19 := zr_402.2.2.2.2.2.2.2.2.2.2.2.1
set_option maxRecDepth 100000 in
theorem zk_403 : zck 20 (cX9_readsPart.data.toList.drop 20) [(20, .ireturn, 1), (21, .iconst 1, 1), (22, .istore_n 3, 1), (23, .aload_n 0, 1), (24, .bipush 120, 2), (26, .invokevirtual 99, 3), (29, .ifCond .eq 18, 3), (32, .aload_n 0, 1), (33, .iconst 2, 1), (34, .iconst 1, 1), (35, .bipush 64, 2), (37, .invokevirtual 96, 3)] = true := by decide +kernel
theorem zr_403 : decode cX9_readsPart 20 = .ok (.ireturn, 1) ∧ decode cX9_readsPart 21 = .ok (.iconst 1, 1) ∧ decode cX9_readsPart 22 = .ok (.istore_n 3, 1) ∧ decode cX9_readsPart 23 = .ok (.aload_n 0, 1) ∧ decode cX9_readsPart 24 = .ok (.bipush 120, 2) ∧ decode cX9_readsPart 26 = .ok (.invokevirtual 99, 3) ∧ decode cX9_readsPart 29 = .ok (.ifCond .eq 18, 3) ∧ decode cX9_readsPart 32 = .ok (.aload_n 0, 1) ∧ decode cX9_readsPart 33 = .ok (.iconst 2, 1) ∧ decode cX9_readsPart 34 = .ok (.iconst 1, 1) ∧ decode cX9_readsPart 35 = .ok (.bipush 64, 2) ∧ decode cX9_readsPart 37 = .ok (.invokevirtual 96, 3) ∧ True := zj_of zk_403
abbrev dX9_readsPart_20 := zr_403.1
abbrev dX9_readsPart_21 := zr_403.2.1
abbrev dX9_readsPart_22 := zr_403.2.2.1
abbrev dX9_readsPart_23 := zr_403.2.2.2.1
abbrev dX9_readsPart_24 := zr_403.2.2.2.2.1
abbrev dX9_readsPart_26 := zr_403.2.2.2.2.2.1
abbrev dX9_readsPart_29 := zr_403.2.2.2.2.2.2.1
abbrev dX9_readsPart_32 := zr_403.2.2.2.2.2.2.2.1
abbrev dX9_readsPart_33 := zr_403.2.2.2.2.2.2.2.2.1
abbrev dX9_readsPart_34 := zr_403.2.2.2.2.2.2.2.2.2.1
abbrev dX9_readsPart_35 := zr_403.2.2.2.2.2.2.2.2.2.2.1
abbrev dX9_readsPart_37 := zr_403.2.2.2.2.2.2.2.2.2.2.2.1
set_option maxRecDepth 100000 in
theorem zk_404 : zck 40 (cX9_readsPart.data.toList.drop 40) [(40, .istore_n 3, 1), (41, .iload_n 3, 1), (42, .ifCond .ge 5, 3), (45, .iconst 0, 1), (46, .ireturn, 1), (47, .aload_n 0, 1), (48, .getfield 93, 3), (51, .iload_n 3, 1), (52, .iadd, 1), (53, .bipush 64, 2), (55, .if_icmp .le 10, 3), (58, .aload_n 0, 1)] = true := by decide +kernel
theorem zr_404 : decode cX9_readsPart 40 = .ok (.istore_n 3, 1) ∧ decode cX9_readsPart 41 = .ok (.iload_n 3, 1) ∧ decode cX9_readsPart 42 = .ok (.ifCond .ge 5, 3) ∧ decode cX9_readsPart 45 = .ok (.iconst 0, 1) ∧ decode cX9_readsPart 46 = .ok (.ireturn, 1) ∧ decode cX9_readsPart 47 = .ok (.aload_n 0, 1) ∧ decode cX9_readsPart 48 = .ok (.getfield 93, 3) ∧ decode cX9_readsPart 51 = .ok (.iload_n 3, 1) ∧ decode cX9_readsPart 52 = .ok (.iadd, 1) ∧ decode cX9_readsPart 53 = .ok (.bipush 64, 2) ∧ decode cX9_readsPart 55 = .ok (.if_icmp .le 10, 3) ∧ decode cX9_readsPart 58 = .ok (.aload_n 0, 1) ∧ True := zj_of zk_404
abbrev dX9_readsPart_40 := zr_404.1
abbrev dX9_readsPart_41 := zr_404.2.1
abbrev dX9_readsPart_42 := zr_404.2.2.1
abbrev dX9_readsPart_45 := zr_404.2.2.2.1
abbrev dX9_readsPart_46 := zr_404.2.2.2.2.1
abbrev dX9_readsPart_47 := zr_404.2.2.2.2.2.1
abbrev dX9_readsPart_48 := zr_404.2.2.2.2.2.2.1
abbrev dX9_readsPart_51 := zr_404.2.2.2.2.2.2.2.1
abbrev dX9_readsPart_52 := zr_404.2.2.2.2.2.2.2.2.1
abbrev dX9_readsPart_53 := zr_404.2.2.2.2.2.2.2.2.2.1
abbrev dX9_readsPart_55 := zr_404.2.2.2.2.2.2.2.2.2.2.1
abbrev dX9_readsPart_58 := zr_404.2.2.2.2.2.2.2.2.2.2.2.1
set_option maxRecDepth 100000 in
theorem zk_405 : zck 59 (cX9_readsPart.data.toList.drop 59) [(59, .iload_n 1, 1), (60, .putfield 28, 3), (63, .iconst 0, 1), (64, .ireturn, 1), (65, .aload_n 0, 1), (66, .getfield 28, 3), (69, .aload_n 0, 1), (70, .getfield 25, 3), (73, .if_icmp .ge 19, 3), (76, .aload_n 0, 1), (77, .getfield 17, 3), (80, .aload_n 0, 1)] = true := by decide +kernel
theorem zr_405 : decode cX9_readsPart 59 = .ok (.iload_n 1, 1) ∧ decode cX9_readsPart 60 = .ok (.putfield 28, 3) ∧ decode cX9_readsPart 63 = .ok (.iconst 0, 1) ∧ decode cX9_readsPart 64 = .ok (.ireturn, 1) ∧ decode cX9_readsPart 65 = .ok (.aload_n 0, 1) ∧ decode cX9_readsPart 66 = .ok (.getfield 28, 3) ∧ decode cX9_readsPart 69 = .ok (.aload_n 0, 1) ∧ decode cX9_readsPart 70 = .ok (.getfield 25, 3) ∧ decode cX9_readsPart 73 = .ok (.if_icmp .ge 19, 3) ∧ decode cX9_readsPart 76 = .ok (.aload_n 0, 1) ∧ decode cX9_readsPart 77 = .ok (.getfield 17, 3) ∧ decode cX9_readsPart 80 = .ok (.aload_n 0, 1) ∧ True := zj_of zk_405
abbrev dX9_readsPart_59 := zr_405.1
abbrev dX9_readsPart_60 := zr_405.2.1
abbrev dX9_readsPart_63 := zr_405.2.2.1
abbrev dX9_readsPart_64 := zr_405.2.2.2.1
abbrev dX9_readsPart_65 := zr_405.2.2.2.2.1
abbrev dX9_readsPart_66 := zr_405.2.2.2.2.2.1
abbrev dX9_readsPart_69 := zr_405.2.2.2.2.2.2.1
abbrev dX9_readsPart_70 := zr_405.2.2.2.2.2.2.2.1
abbrev dX9_readsPart_73 := zr_405.2.2.2.2.2.2.2.2.1
abbrev dX9_readsPart_76 := zr_405.2.2.2.2.2.2.2.2.2.1
abbrev dX9_readsPart_77 := zr_405.2.2.2.2.2.2.2.2.2.2.1
abbrev dX9_readsPart_80 := zr_405.2.2.2.2.2.2.2.2.2.2.2.1
set_option maxRecDepth 100000 in
theorem zk_406 : zck 81 (cX9_readsPart.data.toList.drop 81) [(81, .getfield 28, 3), (84, .iaload, 1), (85, .bipush 44, 2), (87, .if_icmp .eq 5, 3), (90, .iconst 0, 1), (91, .ireturn, 1), (92, .iconst 0, 1), (93, .istore 4, 2), (95, .iload 4, 2), (97, .iload_n 3, 1), (98, .if_icmp .ge 29, 3), (101, .aload_n 0, 1)] = true := by decide +kernel
theorem zr_406 : decode cX9_readsPart 81 = .ok (.getfield 28, 3) ∧ decode cX9_readsPart 84 = .ok (.iaload, 1) ∧ decode cX9_readsPart 85 = .ok (.bipush 44, 2) ∧ decode cX9_readsPart 87 = .ok (.if_icmp .eq 5, 3) ∧ decode cX9_readsPart 90 = .ok (.iconst 0, 1) ∧ decode cX9_readsPart 91 = .ok (.ireturn, 1) ∧ decode cX9_readsPart 92 = .ok (.iconst 0, 1) ∧ decode cX9_readsPart 93 = .ok (.istore 4, 2) ∧ decode cX9_readsPart 95 = .ok (.iload 4, 2) ∧ decode cX9_readsPart 97 = .ok (.iload_n 3, 1) ∧ decode cX9_readsPart 98 = .ok (.if_icmp .ge 29, 3) ∧ decode cX9_readsPart 101 = .ok (.aload_n 0, 1) ∧ True := zj_of zk_406
abbrev dX9_readsPart_81 := zr_406.1
abbrev dX9_readsPart_84 := zr_406.2.1
abbrev dX9_readsPart_85 := zr_406.2.2.1
abbrev dX9_readsPart_87 := zr_406.2.2.2.1
abbrev dX9_readsPart_90 := zr_406.2.2.2.2.1
abbrev dX9_readsPart_91 := zr_406.2.2.2.2.2.1
abbrev dX9_readsPart_92 := zr_406.2.2.2.2.2.2.1
abbrev dX9_readsPart_93 := zr_406.2.2.2.2.2.2.2.1
abbrev dX9_readsPart_95 := zr_406.2.2.2.2.2.2.2.2.1
abbrev dX9_readsPart_97 := zr_406.2.2.2.2.2.2.2.2.2.1
abbrev dX9_readsPart_98 := zr_406.2.2.2.2.2.2.2.2.2.2.1
abbrev dX9_readsPart_101 := zr_406.2.2.2.2.2.2.2.2.2.2.2.1
set_option maxRecDepth 100000 in
theorem zk_407 : zck 102 (cX9_readsPart.data.toList.drop 102) [(102, .getfield 52, 3), (105, .aload_n 0, 1), (106, .getfield 93, 3), (109, .iload_n 2, 1), (110, .iastore, 1), (111, .aload_n 0, 1), (112, .dup, 1), (113, .getfield 93, 3), (116, .iconst 1, 1), (117, .iadd, 1), (118, .putfield 93, 3), (121, .iinc 4 1, 3)] = true := by decide +kernel
theorem zr_407 : decode cX9_readsPart 102 = .ok (.getfield 52, 3) ∧ decode cX9_readsPart 105 = .ok (.aload_n 0, 1) ∧ decode cX9_readsPart 106 = .ok (.getfield 93, 3) ∧ decode cX9_readsPart 109 = .ok (.iload_n 2, 1) ∧ decode cX9_readsPart 110 = .ok (.iastore, 1) ∧ decode cX9_readsPart 111 = .ok (.aload_n 0, 1) ∧ decode cX9_readsPart 112 = .ok (.dup, 1) ∧ decode cX9_readsPart 113 = .ok (.getfield 93, 3) ∧ decode cX9_readsPart 116 = .ok (.iconst 1, 1) ∧ decode cX9_readsPart 117 = .ok (.iadd, 1) ∧ decode cX9_readsPart 118 = .ok (.putfield 93, 3) ∧ decode cX9_readsPart 121 = .ok (.iinc 4 1, 3) ∧ True := zj_of zk_407
abbrev dX9_readsPart_102 := zr_407.1
abbrev dX9_readsPart_105 := zr_407.2.1
abbrev dX9_readsPart_106 := zr_407.2.2.1
abbrev dX9_readsPart_109 := zr_407.2.2.2.1
abbrev dX9_readsPart_110 := zr_407.2.2.2.2.1
abbrev dX9_readsPart_111 := zr_407.2.2.2.2.2.1
abbrev dX9_readsPart_112 := zr_407.2.2.2.2.2.2.1
abbrev dX9_readsPart_113 := zr_407.2.2.2.2.2.2.2.1
abbrev dX9_readsPart_116 := zr_407.2.2.2.2.2.2.2.2.1
abbrev dX9_readsPart_117 := zr_407.2.2.2.2.2.2.2.2.2.1
abbrev dX9_readsPart_118 := zr_407.2.2.2.2.2.2.2.2.2.2.1
abbrev dX9_readsPart_121 := zr_407.2.2.2.2.2.2.2.2.2.2.2.1
set_option maxRecDepth 100000 in
theorem zk_408 : zck 124 (cX9_readsPart.data.toList.drop 124) [(124, .goto (-29), 3), (127, .iconst 1, 1), (128, .ireturn, 1)] = true := by decide +kernel
theorem zr_408 : decode cX9_readsPart 124 = .ok (.goto (-29), 3) ∧ decode cX9_readsPart 127 = .ok (.iconst 1, 1) ∧ decode cX9_readsPart 128 = .ok (.ireturn, 1) ∧ True := zj_of zk_408
abbrev dX9_readsPart_124 := zr_408.1
abbrev dX9_readsPart_127 := zr_408.2.1
abbrev dX9_readsPart_128 := zr_408.2.2.1
set_option maxRecDepth 100000 in
theorem zk_409 : zck 0 (cX9_column.data.toList.drop 0) [(0, .aload_n 0, 1), (1, .iconst 0, 1), (2, .putfield 1, 3), (5, .aload_n 0, 1), (6, .invokevirtual 103, 3), (9, .aload_n 0, 1), (10, .iconst 0, 1), (11, .putfield 93, 3), (14, .aload_n 0, 1), (15, .getfield 25, 3), (18, .ifCond .le 7, 3), (21, .iconst 1, 1)] = true := by decide +kernel
theorem zr_409 : decode cX9_column 0 = .ok (.aload_n 0, 1) ∧ decode cX9_column 1 = .ok (.iconst 0, 1) ∧ decode cX9_column 2 = .ok (.putfield 1, 3) ∧ decode cX9_column 5 = .ok (.aload_n 0, 1) ∧ decode cX9_column 6 = .ok (.invokevirtual 103, 3) ∧ decode cX9_column 9 = .ok (.aload_n 0, 1) ∧ decode cX9_column 10 = .ok (.iconst 0, 1) ∧ decode cX9_column 11 = .ok (.putfield 93, 3) ∧ decode cX9_column 14 = .ok (.aload_n 0, 1) ∧ decode cX9_column 15 = .ok (.getfield 25, 3) ∧ decode cX9_column 18 = .ok (.ifCond .le 7, 3) ∧ decode cX9_column 21 = .ok (.iconst 1, 1) ∧ True := zj_of zk_409
abbrev dX9_column_0 := zr_409.1
abbrev dX9_column_1 := zr_409.2.1
abbrev dX9_column_2 := zr_409.2.2.1
abbrev dX9_column_5 := zr_409.2.2.2.1
abbrev dX9_column_6 := zr_409.2.2.2.2.1
abbrev dX9_column_9 := zr_409.2.2.2.2.2.1
abbrev dX9_column_10 := zr_409.2.2.2.2.2.2.1
abbrev dX9_column_11 := zr_409.2.2.2.2.2.2.2.1
abbrev dX9_column_14 := zr_409.2.2.2.2.2.2.2.2.1
abbrev dX9_column_15 := zr_409.2.2.2.2.2.2.2.2.2.1
abbrev dX9_column_18 := zr_409.2.2.2.2.2.2.2.2.2.2.1
abbrev dX9_column_21 := zr_409.2.2.2.2.2.2.2.2.2.2.2.1
set_option maxRecDepth 100000 in
theorem zk_410 : zck 22 (cX9_column.data.toList.drop 22) [(22, .goto 4, 3), (25, .iconst 0, 1), (26, .istore_n 1, 1), (27, .iload_n 1, 1), (28, .ifCond .eq 27, 3), (31, .aload_n 0, 1), (32, .invokevirtual 106, 3), (35, .ifCond .ne 10, 3), (38, .iconst (-1), 1), (39, .aload_n 0, 1), (40, .getfield 28, 3), (43, .isub, 1)] = true := by decide +kernel
theorem zr_410 : decode cX9_column 22 = .ok (.goto 4, 3) ∧ decode cX9_column 25 = .ok (.iconst 0, 1) ∧ decode cX9_column 26 = .ok (.istore_n 1, 1) ∧ decode cX9_column 27 = .ok (.iload_n 1, 1) ∧ decode cX9_column 28 = .ok (.ifCond .eq 27, 3) ∧ decode cX9_column 31 = .ok (.aload_n 0, 1) ∧ decode cX9_column 32 = .ok (.invokevirtual 106, 3) ∧ decode cX9_column 35 = .ok (.ifCond .ne 10, 3) ∧ decode cX9_column 38 = .ok (.iconst (-1), 1) ∧ decode cX9_column 39 = .ok (.aload_n 0, 1) ∧ decode cX9_column 40 = .ok (.getfield 28, 3) ∧ decode cX9_column 43 = .ok (.isub, 1) ∧ True := zj_of zk_410
abbrev dX9_column_22 := zr_410.1
abbrev dX9_column_25 := zr_410.2.1
abbrev dX9_column_26 := zr_410.2.2.1
abbrev dX9_column_27 := zr_410.2.2.2.1
abbrev dX9_column_28 := zr_410.2.2.2.2.1
abbrev dX9_column_31 := zr_410.2.2.2.2.2.1
abbrev dX9_column_32 := zr_410.2.2.2.2.2.2.1
abbrev dX9_column_35 := zr_410.2.2.2.2.2.2.2.1
abbrev dX9_column_38 := zr_410.2.2.2.2.2.2.2.2.1
abbrev dX9_column_39 := zr_410.2.2.2.2.2.2.2.2.2.1
abbrev dX9_column_40 := zr_410.2.2.2.2.2.2.2.2.2.2.1
abbrev dX9_column_43 := zr_410.2.2.2.2.2.2.2.2.2.2.2.1
set_option maxRecDepth 100000 in
theorem zk_411 : zck 44 (cX9_column.data.toList.drop 44) [(44, .ireturn, 1), (45, .aload_n 0, 1), (46, .bipush 44, 2), (48, .invokevirtual 99, 3), (51, .istore_n 1, 1), (52, .goto (-25), 3), (55, .aload_n 0, 1), (56, .invokevirtual 109, 3), (59, .aload_n 0, 1), (60, .getfield 88, 3), (63, .ireturn, 1)] = true := by decide +kernel
theorem zr_411 : decode cX9_column 44 = .ok (.ireturn, 1) ∧ decode cX9_column 45 = .ok (.aload_n 0, 1) ∧ decode cX9_column 46 = .ok (.bipush 44, 2) ∧ decode cX9_column 48 = .ok (.invokevirtual 99, 3) ∧ decode cX9_column 51 = .ok (.istore_n 1, 1) ∧ decode cX9_column 52 = .ok (.goto (-25), 3) ∧ decode cX9_column 55 = .ok (.aload_n 0, 1) ∧ decode cX9_column 56 = .ok (.invokevirtual 109, 3) ∧ decode cX9_column 59 = .ok (.aload_n 0, 1) ∧ decode cX9_column 60 = .ok (.getfield 88, 3) ∧ decode cX9_column 63 = .ok (.ireturn, 1) ∧ True := zj_of zk_411
abbrev dX9_column_44 := zr_411.1
abbrev dX9_column_45 := zr_411.2.1
abbrev dX9_column_46 := zr_411.2.2.1
abbrev dX9_column_48 := zr_411.2.2.2.1
abbrev dX9_column_51 := zr_411.2.2.2.2.1
abbrev dX9_column_52 := zr_411.2.2.2.2.2.1
abbrev dX9_column_55 := zr_411.2.2.2.2.2.2.1
abbrev dX9_column_56 := zr_411.2.2.2.2.2.2.2.1
abbrev dX9_column_59 := zr_411.2.2.2.2.2.2.2.2.1
abbrev dX9_column_60 := zr_411.2.2.2.2.2.2.2.2.2.1
abbrev dX9_column_63 := zr_411.2.2.2.2.2.2.2.2.2.2.1
set_option maxRecDepth 100000 in
theorem zk_412 : zck 0 (cX9_readsRow.data.toList.drop 0) [(0, .iconst 0, 1), (1, .istore_n 2, 1), (2, .aload_n 0, 1), (3, .getfield 28, 3), (6, .aload_n 0, 1), (7, .getfield 25, 3), (10, .if_icmp .ge 87, 3), (13, .aload_n 0, 1), (14, .getfield 17, 3), (17, .aload_n 0, 1), (18, .getfield 28, 3), (21, .iaload, 1)] = true := by decide +kernel
theorem zr_412 : decode cX9_readsRow 0 = .ok (.iconst 0, 1) ∧ decode cX9_readsRow 1 = .ok (.istore_n 2, 1) ∧ decode cX9_readsRow 2 = .ok (.aload_n 0, 1) ∧ decode cX9_readsRow 3 = .ok (.getfield 28, 3) ∧ decode cX9_readsRow 6 = .ok (.aload_n 0, 1) ∧ decode cX9_readsRow 7 = .ok (.getfield 25, 3) ∧ decode cX9_readsRow 10 = .ok (.if_icmp .ge 87, 3) ∧ decode cX9_readsRow 13 = .ok (.aload_n 0, 1) ∧ decode cX9_readsRow 14 = .ok (.getfield 17, 3) ∧ decode cX9_readsRow 17 = .ok (.aload_n 0, 1) ∧ decode cX9_readsRow 18 = .ok (.getfield 28, 3) ∧ decode cX9_readsRow 21 = .ok (.iaload, 1) ∧ True := zj_of zk_412
abbrev dX9_readsRow_0 := zr_412.1
abbrev dX9_readsRow_1 := zr_412.2.1
abbrev dX9_readsRow_2 := zr_412.2.2.1
abbrev dX9_readsRow_3 := zr_412.2.2.2.1
abbrev dX9_readsRow_6 := zr_412.2.2.2.2.1
abbrev dX9_readsRow_7 := zr_412.2.2.2.2.2.1
abbrev dX9_readsRow_10 := zr_412.2.2.2.2.2.2.1
abbrev dX9_readsRow_13 := zr_412.2.2.2.2.2.2.2.1
abbrev dX9_readsRow_14 := zr_412.2.2.2.2.2.2.2.2.1
abbrev dX9_readsRow_17 := zr_412.2.2.2.2.2.2.2.2.2.1
abbrev dX9_readsRow_18 := zr_412.2.2.2.2.2.2.2.2.2.2.1
abbrev dX9_readsRow_21 := zr_412.2.2.2.2.2.2.2.2.2.2.2.1
set_option maxRecDepth 100000 in
theorem zk_413 : zck 22 (cX9_readsRow.data.toList.drop 22) [(22, .bipush 48, 2), (24, .if_icmp .eq 17, 3), (27, .aload_n 0, 1), (28, .getfield 17, 3), (31, .aload_n 0, 1), (32, .getfield 28, 3), (35, .iaload, 1), (36, .bipush 49, 2), (38, .if_icmp .ne 59, 3), (41, .iload_n 2, 1), (42, .iload_n 1, 1), (43, .ifCond .ne 8, 3)] = true := by decide +kernel
theorem zr_413 : decode cX9_readsRow 22 = .ok (.bipush 48, 2) ∧ decode cX9_readsRow 24 = .ok (.if_icmp .eq 17, 3) ∧ decode cX9_readsRow 27 = .ok (.aload_n 0, 1) ∧ decode cX9_readsRow 28 = .ok (.getfield 17, 3) ∧ decode cX9_readsRow 31 = .ok (.aload_n 0, 1) ∧ decode cX9_readsRow 32 = .ok (.getfield 28, 3) ∧ decode cX9_readsRow 35 = .ok (.iaload, 1) ∧ decode cX9_readsRow 36 = .ok (.bipush 49, 2) ∧ decode cX9_readsRow 38 = .ok (.if_icmp .ne 59, 3) ∧ decode cX9_readsRow 41 = .ok (.iload_n 2, 1) ∧ decode cX9_readsRow 42 = .ok (.iload_n 1, 1) ∧ decode cX9_readsRow 43 = .ok (.ifCond .ne 8, 3) ∧ True := zj_of zk_413
abbrev dX9_readsRow_22 := zr_413.1
abbrev dX9_readsRow_24 := zr_413.2.1
abbrev dX9_readsRow_27 := zr_413.2.2.1
abbrev dX9_readsRow_28 := zr_413.2.2.2.1
abbrev dX9_readsRow_31 := zr_413.2.2.2.2.1
abbrev dX9_readsRow_32 := zr_413.2.2.2.2.2.1
abbrev dX9_readsRow_35 := zr_413.2.2.2.2.2.2.1
abbrev dX9_readsRow_36 := zr_413.2.2.2.2.2.2.2.1
abbrev dX9_readsRow_38 := zr_413.2.2.2.2.2.2.2.2.1
abbrev dX9_readsRow_41 := zr_413.2.2.2.2.2.2.2.2.2.1
abbrev dX9_readsRow_42 := zr_413.2.2.2.2.2.2.2.2.2.2.1
abbrev dX9_readsRow_43 := zr_413.2.2.2.2.2.2.2.2.2.2.2.1
set_option maxRecDepth 100000 in
theorem zk_414 : zck 46 (cX9_readsRow.data.toList.drop 46) [(46, .bipush 11, 2), (48, .goto 7, 3), (51, .aload_n 0, 1), (52, .getfield 93, 3), (55, .if_icmp .ge 42, 3), (58, .aload_n 0, 1), (59, .getfield 55, 3), (62, .bipush 11, 2), (64, .iload_n 1, 1), (65, .imul, 1), (66, .iload_n 2, 1), (67, .iadd, 1)] = true := by decide +kernel
theorem zr_414 : decode cX9_readsRow 46 = .ok (.bipush 11, 2) ∧ decode cX9_readsRow 48 = .ok (.goto 7, 3) ∧ decode cX9_readsRow 51 = .ok (.aload_n 0, 1) ∧ decode cX9_readsRow 52 = .ok (.getfield 93, 3) ∧ decode cX9_readsRow 55 = .ok (.if_icmp .ge 42, 3) ∧ decode cX9_readsRow 58 = .ok (.aload_n 0, 1) ∧ decode cX9_readsRow 59 = .ok (.getfield 55, 3) ∧ decode cX9_readsRow 62 = .ok (.bipush 11, 2) ∧ decode cX9_readsRow 64 = .ok (.iload_n 1, 1) ∧ decode cX9_readsRow 65 = .ok (.imul, 1) ∧ decode cX9_readsRow 66 = .ok (.iload_n 2, 1) ∧ decode cX9_readsRow 67 = .ok (.iadd, 1) ∧ True := zj_of zk_414
abbrev dX9_readsRow_46 := zr_414.1
abbrev dX9_readsRow_48 := zr_414.2.1
abbrev dX9_readsRow_51 := zr_414.2.2.1
abbrev dX9_readsRow_52 := zr_414.2.2.2.1
abbrev dX9_readsRow_55 := zr_414.2.2.2.2.1
abbrev dX9_readsRow_58 := zr_414.2.2.2.2.2.1
abbrev dX9_readsRow_59 := zr_414.2.2.2.2.2.2.1
abbrev dX9_readsRow_62 := zr_414.2.2.2.2.2.2.2.1
abbrev dX9_readsRow_64 := zr_414.2.2.2.2.2.2.2.2.1
abbrev dX9_readsRow_65 := zr_414.2.2.2.2.2.2.2.2.2.1
abbrev dX9_readsRow_66 := zr_414.2.2.2.2.2.2.2.2.2.2.1
abbrev dX9_readsRow_67 := zr_414.2.2.2.2.2.2.2.2.2.2.2.1
set_option maxRecDepth 100000 in
theorem zk_415 : zck 68 (cX9_readsRow.data.toList.drop 68) [(68, .aload_n 0, 1), (69, .getfield 17, 3), (72, .aload_n 0, 1), (73, .getfield 28, 3), (76, .iaload, 1), (77, .bipush 48, 2), (79, .isub, 1), (80, .iastore, 1), (81, .aload_n 0, 1), (82, .dup, 1), (83, .getfield 28, 3), (86, .iconst 1, 1)] = true := by decide +kernel
theorem zr_415 : decode cX9_readsRow 68 = .ok (.aload_n 0, 1) ∧ decode cX9_readsRow 69 = .ok (.getfield 17, 3) ∧ decode cX9_readsRow 72 = .ok (.aload_n 0, 1) ∧ decode cX9_readsRow 73 = .ok (.getfield 28, 3) ∧ decode cX9_readsRow 76 = .ok (.iaload, 1) ∧ decode cX9_readsRow 77 = .ok (.bipush 48, 2) ∧ decode cX9_readsRow 79 = .ok (.isub, 1) ∧ decode cX9_readsRow 80 = .ok (.iastore, 1) ∧ decode cX9_readsRow 81 = .ok (.aload_n 0, 1) ∧ decode cX9_readsRow 82 = .ok (.dup, 1) ∧ decode cX9_readsRow 83 = .ok (.getfield 28, 3) ∧ decode cX9_readsRow 86 = .ok (.iconst 1, 1) ∧ True := zj_of zk_415
abbrev dX9_readsRow_68 := zr_415.1
abbrev dX9_readsRow_69 := zr_415.2.1
abbrev dX9_readsRow_72 := zr_415.2.2.1
abbrev dX9_readsRow_73 := zr_415.2.2.2.1
abbrev dX9_readsRow_76 := zr_415.2.2.2.2.1
abbrev dX9_readsRow_77 := zr_415.2.2.2.2.2.1
abbrev dX9_readsRow_79 := zr_415.2.2.2.2.2.2.1
abbrev dX9_readsRow_80 := zr_415.2.2.2.2.2.2.2.1
abbrev dX9_readsRow_81 := zr_415.2.2.2.2.2.2.2.2.1
abbrev dX9_readsRow_82 := zr_415.2.2.2.2.2.2.2.2.2.1
abbrev dX9_readsRow_83 := zr_415.2.2.2.2.2.2.2.2.2.2.1
abbrev dX9_readsRow_86 := zr_415.2.2.2.2.2.2.2.2.2.2.2.1
set_option maxRecDepth 100000 in
theorem zk_416 : zck 87 (cX9_readsRow.data.toList.drop 87) [(87, .iadd, 1), (88, .putfield 28, 3), (91, .iinc 2 1, 3), (94, .goto (-92), 3), (97, .iload_n 1, 1), (98, .ifCond .ne 8, 3), (101, .aload_n 0, 1), (102, .iload_n 2, 1), (103, .putfield 93, 3), (106, .iload_n 2, 1), (107, .aload_n 0, 1), (108, .getfield 93, 3)] = true := by decide +kernel
theorem zr_416 : decode cX9_readsRow 87 = .ok (.iadd, 1) ∧ decode cX9_readsRow 88 = .ok (.putfield 28, 3) ∧ decode cX9_readsRow 91 = .ok (.iinc 2 1, 3) ∧ decode cX9_readsRow 94 = .ok (.goto (-92), 3) ∧ decode cX9_readsRow 97 = .ok (.iload_n 1, 1) ∧ decode cX9_readsRow 98 = .ok (.ifCond .ne 8, 3) ∧ decode cX9_readsRow 101 = .ok (.aload_n 0, 1) ∧ decode cX9_readsRow 102 = .ok (.iload_n 2, 1) ∧ decode cX9_readsRow 103 = .ok (.putfield 93, 3) ∧ decode cX9_readsRow 106 = .ok (.iload_n 2, 1) ∧ decode cX9_readsRow 107 = .ok (.aload_n 0, 1) ∧ decode cX9_readsRow 108 = .ok (.getfield 93, 3) ∧ True := zj_of zk_416
abbrev dX9_readsRow_87 := zr_416.1
abbrev dX9_readsRow_88 := zr_416.2.1
abbrev dX9_readsRow_91 := zr_416.2.2.1
abbrev dX9_readsRow_94 := zr_416.2.2.2.1
abbrev dX9_readsRow_97 := zr_416.2.2.2.2.1
abbrev dX9_readsRow_98 := zr_416.2.2.2.2.2.1
abbrev dX9_readsRow_101 := zr_416.2.2.2.2.2.2.1
abbrev dX9_readsRow_102 := zr_416.2.2.2.2.2.2.2.1
abbrev dX9_readsRow_103 := zr_416.2.2.2.2.2.2.2.2.1
abbrev dX9_readsRow_106 := zr_416.2.2.2.2.2.2.2.2.2.1
abbrev dX9_readsRow_107 := zr_416.2.2.2.2.2.2.2.2.2.2.1
abbrev dX9_readsRow_108 := zr_416.2.2.2.2.2.2.2.2.2.2.2.1
set_option maxRecDepth 100000 in
theorem zk_417 : zck 111 (cX9_readsRow.data.toList.drop 111) [(111, .if_icmp .ne 36, 3), (114, .iload_n 1, 1), (115, .bipush 7, 2), (117, .if_icmp .ge 15, 3), (120, .aload_n 0, 1), (121, .bipush 47, 2), (123, .invokevirtual 99, 3), (126, .ifCond .eq 21, 3), (129, .goto 14, 3), (132, .aload_n 0, 1), (133, .getfield 28, 3), (136, .aload_n 0, 1)] = true := by decide +kernel
theorem zr_417 : decode cX9_readsRow 111 = .ok (.if_icmp .ne 36, 3) ∧ decode cX9_readsRow 114 = .ok (.iload_n 1, 1) ∧ decode cX9_readsRow 115 = .ok (.bipush 7, 2) ∧ decode cX9_readsRow 117 = .ok (.if_icmp .ge 15, 3) ∧ decode cX9_readsRow 120 = .ok (.aload_n 0, 1) ∧ decode cX9_readsRow 121 = .ok (.bipush 47, 2) ∧ decode cX9_readsRow 123 = .ok (.invokevirtual 99, 3) ∧ decode cX9_readsRow 126 = .ok (.ifCond .eq 21, 3) ∧ decode cX9_readsRow 129 = .ok (.goto 14, 3) ∧ decode cX9_readsRow 132 = .ok (.aload_n 0, 1) ∧ decode cX9_readsRow 133 = .ok (.getfield 28, 3) ∧ decode cX9_readsRow 136 = .ok (.aload_n 0, 1) ∧ True := zj_of zk_417
abbrev dX9_readsRow_111 := zr_417.1
abbrev dX9_readsRow_114 := zr_417.2.1
abbrev dX9_readsRow_115 := zr_417.2.2.1
abbrev dX9_readsRow_117 := zr_417.2.2.2.1
abbrev dX9_readsRow_120 := zr_417.2.2.2.2.1
abbrev dX9_readsRow_121 := zr_417.2.2.2.2.2.1
abbrev dX9_readsRow_123 := zr_417.2.2.2.2.2.2.1
abbrev dX9_readsRow_126 := zr_417.2.2.2.2.2.2.2.1
abbrev dX9_readsRow_129 := zr_417.2.2.2.2.2.2.2.2.1
abbrev dX9_readsRow_132 := zr_417.2.2.2.2.2.2.2.2.2.1
abbrev dX9_readsRow_133 := zr_417.2.2.2.2.2.2.2.2.2.2.1
abbrev dX9_readsRow_136 := zr_417.2.2.2.2.2.2.2.2.2.2.2.1
set_option maxRecDepth 100000 in
theorem zk_418 : zck 137 (cX9_readsRow.data.toList.drop 137) [(137, .getfield 25, 3), (140, .if_icmp .ne 7, 3), (143, .iconst 1, 1), (144, .goto 4, 3), (147, .iconst 0, 1), (148, .ireturn, 1)] = true := by decide +kernel
theorem zr_418 : decode cX9_readsRow 137 = .ok (.getfield 25, 3) ∧ decode cX9_readsRow 140 = .ok (.if_icmp .ne 7, 3) ∧ decode cX9_readsRow 143 = .ok (.iconst 1, 1) ∧ decode cX9_readsRow 144 = .ok (.goto 4, 3) ∧ decode cX9_readsRow 147 = .ok (.iconst 0, 1) ∧ decode cX9_readsRow 148 = .ok (.ireturn, 1) ∧ True := zj_of zk_418
abbrev dX9_readsRow_137 := zr_418.1
abbrev dX9_readsRow_140 := zr_418.2.1
abbrev dX9_readsRow_143 := zr_418.2.2.1
abbrev dX9_readsRow_144 := zr_418.2.2.2.1
abbrev dX9_readsRow_147 := zr_418.2.2.2.2.1
abbrev dX9_readsRow_148 := zr_418.2.2.2.2.2.1
set_option maxRecDepth 100000 in
theorem zk_419 : zck 0 (cX9_planes.data.toList.drop 0) [(0, .aload_n 0, 1), (1, .iconst 0, 1), (2, .putfield 1, 3), (5, .aload_n 0, 1), (6, .invokevirtual 103, 3), (9, .aload_n 0, 1), (10, .iconst 0, 1), (11, .putfield 93, 3), (14, .iconst 0, 1), (15, .istore_n 1, 1), (16, .iload_n 1, 1), (17, .bipush 8, 2)] = true := by decide +kernel
theorem zr_419 : decode cX9_planes 0 = .ok (.aload_n 0, 1) ∧ decode cX9_planes 1 = .ok (.iconst 0, 1) ∧ decode cX9_planes 2 = .ok (.putfield 1, 3) ∧ decode cX9_planes 5 = .ok (.aload_n 0, 1) ∧ decode cX9_planes 6 = .ok (.invokevirtual 103, 3) ∧ decode cX9_planes 9 = .ok (.aload_n 0, 1) ∧ decode cX9_planes 10 = .ok (.iconst 0, 1) ∧ decode cX9_planes 11 = .ok (.putfield 93, 3) ∧ decode cX9_planes 14 = .ok (.iconst 0, 1) ∧ decode cX9_planes 15 = .ok (.istore_n 1, 1) ∧ decode cX9_planes 16 = .ok (.iload_n 1, 1) ∧ decode cX9_planes 17 = .ok (.bipush 8, 2) ∧ True := zj_of zk_419
abbrev dX9_planes_0 := zr_419.1
abbrev dX9_planes_1 := zr_419.2.1
abbrev dX9_planes_2 := zr_419.2.2.1
abbrev dX9_planes_5 := zr_419.2.2.2.1
abbrev dX9_planes_6 := zr_419.2.2.2.2.1
abbrev dX9_planes_9 := zr_419.2.2.2.2.2.1
abbrev dX9_planes_10 := zr_419.2.2.2.2.2.2.1
abbrev dX9_planes_11 := zr_419.2.2.2.2.2.2.2.1
abbrev dX9_planes_14 := zr_419.2.2.2.2.2.2.2.2.1
abbrev dX9_planes_15 := zr_419.2.2.2.2.2.2.2.2.2.1
abbrev dX9_planes_16 := zr_419.2.2.2.2.2.2.2.2.2.2.1
abbrev dX9_planes_17 := zr_419.2.2.2.2.2.2.2.2.2.2.2.1
set_option maxRecDepth 100000 in
theorem zk_420 : zck 19 (cX9_planes.data.toList.drop 19) [(19, .if_icmp .ge 24, 3), (22, .aload_n 0, 1), (23, .iload_n 1, 1), (24, .invokevirtual 112, 3), (27, .ifCond .ne 10, 3), (30, .iconst (-1), 1), (31, .aload_n 0, 1), (32, .getfield 28, 3), (35, .isub, 1), (36, .ireturn, 1), (37, .iinc 1 1, 3), (40, .goto (-24), 3)] = true := by decide +kernel
theorem zr_420 : decode cX9_planes 19 = .ok (.if_icmp .ge 24, 3) ∧ decode cX9_planes 22 = .ok (.aload_n 0, 1) ∧ decode cX9_planes 23 = .ok (.iload_n 1, 1) ∧ decode cX9_planes 24 = .ok (.invokevirtual 112, 3) ∧ decode cX9_planes 27 = .ok (.ifCond .ne 10, 3) ∧ decode cX9_planes 30 = .ok (.iconst (-1), 1) ∧ decode cX9_planes 31 = .ok (.aload_n 0, 1) ∧ decode cX9_planes 32 = .ok (.getfield 28, 3) ∧ decode cX9_planes 35 = .ok (.isub, 1) ∧ decode cX9_planes 36 = .ok (.ireturn, 1) ∧ decode cX9_planes 37 = .ok (.iinc 1 1, 3) ∧ decode cX9_planes 40 = .ok (.goto (-24), 3) ∧ True := zj_of zk_420
abbrev dX9_planes_19 := zr_420.1
abbrev dX9_planes_22 := zr_420.2.1
abbrev dX9_planes_23 := zr_420.2.2.1
abbrev dX9_planes_24 := zr_420.2.2.2.1
abbrev dX9_planes_27 := zr_420.2.2.2.2.1
abbrev dX9_planes_30 := zr_420.2.2.2.2.2.1
abbrev dX9_planes_31 := zr_420.2.2.2.2.2.2.1
abbrev dX9_planes_32 := zr_420.2.2.2.2.2.2.2.1
abbrev dX9_planes_35 := zr_420.2.2.2.2.2.2.2.2.1
abbrev dX9_planes_36 := zr_420.2.2.2.2.2.2.2.2.2.1
abbrev dX9_planes_37 := zr_420.2.2.2.2.2.2.2.2.2.2.1
abbrev dX9_planes_40 := zr_420.2.2.2.2.2.2.2.2.2.2.2.1
set_option maxRecDepth 100000 in
theorem zk_421 : zck 43 (cX9_planes.data.toList.drop 43) [(43, .iconst 0, 1), (44, .istore_n 1, 1), (45, .iload_n 1, 1), (46, .aload_n 0, 1), (47, .getfield 93, 3), (50, .if_icmp .ge 163, 3), (53, .iload_n 1, 1), (54, .istore_n 2, 1), (55, .iconst 0, 1), (56, .istore_n 3, 1), (57, .iconst 0, 1), (58, .istore 4, 2)] = true := by decide +kernel
theorem zr_421 : decode cX9_planes 43 = .ok (.iconst 0, 1) ∧ decode cX9_planes 44 = .ok (.istore_n 1, 1) ∧ decode cX9_planes 45 = .ok (.iload_n 1, 1) ∧ decode cX9_planes 46 = .ok (.aload_n 0, 1) ∧ decode cX9_planes 47 = .ok (.getfield 93, 3) ∧ decode cX9_planes 50 = .ok (.if_icmp .ge 163, 3) ∧ decode cX9_planes 53 = .ok (.iload_n 1, 1) ∧ decode cX9_planes 54 = .ok (.istore_n 2, 1) ∧ decode cX9_planes 55 = .ok (.iconst 0, 1) ∧ decode cX9_planes 56 = .ok (.istore_n 3, 1) ∧ decode cX9_planes 57 = .ok (.iconst 0, 1) ∧ decode cX9_planes 58 = .ok (.istore 4, 2) ∧ True := zj_of zk_421
abbrev dX9_planes_43 := zr_421.1
abbrev dX9_planes_44 := zr_421.2.1
abbrev dX9_planes_45 := zr_421.2.2.1
abbrev dX9_planes_46 := zr_421.2.2.2.1
abbrev dX9_planes_47 := zr_421.2.2.2.2.1
abbrev dX9_planes_50 := zr_421.2.2.2.2.2.1
abbrev dX9_planes_53 := zr_421.2.2.2.2.2.2.1
abbrev dX9_planes_54 := zr_421.2.2.2.2.2.2.2.1
abbrev dX9_planes_55 := zr_421.2.2.2.2.2.2.2.2.1
abbrev dX9_planes_56 := zr_421.2.2.2.2.2.2.2.2.2.1
abbrev dX9_planes_57 := zr_421.2.2.2.2.2.2.2.2.2.2.1
abbrev dX9_planes_58 := zr_421.2.2.2.2.2.2.2.2.2.2.2.1
set_option maxRecDepth 100000 in
theorem zk_422 : zck 60 (cX9_planes.data.toList.drop 60) [(60, .iload 4, 2), (62, .bipush 8, 2), (64, .if_icmp .ge 136, 3), (67, .aload_n 0, 1), (68, .getfield 55, 3), (71, .bipush 11, 2), (73, .iload 4, 2), (75, .imul, 1), (76, .iload_n 2, 1), (77, .iadd, 1), (78, .iaload, 1), (79, .istore 5, 2)] = true := by decide +kernel
theorem zr_422 : decode cX9_planes 60 = .ok (.iload 4, 2) ∧ decode cX9_planes 62 = .ok (.bipush 8, 2) ∧ decode cX9_planes 64 = .ok (.if_icmp .ge 136, 3) ∧ decode cX9_planes 67 = .ok (.aload_n 0, 1) ∧ decode cX9_planes 68 = .ok (.getfield 55, 3) ∧ decode cX9_planes 71 = .ok (.bipush 11, 2) ∧ decode cX9_planes 73 = .ok (.iload 4, 2) ∧ decode cX9_planes 75 = .ok (.imul, 1) ∧ decode cX9_planes 76 = .ok (.iload_n 2, 1) ∧ decode cX9_planes 77 = .ok (.iadd, 1) ∧ decode cX9_planes 78 = .ok (.iaload, 1) ∧ decode cX9_planes 79 = .ok (.istore 5, 2) ∧ True := zj_of zk_422
abbrev dX9_planes_60 := zr_422.1
abbrev dX9_planes_62 := zr_422.2.1
abbrev dX9_planes_64 := zr_422.2.2.1
abbrev dX9_planes_67 := zr_422.2.2.2.1
abbrev dX9_planes_68 := zr_422.2.2.2.2.1
abbrev dX9_planes_71 := zr_422.2.2.2.2.2.1
abbrev dX9_planes_73 := zr_422.2.2.2.2.2.2.1
abbrev dX9_planes_75 := zr_422.2.2.2.2.2.2.2.1
abbrev dX9_planes_76 := zr_422.2.2.2.2.2.2.2.2.1
abbrev dX9_planes_77 := zr_422.2.2.2.2.2.2.2.2.2.1
abbrev dX9_planes_78 := zr_422.2.2.2.2.2.2.2.2.2.2.1
abbrev dX9_planes_79 := zr_422.2.2.2.2.2.2.2.2.2.2.2.1
set_option maxRecDepth 100000 in
theorem zk_423 : zck 81 (cX9_planes.data.toList.drop 81) [(81, .iconst 0, 1), (82, .istore 6, 2), (84, .iconst 0, 1), (85, .istore 7, 2), (87, .iconst 0, 1), (88, .istore 8, 2), (90, .iload 8, 2), (92, .aload_n 0, 1), (93, .getfield 93, 3), (96, .if_icmp .ge 75, 3), (99, .iload 6, 2), (101, .iload 8, 2)] = true := by decide +kernel
theorem zr_423 : decode cX9_planes 81 = .ok (.iconst 0, 1) ∧ decode cX9_planes 82 = .ok (.istore 6, 2) ∧ decode cX9_planes 84 = .ok (.iconst 0, 1) ∧ decode cX9_planes 85 = .ok (.istore 7, 2) ∧ decode cX9_planes 87 = .ok (.iconst 0, 1) ∧ decode cX9_planes 88 = .ok (.istore 8, 2) ∧ decode cX9_planes 90 = .ok (.iload 8, 2) ∧ decode cX9_planes 92 = .ok (.aload_n 0, 1) ∧ decode cX9_planes 93 = .ok (.getfield 93, 3) ∧ decode cX9_planes 96 = .ok (.if_icmp .ge 75, 3) ∧ decode cX9_planes 99 = .ok (.iload 6, 2) ∧ decode cX9_planes 101 = .ok (.iload 8, 2) ∧ True := zj_of zk_423
abbrev dX9_planes_81 := zr_423.1
abbrev dX9_planes_82 := zr_423.2.1
abbrev dX9_planes_84 := zr_423.2.2.1
abbrev dX9_planes_85 := zr_423.2.2.2.1
abbrev dX9_planes_87 := zr_423.2.2.2.2.1
abbrev dX9_planes_88 := zr_423.2.2.2.2.2.1
abbrev dX9_planes_90 := zr_423.2.2.2.2.2.2.1
abbrev dX9_planes_92 := zr_423.2.2.2.2.2.2.2.1
abbrev dX9_planes_93 := zr_423.2.2.2.2.2.2.2.2.1
abbrev dX9_planes_96 := zr_423.2.2.2.2.2.2.2.2.2.1
abbrev dX9_planes_99 := zr_423.2.2.2.2.2.2.2.2.2.2.1
abbrev dX9_planes_101 := zr_423.2.2.2.2.2.2.2.2.2.2.2.1
set_option maxRecDepth 100000 in
theorem zk_424 : zck 103 (cX9_planes.data.toList.drop 103) [(103, .iload_n 2, 1), (104, .if_icmp .ge 25, 3), (107, .aload_n 0, 1), (108, .getfield 55, 3), (111, .bipush 11, 2), (113, .iload 4, 2), (115, .imul, 1), (116, .iload 8, 2), (118, .iadd, 1), (119, .iaload, 1), (120, .iload 5, 2), (122, .if_icmp .ne 7, 3)] = true := by decide +kernel
theorem zr_424 : decode cX9_planes 103 = .ok (.iload_n 2, 1) ∧ decode cX9_planes 104 = .ok (.if_icmp .ge 25, 3) ∧ decode cX9_planes 107 = .ok (.aload_n 0, 1) ∧ decode cX9_planes 108 = .ok (.getfield 55, 3) ∧ decode cX9_planes 111 = .ok (.bipush 11, 2) ∧ decode cX9_planes 113 = .ok (.iload 4, 2) ∧ decode cX9_planes 115 = .ok (.imul, 1) ∧ decode cX9_planes 116 = .ok (.iload 8, 2) ∧ decode cX9_planes 118 = .ok (.iadd, 1) ∧ decode cX9_planes 119 = .ok (.iaload, 1) ∧ decode cX9_planes 120 = .ok (.iload 5, 2) ∧ decode cX9_planes 122 = .ok (.if_icmp .ne 7, 3) ∧ True := zj_of zk_424
abbrev dX9_planes_103 := zr_424.1
abbrev dX9_planes_104 := zr_424.2.1
abbrev dX9_planes_107 := zr_424.2.2.1
abbrev dX9_planes_108 := zr_424.2.2.2.1
abbrev dX9_planes_111 := zr_424.2.2.2.2.1
abbrev dX9_planes_113 := zr_424.2.2.2.2.2.1
abbrev dX9_planes_115 := zr_424.2.2.2.2.2.2.1
abbrev dX9_planes_116 := zr_424.2.2.2.2.2.2.2.1
abbrev dX9_planes_118 := zr_424.2.2.2.2.2.2.2.2.1
abbrev dX9_planes_119 := zr_424.2.2.2.2.2.2.2.2.2.1
abbrev dX9_planes_120 := zr_424.2.2.2.2.2.2.2.2.2.2.1
abbrev dX9_planes_122 := zr_424.2.2.2.2.2.2.2.2.2.2.2.1
set_option maxRecDepth 100000 in
theorem zk_425 : zck 125 (cX9_planes.data.toList.drop 125) [(125, .iconst 1, 1), (126, .goto 4, 3), (129, .iconst 0, 1), (130, .invokestatic 31, 3), (133, .iadd, 1), (134, .istore 6, 2), (136, .iload 7, 2), (138, .aload_n 0, 1), (139, .getfield 55, 3), (142, .bipush 11, 2), (144, .iload 4, 2), (146, .imul, 1)] = true := by decide +kernel
theorem zr_425 : decode cX9_planes 125 = .ok (.iconst 1, 1) ∧ decode cX9_planes 126 = .ok (.goto 4, 3) ∧ decode cX9_planes 129 = .ok (.iconst 0, 1) ∧ decode cX9_planes 130 = .ok (.invokestatic 31, 3) ∧ decode cX9_planes 133 = .ok (.iadd, 1) ∧ decode cX9_planes 134 = .ok (.istore 6, 2) ∧ decode cX9_planes 136 = .ok (.iload 7, 2) ∧ decode cX9_planes 138 = .ok (.aload_n 0, 1) ∧ decode cX9_planes 139 = .ok (.getfield 55, 3) ∧ decode cX9_planes 142 = .ok (.bipush 11, 2) ∧ decode cX9_planes 144 = .ok (.iload 4, 2) ∧ decode cX9_planes 146 = .ok (.imul, 1) ∧ True := zj_of zk_425
abbrev dX9_planes_125 := zr_425.1
abbrev dX9_planes_126 := zr_425.2.1
abbrev dX9_planes_129 := zr_425.2.2.1
abbrev dX9_planes_130 := zr_425.2.2.2.1
abbrev dX9_planes_133 := zr_425.2.2.2.2.1
abbrev dX9_planes_134 := zr_425.2.2.2.2.2.1
abbrev dX9_planes_136 := zr_425.2.2.2.2.2.2.1
abbrev dX9_planes_138 := zr_425.2.2.2.2.2.2.2.1
abbrev dX9_planes_139 := zr_425.2.2.2.2.2.2.2.2.1
abbrev dX9_planes_142 := zr_425.2.2.2.2.2.2.2.2.2.1
abbrev dX9_planes_144 := zr_425.2.2.2.2.2.2.2.2.2.2.1
abbrev dX9_planes_146 := zr_425.2.2.2.2.2.2.2.2.2.2.2.1
set_option maxRecDepth 100000 in
theorem zk_426 : zck 147 (cX9_planes.data.toList.drop 147) [(147, .iload 8, 2), (149, .iadd, 1), (150, .iaload, 1), (151, .ifCond .ne 7, 3), (154, .iconst 1, 1), (155, .goto 4, 3), (158, .iconst 0, 1), (159, .invokestatic 31, 3), (162, .iadd, 1), (163, .istore 7, 2), (165, .iinc 8 1, 3), (168, .goto (-78), 3)] = true := by decide +kernel
theorem zr_426 : decode cX9_planes 147 = .ok (.iload 8, 2) ∧ decode cX9_planes 149 = .ok (.iadd, 1) ∧ decode cX9_planes 150 = .ok (.iaload, 1) ∧ decode cX9_planes 151 = .ok (.ifCond .ne 7, 3) ∧ decode cX9_planes 154 = .ok (.iconst 1, 1) ∧ decode cX9_planes 155 = .ok (.goto 4, 3) ∧ decode cX9_planes 158 = .ok (.iconst 0, 1) ∧ decode cX9_planes 159 = .ok (.invokestatic 31, 3) ∧ decode cX9_planes 162 = .ok (.iadd, 1) ∧ decode cX9_planes 163 = .ok (.istore 7, 2) ∧ decode cX9_planes 165 = .ok (.iinc 8 1, 3) ∧ decode cX9_planes 168 = .ok (.goto (-78), 3) ∧ True := zj_of zk_426
abbrev dX9_planes_147 := zr_426.1
abbrev dX9_planes_149 := zr_426.2.1
abbrev dX9_planes_150 := zr_426.2.2.1
abbrev dX9_planes_151 := zr_426.2.2.2.1
abbrev dX9_planes_154 := zr_426.2.2.2.2.1
abbrev dX9_planes_155 := zr_426.2.2.2.2.2.1
abbrev dX9_planes_158 := zr_426.2.2.2.2.2.2.1
abbrev dX9_planes_159 := zr_426.2.2.2.2.2.2.2.1
abbrev dX9_planes_162 := zr_426.2.2.2.2.2.2.2.2.1
abbrev dX9_planes_163 := zr_426.2.2.2.2.2.2.2.2.2.1
abbrev dX9_planes_165 := zr_426.2.2.2.2.2.2.2.2.2.2.1
abbrev dX9_planes_168 := zr_426.2.2.2.2.2.2.2.2.2.2.2.1
set_option maxRecDepth 100000 in
theorem zk_427 : zck 171 (cX9_planes.data.toList.drop 171) [(171, .iload 5, 2), (173, .ifCond .ne 8, 3), (176, .iload 6, 2), (178, .goto 8, 3), (181, .iload 7, 2), (183, .iload 6, 2), (185, .iadd, 1), (186, .istore_n 2, 1), (187, .iconst 2, 1), (188, .iload_n 3, 1), (189, .imul, 1), (190, .iload 5, 2)] = true := by decide +kernel
theorem zr_427 : decode cX9_planes 171 = .ok (.iload 5, 2) ∧ decode cX9_planes 173 = .ok (.ifCond .ne 8, 3) ∧ decode cX9_planes 176 = .ok (.iload 6, 2) ∧ decode cX9_planes 178 = .ok (.goto 8, 3) ∧ decode cX9_planes 181 = .ok (.iload 7, 2) ∧ decode cX9_planes 183 = .ok (.iload 6, 2) ∧ decode cX9_planes 185 = .ok (.iadd, 1) ∧ decode cX9_planes 186 = .ok (.istore_n 2, 1) ∧ decode cX9_planes 187 = .ok (.iconst 2, 1) ∧ decode cX9_planes 188 = .ok (.iload_n 3, 1) ∧ decode cX9_planes 189 = .ok (.imul, 1) ∧ decode cX9_planes 190 = .ok (.iload 5, 2) ∧ True := zj_of zk_427
abbrev dX9_planes_171 := zr_427.1
abbrev dX9_planes_173 := zr_427.2.1
abbrev dX9_planes_176 := zr_427.2.2.1
abbrev dX9_planes_178 := zr_427.2.2.2.1
abbrev dX9_planes_181 := zr_427.2.2.2.2.1
abbrev dX9_planes_183 := zr_427.2.2.2.2.2.1
abbrev dX9_planes_185 := zr_427.2.2.2.2.2.2.1
abbrev dX9_planes_186 := zr_427.2.2.2.2.2.2.2.1
abbrev dX9_planes_187 := zr_427.2.2.2.2.2.2.2.2.1
abbrev dX9_planes_188 := zr_427.2.2.2.2.2.2.2.2.2.1
abbrev dX9_planes_189 := zr_427.2.2.2.2.2.2.2.2.2.2.1
abbrev dX9_planes_190 := zr_427.2.2.2.2.2.2.2.2.2.2.2.1
set_option maxRecDepth 100000 in
theorem zk_428 : zck 192 (cX9_planes.data.toList.drop 192) [(192, .iadd, 1), (193, .istore_n 3, 1), (194, .iinc 4 1, 3), (197, .goto (-137), 3), (200, .aload_n 0, 1), (201, .getfield 52, 3), (204, .iload_n 1, 1), (205, .iload_n 3, 1), (206, .iastore, 1), (207, .iinc 1 1, 3), (210, .goto (-165), 3), (213, .aload_n 0, 1)] = true := by decide +kernel
theorem zr_428 : decode cX9_planes 192 = .ok (.iadd, 1) ∧ decode cX9_planes 193 = .ok (.istore_n 3, 1) ∧ decode cX9_planes 194 = .ok (.iinc 4 1, 3) ∧ decode cX9_planes 197 = .ok (.goto (-137), 3) ∧ decode cX9_planes 200 = .ok (.aload_n 0, 1) ∧ decode cX9_planes 201 = .ok (.getfield 52, 3) ∧ decode cX9_planes 204 = .ok (.iload_n 1, 1) ∧ decode cX9_planes 205 = .ok (.iload_n 3, 1) ∧ decode cX9_planes 206 = .ok (.iastore, 1) ∧ decode cX9_planes 207 = .ok (.iinc 1 1, 3) ∧ decode cX9_planes 210 = .ok (.goto (-165), 3) ∧ decode cX9_planes 213 = .ok (.aload_n 0, 1) ∧ True := zj_of zk_428
abbrev dX9_planes_192 := zr_428.1
abbrev dX9_planes_193 := zr_428.2.1
abbrev dX9_planes_194 := zr_428.2.2.1
abbrev dX9_planes_197 := zr_428.2.2.2.1
abbrev dX9_planes_200 := zr_428.2.2.2.2.1
abbrev dX9_planes_201 := zr_428.2.2.2.2.2.1
abbrev dX9_planes_204 := zr_428.2.2.2.2.2.2.1
abbrev dX9_planes_205 := zr_428.2.2.2.2.2.2.2.1
abbrev dX9_planes_206 := zr_428.2.2.2.2.2.2.2.2.1
abbrev dX9_planes_207 := zr_428.2.2.2.2.2.2.2.2.2.1
abbrev dX9_planes_210 := zr_428.2.2.2.2.2.2.2.2.2.2.1
abbrev dX9_planes_213 := zr_428.2.2.2.2.2.2.2.2.2.2.2.1
set_option maxRecDepth 100000 in
theorem zk_429 : zck 214 (cX9_planes.data.toList.drop 214) [(214, .invokevirtual 109, 3), (217, .aload_n 0, 1), (218, .getfield 88, 3), (221, .ireturn, 1)] = true := by decide +kernel
theorem zr_429 : decode cX9_planes 214 = .ok (.invokevirtual 109, 3) ∧ decode cX9_planes 217 = .ok (.aload_n 0, 1) ∧ decode cX9_planes 218 = .ok (.getfield 88, 3) ∧ decode cX9_planes 221 = .ok (.ireturn, 1) ∧ True := zj_of zk_429
abbrev dX9_planes_214 := zr_429.1
abbrev dX9_planes_217 := zr_429.2.1
abbrev dX9_planes_218 := zr_429.2.2.1
abbrev dX9_planes_221 := zr_429.2.2.2.1
set_option maxRecDepth 100000 in
theorem zk_430 : zck 0 (cX9_bitOf.data.toList.drop 0) [(0, .iload_n 0, 1), (1, .bipush 7, 2), (3, .iload_n 1, 1), (4, .isub, 1), (5, .ishr, 1), (6, .iconst 1, 1), (7, .iand, 1), (8, .ireturn, 1)] = true := by decide +kernel
theorem zr_430 : decode cX9_bitOf 0 = .ok (.iload_n 0, 1) ∧ decode cX9_bitOf 1 = .ok (.bipush 7, 2) ∧ decode cX9_bitOf 3 = .ok (.iload_n 1, 1) ∧ decode cX9_bitOf 4 = .ok (.isub, 1) ∧ decode cX9_bitOf 5 = .ok (.ishr, 1) ∧ decode cX9_bitOf 6 = .ok (.iconst 1, 1) ∧ decode cX9_bitOf 7 = .ok (.iand, 1) ∧ decode cX9_bitOf 8 = .ok (.ireturn, 1) ∧ True := zj_of zk_430
abbrev dX9_bitOf_0 := zr_430.1
abbrev dX9_bitOf_1 := zr_430.2.1
abbrev dX9_bitOf_3 := zr_430.2.2.1
abbrev dX9_bitOf_4 := zr_430.2.2.2.1
abbrev dX9_bitOf_5 := zr_430.2.2.2.2.1
abbrev dX9_bitOf_6 := zr_430.2.2.2.2.2.1
abbrev dX9_bitOf_7 := zr_430.2.2.2.2.2.2.1
abbrev dX9_bitOf_8 := zr_430.2.2.2.2.2.2.2.1
set_option maxRecDepth 100000 in
theorem zk_431 : zck 0 (cX9_parts.data.toList.drop 0) [(0, .iconst 0, 1), (1, .istore_n 2, 1), (2, .iconst 0, 1), (3, .istore_n 3, 1), (4, .iload_n 3, 1), (5, .iconst 2, 1), (6, .if_icmp .ge 63, 3), (9, .iconst 0, 1), (10, .istore 4, 2), (12, .iload 4, 2), (14, .aload_n 0, 1), (15, .getfield 88, 3)] = true := by decide +kernel
theorem zr_431 : decode cX9_parts 0 = .ok (.iconst 0, 1) ∧ decode cX9_parts 1 = .ok (.istore_n 2, 1) ∧ decode cX9_parts 2 = .ok (.iconst 0, 1) ∧ decode cX9_parts 3 = .ok (.istore_n 3, 1) ∧ decode cX9_parts 4 = .ok (.iload_n 3, 1) ∧ decode cX9_parts 5 = .ok (.iconst 2, 1) ∧ decode cX9_parts 6 = .ok (.if_icmp .ge 63, 3) ∧ decode cX9_parts 9 = .ok (.iconst 0, 1) ∧ decode cX9_parts 10 = .ok (.istore 4, 2) ∧ decode cX9_parts 12 = .ok (.iload 4, 2) ∧ decode cX9_parts 14 = .ok (.aload_n 0, 1) ∧ decode cX9_parts 15 = .ok (.getfield 88, 3) ∧ True := zj_of zk_431
abbrev dX9_parts_0 := zr_431.1
abbrev dX9_parts_1 := zr_431.2.1
abbrev dX9_parts_2 := zr_431.2.2.1
abbrev dX9_parts_3 := zr_431.2.2.2.1
abbrev dX9_parts_4 := zr_431.2.2.2.2.1
abbrev dX9_parts_5 := zr_431.2.2.2.2.2.1
abbrev dX9_parts_6 := zr_431.2.2.2.2.2.2.1
abbrev dX9_parts_9 := zr_431.2.2.2.2.2.2.2.1
abbrev dX9_parts_10 := zr_431.2.2.2.2.2.2.2.2.1
abbrev dX9_parts_12 := zr_431.2.2.2.2.2.2.2.2.2.1
abbrev dX9_parts_14 := zr_431.2.2.2.2.2.2.2.2.2.2.1
abbrev dX9_parts_15 := zr_431.2.2.2.2.2.2.2.2.2.2.2.1
set_option maxRecDepth 100000 in
theorem zk_432 : zck 18 (cX9_parts.data.toList.drop 18) [(18, .if_icmp .ge 45, 3), (21, .aload_n 0, 1), (22, .getfield 49, 3), (25, .aload_n 0, 1), (26, .getfield 58, 3), (29, .iload 4, 2), (31, .iaload, 1), (32, .iaload, 1), (33, .iload_n 1, 1), (34, .ishr, 1), (35, .iconst 1, 1), (36, .iand, 1)] = true := by decide +kernel
theorem zr_432 : decode cX9_parts 18 = .ok (.if_icmp .ge 45, 3) ∧ decode cX9_parts 21 = .ok (.aload_n 0, 1) ∧ decode cX9_parts 22 = .ok (.getfield 49, 3) ∧ decode cX9_parts 25 = .ok (.aload_n 0, 1) ∧ decode cX9_parts 26 = .ok (.getfield 58, 3) ∧ decode cX9_parts 29 = .ok (.iload 4, 2) ∧ decode cX9_parts 31 = .ok (.iaload, 1) ∧ decode cX9_parts 32 = .ok (.iaload, 1) ∧ decode cX9_parts 33 = .ok (.iload_n 1, 1) ∧ decode cX9_parts 34 = .ok (.ishr, 1) ∧ decode cX9_parts 35 = .ok (.iconst 1, 1) ∧ decode cX9_parts 36 = .ok (.iand, 1) ∧ True := zj_of zk_432
abbrev dX9_parts_18 := zr_432.1
abbrev dX9_parts_21 := zr_432.2.1
abbrev dX9_parts_22 := zr_432.2.2.1
abbrev dX9_parts_25 := zr_432.2.2.2.1
abbrev dX9_parts_26 := zr_432.2.2.2.2.1
abbrev dX9_parts_29 := zr_432.2.2.2.2.2.1
abbrev dX9_parts_31 := zr_432.2.2.2.2.2.2.1
abbrev dX9_parts_32 := zr_432.2.2.2.2.2.2.2.1
abbrev dX9_parts_33 := zr_432.2.2.2.2.2.2.2.2.1
abbrev dX9_parts_34 := zr_432.2.2.2.2.2.2.2.2.2.1
abbrev dX9_parts_35 := zr_432.2.2.2.2.2.2.2.2.2.2.1
abbrev dX9_parts_36 := zr_432.2.2.2.2.2.2.2.2.2.2.2.1
set_option maxRecDepth 100000 in
theorem zk_433 : zck 37 (cX9_parts.data.toList.drop 37) [(37, .iload_n 3, 1), (38, .if_icmp .ne 19, 3), (41, .aload_n 0, 1), (42, .getfield 61, 3), (45, .iload_n 2, 1), (46, .aload_n 0, 1), (47, .getfield 58, 3), (50, .iload 4, 2), (52, .iaload, 1), (53, .iastore, 1), (54, .iinc 2 1, 3), (57, .iinc 4 1, 3)] = true := by decide +kernel
theorem zr_433 : decode cX9_parts 37 = .ok (.iload_n 3, 1) ∧ decode cX9_parts 38 = .ok (.if_icmp .ne 19, 3) ∧ decode cX9_parts 41 = .ok (.aload_n 0, 1) ∧ decode cX9_parts 42 = .ok (.getfield 61, 3) ∧ decode cX9_parts 45 = .ok (.iload_n 2, 1) ∧ decode cX9_parts 46 = .ok (.aload_n 0, 1) ∧ decode cX9_parts 47 = .ok (.getfield 58, 3) ∧ decode cX9_parts 50 = .ok (.iload 4, 2) ∧ decode cX9_parts 52 = .ok (.iaload, 1) ∧ decode cX9_parts 53 = .ok (.iastore, 1) ∧ decode cX9_parts 54 = .ok (.iinc 2 1, 3) ∧ decode cX9_parts 57 = .ok (.iinc 4 1, 3) ∧ True := zj_of zk_433
abbrev dX9_parts_37 := zr_433.1
abbrev dX9_parts_38 := zr_433.2.1
abbrev dX9_parts_41 := zr_433.2.2.1
abbrev dX9_parts_42 := zr_433.2.2.2.1
abbrev dX9_parts_45 := zr_433.2.2.2.2.1
abbrev dX9_parts_46 := zr_433.2.2.2.2.2.1
abbrev dX9_parts_47 := zr_433.2.2.2.2.2.2.1
abbrev dX9_parts_50 := zr_433.2.2.2.2.2.2.2.1
abbrev dX9_parts_52 := zr_433.2.2.2.2.2.2.2.2.1
abbrev dX9_parts_53 := zr_433.2.2.2.2.2.2.2.2.2.1
abbrev dX9_parts_54 := zr_433.2.2.2.2.2.2.2.2.2.2.1
abbrev dX9_parts_57 := zr_433.2.2.2.2.2.2.2.2.2.2.2.1
set_option maxRecDepth 100000 in
theorem zk_434 : zck 60 (cX9_parts.data.toList.drop 60) [(60, .goto (-48), 3), (63, .iinc 3 1, 3), (66, .goto (-62), 3), (69, .iconst 0, 1), (70, .istore_n 3, 1), (71, .iload_n 3, 1), (72, .aload_n 0, 1), (73, .getfield 88, 3), (76, .if_icmp .ge 21, 3), (79, .aload_n 0, 1), (80, .getfield 58, 3), (83, .iload_n 3, 1)] = true := by decide +kernel
theorem zr_434 : decode cX9_parts 60 = .ok (.goto (-48), 3) ∧ decode cX9_parts 63 = .ok (.iinc 3 1, 3) ∧ decode cX9_parts 66 = .ok (.goto (-62), 3) ∧ decode cX9_parts 69 = .ok (.iconst 0, 1) ∧ decode cX9_parts 70 = .ok (.istore_n 3, 1) ∧ decode cX9_parts 71 = .ok (.iload_n 3, 1) ∧ decode cX9_parts 72 = .ok (.aload_n 0, 1) ∧ decode cX9_parts 73 = .ok (.getfield 88, 3) ∧ decode cX9_parts 76 = .ok (.if_icmp .ge 21, 3) ∧ decode cX9_parts 79 = .ok (.aload_n 0, 1) ∧ decode cX9_parts 80 = .ok (.getfield 58, 3) ∧ decode cX9_parts 83 = .ok (.iload_n 3, 1) ∧ True := zj_of zk_434
abbrev dX9_parts_60 := zr_434.1
abbrev dX9_parts_63 := zr_434.2.1
abbrev dX9_parts_66 := zr_434.2.2.1
abbrev dX9_parts_69 := zr_434.2.2.2.1
abbrev dX9_parts_70 := zr_434.2.2.2.2.1
abbrev dX9_parts_71 := zr_434.2.2.2.2.2.1
abbrev dX9_parts_72 := zr_434.2.2.2.2.2.2.1
abbrev dX9_parts_73 := zr_434.2.2.2.2.2.2.2.1
abbrev dX9_parts_76 := zr_434.2.2.2.2.2.2.2.2.1
abbrev dX9_parts_79 := zr_434.2.2.2.2.2.2.2.2.2.1
abbrev dX9_parts_80 := zr_434.2.2.2.2.2.2.2.2.2.2.1
abbrev dX9_parts_83 := zr_434.2.2.2.2.2.2.2.2.2.2.2.1
set_option maxRecDepth 100000 in
theorem zk_435 : zck 84 (cX9_parts.data.toList.drop 84) [(84, .aload_n 0, 1), (85, .getfield 61, 3), (88, .iload_n 3, 1), (89, .iaload, 1), (90, .iastore, 1), (91, .iinc 3 1, 3), (94, .goto (-23), 3), (97, .return_, 1)] = true := by decide +kernel
theorem zr_435 : decode cX9_parts 84 = .ok (.aload_n 0, 1) ∧ decode cX9_parts 85 = .ok (.getfield 61, 3) ∧ decode cX9_parts 88 = .ok (.iload_n 3, 1) ∧ decode cX9_parts 89 = .ok (.iaload, 1) ∧ decode cX9_parts 90 = .ok (.iastore, 1) ∧ decode cX9_parts 91 = .ok (.iinc 3 1, 3) ∧ decode cX9_parts 94 = .ok (.goto (-23), 3) ∧ decode cX9_parts 97 = .ok (.return_, 1) ∧ True := zj_of zk_435
abbrev dX9_parts_84 := zr_435.1
abbrev dX9_parts_85 := zr_435.2.1
abbrev dX9_parts_88 := zr_435.2.2.1
abbrev dX9_parts_89 := zr_435.2.2.2.1
abbrev dX9_parts_90 := zr_435.2.2.2.2.1
abbrev dX9_parts_91 := zr_435.2.2.2.2.2.1
abbrev dX9_parts_94 := zr_435.2.2.2.2.2.2.1
abbrev dX9_parts_97 := zr_435.2.2.2.2.2.2.2.1
set_option maxRecDepth 100000 in
theorem zk_436 : zck 0 (cX9_begins.data.toList.drop 0) [(0, .iconst 0, 1), (1, .istore_n 1, 1), (2, .iload_n 1, 1), (3, .aload_n 0, 1), (4, .getfield 88, 3), (7, .if_icmp .ge 16, 3), (10, .aload_n 0, 1), (11, .getfield 58, 3), (14, .iload_n 1, 1), (15, .iload_n 1, 1), (16, .iastore, 1), (17, .iinc 1 1, 3)] = true := by decide +kernel
theorem zr_436 : decode cX9_begins 0 = .ok (.iconst 0, 1) ∧ decode cX9_begins 1 = .ok (.istore_n 1, 1) ∧ decode cX9_begins 2 = .ok (.iload_n 1, 1) ∧ decode cX9_begins 3 = .ok (.aload_n 0, 1) ∧ decode cX9_begins 4 = .ok (.getfield 88, 3) ∧ decode cX9_begins 7 = .ok (.if_icmp .ge 16, 3) ∧ decode cX9_begins 10 = .ok (.aload_n 0, 1) ∧ decode cX9_begins 11 = .ok (.getfield 58, 3) ∧ decode cX9_begins 14 = .ok (.iload_n 1, 1) ∧ decode cX9_begins 15 = .ok (.iload_n 1, 1) ∧ decode cX9_begins 16 = .ok (.iastore, 1) ∧ decode cX9_begins 17 = .ok (.iinc 1 1, 3) ∧ True := zj_of zk_436
abbrev dX9_begins_0 := zr_436.1
abbrev dX9_begins_1 := zr_436.2.1
abbrev dX9_begins_2 := zr_436.2.2.1
abbrev dX9_begins_3 := zr_436.2.2.2.1
abbrev dX9_begins_4 := zr_436.2.2.2.2.1
abbrev dX9_begins_7 := zr_436.2.2.2.2.2.1
abbrev dX9_begins_10 := zr_436.2.2.2.2.2.2.1
abbrev dX9_begins_11 := zr_436.2.2.2.2.2.2.2.1
abbrev dX9_begins_14 := zr_436.2.2.2.2.2.2.2.2.1
abbrev dX9_begins_15 := zr_436.2.2.2.2.2.2.2.2.2.1
abbrev dX9_begins_16 := zr_436.2.2.2.2.2.2.2.2.2.2.1
abbrev dX9_begins_17 := zr_436.2.2.2.2.2.2.2.2.2.2.2.1
set_option maxRecDepth 100000 in
theorem zk_437 : zck 20 (cX9_begins.data.toList.drop 20) [(20, .goto (-18), 3), (23, .return_, 1)] = true := by decide +kernel
theorem zr_437 : decode cX9_begins 20 = .ok (.goto (-18), 3) ∧ decode cX9_begins 23 = .ok (.return_, 1) ∧ True := zj_of zk_437
abbrev dX9_begins_20 := zr_437.1
abbrev dX9_begins_23 := zr_437.2.1
set_option maxRecDepth 100000 in
theorem zk_438 : zck 0 (cX9_laysLevel.data.toList.drop 0) [(0, .aload_n 0, 1), (1, .invokevirtual 115, 3), (4, .iconst 0, 1), (5, .istore_n 2, 1), (6, .iload_n 2, 1), (7, .iload_n 1, 1), (8, .if_icmp .ge 17, 3), (11, .aload_n 0, 1), (12, .bipush 7, 2), (14, .iload_n 2, 1), (15, .isub, 1), (16, .invokevirtual 118, 3)] = true := by decide +kernel
theorem zr_438 : decode cX9_laysLevel 0 = .ok (.aload_n 0, 1) ∧ decode cX9_laysLevel 1 = .ok (.invokevirtual 115, 3) ∧ decode cX9_laysLevel 4 = .ok (.iconst 0, 1) ∧ decode cX9_laysLevel 5 = .ok (.istore_n 2, 1) ∧ decode cX9_laysLevel 6 = .ok (.iload_n 2, 1) ∧ decode cX9_laysLevel 7 = .ok (.iload_n 1, 1) ∧ decode cX9_laysLevel 8 = .ok (.if_icmp .ge 17, 3) ∧ decode cX9_laysLevel 11 = .ok (.aload_n 0, 1) ∧ decode cX9_laysLevel 12 = .ok (.bipush 7, 2) ∧ decode cX9_laysLevel 14 = .ok (.iload_n 2, 1) ∧ decode cX9_laysLevel 15 = .ok (.isub, 1) ∧ decode cX9_laysLevel 16 = .ok (.invokevirtual 118, 3) ∧ True := zj_of zk_438
abbrev dX9_laysLevel_0 := zr_438.1
abbrev dX9_laysLevel_1 := zr_438.2.1
abbrev dX9_laysLevel_4 := zr_438.2.2.1
abbrev dX9_laysLevel_5 := zr_438.2.2.2.1
abbrev dX9_laysLevel_6 := zr_438.2.2.2.2.1
abbrev dX9_laysLevel_7 := zr_438.2.2.2.2.2.1
abbrev dX9_laysLevel_8 := zr_438.2.2.2.2.2.2.1
abbrev dX9_laysLevel_11 := zr_438.2.2.2.2.2.2.2.1
abbrev dX9_laysLevel_12 := zr_438.2.2.2.2.2.2.2.2.1
abbrev dX9_laysLevel_14 := zr_438.2.2.2.2.2.2.2.2.2.1
abbrev dX9_laysLevel_15 := zr_438.2.2.2.2.2.2.2.2.2.2.1
abbrev dX9_laysLevel_16 := zr_438.2.2.2.2.2.2.2.2.2.2.2.1
set_option maxRecDepth 100000 in
theorem zk_439 : zck 19 (cX9_laysLevel.data.toList.drop 19) [(19, .iinc 2 1, 3), (22, .goto (-16), 3), (25, .return_, 1)] = true := by decide +kernel
theorem zr_439 : decode cX9_laysLevel 19 = .ok (.iinc 2 1, 3) ∧ decode cX9_laysLevel 22 = .ok (.goto (-16), 3) ∧ decode cX9_laysLevel 25 = .ok (.return_, 1) ∧ True := zj_of zk_439
abbrev dX9_laysLevel_19 := zr_439.1
abbrev dX9_laysLevel_22 := zr_439.2.1
abbrev dX9_laysLevel_25 := zr_439.2.2.1
set_option maxRecDepth 100000 in
theorem zk_440 : zck 0 (cX9_runsOf.data.toList.drop 0) [(0, .iconst 0, 1), (1, .istore_n 2, 1), (2, .iconst 0, 1), (3, .istore_n 3, 1), (4, .iload_n 3, 1), (5, .aload_n 0, 1), (6, .getfield 88, 3), (9, .if_icmp .ge 59, 3), (12, .iload_n 2, 1), (13, .iload_n 3, 1), (14, .ifCond .eq 38, 3), (17, .aload_n 0, 1)] = true := by decide +kernel
theorem zr_440 : decode cX9_runsOf 0 = .ok (.iconst 0, 1) ∧ decode cX9_runsOf 1 = .ok (.istore_n 2, 1) ∧ decode cX9_runsOf 2 = .ok (.iconst 0, 1) ∧ decode cX9_runsOf 3 = .ok (.istore_n 3, 1) ∧ decode cX9_runsOf 4 = .ok (.iload_n 3, 1) ∧ decode cX9_runsOf 5 = .ok (.aload_n 0, 1) ∧ decode cX9_runsOf 6 = .ok (.getfield 88, 3) ∧ decode cX9_runsOf 9 = .ok (.if_icmp .ge 59, 3) ∧ decode cX9_runsOf 12 = .ok (.iload_n 2, 1) ∧ decode cX9_runsOf 13 = .ok (.iload_n 3, 1) ∧ decode cX9_runsOf 14 = .ok (.ifCond .eq 38, 3) ∧ decode cX9_runsOf 17 = .ok (.aload_n 0, 1) ∧ True := zj_of zk_440
abbrev dX9_runsOf_0 := zr_440.1
abbrev dX9_runsOf_1 := zr_440.2.1
abbrev dX9_runsOf_2 := zr_440.2.2.1
abbrev dX9_runsOf_3 := zr_440.2.2.2.1
abbrev dX9_runsOf_4 := zr_440.2.2.2.2.1
abbrev dX9_runsOf_5 := zr_440.2.2.2.2.2.1
abbrev dX9_runsOf_6 := zr_440.2.2.2.2.2.2.1
abbrev dX9_runsOf_9 := zr_440.2.2.2.2.2.2.2.1
abbrev dX9_runsOf_12 := zr_440.2.2.2.2.2.2.2.2.1
abbrev dX9_runsOf_13 := zr_440.2.2.2.2.2.2.2.2.2.1
abbrev dX9_runsOf_14 := zr_440.2.2.2.2.2.2.2.2.2.2.1
abbrev dX9_runsOf_17 := zr_440.2.2.2.2.2.2.2.2.2.2.2.1
set_option maxRecDepth 100000 in
theorem zk_441 : zck 18 (cX9_runsOf.data.toList.drop 18) [(18, .getfield 49, 3), (21, .aload_n 0, 1), (22, .getfield 58, 3), (25, .iload_n 3, 1), (26, .iaload, 1), (27, .iaload, 1), (28, .iload_n 1, 1), (29, .ishr, 1), (30, .iconst 1, 1), (31, .iand, 1), (32, .aload_n 0, 1), (33, .getfield 49, 3)] = true := by decide +kernel
theorem zr_441 : decode cX9_runsOf 18 = .ok (.getfield 49, 3) ∧ decode cX9_runsOf 21 = .ok (.aload_n 0, 1) ∧ decode cX9_runsOf 22 = .ok (.getfield 58, 3) ∧ decode cX9_runsOf 25 = .ok (.iload_n 3, 1) ∧ decode cX9_runsOf 26 = .ok (.iaload, 1) ∧ decode cX9_runsOf 27 = .ok (.iaload, 1) ∧ decode cX9_runsOf 28 = .ok (.iload_n 1, 1) ∧ decode cX9_runsOf 29 = .ok (.ishr, 1) ∧ decode cX9_runsOf 30 = .ok (.iconst 1, 1) ∧ decode cX9_runsOf 31 = .ok (.iand, 1) ∧ decode cX9_runsOf 32 = .ok (.aload_n 0, 1) ∧ decode cX9_runsOf 33 = .ok (.getfield 49, 3) ∧ True := zj_of zk_441
abbrev dX9_runsOf_18 := zr_441.1
abbrev dX9_runsOf_21 := zr_441.2.1
abbrev dX9_runsOf_22 := zr_441.2.2.1
abbrev dX9_runsOf_25 := zr_441.2.2.2.1
abbrev dX9_runsOf_26 := zr_441.2.2.2.2.1
abbrev dX9_runsOf_27 := zr_441.2.2.2.2.2.1
abbrev dX9_runsOf_28 := zr_441.2.2.2.2.2.2.1
abbrev dX9_runsOf_29 := zr_441.2.2.2.2.2.2.2.1
abbrev dX9_runsOf_30 := zr_441.2.2.2.2.2.2.2.2.1
abbrev dX9_runsOf_31 := zr_441.2.2.2.2.2.2.2.2.2.1
abbrev dX9_runsOf_32 := zr_441.2.2.2.2.2.2.2.2.2.2.1
abbrev dX9_runsOf_33 := zr_441.2.2.2.2.2.2.2.2.2.2.2.1
set_option maxRecDepth 100000 in
theorem zk_442 : zck 36 (cX9_runsOf.data.toList.drop 36) [(36, .aload_n 0, 1), (37, .getfield 58, 3), (40, .iload_n 3, 1), (41, .iconst 1, 1), (42, .isub, 1), (43, .iaload, 1), (44, .iaload, 1), (45, .iload_n 1, 1), (46, .ishr, 1), (47, .iconst 1, 1), (48, .iand, 1), (49, .if_icmp .eq 7, 3)] = true := by decide +kernel
theorem zr_442 : decode cX9_runsOf 36 = .ok (.aload_n 0, 1) ∧ decode cX9_runsOf 37 = .ok (.getfield 58, 3) ∧ decode cX9_runsOf 40 = .ok (.iload_n 3, 1) ∧ decode cX9_runsOf 41 = .ok (.iconst 1, 1) ∧ decode cX9_runsOf 42 = .ok (.isub, 1) ∧ decode cX9_runsOf 43 = .ok (.iaload, 1) ∧ decode cX9_runsOf 44 = .ok (.iaload, 1) ∧ decode cX9_runsOf 45 = .ok (.iload_n 1, 1) ∧ decode cX9_runsOf 46 = .ok (.ishr, 1) ∧ decode cX9_runsOf 47 = .ok (.iconst 1, 1) ∧ decode cX9_runsOf 48 = .ok (.iand, 1) ∧ decode cX9_runsOf 49 = .ok (.if_icmp .eq 7, 3) ∧ True := zj_of zk_442
abbrev dX9_runsOf_36 := zr_442.1
abbrev dX9_runsOf_37 := zr_442.2.1
abbrev dX9_runsOf_40 := zr_442.2.2.1
abbrev dX9_runsOf_41 := zr_442.2.2.2.1
abbrev dX9_runsOf_42 := zr_442.2.2.2.2.1
abbrev dX9_runsOf_43 := zr_442.2.2.2.2.2.1
abbrev dX9_runsOf_44 := zr_442.2.2.2.2.2.2.1
abbrev dX9_runsOf_45 := zr_442.2.2.2.2.2.2.2.1
abbrev dX9_runsOf_46 := zr_442.2.2.2.2.2.2.2.2.1
abbrev dX9_runsOf_47 := zr_442.2.2.2.2.2.2.2.2.2.1
abbrev dX9_runsOf_48 := zr_442.2.2.2.2.2.2.2.2.2.2.1
abbrev dX9_runsOf_49 := zr_442.2.2.2.2.2.2.2.2.2.2.2.1
set_option maxRecDepth 100000 in
theorem zk_443 : zck 52 (cX9_runsOf.data.toList.drop 52) [(52, .iconst 1, 1), (53, .goto 4, 3), (56, .iconst 0, 1), (57, .invokestatic 31, 3), (60, .iadd, 1), (61, .istore_n 2, 1), (62, .iinc 3 1, 3), (65, .goto (-61), 3), (68, .iload_n 2, 1), (69, .ireturn, 1)] = true := by decide +kernel
theorem zr_443 : decode cX9_runsOf 52 = .ok (.iconst 1, 1) ∧ decode cX9_runsOf 53 = .ok (.goto 4, 3) ∧ decode cX9_runsOf 56 = .ok (.iconst 0, 1) ∧ decode cX9_runsOf 57 = .ok (.invokestatic 31, 3) ∧ decode cX9_runsOf 60 = .ok (.iadd, 1) ∧ decode cX9_runsOf 61 = .ok (.istore_n 2, 1) ∧ decode cX9_runsOf 62 = .ok (.iinc 3 1, 3) ∧ decode cX9_runsOf 65 = .ok (.goto (-61), 3) ∧ decode cX9_runsOf 68 = .ok (.iload_n 2, 1) ∧ decode cX9_runsOf 69 = .ok (.ireturn, 1) ∧ True := zj_of zk_443
abbrev dX9_runsOf_52 := zr_443.1
abbrev dX9_runsOf_53 := zr_443.2.1
abbrev dX9_runsOf_56 := zr_443.2.2.1
abbrev dX9_runsOf_57 := zr_443.2.2.2.1
abbrev dX9_runsOf_60 := zr_443.2.2.2.2.1
abbrev dX9_runsOf_61 := zr_443.2.2.2.2.2.1
abbrev dX9_runsOf_62 := zr_443.2.2.2.2.2.2.1
abbrev dX9_runsOf_65 := zr_443.2.2.2.2.2.2.2.1
abbrev dX9_runsOf_68 := zr_443.2.2.2.2.2.2.2.2.1
abbrev dX9_runsOf_69 := zr_443.2.2.2.2.2.2.2.2.2.1
set_option maxRecDepth 100000 in
theorem zk_444 : zck 0 (cX9_keepsBits.data.toList.drop 0) [(0, .iconst 0, 1), (1, .istore_n 1, 1), (2, .iload_n 1, 1), (3, .bipush 8, 2), (5, .if_icmp .ge 56, 3), (8, .aload_n 0, 1), (9, .iload_n 1, 1), (10, .invokevirtual 122, 3), (13, .iconst 0, 1), (14, .istore_n 2, 1), (15, .iload_n 2, 1), (16, .aload_n 0, 1)] = true := by decide +kernel
theorem zr_444 : decode cX9_keepsBits 0 = .ok (.iconst 0, 1) ∧ decode cX9_keepsBits 1 = .ok (.istore_n 1, 1) ∧ decode cX9_keepsBits 2 = .ok (.iload_n 1, 1) ∧ decode cX9_keepsBits 3 = .ok (.bipush 8, 2) ∧ decode cX9_keepsBits 5 = .ok (.if_icmp .ge 56, 3) ∧ decode cX9_keepsBits 8 = .ok (.aload_n 0, 1) ∧ decode cX9_keepsBits 9 = .ok (.iload_n 1, 1) ∧ decode cX9_keepsBits 10 = .ok (.invokevirtual 122, 3) ∧ decode cX9_keepsBits 13 = .ok (.iconst 0, 1) ∧ decode cX9_keepsBits 14 = .ok (.istore_n 2, 1) ∧ decode cX9_keepsBits 15 = .ok (.iload_n 2, 1) ∧ decode cX9_keepsBits 16 = .ok (.aload_n 0, 1) ∧ True := zj_of zk_444
abbrev dX9_keepsBits_0 := zr_444.1
abbrev dX9_keepsBits_1 := zr_444.2.1
abbrev dX9_keepsBits_2 := zr_444.2.2.1
abbrev dX9_keepsBits_3 := zr_444.2.2.2.1
abbrev dX9_keepsBits_5 := zr_444.2.2.2.2.1
abbrev dX9_keepsBits_8 := zr_444.2.2.2.2.2.1
abbrev dX9_keepsBits_9 := zr_444.2.2.2.2.2.2.1
abbrev dX9_keepsBits_10 := zr_444.2.2.2.2.2.2.2.1
abbrev dX9_keepsBits_13 := zr_444.2.2.2.2.2.2.2.2.1
abbrev dX9_keepsBits_14 := zr_444.2.2.2.2.2.2.2.2.2.1
abbrev dX9_keepsBits_15 := zr_444.2.2.2.2.2.2.2.2.2.2.1
abbrev dX9_keepsBits_16 := zr_444.2.2.2.2.2.2.2.2.2.2.2.1
set_option maxRecDepth 100000 in
theorem zk_445 : zck 17 (cX9_keepsBits.data.toList.drop 17) [(17, .getfield 88, 3), (20, .if_icmp .ge 35, 3), (23, .aload_n 0, 1), (24, .getfield 64, 3), (27, .bipush 64, 2), (29, .iload_n 1, 1), (30, .imul, 1), (31, .iload_n 2, 1), (32, .iadd, 1), (33, .aload_n 0, 1), (34, .getfield 49, 3), (37, .aload_n 0, 1)] = true := by decide +kernel
theorem zr_445 : decode cX9_keepsBits 17 = .ok (.getfield 88, 3) ∧ decode cX9_keepsBits 20 = .ok (.if_icmp .ge 35, 3) ∧ decode cX9_keepsBits 23 = .ok (.aload_n 0, 1) ∧ decode cX9_keepsBits 24 = .ok (.getfield 64, 3) ∧ decode cX9_keepsBits 27 = .ok (.bipush 64, 2) ∧ decode cX9_keepsBits 29 = .ok (.iload_n 1, 1) ∧ decode cX9_keepsBits 30 = .ok (.imul, 1) ∧ decode cX9_keepsBits 31 = .ok (.iload_n 2, 1) ∧ decode cX9_keepsBits 32 = .ok (.iadd, 1) ∧ decode cX9_keepsBits 33 = .ok (.aload_n 0, 1) ∧ decode cX9_keepsBits 34 = .ok (.getfield 49, 3) ∧ decode cX9_keepsBits 37 = .ok (.aload_n 0, 1) ∧ True := zj_of zk_445
abbrev dX9_keepsBits_17 := zr_445.1
abbrev dX9_keepsBits_20 := zr_445.2.1
abbrev dX9_keepsBits_23 := zr_445.2.2.1
abbrev dX9_keepsBits_24 := zr_445.2.2.2.1
abbrev dX9_keepsBits_27 := zr_445.2.2.2.2.1
abbrev dX9_keepsBits_29 := zr_445.2.2.2.2.2.1
abbrev dX9_keepsBits_30 := zr_445.2.2.2.2.2.2.1
abbrev dX9_keepsBits_31 := zr_445.2.2.2.2.2.2.2.1
abbrev dX9_keepsBits_32 := zr_445.2.2.2.2.2.2.2.2.1
abbrev dX9_keepsBits_33 := zr_445.2.2.2.2.2.2.2.2.2.1
abbrev dX9_keepsBits_34 := zr_445.2.2.2.2.2.2.2.2.2.2.1
abbrev dX9_keepsBits_37 := zr_445.2.2.2.2.2.2.2.2.2.2.2.1
set_option maxRecDepth 100000 in
theorem zk_446 : zck 38 (cX9_keepsBits.data.toList.drop 38) [(38, .getfield 58, 3), (41, .iload_n 2, 1), (42, .iaload, 1), (43, .iaload, 1), (44, .iload_n 1, 1), (45, .invokestatic 125, 3), (48, .iastore, 1), (49, .iinc 2 1, 3), (52, .goto (-37), 3), (55, .iinc 1 1, 3), (58, .goto (-56), 3), (61, .return_, 1)] = true := by decide +kernel
theorem zr_446 : decode cX9_keepsBits 38 = .ok (.getfield 58, 3) ∧ decode cX9_keepsBits 41 = .ok (.iload_n 2, 1) ∧ decode cX9_keepsBits 42 = .ok (.iaload, 1) ∧ decode cX9_keepsBits 43 = .ok (.iaload, 1) ∧ decode cX9_keepsBits 44 = .ok (.iload_n 1, 1) ∧ decode cX9_keepsBits 45 = .ok (.invokestatic 125, 3) ∧ decode cX9_keepsBits 48 = .ok (.iastore, 1) ∧ decode cX9_keepsBits 49 = .ok (.iinc 2 1, 3) ∧ decode cX9_keepsBits 52 = .ok (.goto (-37), 3) ∧ decode cX9_keepsBits 55 = .ok (.iinc 1 1, 3) ∧ decode cX9_keepsBits 58 = .ok (.goto (-56), 3) ∧ decode cX9_keepsBits 61 = .ok (.return_, 1) ∧ True := zj_of zk_446
abbrev dX9_keepsBits_38 := zr_446.1
abbrev dX9_keepsBits_41 := zr_446.2.1
abbrev dX9_keepsBits_42 := zr_446.2.2.1
abbrev dX9_keepsBits_43 := zr_446.2.2.2.1
abbrev dX9_keepsBits_44 := zr_446.2.2.2.2.1
abbrev dX9_keepsBits_45 := zr_446.2.2.2.2.2.1
abbrev dX9_keepsBits_48 := zr_446.2.2.2.2.2.2.1
abbrev dX9_keepsBits_49 := zr_446.2.2.2.2.2.2.2.1
abbrev dX9_keepsBits_52 := zr_446.2.2.2.2.2.2.2.2.1
abbrev dX9_keepsBits_55 := zr_446.2.2.2.2.2.2.2.2.2.1
abbrev dX9_keepsBits_58 := zr_446.2.2.2.2.2.2.2.2.2.2.1
abbrev dX9_keepsBits_61 := zr_446.2.2.2.2.2.2.2.2.2.2.2.1
set_option maxRecDepth 100000 in
theorem zk_447 : zck 0 (cX9_otherBits.data.toList.drop 0) [(0, .iconst 0, 1), (1, .istore_n 1, 1), (2, .iconst 0, 1), (3, .istore_n 2, 1), (4, .iload_n 2, 1), (5, .bipush 8, 2), (7, .if_icmp .ge 70, 3), (10, .aload_n 0, 1), (11, .iload_n 2, 1), (12, .invokevirtual 122, 3), (15, .iconst 0, 1), (16, .istore_n 3, 1)] = true := by decide +kernel
theorem zr_447 : decode cX9_otherBits 0 = .ok (.iconst 0, 1) ∧ decode cX9_otherBits 1 = .ok (.istore_n 1, 1) ∧ decode cX9_otherBits 2 = .ok (.iconst 0, 1) ∧ decode cX9_otherBits 3 = .ok (.istore_n 2, 1) ∧ decode cX9_otherBits 4 = .ok (.iload_n 2, 1) ∧ decode cX9_otherBits 5 = .ok (.bipush 8, 2) ∧ decode cX9_otherBits 7 = .ok (.if_icmp .ge 70, 3) ∧ decode cX9_otherBits 10 = .ok (.aload_n 0, 1) ∧ decode cX9_otherBits 11 = .ok (.iload_n 2, 1) ∧ decode cX9_otherBits 12 = .ok (.invokevirtual 122, 3) ∧ decode cX9_otherBits 15 = .ok (.iconst 0, 1) ∧ decode cX9_otherBits 16 = .ok (.istore_n 3, 1) ∧ True := zj_of zk_447
abbrev dX9_otherBits_0 := zr_447.1
abbrev dX9_otherBits_1 := zr_447.2.1
abbrev dX9_otherBits_2 := zr_447.2.2.1
abbrev dX9_otherBits_3 := zr_447.2.2.2.1
abbrev dX9_otherBits_4 := zr_447.2.2.2.2.1
abbrev dX9_otherBits_5 := zr_447.2.2.2.2.2.1
abbrev dX9_otherBits_7 := zr_447.2.2.2.2.2.2.1
abbrev dX9_otherBits_10 := zr_447.2.2.2.2.2.2.2.1
abbrev dX9_otherBits_11 := zr_447.2.2.2.2.2.2.2.2.1
abbrev dX9_otherBits_12 := zr_447.2.2.2.2.2.2.2.2.2.1
abbrev dX9_otherBits_15 := zr_447.2.2.2.2.2.2.2.2.2.2.1
abbrev dX9_otherBits_16 := zr_447.2.2.2.2.2.2.2.2.2.2.2.1
set_option maxRecDepth 100000 in
theorem zk_448 : zck 17 (cX9_otherBits.data.toList.drop 17) [(17, .iload_n 3, 1), (18, .aload_n 0, 1), (19, .getfield 88, 3), (22, .if_icmp .ge 49, 3), (25, .iload_n 1, 1), (26, .aload_n 0, 1), (27, .getfield 64, 3), (30, .bipush 64, 2), (32, .iload_n 2, 1), (33, .imul, 1), (34, .iload_n 3, 1), (35, .iadd, 1)] = true := by decide +kernel
theorem zr_448 : decode cX9_otherBits 17 = .ok (.iload_n 3, 1) ∧ decode cX9_otherBits 18 = .ok (.aload_n 0, 1) ∧ decode cX9_otherBits 19 = .ok (.getfield 88, 3) ∧ decode cX9_otherBits 22 = .ok (.if_icmp .ge 49, 3) ∧ decode cX9_otherBits 25 = .ok (.iload_n 1, 1) ∧ decode cX9_otherBits 26 = .ok (.aload_n 0, 1) ∧ decode cX9_otherBits 27 = .ok (.getfield 64, 3) ∧ decode cX9_otherBits 30 = .ok (.bipush 64, 2) ∧ decode cX9_otherBits 32 = .ok (.iload_n 2, 1) ∧ decode cX9_otherBits 33 = .ok (.imul, 1) ∧ decode cX9_otherBits 34 = .ok (.iload_n 3, 1) ∧ decode cX9_otherBits 35 = .ok (.iadd, 1) ∧ True := zj_of zk_448
abbrev dX9_otherBits_17 := zr_448.1
abbrev dX9_otherBits_18 := zr_448.2.1
abbrev dX9_otherBits_19 := zr_448.2.2.1
abbrev dX9_otherBits_22 := zr_448.2.2.2.1
abbrev dX9_otherBits_25 := zr_448.2.2.2.2.1
abbrev dX9_otherBits_26 := zr_448.2.2.2.2.2.1
abbrev dX9_otherBits_27 := zr_448.2.2.2.2.2.2.1
abbrev dX9_otherBits_30 := zr_448.2.2.2.2.2.2.2.1
abbrev dX9_otherBits_32 := zr_448.2.2.2.2.2.2.2.2.1
abbrev dX9_otherBits_33 := zr_448.2.2.2.2.2.2.2.2.2.1
abbrev dX9_otherBits_34 := zr_448.2.2.2.2.2.2.2.2.2.2.1
abbrev dX9_otherBits_35 := zr_448.2.2.2.2.2.2.2.2.2.2.2.1
set_option maxRecDepth 100000 in
theorem zk_449 : zck 36 (cX9_otherBits.data.toList.drop 36) [(36, .iaload, 1), (37, .aload_n 0, 1), (38, .getfield 49, 3), (41, .aload_n 0, 1), (42, .getfield 58, 3), (45, .iload_n 3, 1), (46, .iaload, 1), (47, .iaload, 1), (48, .iload_n 2, 1), (49, .invokestatic 125, 3), (52, .if_icmp .eq 7, 3), (55, .iconst 1, 1)] = true := by decide +kernel
theorem zr_449 : decode cX9_otherBits 36 = .ok (.iaload, 1) ∧ decode cX9_otherBits 37 = .ok (.aload_n 0, 1) ∧ decode cX9_otherBits 38 = .ok (.getfield 49, 3) ∧ decode cX9_otherBits 41 = .ok (.aload_n 0, 1) ∧ decode cX9_otherBits 42 = .ok (.getfield 58, 3) ∧ decode cX9_otherBits 45 = .ok (.iload_n 3, 1) ∧ decode cX9_otherBits 46 = .ok (.iaload, 1) ∧ decode cX9_otherBits 47 = .ok (.iaload, 1) ∧ decode cX9_otherBits 48 = .ok (.iload_n 2, 1) ∧ decode cX9_otherBits 49 = .ok (.invokestatic 125, 3) ∧ decode cX9_otherBits 52 = .ok (.if_icmp .eq 7, 3) ∧ decode cX9_otherBits 55 = .ok (.iconst 1, 1) ∧ True := zj_of zk_449
abbrev dX9_otherBits_36 := zr_449.1
abbrev dX9_otherBits_37 := zr_449.2.1
abbrev dX9_otherBits_38 := zr_449.2.2.1
abbrev dX9_otherBits_41 := zr_449.2.2.2.1
abbrev dX9_otherBits_42 := zr_449.2.2.2.2.1
abbrev dX9_otherBits_45 := zr_449.2.2.2.2.2.1
abbrev dX9_otherBits_46 := zr_449.2.2.2.2.2.2.1
abbrev dX9_otherBits_47 := zr_449.2.2.2.2.2.2.2.1
abbrev dX9_otherBits_48 := zr_449.2.2.2.2.2.2.2.2.1
abbrev dX9_otherBits_49 := zr_449.2.2.2.2.2.2.2.2.2.1
abbrev dX9_otherBits_52 := zr_449.2.2.2.2.2.2.2.2.2.2.1
abbrev dX9_otherBits_55 := zr_449.2.2.2.2.2.2.2.2.2.2.2.1
set_option maxRecDepth 100000 in
theorem zk_450 : zck 56 (cX9_otherBits.data.toList.drop 56) [(56, .goto 4, 3), (59, .iconst 0, 1), (60, .invokestatic 31, 3), (63, .iadd, 1), (64, .istore_n 1, 1), (65, .iinc 3 1, 3), (68, .goto (-51), 3), (71, .iinc 2 1, 3), (74, .goto (-70), 3), (77, .iload_n 1, 1), (78, .ireturn, 1)] = true := by decide +kernel
theorem zr_450 : decode cX9_otherBits 56 = .ok (.goto 4, 3) ∧ decode cX9_otherBits 59 = .ok (.iconst 0, 1) ∧ decode cX9_otherBits 60 = .ok (.invokestatic 31, 3) ∧ decode cX9_otherBits 63 = .ok (.iadd, 1) ∧ decode cX9_otherBits 64 = .ok (.istore_n 1, 1) ∧ decode cX9_otherBits 65 = .ok (.iinc 3 1, 3) ∧ decode cX9_otherBits 68 = .ok (.goto (-51), 3) ∧ decode cX9_otherBits 71 = .ok (.iinc 2 1, 3) ∧ decode cX9_otherBits 74 = .ok (.goto (-70), 3) ∧ decode cX9_otherBits 77 = .ok (.iload_n 1, 1) ∧ decode cX9_otherBits 78 = .ok (.ireturn, 1) ∧ True := zj_of zk_450
abbrev dX9_otherBits_56 := zr_450.1
abbrev dX9_otherBits_59 := zr_450.2.1
abbrev dX9_otherBits_60 := zr_450.2.2.1
abbrev dX9_otherBits_63 := zr_450.2.2.2.1
abbrev dX9_otherBits_64 := zr_450.2.2.2.2.1
abbrev dX9_otherBits_65 := zr_450.2.2.2.2.2.1
abbrev dX9_otherBits_68 := zr_450.2.2.2.2.2.2.1
abbrev dX9_otherBits_71 := zr_450.2.2.2.2.2.2.2.1
abbrev dX9_otherBits_74 := zr_450.2.2.2.2.2.2.2.2.1
abbrev dX9_otherBits_77 := zr_450.2.2.2.2.2.2.2.2.2.1
abbrev dX9_otherBits_78 := zr_450.2.2.2.2.2.2.2.2.2.2.1
set_option maxRecDepth 100000 in
theorem zk_451 : zck 0 (cX9_adds.data.toList.drop 0) [(0, .aload_n 0, 1), (1, .iconst 0, 1), (2, .putfield 1, 3), (5, .iload_n 1, 1), (6, .invokestatic 129, 3), (9, .ifCond .ne 5, 3), (12, .iconst (-1), 1), (13, .ireturn, 1), (14, .aload_n 0, 1), (15, .getfield 88, 3), (18, .bipush 64, 2), (20, .if_icmp .ne 6, 3)] = true := by decide +kernel
theorem zr_451 : decode cX9_adds 0 = .ok (.aload_n 0, 1) ∧ decode cX9_adds 1 = .ok (.iconst 0, 1) ∧ decode cX9_adds 2 = .ok (.putfield 1, 3) ∧ decode cX9_adds 5 = .ok (.iload_n 1, 1) ∧ decode cX9_adds 6 = .ok (.invokestatic 129, 3) ∧ decode cX9_adds 9 = .ok (.ifCond .ne 5, 3) ∧ decode cX9_adds 12 = .ok (.iconst (-1), 1) ∧ decode cX9_adds 13 = .ok (.ireturn, 1) ∧ decode cX9_adds 14 = .ok (.aload_n 0, 1) ∧ decode cX9_adds 15 = .ok (.getfield 88, 3) ∧ decode cX9_adds 18 = .ok (.bipush 64, 2) ∧ decode cX9_adds 20 = .ok (.if_icmp .ne 6, 3) ∧ True := zj_of zk_451
abbrev dX9_adds_0 := zr_451.1
abbrev dX9_adds_1 := zr_451.2.1
abbrev dX9_adds_2 := zr_451.2.2.1
abbrev dX9_adds_5 := zr_451.2.2.2.1
abbrev dX9_adds_6 := zr_451.2.2.2.2.1
abbrev dX9_adds_9 := zr_451.2.2.2.2.2.1
abbrev dX9_adds_12 := zr_451.2.2.2.2.2.2.1
abbrev dX9_adds_13 := zr_451.2.2.2.2.2.2.2.1
abbrev dX9_adds_14 := zr_451.2.2.2.2.2.2.2.2.1
abbrev dX9_adds_15 := zr_451.2.2.2.2.2.2.2.2.2.1
abbrev dX9_adds_18 := zr_451.2.2.2.2.2.2.2.2.2.2.1
abbrev dX9_adds_20 := zr_451.2.2.2.2.2.2.2.2.2.2.2.1
set_option maxRecDepth 100000 in
theorem zk_452 : zck 23 (cX9_adds.data.toList.drop 23) [(23, .bipush (-3), 2), (25, .ireturn, 1), (26, .aload_n 0, 1), (27, .getfield 49, 3), (30, .aload_n 0, 1), (31, .getfield 88, 3), (34, .iload_n 1, 1), (35, .iastore, 1), (36, .aload_n 0, 1), (37, .dup, 1), (38, .getfield 88, 3), (41, .iconst 1, 1)] = true := by decide +kernel
theorem zr_452 : decode cX9_adds 23 = .ok (.bipush (-3), 2) ∧ decode cX9_adds 25 = .ok (.ireturn, 1) ∧ decode cX9_adds 26 = .ok (.aload_n 0, 1) ∧ decode cX9_adds 27 = .ok (.getfield 49, 3) ∧ decode cX9_adds 30 = .ok (.aload_n 0, 1) ∧ decode cX9_adds 31 = .ok (.getfield 88, 3) ∧ decode cX9_adds 34 = .ok (.iload_n 1, 1) ∧ decode cX9_adds 35 = .ok (.iastore, 1) ∧ decode cX9_adds 36 = .ok (.aload_n 0, 1) ∧ decode cX9_adds 37 = .ok (.dup, 1) ∧ decode cX9_adds 38 = .ok (.getfield 88, 3) ∧ decode cX9_adds 41 = .ok (.iconst 1, 1) ∧ True := zj_of zk_452
abbrev dX9_adds_23 := zr_452.1
abbrev dX9_adds_25 := zr_452.2.1
abbrev dX9_adds_26 := zr_452.2.2.1
abbrev dX9_adds_27 := zr_452.2.2.2.1
abbrev dX9_adds_30 := zr_452.2.2.2.2.1
abbrev dX9_adds_31 := zr_452.2.2.2.2.2.1
abbrev dX9_adds_34 := zr_452.2.2.2.2.2.2.1
abbrev dX9_adds_35 := zr_452.2.2.2.2.2.2.2.1
abbrev dX9_adds_36 := zr_452.2.2.2.2.2.2.2.2.1
abbrev dX9_adds_37 := zr_452.2.2.2.2.2.2.2.2.2.1
abbrev dX9_adds_38 := zr_452.2.2.2.2.2.2.2.2.2.2.1
abbrev dX9_adds_41 := zr_452.2.2.2.2.2.2.2.2.2.2.2.1
set_option maxRecDepth 100000 in
theorem zk_453 : zck 42 (cX9_adds.data.toList.drop 42) [(42, .iadd, 1), (43, .putfield 88, 3), (46, .aload_n 0, 1), (47, .getfield 88, 3), (50, .ireturn, 1)] = true := by decide +kernel
theorem zr_453 : decode cX9_adds 42 = .ok (.iadd, 1) ∧ decode cX9_adds 43 = .ok (.putfield 88, 3) ∧ decode cX9_adds 46 = .ok (.aload_n 0, 1) ∧ decode cX9_adds 47 = .ok (.getfield 88, 3) ∧ decode cX9_adds 50 = .ok (.ireturn, 1) ∧ True := zj_of zk_453
abbrev dX9_adds_42 := zr_453.1
abbrev dX9_adds_43 := zr_453.2.1
abbrev dX9_adds_46 := zr_453.2.2.1
abbrev dX9_adds_47 := zr_453.2.2.2.1
abbrev dX9_adds_50 := zr_453.2.2.2.2.1
set_option maxRecDepth 100000 in
theorem zk_454 : zck 0 (cX9_puts.data.toList.drop 0) [(0, .aload_n 0, 1), (1, .iconst 0, 1), (2, .putfield 1, 3), (5, .iload_n 2, 1), (6, .invokestatic 129, 3), (9, .ifCond .ne 5, 3), (12, .iconst (-1), 1), (13, .ireturn, 1), (14, .aload_n 0, 1), (15, .iload_n 1, 1), (16, .invokevirtual 132, 3), (19, .ifCond .ne 6, 3)] = true := by decide +kernel
theorem zr_454 : decode cX9_puts 0 = .ok (.aload_n 0, 1) ∧ decode cX9_puts 1 = .ok (.iconst 0, 1) ∧ decode cX9_puts 2 = .ok (.putfield 1, 3) ∧ decode cX9_puts 5 = .ok (.iload_n 2, 1) ∧ decode cX9_puts 6 = .ok (.invokestatic 129, 3) ∧ decode cX9_puts 9 = .ok (.ifCond .ne 5, 3) ∧ decode cX9_puts 12 = .ok (.iconst (-1), 1) ∧ decode cX9_puts 13 = .ok (.ireturn, 1) ∧ decode cX9_puts 14 = .ok (.aload_n 0, 1) ∧ decode cX9_puts 15 = .ok (.iload_n 1, 1) ∧ decode cX9_puts 16 = .ok (.invokevirtual 132, 3) ∧ decode cX9_puts 19 = .ok (.ifCond .ne 6, 3) ∧ True := zj_of zk_454
abbrev dX9_puts_0 := zr_454.1
abbrev dX9_puts_1 := zr_454.2.1
abbrev dX9_puts_2 := zr_454.2.2.1
abbrev dX9_puts_5 := zr_454.2.2.2.1
abbrev dX9_puts_6 := zr_454.2.2.2.2.1
abbrev dX9_puts_9 := zr_454.2.2.2.2.2.1
abbrev dX9_puts_12 := zr_454.2.2.2.2.2.2.1
abbrev dX9_puts_13 := zr_454.2.2.2.2.2.2.2.1
abbrev dX9_puts_14 := zr_454.2.2.2.2.2.2.2.2.1
abbrev dX9_puts_15 := zr_454.2.2.2.2.2.2.2.2.2.1
abbrev dX9_puts_16 := zr_454.2.2.2.2.2.2.2.2.2.2.1
abbrev dX9_puts_19 := zr_454.2.2.2.2.2.2.2.2.2.2.2.1
set_option maxRecDepth 100000 in
theorem zk_455 : zck 22 (cX9_puts.data.toList.drop 22) [(22, .bipush (-2), 2), (24, .ireturn, 1), (25, .aload_n 0, 1), (26, .getfield 49, 3), (29, .iload_n 1, 1), (30, .iaload, 1), (31, .istore_n 3, 1), (32, .iload_n 3, 1), (33, .iload_n 2, 1), (34, .if_icmp .ne 6, 3), (37, .bipush (-4), 2), (39, .ireturn, 1)] = true := by decide +kernel
theorem zr_455 : decode cX9_puts 22 = .ok (.bipush (-2), 2) ∧ decode cX9_puts 24 = .ok (.ireturn, 1) ∧ decode cX9_puts 25 = .ok (.aload_n 0, 1) ∧ decode cX9_puts 26 = .ok (.getfield 49, 3) ∧ decode cX9_puts 29 = .ok (.iload_n 1, 1) ∧ decode cX9_puts 30 = .ok (.iaload, 1) ∧ decode cX9_puts 31 = .ok (.istore_n 3, 1) ∧ decode cX9_puts 32 = .ok (.iload_n 3, 1) ∧ decode cX9_puts 33 = .ok (.iload_n 2, 1) ∧ decode cX9_puts 34 = .ok (.if_icmp .ne 6, 3) ∧ decode cX9_puts 37 = .ok (.bipush (-4), 2) ∧ decode cX9_puts 39 = .ok (.ireturn, 1) ∧ True := zj_of zk_455
abbrev dX9_puts_22 := zr_455.1
abbrev dX9_puts_24 := zr_455.2.1
abbrev dX9_puts_25 := zr_455.2.2.1
abbrev dX9_puts_26 := zr_455.2.2.2.1
abbrev dX9_puts_29 := zr_455.2.2.2.2.1
abbrev dX9_puts_30 := zr_455.2.2.2.2.2.1
abbrev dX9_puts_31 := zr_455.2.2.2.2.2.2.1
abbrev dX9_puts_32 := zr_455.2.2.2.2.2.2.2.1
abbrev dX9_puts_33 := zr_455.2.2.2.2.2.2.2.2.1
abbrev dX9_puts_34 := zr_455.2.2.2.2.2.2.2.2.2.1
abbrev dX9_puts_37 := zr_455.2.2.2.2.2.2.2.2.2.2.1
abbrev dX9_puts_39 := zr_455.2.2.2.2.2.2.2.2.2.2.2.1
set_option maxRecDepth 100000 in
theorem zk_456 : zck 40 (cX9_puts.data.toList.drop 40) [(40, .aload_n 0, 1), (41, .invokevirtual 135, 3), (44, .aload_n 0, 1), (45, .getfield 49, 3), (48, .iload_n 1, 1), (49, .iload_n 2, 1), (50, .iastore, 1), (51, .aload_n 0, 1), (52, .iconst 0, 1), (53, .putfield 11, 3), (56, .aload_n 0, 1), (57, .aload_n 0, 1)] = true := by decide +kernel
theorem zr_456 : decode cX9_puts 40 = .ok (.aload_n 0, 1) ∧ decode cX9_puts 41 = .ok (.invokevirtual 135, 3) ∧ decode cX9_puts 44 = .ok (.aload_n 0, 1) ∧ decode cX9_puts 45 = .ok (.getfield 49, 3) ∧ decode cX9_puts 48 = .ok (.iload_n 1, 1) ∧ decode cX9_puts 49 = .ok (.iload_n 2, 1) ∧ decode cX9_puts 50 = .ok (.iastore, 1) ∧ decode cX9_puts 51 = .ok (.aload_n 0, 1) ∧ decode cX9_puts 52 = .ok (.iconst 0, 1) ∧ decode cX9_puts 53 = .ok (.putfield 11, 3) ∧ decode cX9_puts 56 = .ok (.aload_n 0, 1) ∧ decode cX9_puts 57 = .ok (.aload_n 0, 1) ∧ True := zj_of zk_456
abbrev dX9_puts_40 := zr_456.1
abbrev dX9_puts_41 := zr_456.2.1
abbrev dX9_puts_44 := zr_456.2.2.1
abbrev dX9_puts_45 := zr_456.2.2.2.1
abbrev dX9_puts_48 := zr_456.2.2.2.2.1
abbrev dX9_puts_49 := zr_456.2.2.2.2.2.1
abbrev dX9_puts_50 := zr_456.2.2.2.2.2.2.1
abbrev dX9_puts_51 := zr_456.2.2.2.2.2.2.2.1
abbrev dX9_puts_52 := zr_456.2.2.2.2.2.2.2.2.1
abbrev dX9_puts_53 := zr_456.2.2.2.2.2.2.2.2.2.1
abbrev dX9_puts_56 := zr_456.2.2.2.2.2.2.2.2.2.2.1
abbrev dX9_puts_57 := zr_456.2.2.2.2.2.2.2.2.2.2.2.1
set_option maxRecDepth 100000 in
theorem zk_457 : zck 58 (cX9_puts.data.toList.drop 58) [(58, .invokevirtual 138, 3), (61, .i2l, 1), (62, .invokevirtual 142, 3), (65, .iload_n 3, 1), (66, .ireturn, 1)] = true := by decide +kernel
theorem zr_457 : decode cX9_puts 58 = .ok (.invokevirtual 138, 3) ∧ decode cX9_puts 61 = .ok (.i2l, 1) ∧ decode cX9_puts 62 = .ok (.invokevirtual 142, 3) ∧ decode cX9_puts 65 = .ok (.iload_n 3, 1) ∧ decode cX9_puts 66 = .ok (.ireturn, 1) ∧ True := zj_of zk_457
abbrev dX9_puts_58 := zr_457.1
abbrev dX9_puts_61 := zr_457.2.1
abbrev dX9_puts_62 := zr_457.2.2.1
abbrev dX9_puts_65 := zr_457.2.2.2.1
abbrev dX9_puts_66 := zr_457.2.2.2.2.1
set_option maxRecDepth 100000 in
theorem zk_458 : zck 0 (cX9_cuts.data.toList.drop 0) [(0, .aload_n 0, 1), (1, .iconst 0, 1), (2, .putfield 1, 3), (5, .aload_n 0, 1), (6, .iload_n 1, 1), (7, .invokevirtual 132, 3), (10, .ifCond .ne 6, 3), (13, .bipush (-2), 2), (15, .ireturn, 1), (16, .aload_n 0, 1), (17, .getfield 49, 3), (20, .iload_n 1, 1)] = true := by decide +kernel
theorem zr_458 : decode cX9_cuts 0 = .ok (.aload_n 0, 1) ∧ decode cX9_cuts 1 = .ok (.iconst 0, 1) ∧ decode cX9_cuts 2 = .ok (.putfield 1, 3) ∧ decode cX9_cuts 5 = .ok (.aload_n 0, 1) ∧ decode cX9_cuts 6 = .ok (.iload_n 1, 1) ∧ decode cX9_cuts 7 = .ok (.invokevirtual 132, 3) ∧ decode cX9_cuts 10 = .ok (.ifCond .ne 6, 3) ∧ decode cX9_cuts 13 = .ok (.bipush (-2), 2) ∧ decode cX9_cuts 15 = .ok (.ireturn, 1) ∧ decode cX9_cuts 16 = .ok (.aload_n 0, 1) ∧ decode cX9_cuts 17 = .ok (.getfield 49, 3) ∧ decode cX9_cuts 20 = .ok (.iload_n 1, 1) ∧ True := zj_of zk_458
abbrev dX9_cuts_0 := zr_458.1
abbrev dX9_cuts_1 := zr_458.2.1
abbrev dX9_cuts_2 := zr_458.2.2.1
abbrev dX9_cuts_5 := zr_458.2.2.2.1
abbrev dX9_cuts_6 := zr_458.2.2.2.2.1
abbrev dX9_cuts_7 := zr_458.2.2.2.2.2.1
abbrev dX9_cuts_10 := zr_458.2.2.2.2.2.2.1
abbrev dX9_cuts_13 := zr_458.2.2.2.2.2.2.2.1
abbrev dX9_cuts_15 := zr_458.2.2.2.2.2.2.2.2.1
abbrev dX9_cuts_16 := zr_458.2.2.2.2.2.2.2.2.2.1
abbrev dX9_cuts_17 := zr_458.2.2.2.2.2.2.2.2.2.2.1
abbrev dX9_cuts_20 := zr_458.2.2.2.2.2.2.2.2.2.2.2.1
set_option maxRecDepth 100000 in
theorem zk_459 : zck 21 (cX9_cuts.data.toList.drop 21) [(21, .iaload, 1), (22, .istore_n 2, 1), (23, .aload_n 0, 1), (24, .dup, 1), (25, .getfield 88, 3), (28, .iconst 1, 1), (29, .isub, 1), (30, .putfield 88, 3), (33, .iload_n 1, 1), (34, .istore_n 3, 1), (35, .iload_n 3, 1), (36, .aload_n 0, 1)] = true := by decide +kernel
theorem zr_459 : decode cX9_cuts 21 = .ok (.iaload, 1) ∧ decode cX9_cuts 22 = .ok (.istore_n 2, 1) ∧ decode cX9_cuts 23 = .ok (.aload_n 0, 1) ∧ decode cX9_cuts 24 = .ok (.dup, 1) ∧ decode cX9_cuts 25 = .ok (.getfield 88, 3) ∧ decode cX9_cuts 28 = .ok (.iconst 1, 1) ∧ decode cX9_cuts 29 = .ok (.isub, 1) ∧ decode cX9_cuts 30 = .ok (.putfield 88, 3) ∧ decode cX9_cuts 33 = .ok (.iload_n 1, 1) ∧ decode cX9_cuts 34 = .ok (.istore_n 3, 1) ∧ decode cX9_cuts 35 = .ok (.iload_n 3, 1) ∧ decode cX9_cuts 36 = .ok (.aload_n 0, 1) ∧ True := zj_of zk_459
abbrev dX9_cuts_21 := zr_459.1
abbrev dX9_cuts_22 := zr_459.2.1
abbrev dX9_cuts_23 := zr_459.2.2.1
abbrev dX9_cuts_24 := zr_459.2.2.2.1
abbrev dX9_cuts_25 := zr_459.2.2.2.2.1
abbrev dX9_cuts_28 := zr_459.2.2.2.2.2.1
abbrev dX9_cuts_29 := zr_459.2.2.2.2.2.2.1
abbrev dX9_cuts_30 := zr_459.2.2.2.2.2.2.2.1
abbrev dX9_cuts_33 := zr_459.2.2.2.2.2.2.2.2.1
abbrev dX9_cuts_34 := zr_459.2.2.2.2.2.2.2.2.2.1
abbrev dX9_cuts_35 := zr_459.2.2.2.2.2.2.2.2.2.2.1
abbrev dX9_cuts_36 := zr_459.2.2.2.2.2.2.2.2.2.2.2.1
set_option maxRecDepth 100000 in
theorem zk_460 : zck 37 (cX9_cuts.data.toList.drop 37) [(37, .getfield 88, 3), (40, .if_icmp .ge 23, 3), (43, .aload_n 0, 1), (44, .getfield 49, 3), (47, .iload_n 3, 1), (48, .aload_n 0, 1), (49, .getfield 49, 3), (52, .iload_n 3, 1), (53, .iconst 1, 1), (54, .iadd, 1), (55, .iaload, 1), (56, .iastore, 1)] = true := by decide +kernel
theorem zr_460 : decode cX9_cuts 37 = .ok (.getfield 88, 3) ∧ decode cX9_cuts 40 = .ok (.if_icmp .ge 23, 3) ∧ decode cX9_cuts 43 = .ok (.aload_n 0, 1) ∧ decode cX9_cuts 44 = .ok (.getfield 49, 3) ∧ decode cX9_cuts 47 = .ok (.iload_n 3, 1) ∧ decode cX9_cuts 48 = .ok (.aload_n 0, 1) ∧ decode cX9_cuts 49 = .ok (.getfield 49, 3) ∧ decode cX9_cuts 52 = .ok (.iload_n 3, 1) ∧ decode cX9_cuts 53 = .ok (.iconst 1, 1) ∧ decode cX9_cuts 54 = .ok (.iadd, 1) ∧ decode cX9_cuts 55 = .ok (.iaload, 1) ∧ decode cX9_cuts 56 = .ok (.iastore, 1) ∧ True := zj_of zk_460
abbrev dX9_cuts_37 := zr_460.1
abbrev dX9_cuts_40 := zr_460.2.1
abbrev dX9_cuts_43 := zr_460.2.2.1
abbrev dX9_cuts_44 := zr_460.2.2.2.1
abbrev dX9_cuts_47 := zr_460.2.2.2.2.1
abbrev dX9_cuts_48 := zr_460.2.2.2.2.2.1
abbrev dX9_cuts_49 := zr_460.2.2.2.2.2.2.1
abbrev dX9_cuts_52 := zr_460.2.2.2.2.2.2.2.1
abbrev dX9_cuts_53 := zr_460.2.2.2.2.2.2.2.2.1
abbrev dX9_cuts_54 := zr_460.2.2.2.2.2.2.2.2.2.1
abbrev dX9_cuts_55 := zr_460.2.2.2.2.2.2.2.2.2.2.1
abbrev dX9_cuts_56 := zr_460.2.2.2.2.2.2.2.2.2.2.2.1
set_option maxRecDepth 100000 in
theorem zk_461 : zck 57 (cX9_cuts.data.toList.drop 57) [(57, .iinc 3 1, 3), (60, .goto (-25), 3), (63, .iload_n 2, 1), (64, .ireturn, 1)] = true := by decide +kernel
theorem zr_461 : decode cX9_cuts 57 = .ok (.iinc 3 1, 3) ∧ decode cX9_cuts 60 = .ok (.goto (-25), 3) ∧ decode cX9_cuts 63 = .ok (.iload_n 2, 1) ∧ decode cX9_cuts 64 = .ok (.ireturn, 1) ∧ True := zj_of zk_461
abbrev dX9_cuts_57 := zr_461.1
abbrev dX9_cuts_60 := zr_461.2.1
abbrev dX9_cuts_63 := zr_461.2.2.1
abbrev dX9_cuts_64 := zr_461.2.2.2.1
set_option maxRecDepth 100000 in
theorem zk_462 : zck 0 (cX9_exchanges.data.toList.drop 0) [(0, .aload_n 0, 1), (1, .getfield 49, 3), (4, .iload_n 1, 1), (5, .iaload, 1), (6, .istore_n 3, 1), (7, .aload_n 0, 1), (8, .getfield 49, 3), (11, .iload_n 1, 1), (12, .aload_n 0, 1), (13, .getfield 49, 3), (16, .iload_n 2, 1), (17, .iaload, 1)] = true := by decide +kernel
theorem zr_462 : decode cX9_exchanges 0 = .ok (.aload_n 0, 1) ∧ decode cX9_exchanges 1 = .ok (.getfield 49, 3) ∧ decode cX9_exchanges 4 = .ok (.iload_n 1, 1) ∧ decode cX9_exchanges 5 = .ok (.iaload, 1) ∧ decode cX9_exchanges 6 = .ok (.istore_n 3, 1) ∧ decode cX9_exchanges 7 = .ok (.aload_n 0, 1) ∧ decode cX9_exchanges 8 = .ok (.getfield 49, 3) ∧ decode cX9_exchanges 11 = .ok (.iload_n 1, 1) ∧ decode cX9_exchanges 12 = .ok (.aload_n 0, 1) ∧ decode cX9_exchanges 13 = .ok (.getfield 49, 3) ∧ decode cX9_exchanges 16 = .ok (.iload_n 2, 1) ∧ decode cX9_exchanges 17 = .ok (.iaload, 1) ∧ True := zj_of zk_462
abbrev dX9_exchanges_0 := zr_462.1
abbrev dX9_exchanges_1 := zr_462.2.1
abbrev dX9_exchanges_4 := zr_462.2.2.1
abbrev dX9_exchanges_5 := zr_462.2.2.2.1
abbrev dX9_exchanges_6 := zr_462.2.2.2.2.1
abbrev dX9_exchanges_7 := zr_462.2.2.2.2.2.1
abbrev dX9_exchanges_8 := zr_462.2.2.2.2.2.2.1
abbrev dX9_exchanges_11 := zr_462.2.2.2.2.2.2.2.1
abbrev dX9_exchanges_12 := zr_462.2.2.2.2.2.2.2.2.1
abbrev dX9_exchanges_13 := zr_462.2.2.2.2.2.2.2.2.2.1
abbrev dX9_exchanges_16 := zr_462.2.2.2.2.2.2.2.2.2.2.1
abbrev dX9_exchanges_17 := zr_462.2.2.2.2.2.2.2.2.2.2.2.1
set_option maxRecDepth 100000 in
theorem zk_463 : zck 18 (cX9_exchanges.data.toList.drop 18) [(18, .iastore, 1), (19, .aload_n 0, 1), (20, .getfield 49, 3), (23, .iload_n 2, 1), (24, .iload_n 3, 1), (25, .iastore, 1), (26, .return_, 1)] = true := by decide +kernel
theorem zr_463 : decode cX9_exchanges 18 = .ok (.iastore, 1) ∧ decode cX9_exchanges 19 = .ok (.aload_n 0, 1) ∧ decode cX9_exchanges 20 = .ok (.getfield 49, 3) ∧ decode cX9_exchanges 23 = .ok (.iload_n 2, 1) ∧ decode cX9_exchanges 24 = .ok (.iload_n 3, 1) ∧ decode cX9_exchanges 25 = .ok (.iastore, 1) ∧ decode cX9_exchanges 26 = .ok (.return_, 1) ∧ True := zj_of zk_463
abbrev dX9_exchanges_18 := zr_463.1
abbrev dX9_exchanges_19 := zr_463.2.1
abbrev dX9_exchanges_20 := zr_463.2.2.1
abbrev dX9_exchanges_23 := zr_463.2.2.2.1
abbrev dX9_exchanges_24 := zr_463.2.2.2.2.1
abbrev dX9_exchanges_25 := zr_463.2.2.2.2.2.1
abbrev dX9_exchanges_26 := zr_463.2.2.2.2.2.2.1
set_option maxRecDepth 100000 in
theorem zk_464 : zck 0 (cX9_swaps.data.toList.drop 0) [(0, .aload_n 0, 1), (1, .iconst 0, 1), (2, .putfield 1, 3), (5, .aload_n 0, 1), (6, .iload_n 1, 1), (7, .invokevirtual 132, 3), (10, .ifCond .eq 16, 3), (13, .aload_n 0, 1), (14, .iload_n 2, 1), (15, .invokevirtual 132, 3), (18, .ifCond .eq 8, 3), (21, .iload_n 1, 1)] = true := by decide +kernel
theorem zr_464 : decode cX9_swaps 0 = .ok (.aload_n 0, 1) ∧ decode cX9_swaps 1 = .ok (.iconst 0, 1) ∧ decode cX9_swaps 2 = .ok (.putfield 1, 3) ∧ decode cX9_swaps 5 = .ok (.aload_n 0, 1) ∧ decode cX9_swaps 6 = .ok (.iload_n 1, 1) ∧ decode cX9_swaps 7 = .ok (.invokevirtual 132, 3) ∧ decode cX9_swaps 10 = .ok (.ifCond .eq 16, 3) ∧ decode cX9_swaps 13 = .ok (.aload_n 0, 1) ∧ decode cX9_swaps 14 = .ok (.iload_n 2, 1) ∧ decode cX9_swaps 15 = .ok (.invokevirtual 132, 3) ∧ decode cX9_swaps 18 = .ok (.ifCond .eq 8, 3) ∧ decode cX9_swaps 21 = .ok (.iload_n 1, 1) ∧ True := zj_of zk_464
abbrev dX9_swaps_0 := zr_464.1
abbrev dX9_swaps_1 := zr_464.2.1
abbrev dX9_swaps_2 := zr_464.2.2.1
abbrev dX9_swaps_5 := zr_464.2.2.2.1
abbrev dX9_swaps_6 := zr_464.2.2.2.2.1
abbrev dX9_swaps_7 := zr_464.2.2.2.2.2.1
abbrev dX9_swaps_10 := zr_464.2.2.2.2.2.2.1
abbrev dX9_swaps_13 := zr_464.2.2.2.2.2.2.2.1
abbrev dX9_swaps_14 := zr_464.2.2.2.2.2.2.2.2.1
abbrev dX9_swaps_15 := zr_464.2.2.2.2.2.2.2.2.2.1
abbrev dX9_swaps_18 := zr_464.2.2.2.2.2.2.2.2.2.2.1
abbrev dX9_swaps_21 := zr_464.2.2.2.2.2.2.2.2.2.2.2.1
set_option maxRecDepth 100000 in
theorem zk_465 : zck 22 (cX9_swaps.data.toList.drop 22) [(22, .iload_n 2, 1), (23, .if_icmp .ne 6, 3), (26, .bipush (-2), 2), (28, .ireturn, 1), (29, .aload_n 0, 1), (30, .invokevirtual 135, 3), (33, .aload_n 0, 1), (34, .iload_n 1, 1), (35, .iload_n 2, 1), (36, .invokevirtual 146, 3), (39, .aload_n 0, 1), (40, .invokevirtual 138, 3)] = true := by decide +kernel
theorem zr_465 : decode cX9_swaps 22 = .ok (.iload_n 2, 1) ∧ decode cX9_swaps 23 = .ok (.if_icmp .ne 6, 3) ∧ decode cX9_swaps 26 = .ok (.bipush (-2), 2) ∧ decode cX9_swaps 28 = .ok (.ireturn, 1) ∧ decode cX9_swaps 29 = .ok (.aload_n 0, 1) ∧ decode cX9_swaps 30 = .ok (.invokevirtual 135, 3) ∧ decode cX9_swaps 33 = .ok (.aload_n 0, 1) ∧ decode cX9_swaps 34 = .ok (.iload_n 1, 1) ∧ decode cX9_swaps 35 = .ok (.iload_n 2, 1) ∧ decode cX9_swaps 36 = .ok (.invokevirtual 146, 3) ∧ decode cX9_swaps 39 = .ok (.aload_n 0, 1) ∧ decode cX9_swaps 40 = .ok (.invokevirtual 138, 3) ∧ True := zj_of zk_465
abbrev dX9_swaps_22 := zr_465.1
abbrev dX9_swaps_23 := zr_465.2.1
abbrev dX9_swaps_26 := zr_465.2.2.1
abbrev dX9_swaps_28 := zr_465.2.2.2.1
abbrev dX9_swaps_29 := zr_465.2.2.2.2.1
abbrev dX9_swaps_30 := zr_465.2.2.2.2.2.1
abbrev dX9_swaps_33 := zr_465.2.2.2.2.2.2.1
abbrev dX9_swaps_34 := zr_465.2.2.2.2.2.2.2.1
abbrev dX9_swaps_35 := zr_465.2.2.2.2.2.2.2.2.1
abbrev dX9_swaps_36 := zr_465.2.2.2.2.2.2.2.2.2.1
abbrev dX9_swaps_39 := zr_465.2.2.2.2.2.2.2.2.2.2.1
abbrev dX9_swaps_40 := zr_465.2.2.2.2.2.2.2.2.2.2.2.1
set_option maxRecDepth 100000 in
theorem zk_466 : zck 43 (cX9_swaps.data.toList.drop 43) [(43, .ireturn, 1)] = true := by decide +kernel
theorem zr_466 : decode cX9_swaps 43 = .ok (.ireturn, 1) ∧ True := zj_of zk_466
abbrev dX9_swaps_43 := zr_466.1
set_option maxRecDepth 100000 in
theorem zk_467 : zck 0 (cX9_reverses.data.toList.drop 0) [(0, .aload_n 0, 1), (1, .iconst 0, 1), (2, .putfield 1, 3), (5, .aload_n 0, 1), (6, .iload_n 1, 1), (7, .iload_n 2, 1), (8, .invokevirtual 150, 3), (11, .ifCond .ne 5, 3), (14, .iconst (-1), 1), (15, .ireturn, 1), (16, .aload_n 0, 1), (17, .invokevirtual 135, 3)] = true := by decide +kernel
theorem zr_467 : decode cX9_reverses 0 = .ok (.aload_n 0, 1) ∧ decode cX9_reverses 1 = .ok (.iconst 0, 1) ∧ decode cX9_reverses 2 = .ok (.putfield 1, 3) ∧ decode cX9_reverses 5 = .ok (.aload_n 0, 1) ∧ decode cX9_reverses 6 = .ok (.iload_n 1, 1) ∧ decode cX9_reverses 7 = .ok (.iload_n 2, 1) ∧ decode cX9_reverses 8 = .ok (.invokevirtual 150, 3) ∧ decode cX9_reverses 11 = .ok (.ifCond .ne 5, 3) ∧ decode cX9_reverses 14 = .ok (.iconst (-1), 1) ∧ decode cX9_reverses 15 = .ok (.ireturn, 1) ∧ decode cX9_reverses 16 = .ok (.aload_n 0, 1) ∧ decode cX9_reverses 17 = .ok (.invokevirtual 135, 3) ∧ True := zj_of zk_467
abbrev dX9_reverses_0 := zr_467.1
abbrev dX9_reverses_1 := zr_467.2.1
abbrev dX9_reverses_2 := zr_467.2.2.1
abbrev dX9_reverses_5 := zr_467.2.2.2.1
abbrev dX9_reverses_6 := zr_467.2.2.2.2.1
abbrev dX9_reverses_7 := zr_467.2.2.2.2.2.1
abbrev dX9_reverses_8 := zr_467.2.2.2.2.2.2.1
abbrev dX9_reverses_11 := zr_467.2.2.2.2.2.2.2.1
abbrev dX9_reverses_14 := zr_467.2.2.2.2.2.2.2.2.1
abbrev dX9_reverses_15 := zr_467.2.2.2.2.2.2.2.2.2.1
abbrev dX9_reverses_16 := zr_467.2.2.2.2.2.2.2.2.2.2.1
abbrev dX9_reverses_17 := zr_467.2.2.2.2.2.2.2.2.2.2.2.1
set_option maxRecDepth 100000 in
theorem zk_468 : zck 20 (cX9_reverses.data.toList.drop 20) [(20, .iload_n 1, 1), (21, .istore_n 3, 1), (22, .iload_n 2, 1), (23, .iconst 1, 1), (24, .isub, 1), (25, .istore 4, 2), (27, .iload_n 3, 1), (28, .iload 4, 2), (30, .if_icmp .ge 19, 3), (33, .aload_n 0, 1), (34, .iload_n 3, 1), (35, .iload 4, 2)] = true := by decide +kernel
theorem zr_468 : decode cX9_reverses 20 = .ok (.iload_n 1, 1) ∧ decode cX9_reverses 21 = .ok (.istore_n 3, 1) ∧ decode cX9_reverses 22 = .ok (.iload_n 2, 1) ∧ decode cX9_reverses 23 = .ok (.iconst 1, 1) ∧ decode cX9_reverses 24 = .ok (.isub, 1) ∧ decode cX9_reverses 25 = .ok (.istore 4, 2) ∧ decode cX9_reverses 27 = .ok (.iload_n 3, 1) ∧ decode cX9_reverses 28 = .ok (.iload 4, 2) ∧ decode cX9_reverses 30 = .ok (.if_icmp .ge 19, 3) ∧ decode cX9_reverses 33 = .ok (.aload_n 0, 1) ∧ decode cX9_reverses 34 = .ok (.iload_n 3, 1) ∧ decode cX9_reverses 35 = .ok (.iload 4, 2) ∧ True := zj_of zk_468
abbrev dX9_reverses_20 := zr_468.1
abbrev dX9_reverses_21 := zr_468.2.1
abbrev dX9_reverses_22 := zr_468.2.2.1
abbrev dX9_reverses_23 := zr_468.2.2.2.1
abbrev dX9_reverses_24 := zr_468.2.2.2.2.1
abbrev dX9_reverses_25 := zr_468.2.2.2.2.2.1
abbrev dX9_reverses_27 := zr_468.2.2.2.2.2.2.1
abbrev dX9_reverses_28 := zr_468.2.2.2.2.2.2.2.1
abbrev dX9_reverses_30 := zr_468.2.2.2.2.2.2.2.2.1
abbrev dX9_reverses_33 := zr_468.2.2.2.2.2.2.2.2.2.1
abbrev dX9_reverses_34 := zr_468.2.2.2.2.2.2.2.2.2.2.1
abbrev dX9_reverses_35 := zr_468.2.2.2.2.2.2.2.2.2.2.2.1
set_option maxRecDepth 100000 in
theorem zk_469 : zck 37 (cX9_reverses.data.toList.drop 37) [(37, .invokevirtual 146, 3), (40, .iinc 3 1, 3), (43, .iinc 4 (-1), 3), (46, .goto (-19), 3), (49, .aload_n 0, 1), (50, .invokevirtual 138, 3), (53, .ireturn, 1)] = true := by decide +kernel
theorem zr_469 : decode cX9_reverses 37 = .ok (.invokevirtual 146, 3) ∧ decode cX9_reverses 40 = .ok (.iinc 3 1, 3) ∧ decode cX9_reverses 43 = .ok (.iinc 4 (-1), 3) ∧ decode cX9_reverses 46 = .ok (.goto (-19), 3) ∧ decode cX9_reverses 49 = .ok (.aload_n 0, 1) ∧ decode cX9_reverses 50 = .ok (.invokevirtual 138, 3) ∧ decode cX9_reverses 53 = .ok (.ireturn, 1) ∧ True := zj_of zk_469
abbrev dX9_reverses_37 := zr_469.1
abbrev dX9_reverses_40 := zr_469.2.1
abbrev dX9_reverses_43 := zr_469.2.2.1
abbrev dX9_reverses_46 := zr_469.2.2.2.1
abbrev dX9_reverses_49 := zr_469.2.2.2.2.1
abbrev dX9_reverses_50 := zr_469.2.2.2.2.2.1
abbrev dX9_reverses_53 := zr_469.2.2.2.2.2.2.1
set_option maxRecDepth 100000 in
theorem zk_470 : zck 0 (cX9_level.data.toList.drop 0) [(0, .aload_n 0, 1), (1, .iconst 0, 1), (2, .putfield 1, 3), (5, .iload_n 1, 1), (6, .i2l, 1), (7, .lconst 0, 1), (8, .ldc2_w 154, 3), (11, .invokestatic 21, 3), (14, .ifCond .ne 5, 3), (17, .iconst (-1), 1), (18, .ireturn, 1), (19, .aload_n 0, 1)] = true := by decide +kernel
theorem zr_470 : decode cX9_level 0 = .ok (.aload_n 0, 1) ∧ decode cX9_level 1 = .ok (.iconst 0, 1) ∧ decode cX9_level 2 = .ok (.putfield 1, 3) ∧ decode cX9_level 5 = .ok (.iload_n 1, 1) ∧ decode cX9_level 6 = .ok (.i2l, 1) ∧ decode cX9_level 7 = .ok (.lconst 0, 1) ∧ decode cX9_level 8 = .ok (.ldc2_w 154, 3) ∧ decode cX9_level 11 = .ok (.invokestatic 21, 3) ∧ decode cX9_level 14 = .ok (.ifCond .ne 5, 3) ∧ decode cX9_level 17 = .ok (.iconst (-1), 1) ∧ decode cX9_level 18 = .ok (.ireturn, 1) ∧ decode cX9_level 19 = .ok (.aload_n 0, 1) ∧ True := zj_of zk_470
abbrev dX9_level_0 := zr_470.1
abbrev dX9_level_1 := zr_470.2.1
abbrev dX9_level_2 := zr_470.2.2.1
abbrev dX9_level_5 := zr_470.2.2.2.1
abbrev dX9_level_6 := zr_470.2.2.2.2.1
abbrev dX9_level_7 := zr_470.2.2.2.2.2.1
abbrev dX9_level_8 := zr_470.2.2.2.2.2.2.1
abbrev dX9_level_11 := zr_470.2.2.2.2.2.2.2.1
abbrev dX9_level_14 := zr_470.2.2.2.2.2.2.2.2.1
abbrev dX9_level_17 := zr_470.2.2.2.2.2.2.2.2.2.1
abbrev dX9_level_18 := zr_470.2.2.2.2.2.2.2.2.2.2.1
abbrev dX9_level_19 := zr_470.2.2.2.2.2.2.2.2.2.2.2.1
set_option maxRecDepth 100000 in
theorem zk_471 : zck 20 (cX9_level.data.toList.drop 20) [(20, .iload_n 1, 1), (21, .invokevirtual 122, 3), (24, .iconst 0, 1), (25, .istore_n 2, 1), (26, .lconst 0, 1), (27, .lstore_n 3, 1), (28, .iconst 0, 1), (29, .istore 5, 2), (31, .iload 5, 2), (33, .aload_n 0, 1), (34, .getfield 88, 3), (37, .if_icmp .ge 54, 3)] = true := by decide +kernel
theorem zr_471 : decode cX9_level 20 = .ok (.iload_n 1, 1) ∧ decode cX9_level 21 = .ok (.invokevirtual 122, 3) ∧ decode cX9_level 24 = .ok (.iconst 0, 1) ∧ decode cX9_level 25 = .ok (.istore_n 2, 1) ∧ decode cX9_level 26 = .ok (.lconst 0, 1) ∧ decode cX9_level 27 = .ok (.lstore_n 3, 1) ∧ decode cX9_level 28 = .ok (.iconst 0, 1) ∧ decode cX9_level 29 = .ok (.istore 5, 2) ∧ decode cX9_level 31 = .ok (.iload 5, 2) ∧ decode cX9_level 33 = .ok (.aload_n 0, 1) ∧ decode cX9_level 34 = .ok (.getfield 88, 3) ∧ decode cX9_level 37 = .ok (.if_icmp .ge 54, 3) ∧ True := zj_of zk_471
abbrev dX9_level_20 := zr_471.1
abbrev dX9_level_21 := zr_471.2.1
abbrev dX9_level_24 := zr_471.2.2.1
abbrev dX9_level_25 := zr_471.2.2.2.1
abbrev dX9_level_26 := zr_471.2.2.2.2.1
abbrev dX9_level_27 := zr_471.2.2.2.2.2.1
abbrev dX9_level_28 := zr_471.2.2.2.2.2.2.1
abbrev dX9_level_29 := zr_471.2.2.2.2.2.2.2.1
abbrev dX9_level_31 := zr_471.2.2.2.2.2.2.2.2.1
abbrev dX9_level_33 := zr_471.2.2.2.2.2.2.2.2.2.1
abbrev dX9_level_34 := zr_471.2.2.2.2.2.2.2.2.2.2.1
abbrev dX9_level_37 := zr_471.2.2.2.2.2.2.2.2.2.2.2.1
set_option maxRecDepth 100000 in
theorem zk_472 : zck 40 (cX9_level.data.toList.drop 40) [(40, .aload_n 0, 1), (41, .getfield 49, 3), (44, .aload_n 0, 1), (45, .getfield 58, 3), (48, .iload 5, 2), (50, .iaload, 1), (51, .iaload, 1), (52, .iload_n 1, 1), (53, .invokestatic 125, 3), (56, .i2l, 1), (57, .lstore 6, 2), (59, .lload_n 3, 1)] = true := by decide +kernel
theorem zr_472 : decode cX9_level 40 = .ok (.aload_n 0, 1) ∧ decode cX9_level 41 = .ok (.getfield 49, 3) ∧ decode cX9_level 44 = .ok (.aload_n 0, 1) ∧ decode cX9_level 45 = .ok (.getfield 58, 3) ∧ decode cX9_level 48 = .ok (.iload 5, 2) ∧ decode cX9_level 50 = .ok (.iaload, 1) ∧ decode cX9_level 51 = .ok (.iaload, 1) ∧ decode cX9_level 52 = .ok (.iload_n 1, 1) ∧ decode cX9_level 53 = .ok (.invokestatic 125, 3) ∧ decode cX9_level 56 = .ok (.i2l, 1) ∧ decode cX9_level 57 = .ok (.lstore 6, 2) ∧ decode cX9_level 59 = .ok (.lload_n 3, 1) ∧ True := zj_of zk_472
abbrev dX9_level_40 := zr_472.1
abbrev dX9_level_41 := zr_472.2.1
abbrev dX9_level_44 := zr_472.2.2.1
abbrev dX9_level_45 := zr_472.2.2.2.1
abbrev dX9_level_48 := zr_472.2.2.2.2.1
abbrev dX9_level_50 := zr_472.2.2.2.2.2.1
abbrev dX9_level_51 := zr_472.2.2.2.2.2.2.1
abbrev dX9_level_52 := zr_472.2.2.2.2.2.2.2.1
abbrev dX9_level_53 := zr_472.2.2.2.2.2.2.2.2.1
abbrev dX9_level_56 := zr_472.2.2.2.2.2.2.2.2.2.1
abbrev dX9_level_57 := zr_472.2.2.2.2.2.2.2.2.2.2.1
abbrev dX9_level_59 := zr_472.2.2.2.2.2.2.2.2.2.2.2.1
set_option maxRecDepth 100000 in
theorem zk_473 : zck 60 (cX9_level.data.toList.drop 60) [(60, .lload 6, 2), (62, .iload 5, 2), (64, .lshl, 1), (65, .lor, 1), (66, .lstore_n 3, 1), (67, .iload_n 2, 1), (68, .lload 6, 2), (70, .lconst 0, 1), (71, .lcmp, 1), (72, .ifCond .ne 7, 3), (75, .iconst 1, 1), (76, .goto 4, 3)] = true := by decide +kernel
theorem zr_473 : decode cX9_level 60 = .ok (.lload 6, 2) ∧ decode cX9_level 62 = .ok (.iload 5, 2) ∧ decode cX9_level 64 = .ok (.lshl, 1) ∧ decode cX9_level 65 = .ok (.lor, 1) ∧ decode cX9_level 66 = .ok (.lstore_n 3, 1) ∧ decode cX9_level 67 = .ok (.iload_n 2, 1) ∧ decode cX9_level 68 = .ok (.lload 6, 2) ∧ decode cX9_level 70 = .ok (.lconst 0, 1) ∧ decode cX9_level 71 = .ok (.lcmp, 1) ∧ decode cX9_level 72 = .ok (.ifCond .ne 7, 3) ∧ decode cX9_level 75 = .ok (.iconst 1, 1) ∧ decode cX9_level 76 = .ok (.goto 4, 3) ∧ True := zj_of zk_473
abbrev dX9_level_60 := zr_473.1
abbrev dX9_level_62 := zr_473.2.1
abbrev dX9_level_64 := zr_473.2.2.1
abbrev dX9_level_65 := zr_473.2.2.2.1
abbrev dX9_level_66 := zr_473.2.2.2.2.1
abbrev dX9_level_67 := zr_473.2.2.2.2.2.1
abbrev dX9_level_68 := zr_473.2.2.2.2.2.2.1
abbrev dX9_level_70 := zr_473.2.2.2.2.2.2.2.1
abbrev dX9_level_71 := zr_473.2.2.2.2.2.2.2.2.1
abbrev dX9_level_72 := zr_473.2.2.2.2.2.2.2.2.2.1
abbrev dX9_level_75 := zr_473.2.2.2.2.2.2.2.2.2.2.1
abbrev dX9_level_76 := zr_473.2.2.2.2.2.2.2.2.2.2.2.1
set_option maxRecDepth 100000 in
theorem zk_474 : zck 79 (cX9_level.data.toList.drop 79) [(79, .iconst 0, 1), (80, .invokestatic 31, 3), (83, .iadd, 1), (84, .istore_n 2, 1), (85, .iinc 5 1, 3), (88, .goto (-57), 3), (91, .aload_n 0, 1), (92, .iconst 0, 1), (93, .putfield 11, 3), (96, .aload_n 0, 1), (97, .lload_n 3, 1), (98, .invokevirtual 142, 3)] = true := by decide +kernel
theorem zr_474 : decode cX9_level 79 = .ok (.iconst 0, 1) ∧ decode cX9_level 80 = .ok (.invokestatic 31, 3) ∧ decode cX9_level 83 = .ok (.iadd, 1) ∧ decode cX9_level 84 = .ok (.istore_n 2, 1) ∧ decode cX9_level 85 = .ok (.iinc 5 1, 3) ∧ decode cX9_level 88 = .ok (.goto (-57), 3) ∧ decode cX9_level 91 = .ok (.aload_n 0, 1) ∧ decode cX9_level 92 = .ok (.iconst 0, 1) ∧ decode cX9_level 93 = .ok (.putfield 11, 3) ∧ decode cX9_level 96 = .ok (.aload_n 0, 1) ∧ decode cX9_level 97 = .ok (.lload_n 3, 1) ∧ decode cX9_level 98 = .ok (.invokevirtual 142, 3) ∧ True := zj_of zk_474
abbrev dX9_level_79 := zr_474.1
abbrev dX9_level_80 := zr_474.2.1
abbrev dX9_level_83 := zr_474.2.2.1
abbrev dX9_level_84 := zr_474.2.2.2.1
abbrev dX9_level_85 := zr_474.2.2.2.2.1
abbrev dX9_level_88 := zr_474.2.2.2.2.2.1
abbrev dX9_level_91 := zr_474.2.2.2.2.2.2.1
abbrev dX9_level_92 := zr_474.2.2.2.2.2.2.2.1
abbrev dX9_level_93 := zr_474.2.2.2.2.2.2.2.2.1
abbrev dX9_level_96 := zr_474.2.2.2.2.2.2.2.2.2.1
abbrev dX9_level_97 := zr_474.2.2.2.2.2.2.2.2.2.2.1
abbrev dX9_level_98 := zr_474.2.2.2.2.2.2.2.2.2.2.2.1
set_option maxRecDepth 100000 in
theorem zk_475 : zck 101 (cX9_level.data.toList.drop 101) [(101, .aload_n 0, 1), (102, .aload_n 0, 1), (103, .bipush 7, 2), (105, .iload_n 1, 1), (106, .isub, 1), (107, .invokevirtual 156, 3), (110, .i2l, 1), (111, .invokevirtual 142, 3), (114, .iload_n 2, 1), (115, .ireturn, 1)] = true := by decide +kernel
theorem zr_475 : decode cX9_level 101 = .ok (.aload_n 0, 1) ∧ decode cX9_level 102 = .ok (.aload_n 0, 1) ∧ decode cX9_level 103 = .ok (.bipush 7, 2) ∧ decode cX9_level 105 = .ok (.iload_n 1, 1) ∧ decode cX9_level 106 = .ok (.isub, 1) ∧ decode cX9_level 107 = .ok (.invokevirtual 156, 3) ∧ decode cX9_level 110 = .ok (.i2l, 1) ∧ decode cX9_level 111 = .ok (.invokevirtual 142, 3) ∧ decode cX9_level 114 = .ok (.iload_n 2, 1) ∧ decode cX9_level 115 = .ok (.ireturn, 1) ∧ True := zj_of zk_475
abbrev dX9_level_101 := zr_475.1
abbrev dX9_level_102 := zr_475.2.1
abbrev dX9_level_103 := zr_475.2.2.1
abbrev dX9_level_105 := zr_475.2.2.2.1
abbrev dX9_level_106 := zr_475.2.2.2.2.1
abbrev dX9_level_107 := zr_475.2.2.2.2.2.1
abbrev dX9_level_110 := zr_475.2.2.2.2.2.2.1
abbrev dX9_level_111 := zr_475.2.2.2.2.2.2.2.1
abbrev dX9_level_114 := zr_475.2.2.2.2.2.2.2.2.1
abbrev dX9_level_115 := zr_475.2.2.2.2.2.2.2.2.2.1
set_option maxRecDepth 100000 in
theorem zk_476 : zck 0 (cX9_spot.data.toList.drop 0) [(0, .aload_n 0, 1), (1, .iconst 0, 1), (2, .putfield 1, 3), (5, .iload_n 2, 1), (6, .i2l, 1), (7, .lconst 0, 1), (8, .ldc2_w 160, 3), (11, .invokestatic 21, 3), (14, .ifCond .ne 5, 3), (17, .iconst (-1), 1), (18, .ireturn, 1), (19, .aload_n 0, 1)] = true := by decide +kernel
theorem zr_476 : decode cX9_spot 0 = .ok (.aload_n 0, 1) ∧ decode cX9_spot 1 = .ok (.iconst 0, 1) ∧ decode cX9_spot 2 = .ok (.putfield 1, 3) ∧ decode cX9_spot 5 = .ok (.iload_n 2, 1) ∧ decode cX9_spot 6 = .ok (.i2l, 1) ∧ decode cX9_spot 7 = .ok (.lconst 0, 1) ∧ decode cX9_spot 8 = .ok (.ldc2_w 160, 3) ∧ decode cX9_spot 11 = .ok (.invokestatic 21, 3) ∧ decode cX9_spot 14 = .ok (.ifCond .ne 5, 3) ∧ decode cX9_spot 17 = .ok (.iconst (-1), 1) ∧ decode cX9_spot 18 = .ok (.ireturn, 1) ∧ decode cX9_spot 19 = .ok (.aload_n 0, 1) ∧ True := zj_of zk_476
abbrev dX9_spot_0 := zr_476.1
abbrev dX9_spot_1 := zr_476.2.1
abbrev dX9_spot_2 := zr_476.2.2.1
abbrev dX9_spot_5 := zr_476.2.2.2.1
abbrev dX9_spot_6 := zr_476.2.2.2.2.1
abbrev dX9_spot_7 := zr_476.2.2.2.2.2.1
abbrev dX9_spot_8 := zr_476.2.2.2.2.2.2.1
abbrev dX9_spot_11 := zr_476.2.2.2.2.2.2.2.1
abbrev dX9_spot_14 := zr_476.2.2.2.2.2.2.2.2.1
abbrev dX9_spot_17 := zr_476.2.2.2.2.2.2.2.2.2.1
abbrev dX9_spot_18 := zr_476.2.2.2.2.2.2.2.2.2.2.1
abbrev dX9_spot_19 := zr_476.2.2.2.2.2.2.2.2.2.2.2.1
set_option maxRecDepth 100000 in
theorem zk_477 : zck 20 (cX9_spot.data.toList.drop 20) [(20, .iload_n 1, 1), (21, .invokevirtual 132, 3), (24, .ifCond .ne 6, 3), (27, .bipush (-2), 2), (29, .ireturn, 1), (30, .aload_n 0, 1), (31, .iload_n 2, 1), (32, .invokevirtual 122, 3), (35, .iconst 0, 1), (36, .istore_n 3, 1), (37, .aload_n 0, 1), (38, .getfield 58, 3)] = true := by decide +kernel
theorem zr_477 : decode cX9_spot 20 = .ok (.iload_n 1, 1) ∧ decode cX9_spot 21 = .ok (.invokevirtual 132, 3) ∧ decode cX9_spot 24 = .ok (.ifCond .ne 6, 3) ∧ decode cX9_spot 27 = .ok (.bipush (-2), 2) ∧ decode cX9_spot 29 = .ok (.ireturn, 1) ∧ decode cX9_spot 30 = .ok (.aload_n 0, 1) ∧ decode cX9_spot 31 = .ok (.iload_n 2, 1) ∧ decode cX9_spot 32 = .ok (.invokevirtual 122, 3) ∧ decode cX9_spot 35 = .ok (.iconst 0, 1) ∧ decode cX9_spot 36 = .ok (.istore_n 3, 1) ∧ decode cX9_spot 37 = .ok (.aload_n 0, 1) ∧ decode cX9_spot 38 = .ok (.getfield 58, 3) ∧ True := zj_of zk_477
abbrev dX9_spot_20 := zr_477.1
abbrev dX9_spot_21 := zr_477.2.1
abbrev dX9_spot_24 := zr_477.2.2.1
abbrev dX9_spot_27 := zr_477.2.2.2.1
abbrev dX9_spot_29 := zr_477.2.2.2.2.1
abbrev dX9_spot_30 := zr_477.2.2.2.2.2.1
abbrev dX9_spot_31 := zr_477.2.2.2.2.2.2.1
abbrev dX9_spot_32 := zr_477.2.2.2.2.2.2.2.1
abbrev dX9_spot_35 := zr_477.2.2.2.2.2.2.2.2.1
abbrev dX9_spot_36 := zr_477.2.2.2.2.2.2.2.2.2.1
abbrev dX9_spot_37 := zr_477.2.2.2.2.2.2.2.2.2.2.1
abbrev dX9_spot_38 := zr_477.2.2.2.2.2.2.2.2.2.2.2.1
set_option maxRecDepth 100000 in
theorem zk_478 : zck 41 (cX9_spot.data.toList.drop 41) [(41, .iload_n 3, 1), (42, .iaload, 1), (43, .iload_n 1, 1), (44, .if_icmp .eq 9, 3), (47, .iinc 3 1, 3), (50, .goto (-13), 3), (53, .aload_n 0, 1), (54, .iconst 0, 1), (55, .putfield 11, 3), (58, .aload_n 0, 1), (59, .aload_n 0, 1), (60, .getfield 49, 3)] = true := by decide +kernel
theorem zr_478 : decode cX9_spot 41 = .ok (.iload_n 3, 1) ∧ decode cX9_spot 42 = .ok (.iaload, 1) ∧ decode cX9_spot 43 = .ok (.iload_n 1, 1) ∧ decode cX9_spot 44 = .ok (.if_icmp .eq 9, 3) ∧ decode cX9_spot 47 = .ok (.iinc 3 1, 3) ∧ decode cX9_spot 50 = .ok (.goto (-13), 3) ∧ decode cX9_spot 53 = .ok (.aload_n 0, 1) ∧ decode cX9_spot 54 = .ok (.iconst 0, 1) ∧ decode cX9_spot 55 = .ok (.putfield 11, 3) ∧ decode cX9_spot 58 = .ok (.aload_n 0, 1) ∧ decode cX9_spot 59 = .ok (.aload_n 0, 1) ∧ decode cX9_spot 60 = .ok (.getfield 49, 3) ∧ True := zj_of zk_478
abbrev dX9_spot_41 := zr_478.1
abbrev dX9_spot_42 := zr_478.2.1
abbrev dX9_spot_43 := zr_478.2.2.1
abbrev dX9_spot_44 := zr_478.2.2.2.1
abbrev dX9_spot_47 := zr_478.2.2.2.2.1
abbrev dX9_spot_50 := zr_478.2.2.2.2.2.1
abbrev dX9_spot_53 := zr_478.2.2.2.2.2.2.1
abbrev dX9_spot_54 := zr_478.2.2.2.2.2.2.2.1
abbrev dX9_spot_55 := zr_478.2.2.2.2.2.2.2.2.1
abbrev dX9_spot_58 := zr_478.2.2.2.2.2.2.2.2.2.1
abbrev dX9_spot_59 := zr_478.2.2.2.2.2.2.2.2.2.2.1
abbrev dX9_spot_60 := zr_478.2.2.2.2.2.2.2.2.2.2.2.1
set_option maxRecDepth 100000 in
theorem zk_479 : zck 63 (cX9_spot.data.toList.drop 63) [(63, .iload_n 1, 1), (64, .iaload, 1), (65, .bipush 8, 2), (67, .iload_n 2, 1), (68, .isub, 1), (69, .ishr, 1), (70, .i2l, 1), (71, .invokevirtual 142, 3), (74, .iload_n 3, 1), (75, .ireturn, 1)] = true := by decide +kernel
theorem zr_479 : decode cX9_spot 63 = .ok (.iload_n 1, 1) ∧ decode cX9_spot 64 = .ok (.iaload, 1) ∧ decode cX9_spot 65 = .ok (.bipush 8, 2) ∧ decode cX9_spot 67 = .ok (.iload_n 2, 1) ∧ decode cX9_spot 68 = .ok (.isub, 1) ∧ decode cX9_spot 69 = .ok (.ishr, 1) ∧ decode cX9_spot 70 = .ok (.i2l, 1) ∧ decode cX9_spot 71 = .ok (.invokevirtual 142, 3) ∧ decode cX9_spot 74 = .ok (.iload_n 3, 1) ∧ decode cX9_spot 75 = .ok (.ireturn, 1) ∧ True := zj_of zk_479
abbrev dX9_spot_63 := zr_479.1
abbrev dX9_spot_64 := zr_479.2.1
abbrev dX9_spot_65 := zr_479.2.2.1
abbrev dX9_spot_67 := zr_479.2.2.2.1
abbrev dX9_spot_68 := zr_479.2.2.2.2.1
abbrev dX9_spot_69 := zr_479.2.2.2.2.2.1
abbrev dX9_spot_70 := zr_479.2.2.2.2.2.2.1
abbrev dX9_spot_71 := zr_479.2.2.2.2.2.2.2.1
abbrev dX9_spot_74 := zr_479.2.2.2.2.2.2.2.2.1
abbrev dX9_spot_75 := zr_479.2.2.2.2.2.2.2.2.2.1
set_option maxRecDepth 100000 in
theorem zk_480 : zck 0 (cX9_from.data.toList.drop 0) [(0, .aload_n 0, 1), (1, .iconst 0, 1), (2, .putfield 1, 3), (5, .iload_n 1, 1), (6, .i2l, 1), (7, .lconst 0, 1), (8, .ldc2_w 160, 3), (11, .invokestatic 21, 3), (14, .ifCond .ne 5, 3), (17, .iconst (-1), 1), (18, .ireturn, 1), (19, .aload_n 0, 1)] = true := by decide +kernel
theorem zr_480 : decode cX9_from 0 = .ok (.aload_n 0, 1) ∧ decode cX9_from 1 = .ok (.iconst 0, 1) ∧ decode cX9_from 2 = .ok (.putfield 1, 3) ∧ decode cX9_from 5 = .ok (.iload_n 1, 1) ∧ decode cX9_from 6 = .ok (.i2l, 1) ∧ decode cX9_from 7 = .ok (.lconst 0, 1) ∧ decode cX9_from 8 = .ok (.ldc2_w 160, 3) ∧ decode cX9_from 11 = .ok (.invokestatic 21, 3) ∧ decode cX9_from 14 = .ok (.ifCond .ne 5, 3) ∧ decode cX9_from 17 = .ok (.iconst (-1), 1) ∧ decode cX9_from 18 = .ok (.ireturn, 1) ∧ decode cX9_from 19 = .ok (.aload_n 0, 1) ∧ True := zj_of zk_480
abbrev dX9_from_0 := zr_480.1
abbrev dX9_from_1 := zr_480.2.1
abbrev dX9_from_2 := zr_480.2.2.1
abbrev dX9_from_5 := zr_480.2.2.2.1
abbrev dX9_from_6 := zr_480.2.2.2.2.1
abbrev dX9_from_7 := zr_480.2.2.2.2.2.1
abbrev dX9_from_8 := zr_480.2.2.2.2.2.2.1
abbrev dX9_from_11 := zr_480.2.2.2.2.2.2.2.1
abbrev dX9_from_14 := zr_480.2.2.2.2.2.2.2.2.1
abbrev dX9_from_17 := zr_480.2.2.2.2.2.2.2.2.2.1
abbrev dX9_from_18 := zr_480.2.2.2.2.2.2.2.2.2.2.1
abbrev dX9_from_19 := zr_480.2.2.2.2.2.2.2.2.2.2.2.1
set_option maxRecDepth 100000 in
theorem zk_481 : zck 20 (cX9_from.data.toList.drop 20) [(20, .iload_n 2, 1), (21, .invokevirtual 132, 3), (24, .ifCond .ne 6, 3), (27, .bipush (-2), 2), (29, .ireturn, 1), (30, .aload_n 0, 1), (31, .iload_n 1, 1), (32, .invokevirtual 122, 3), (35, .aload_n 0, 1), (36, .iconst 0, 1), (37, .putfield 11, 3), (40, .aload_n 0, 1)] = true := by decide +kernel
theorem zr_481 : decode cX9_from 20 = .ok (.iload_n 2, 1) ∧ decode cX9_from 21 = .ok (.invokevirtual 132, 3) ∧ decode cX9_from 24 = .ok (.ifCond .ne 6, 3) ∧ decode cX9_from 27 = .ok (.bipush (-2), 2) ∧ decode cX9_from 29 = .ok (.ireturn, 1) ∧ decode cX9_from 30 = .ok (.aload_n 0, 1) ∧ decode cX9_from 31 = .ok (.iload_n 1, 1) ∧ decode cX9_from 32 = .ok (.invokevirtual 122, 3) ∧ decode cX9_from 35 = .ok (.aload_n 0, 1) ∧ decode cX9_from 36 = .ok (.iconst 0, 1) ∧ decode cX9_from 37 = .ok (.putfield 11, 3) ∧ decode cX9_from 40 = .ok (.aload_n 0, 1) ∧ True := zj_of zk_481
abbrev dX9_from_20 := zr_481.1
abbrev dX9_from_21 := zr_481.2.1
abbrev dX9_from_24 := zr_481.2.2.1
abbrev dX9_from_27 := zr_481.2.2.2.1
abbrev dX9_from_29 := zr_481.2.2.2.2.1
abbrev dX9_from_30 := zr_481.2.2.2.2.2.1
abbrev dX9_from_31 := zr_481.2.2.2.2.2.2.1
abbrev dX9_from_32 := zr_481.2.2.2.2.2.2.2.1
abbrev dX9_from_35 := zr_481.2.2.2.2.2.2.2.2.1
abbrev dX9_from_36 := zr_481.2.2.2.2.2.2.2.2.2.1
abbrev dX9_from_37 := zr_481.2.2.2.2.2.2.2.2.2.2.1
abbrev dX9_from_40 := zr_481.2.2.2.2.2.2.2.2.2.2.2.1
set_option maxRecDepth 100000 in
theorem zk_482 : zck 41 (cX9_from.data.toList.drop 41) [(41, .aload_n 0, 1), (42, .getfield 49, 3), (45, .aload_n 0, 1), (46, .getfield 58, 3), (49, .iload_n 2, 1), (50, .iaload, 1), (51, .iaload, 1), (52, .i2l, 1), (53, .invokevirtual 142, 3), (56, .aload_n 0, 1), (57, .getfield 58, 3), (60, .iload_n 2, 1)] = true := by decide +kernel
theorem zr_482 : decode cX9_from 41 = .ok (.aload_n 0, 1) ∧ decode cX9_from 42 = .ok (.getfield 49, 3) ∧ decode cX9_from 45 = .ok (.aload_n 0, 1) ∧ decode cX9_from 46 = .ok (.getfield 58, 3) ∧ decode cX9_from 49 = .ok (.iload_n 2, 1) ∧ decode cX9_from 50 = .ok (.iaload, 1) ∧ decode cX9_from 51 = .ok (.iaload, 1) ∧ decode cX9_from 52 = .ok (.i2l, 1) ∧ decode cX9_from 53 = .ok (.invokevirtual 142, 3) ∧ decode cX9_from 56 = .ok (.aload_n 0, 1) ∧ decode cX9_from 57 = .ok (.getfield 58, 3) ∧ decode cX9_from 60 = .ok (.iload_n 2, 1) ∧ True := zj_of zk_482
abbrev dX9_from_41 := zr_482.1
abbrev dX9_from_42 := zr_482.2.1
abbrev dX9_from_45 := zr_482.2.2.1
abbrev dX9_from_46 := zr_482.2.2.2.1
abbrev dX9_from_49 := zr_482.2.2.2.2.1
abbrev dX9_from_50 := zr_482.2.2.2.2.2.1
abbrev dX9_from_51 := zr_482.2.2.2.2.2.2.1
abbrev dX9_from_52 := zr_482.2.2.2.2.2.2.2.1
abbrev dX9_from_53 := zr_482.2.2.2.2.2.2.2.2.1
abbrev dX9_from_56 := zr_482.2.2.2.2.2.2.2.2.2.1
abbrev dX9_from_57 := zr_482.2.2.2.2.2.2.2.2.2.2.1
abbrev dX9_from_60 := zr_482.2.2.2.2.2.2.2.2.2.2.2.1
set_option maxRecDepth 100000 in
theorem zk_483 : zck 61 (cX9_from.data.toList.drop 61) [(61, .iaload, 1), (62, .ireturn, 1)] = true := by decide +kernel
theorem zr_483 : decode cX9_from 61 = .ok (.iaload, 1) ∧ decode cX9_from 62 = .ok (.ireturn, 1) ∧ True := zj_of zk_483
abbrev dX9_from_61 := zr_483.1
abbrev dX9_from_62 := zr_483.2.1
set_option maxRecDepth 100000 in
theorem zk_484 : zck 0 (cX9_runs.data.toList.drop 0) [(0, .aload_n 0, 1), (1, .iconst 0, 1), (2, .putfield 1, 3), (5, .aload_n 0, 1), (6, .invokevirtual 115, 3), (9, .aload_n 0, 1), (10, .iconst 0, 1), (11, .putfield 11, 3), (14, .iconst 0, 1), (15, .istore_n 1, 1), (16, .bipush 7, 2), (18, .istore_n 2, 1)] = true := by decide +kernel
theorem zr_484 : decode cX9_runs 0 = .ok (.aload_n 0, 1) ∧ decode cX9_runs 1 = .ok (.iconst 0, 1) ∧ decode cX9_runs 2 = .ok (.putfield 1, 3) ∧ decode cX9_runs 5 = .ok (.aload_n 0, 1) ∧ decode cX9_runs 6 = .ok (.invokevirtual 115, 3) ∧ decode cX9_runs 9 = .ok (.aload_n 0, 1) ∧ decode cX9_runs 10 = .ok (.iconst 0, 1) ∧ decode cX9_runs 11 = .ok (.putfield 11, 3) ∧ decode cX9_runs 14 = .ok (.iconst 0, 1) ∧ decode cX9_runs 15 = .ok (.istore_n 1, 1) ∧ decode cX9_runs 16 = .ok (.bipush 7, 2) ∧ decode cX9_runs 18 = .ok (.istore_n 2, 1) ∧ True := zj_of zk_484
abbrev dX9_runs_0 := zr_484.1
abbrev dX9_runs_1 := zr_484.2.1
abbrev dX9_runs_2 := zr_484.2.2.1
abbrev dX9_runs_5 := zr_484.2.2.2.1
abbrev dX9_runs_6 := zr_484.2.2.2.2.1
abbrev dX9_runs_9 := zr_484.2.2.2.2.2.1
abbrev dX9_runs_10 := zr_484.2.2.2.2.2.2.1
abbrev dX9_runs_11 := zr_484.2.2.2.2.2.2.2.1
abbrev dX9_runs_14 := zr_484.2.2.2.2.2.2.2.2.1
abbrev dX9_runs_15 := zr_484.2.2.2.2.2.2.2.2.2.1
abbrev dX9_runs_16 := zr_484.2.2.2.2.2.2.2.2.2.2.1
abbrev dX9_runs_18 := zr_484.2.2.2.2.2.2.2.2.2.2.2.1
set_option maxRecDepth 100000 in
theorem zk_485 : zck 19 (cX9_runs.data.toList.drop 19) [(19, .iload_n 2, 1), (20, .ifCond .lt 30, 3), (23, .aload_n 0, 1), (24, .iload_n 2, 1), (25, .invokevirtual 156, 3), (28, .istore_n 3, 1), (29, .aload_n 0, 1), (30, .iload_n 3, 1), (31, .i2l, 1), (32, .invokevirtual 142, 3), (35, .iload_n 1, 1), (36, .iload_n 3, 1)] = true := by decide +kernel
theorem zr_485 : decode cX9_runs 19 = .ok (.iload_n 2, 1) ∧ decode cX9_runs 20 = .ok (.ifCond .lt 30, 3) ∧ decode cX9_runs 23 = .ok (.aload_n 0, 1) ∧ decode cX9_runs 24 = .ok (.iload_n 2, 1) ∧ decode cX9_runs 25 = .ok (.invokevirtual 156, 3) ∧ decode cX9_runs 28 = .ok (.istore_n 3, 1) ∧ decode cX9_runs 29 = .ok (.aload_n 0, 1) ∧ decode cX9_runs 30 = .ok (.iload_n 3, 1) ∧ decode cX9_runs 31 = .ok (.i2l, 1) ∧ decode cX9_runs 32 = .ok (.invokevirtual 142, 3) ∧ decode cX9_runs 35 = .ok (.iload_n 1, 1) ∧ decode cX9_runs 36 = .ok (.iload_n 3, 1) ∧ True := zj_of zk_485
abbrev dX9_runs_19 := zr_485.1
abbrev dX9_runs_20 := zr_485.2.1
abbrev dX9_runs_23 := zr_485.2.2.1
abbrev dX9_runs_24 := zr_485.2.2.2.1
abbrev dX9_runs_25 := zr_485.2.2.2.2.1
abbrev dX9_runs_28 := zr_485.2.2.2.2.2.1
abbrev dX9_runs_29 := zr_485.2.2.2.2.2.2.1
abbrev dX9_runs_30 := zr_485.2.2.2.2.2.2.2.1
abbrev dX9_runs_31 := zr_485.2.2.2.2.2.2.2.2.1
abbrev dX9_runs_32 := zr_485.2.2.2.2.2.2.2.2.2.1
abbrev dX9_runs_35 := zr_485.2.2.2.2.2.2.2.2.2.2.1
abbrev dX9_runs_36 := zr_485.2.2.2.2.2.2.2.2.2.2.2.1
set_option maxRecDepth 100000 in
theorem zk_486 : zck 37 (cX9_runs.data.toList.drop 37) [(37, .iadd, 1), (38, .istore_n 1, 1), (39, .aload_n 0, 1), (40, .iload_n 2, 1), (41, .invokevirtual 118, 3), (44, .iinc 2 (-1), 3), (47, .goto (-28), 3), (50, .iload_n 1, 1), (51, .ireturn, 1)] = true := by decide +kernel
theorem zr_486 : decode cX9_runs 37 = .ok (.iadd, 1) ∧ decode cX9_runs 38 = .ok (.istore_n 1, 1) ∧ decode cX9_runs 39 = .ok (.aload_n 0, 1) ∧ decode cX9_runs 40 = .ok (.iload_n 2, 1) ∧ decode cX9_runs 41 = .ok (.invokevirtual 118, 3) ∧ decode cX9_runs 44 = .ok (.iinc 2 (-1), 3) ∧ decode cX9_runs 47 = .ok (.goto (-28), 3) ∧ decode cX9_runs 50 = .ok (.iload_n 1, 1) ∧ decode cX9_runs 51 = .ok (.ireturn, 1) ∧ True := zj_of zk_486
abbrev dX9_runs_37 := zr_486.1
abbrev dX9_runs_38 := zr_486.2.1
abbrev dX9_runs_39 := zr_486.2.2.1
abbrev dX9_runs_40 := zr_486.2.2.2.1
abbrev dX9_runs_41 := zr_486.2.2.2.2.1
abbrev dX9_runs_44 := zr_486.2.2.2.2.2.1
abbrev dX9_runs_47 := zr_486.2.2.2.2.2.2.1
abbrev dX9_runs_50 := zr_486.2.2.2.2.2.2.2.1
abbrev dX9_runs_51 := zr_486.2.2.2.2.2.2.2.2.1
set_option maxRecDepth 100000 in
theorem zk_487 : zck 0 (cX9_triesBits.data.toList.drop 0) [(0, .aload_n 0, 1), (1, .getfield 162, 3), (4, .ifCond .lt 12, 3), (7, .iload_n 3, 1), (8, .aload_n 0, 1), (9, .getfield 162, 3), (12, .if_icmp .lt 4, 3), (15, .return_, 1), (16, .iload_n 1, 1), (17, .bipush 8, 2), (19, .if_icmp .ne 39, 3), (22, .aload_n 0, 1)] = true := by decide +kernel
theorem zr_487 : decode cX9_triesBits 0 = .ok (.aload_n 0, 1) ∧ decode cX9_triesBits 1 = .ok (.getfield 162, 3) ∧ decode cX9_triesBits 4 = .ok (.ifCond .lt 12, 3) ∧ decode cX9_triesBits 7 = .ok (.iload_n 3, 1) ∧ decode cX9_triesBits 8 = .ok (.aload_n 0, 1) ∧ decode cX9_triesBits 9 = .ok (.getfield 162, 3) ∧ decode cX9_triesBits 12 = .ok (.if_icmp .lt 4, 3) ∧ decode cX9_triesBits 15 = .ok (.return_, 1) ∧ decode cX9_triesBits 16 = .ok (.iload_n 1, 1) ∧ decode cX9_triesBits 17 = .ok (.bipush 8, 2) ∧ decode cX9_triesBits 19 = .ok (.if_icmp .ne 39, 3) ∧ decode cX9_triesBits 22 = .ok (.aload_n 0, 1) ∧ True := zj_of zk_487
abbrev dX9_triesBits_0 := zr_487.1
abbrev dX9_triesBits_1 := zr_487.2.1
abbrev dX9_triesBits_4 := zr_487.2.2.1
abbrev dX9_triesBits_7 := zr_487.2.2.2.1
abbrev dX9_triesBits_8 := zr_487.2.2.2.2.1
abbrev dX9_triesBits_9 := zr_487.2.2.2.2.2.1
abbrev dX9_triesBits_12 := zr_487.2.2.2.2.2.2.1
abbrev dX9_triesBits_15 := zr_487.2.2.2.2.2.2.2.1
abbrev dX9_triesBits_16 := zr_487.2.2.2.2.2.2.2.2.1
abbrev dX9_triesBits_17 := zr_487.2.2.2.2.2.2.2.2.2.1
abbrev dX9_triesBits_19 := zr_487.2.2.2.2.2.2.2.2.2.2.1
abbrev dX9_triesBits_22 := zr_487.2.2.2.2.2.2.2.2.2.2.2.1
set_option maxRecDepth 100000 in
theorem zk_488 : zck 23 (cX9_triesBits.data.toList.drop 23) [(23, .iload_n 3, 1), (24, .putfield 162, 3), (27, .iconst 0, 1), (28, .istore 4, 2), (30, .iload 4, 2), (32, .bipush 8, 2), (34, .if_icmp .ge 23, 3), (37, .aload_n 0, 1), (38, .getfield 73, 3), (41, .iload 4, 2), (43, .aload_n 0, 1), (44, .getfield 70, 3)] = true := by decide +kernel
theorem zr_488 : decode cX9_triesBits 23 = .ok (.iload_n 3, 1) ∧ decode cX9_triesBits 24 = .ok (.putfield 162, 3) ∧ decode cX9_triesBits 27 = .ok (.iconst 0, 1) ∧ decode cX9_triesBits 28 = .ok (.istore 4, 2) ∧ decode cX9_triesBits 30 = .ok (.iload 4, 2) ∧ decode cX9_triesBits 32 = .ok (.bipush 8, 2) ∧ decode cX9_triesBits 34 = .ok (.if_icmp .ge 23, 3) ∧ decode cX9_triesBits 37 = .ok (.aload_n 0, 1) ∧ decode cX9_triesBits 38 = .ok (.getfield 73, 3) ∧ decode cX9_triesBits 41 = .ok (.iload 4, 2) ∧ decode cX9_triesBits 43 = .ok (.aload_n 0, 1) ∧ decode cX9_triesBits 44 = .ok (.getfield 70, 3) ∧ True := zj_of zk_488
abbrev dX9_triesBits_23 := zr_488.1
abbrev dX9_triesBits_24 := zr_488.2.1
abbrev dX9_triesBits_27 := zr_488.2.2.1
abbrev dX9_triesBits_28 := zr_488.2.2.2.1
abbrev dX9_triesBits_30 := zr_488.2.2.2.2.1
abbrev dX9_triesBits_32 := zr_488.2.2.2.2.2.1
abbrev dX9_triesBits_34 := zr_488.2.2.2.2.2.2.1
abbrev dX9_triesBits_37 := zr_488.2.2.2.2.2.2.2.1
abbrev dX9_triesBits_38 := zr_488.2.2.2.2.2.2.2.2.1
abbrev dX9_triesBits_41 := zr_488.2.2.2.2.2.2.2.2.2.1
abbrev dX9_triesBits_43 := zr_488.2.2.2.2.2.2.2.2.2.2.1
abbrev dX9_triesBits_44 := zr_488.2.2.2.2.2.2.2.2.2.2.2.1
set_option maxRecDepth 100000 in
theorem zk_489 : zck 47 (cX9_triesBits.data.toList.drop 47) [(47, .iload 4, 2), (49, .iaload, 1), (50, .iastore, 1), (51, .iinc 4 1, 3), (54, .goto (-24), 3), (57, .return_, 1), (58, .iconst 0, 1), (59, .istore 4, 2), (61, .iload 4, 2), (63, .aload_n 0, 1), (64, .getfield 88, 3), (67, .if_icmp .ge 28, 3)] = true := by decide +kernel
theorem zr_489 : decode cX9_triesBits 47 = .ok (.iload 4, 2) ∧ decode cX9_triesBits 49 = .ok (.iaload, 1) ∧ decode cX9_triesBits 50 = .ok (.iastore, 1) ∧ decode cX9_triesBits 51 = .ok (.iinc 4 1, 3) ∧ decode cX9_triesBits 54 = .ok (.goto (-24), 3) ∧ decode cX9_triesBits 57 = .ok (.return_, 1) ∧ decode cX9_triesBits 58 = .ok (.iconst 0, 1) ∧ decode cX9_triesBits 59 = .ok (.istore 4, 2) ∧ decode cX9_triesBits 61 = .ok (.iload 4, 2) ∧ decode cX9_triesBits 63 = .ok (.aload_n 0, 1) ∧ decode cX9_triesBits 64 = .ok (.getfield 88, 3) ∧ decode cX9_triesBits 67 = .ok (.if_icmp .ge 28, 3) ∧ True := zj_of zk_489
abbrev dX9_triesBits_47 := zr_489.1
abbrev dX9_triesBits_49 := zr_489.2.1
abbrev dX9_triesBits_50 := zr_489.2.2.1
abbrev dX9_triesBits_51 := zr_489.2.2.2.1
abbrev dX9_triesBits_54 := zr_489.2.2.2.2.1
abbrev dX9_triesBits_57 := zr_489.2.2.2.2.2.1
abbrev dX9_triesBits_58 := zr_489.2.2.2.2.2.2.1
abbrev dX9_triesBits_59 := zr_489.2.2.2.2.2.2.2.1
abbrev dX9_triesBits_61 := zr_489.2.2.2.2.2.2.2.2.1
abbrev dX9_triesBits_63 := zr_489.2.2.2.2.2.2.2.2.2.1
abbrev dX9_triesBits_64 := zr_489.2.2.2.2.2.2.2.2.2.2.1
abbrev dX9_triesBits_67 := zr_489.2.2.2.2.2.2.2.2.2.2.2.1
set_option maxRecDepth 100000 in
theorem zk_490 : zck 70 (cX9_triesBits.data.toList.drop 70) [(70, .aload_n 0, 1), (71, .getfield 67, 3), (74, .bipush 64, 2), (76, .iload_n 1, 1), (77, .imul, 1), (78, .iload 4, 2), (80, .iadd, 1), (81, .aload_n 0, 1), (82, .getfield 58, 3)] = true := by decide +kernel
theorem zr_490 : decode cX9_triesBits 70 = .ok (.aload_n 0, 1) ∧ decode cX9_triesBits 71 = .ok (.getfield 67, 3) ∧ decode cX9_triesBits 74 = .ok (.bipush 64, 2) ∧ decode cX9_triesBits 76 = .ok (.iload_n 1, 1) ∧ decode cX9_triesBits 77 = .ok (.imul, 1) ∧ decode cX9_triesBits 78 = .ok (.iload 4, 2) ∧ decode cX9_triesBits 80 = .ok (.iadd, 1) ∧ decode cX9_triesBits 81 = .ok (.aload_n 0, 1) ∧ decode cX9_triesBits 82 = .ok (.getfield 58, 3) ∧ True := zj_of zk_490
abbrev dX9_triesBits_70 := zr_490.1
abbrev dX9_triesBits_71 := zr_490.2.1
abbrev dX9_triesBits_74 := zr_490.2.2.1
abbrev dX9_triesBits_76 := zr_490.2.2.2.1
abbrev dX9_triesBits_77 := zr_490.2.2.2.2.1
abbrev dX9_triesBits_78 := zr_490.2.2.2.2.2.1
abbrev dX9_triesBits_80 := zr_490.2.2.2.2.2.2.1
abbrev dX9_triesBits_81 := zr_490.2.2.2.2.2.2.2.1
abbrev dX9_triesBits_82 := zr_490.2.2.2.2.2.2.2.2.1
