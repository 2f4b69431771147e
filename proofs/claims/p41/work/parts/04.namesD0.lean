set_option maxRecDepth 100000 in
theorem zk_1 : zck 0 (cX0_init.data.toList.drop 0) [(0, .aload_n 0, 1), (1, .invokespecial 3, 3), (4, .aload_n 0, 1), (5, .bipush 64, 2)] = true := by decide +kernel
theorem zr_1 : decode cX0_init 0 = .ok (.aload_n 0, 1) ∧ decode cX0_init 1 = .ok (.invokespecial 3, 3) ∧ decode cX0_init 4 = .ok (.aload_n 0, 1) ∧ decode cX0_init 5 = .ok (.bipush 64, 2) ∧ True := zj_of zk_1
abbrev dX0_init_0 := zr_1.1
abbrev dX0_init_1 := zr_1.2.1
abbrev dX0_init_4 := zr_1.2.2.1
abbrev dX0_init_5 := zr_1.2.2.2.1
set_option maxRecDepth 100000 in
theorem dX0_init_7 : decode cX0_init 7 = .ok (.newarray .int, 2) := by decide +kernel
set_option maxRecDepth 100000 in
theorem zk_2 : zck 9 (cX0_init.data.toList.drop 9) [(9, .putfield 9, 3), (12, .aload_n 0, 1), (13, .bipush 64, 2)] = true := by decide +kernel
theorem zr_2 : decode cX0_init 9 = .ok (.putfield 9, 3) ∧ decode cX0_init 12 = .ok (.aload_n 0, 1) ∧ decode cX0_init 13 = .ok (.bipush 64, 2) ∧ True := zj_of zk_2
abbrev dX0_init_9 := zr_2.1
abbrev dX0_init_12 := zr_2.2.1
abbrev dX0_init_13 := zr_2.2.2.1
set_option maxRecDepth 100000 in
theorem dX0_init_15 : decode cX0_init 15 = .ok (.newarray .long, 2) := by decide +kernel
set_option maxRecDepth 100000 in
theorem zk_3 : zck 17 (cX0_init.data.toList.drop 17) [(17, .putfield 15, 3), (20, .aload_n 0, 1), (21, .iconst 0, 1), (22, .putfield 19, 3), (25, .return_, 1)] = true := by decide +kernel
theorem zr_3 : decode cX0_init 17 = .ok (.putfield 15, 3) ∧ decode cX0_init 20 = .ok (.aload_n 0, 1) ∧ decode cX0_init 21 = .ok (.iconst 0, 1) ∧ decode cX0_init 22 = .ok (.putfield 19, 3) ∧ decode cX0_init 25 = .ok (.return_, 1) ∧ True := zj_of zk_3
abbrev dX0_init_17 := zr_3.1
abbrev dX0_init_20 := zr_3.2.1
abbrev dX0_init_21 := zr_3.2.2.1
abbrev dX0_init_22 := zr_3.2.2.2.1
abbrev dX0_init_25 := zr_3.2.2.2.2.1
set_option maxRecDepth 100000 in
theorem zk_4 : zck 0 (cX0_take.data.toList.drop 0) [(0, .aload_n 0, 1), (1, .iconst 0, 1), (2, .putfield 19, 3), (5, .iload_n 2, 1), (6, .istore 4, 2), (8, .iload 4, 2), (10, .iload_n 3, 1), (11, .if_icmp .ge 78, 3), (14, .aload_n 0, 1), (15, .getfield 9, 3), (18, .iload 4, 2), (20, .iconst 1, 1)] = true := by decide +kernel
theorem zr_4 : decode cX0_take 0 = .ok (.aload_n 0, 1) ∧ decode cX0_take 1 = .ok (.iconst 0, 1) ∧ decode cX0_take 2 = .ok (.putfield 19, 3) ∧ decode cX0_take 5 = .ok (.iload_n 2, 1) ∧ decode cX0_take 6 = .ok (.istore 4, 2) ∧ decode cX0_take 8 = .ok (.iload 4, 2) ∧ decode cX0_take 10 = .ok (.iload_n 3, 1) ∧ decode cX0_take 11 = .ok (.if_icmp .ge 78, 3) ∧ decode cX0_take 14 = .ok (.aload_n 0, 1) ∧ decode cX0_take 15 = .ok (.getfield 9, 3) ∧ decode cX0_take 18 = .ok (.iload 4, 2) ∧ decode cX0_take 20 = .ok (.iconst 1, 1) ∧ True := zj_of zk_4
abbrev dX0_take_0 := zr_4.1
abbrev dX0_take_1 := zr_4.2.1
abbrev dX0_take_2 := zr_4.2.2.1
abbrev dX0_take_5 := zr_4.2.2.2.1
abbrev dX0_take_6 := zr_4.2.2.2.2.1
abbrev dX0_take_8 := zr_4.2.2.2.2.2.1
abbrev dX0_take_10 := zr_4.2.2.2.2.2.2.1
abbrev dX0_take_11 := zr_4.2.2.2.2.2.2.2.1
abbrev dX0_take_14 := zr_4.2.2.2.2.2.2.2.2.1
abbrev dX0_take_15 := zr_4.2.2.2.2.2.2.2.2.2.1
abbrev dX0_take_18 := zr_4.2.2.2.2.2.2.2.2.2.2.1
abbrev dX0_take_20 := zr_4.2.2.2.2.2.2.2.2.2.2.2.1
set_option maxRecDepth 100000 in
theorem zk_5 : zck 21 (cX0_take.data.toList.drop 21) [(21, .iastore, 1), (22, .aload_n 0, 1), (23, .getfield 15, 3), (26, .iload 4, 2), (28, .lconst 1, 1), (29, .lastore, 1), (30, .iload_n 2, 1), (31, .istore 5, 2), (33, .iload 5, 2), (35, .iload 4, 2), (37, .if_icmp .ge 28, 3), (40, .aload_n 1, 1)] = true := by decide +kernel
theorem zr_5 : decode cX0_take 21 = .ok (.iastore, 1) ∧ decode cX0_take 22 = .ok (.aload_n 0, 1) ∧ decode cX0_take 23 = .ok (.getfield 15, 3) ∧ decode cX0_take 26 = .ok (.iload 4, 2) ∧ decode cX0_take 28 = .ok (.lconst 1, 1) ∧ decode cX0_take 29 = .ok (.lastore, 1) ∧ decode cX0_take 30 = .ok (.iload_n 2, 1) ∧ decode cX0_take 31 = .ok (.istore 5, 2) ∧ decode cX0_take 33 = .ok (.iload 5, 2) ∧ decode cX0_take 35 = .ok (.iload 4, 2) ∧ decode cX0_take 37 = .ok (.if_icmp .ge 28, 3) ∧ decode cX0_take 40 = .ok (.aload_n 1, 1) ∧ True := zj_of zk_5
abbrev dX0_take_21 := zr_5.1
abbrev dX0_take_22 := zr_5.2.1
abbrev dX0_take_23 := zr_5.2.2.1
abbrev dX0_take_26 := zr_5.2.2.2.1
abbrev dX0_take_28 := zr_5.2.2.2.2.1
abbrev dX0_take_29 := zr_5.2.2.2.2.2.1
abbrev dX0_take_30 := zr_5.2.2.2.2.2.2.1
abbrev dX0_take_31 := zr_5.2.2.2.2.2.2.2.1
abbrev dX0_take_33 := zr_5.2.2.2.2.2.2.2.2.1
abbrev dX0_take_35 := zr_5.2.2.2.2.2.2.2.2.2.1
abbrev dX0_take_37 := zr_5.2.2.2.2.2.2.2.2.2.2.1
abbrev dX0_take_40 := zr_5.2.2.2.2.2.2.2.2.2.2.2.1
set_option maxRecDepth 100000 in
theorem zk_6 : zck 41 (cX0_take.data.toList.drop 41) [(41, .iload 5, 2), (43, .iaload, 1), (44, .aload_n 1, 1), (45, .iload 4, 2), (47, .iaload, 1), (48, .if_icmp .ge 11, 3), (51, .aload_n 0, 1), (52, .iload 5, 2), (54, .iload 4, 2), (56, .invokevirtual 23, 3), (59, .iinc 5 1, 3), (62, .goto (-29), 3)] = true := by decide +kernel
theorem zr_6 : decode cX0_take 41 = .ok (.iload 5, 2) ∧ decode cX0_take 43 = .ok (.iaload, 1) ∧ decode cX0_take 44 = .ok (.aload_n 1, 1) ∧ decode cX0_take 45 = .ok (.iload 4, 2) ∧ decode cX0_take 47 = .ok (.iaload, 1) ∧ decode cX0_take 48 = .ok (.if_icmp .ge 11, 3) ∧ decode cX0_take 51 = .ok (.aload_n 0, 1) ∧ decode cX0_take 52 = .ok (.iload 5, 2) ∧ decode cX0_take 54 = .ok (.iload 4, 2) ∧ decode cX0_take 56 = .ok (.invokevirtual 23, 3) ∧ decode cX0_take 59 = .ok (.iinc 5 1, 3) ∧ decode cX0_take 62 = .ok (.goto (-29), 3) ∧ True := zj_of zk_6
abbrev dX0_take_41 := zr_6.1
abbrev dX0_take_43 := zr_6.2.1
abbrev dX0_take_44 := zr_6.2.2.1
abbrev dX0_take_45 := zr_6.2.2.2.1
abbrev dX0_take_47 := zr_6.2.2.2.2.1
abbrev dX0_take_48 := zr_6.2.2.2.2.2.1
abbrev dX0_take_51 := zr_6.2.2.2.2.2.2.1
abbrev dX0_take_52 := zr_6.2.2.2.2.2.2.2.1
abbrev dX0_take_54 := zr_6.2.2.2.2.2.2.2.2.1
abbrev dX0_take_56 := zr_6.2.2.2.2.2.2.2.2.2.1
abbrev dX0_take_59 := zr_6.2.2.2.2.2.2.2.2.2.2.1
abbrev dX0_take_62 := zr_6.2.2.2.2.2.2.2.2.2.2.2.1
set_option maxRecDepth 100000 in
theorem zk_7 : zck 65 (cX0_take.data.toList.drop 65) [(65, .aload_n 0, 1), (66, .aload_n 0, 1), (67, .getfield 19, 3), (70, .aload_n 0, 1), (71, .getfield 9, 3), (74, .iload 4, 2), (76, .iaload, 1), (77, .invokestatic 27, 3), (80, .putfield 19, 3), (83, .iinc 4 1, 3), (86, .goto (-78), 3), (89, .return_, 1)] = true := by decide +kernel
theorem zr_7 : decode cX0_take 65 = .ok (.aload_n 0, 1) ∧ decode cX0_take 66 = .ok (.aload_n 0, 1) ∧ decode cX0_take 67 = .ok (.getfield 19, 3) ∧ decode cX0_take 70 = .ok (.aload_n 0, 1) ∧ decode cX0_take 71 = .ok (.getfield 9, 3) ∧ decode cX0_take 74 = .ok (.iload 4, 2) ∧ decode cX0_take 76 = .ok (.iaload, 1) ∧ decode cX0_take 77 = .ok (.invokestatic 27, 3) ∧ decode cX0_take 80 = .ok (.putfield 19, 3) ∧ decode cX0_take 83 = .ok (.iinc 4 1, 3) ∧ decode cX0_take 86 = .ok (.goto (-78), 3) ∧ decode cX0_take 89 = .ok (.return_, 1) ∧ True := zj_of zk_7
abbrev dX0_take_65 := zr_7.1
abbrev dX0_take_66 := zr_7.2.1
abbrev dX0_take_67 := zr_7.2.2.1
abbrev dX0_take_70 := zr_7.2.2.2.1
abbrev dX0_take_71 := zr_7.2.2.2.2.1
abbrev dX0_take_74 := zr_7.2.2.2.2.2.1
abbrev dX0_take_76 := zr_7.2.2.2.2.2.2.1
abbrev dX0_take_77 := zr_7.2.2.2.2.2.2.2.1
abbrev dX0_take_80 := zr_7.2.2.2.2.2.2.2.2.1
abbrev dX0_take_83 := zr_7.2.2.2.2.2.2.2.2.2.1
abbrev dX0_take_86 := zr_7.2.2.2.2.2.2.2.2.2.2.1
abbrev dX0_take_89 := zr_7.2.2.2.2.2.2.2.2.2.2.2.1
set_option maxRecDepth 100000 in
theorem zk_8 : zck 0 (cX0_goOn.data.toList.drop 0) [(0, .aload_n 0, 1), (1, .getfield 9, 3), (4, .iload_n 1, 1), (5, .iaload, 1), (6, .iconst 1, 1), (7, .iadd, 1), (8, .istore_n 3, 1), (9, .iload_n 3, 1), (10, .aload_n 0, 1), (11, .getfield 9, 3), (14, .iload_n 2, 1), (15, .iaload, 1)] = true := by decide +kernel
theorem zr_8 : decode cX0_goOn 0 = .ok (.aload_n 0, 1) ∧ decode cX0_goOn 1 = .ok (.getfield 9, 3) ∧ decode cX0_goOn 4 = .ok (.iload_n 1, 1) ∧ decode cX0_goOn 5 = .ok (.iaload, 1) ∧ decode cX0_goOn 6 = .ok (.iconst 1, 1) ∧ decode cX0_goOn 7 = .ok (.iadd, 1) ∧ decode cX0_goOn 8 = .ok (.istore_n 3, 1) ∧ decode cX0_goOn 9 = .ok (.iload_n 3, 1) ∧ decode cX0_goOn 10 = .ok (.aload_n 0, 1) ∧ decode cX0_goOn 11 = .ok (.getfield 9, 3) ∧ decode cX0_goOn 14 = .ok (.iload_n 2, 1) ∧ decode cX0_goOn 15 = .ok (.iaload, 1) ∧ True := zj_of zk_8
abbrev dX0_goOn_0 := zr_8.1
abbrev dX0_goOn_1 := zr_8.2.1
abbrev dX0_goOn_4 := zr_8.2.2.1
abbrev dX0_goOn_5 := zr_8.2.2.2.1
abbrev dX0_goOn_6 := zr_8.2.2.2.2.1
abbrev dX0_goOn_7 := zr_8.2.2.2.2.2.1
abbrev dX0_goOn_8 := zr_8.2.2.2.2.2.2.1
abbrev dX0_goOn_9 := zr_8.2.2.2.2.2.2.2.1
abbrev dX0_goOn_10 := zr_8.2.2.2.2.2.2.2.2.1
abbrev dX0_goOn_11 := zr_8.2.2.2.2.2.2.2.2.2.1
abbrev dX0_goOn_14 := zr_8.2.2.2.2.2.2.2.2.2.2.1
abbrev dX0_goOn_15 := zr_8.2.2.2.2.2.2.2.2.2.2.2.1
set_option maxRecDepth 100000 in
theorem zk_9 : zck 16 (cX0_goOn.data.toList.drop 16) [(16, .if_icmp .le 25, 3), (19, .aload_n 0, 1), (20, .getfield 9, 3), (23, .iload_n 2, 1), (24, .iload_n 3, 1), (25, .iastore, 1), (26, .aload_n 0, 1), (27, .getfield 15, 3), (30, .iload_n 2, 1), (31, .aload_n 0, 1), (32, .getfield 15, 3), (35, .iload_n 1, 1)] = true := by decide +kernel
theorem zr_9 : decode cX0_goOn 16 = .ok (.if_icmp .le 25, 3) ∧ decode cX0_goOn 19 = .ok (.aload_n 0, 1) ∧ decode cX0_goOn 20 = .ok (.getfield 9, 3) ∧ decode cX0_goOn 23 = .ok (.iload_n 2, 1) ∧ decode cX0_goOn 24 = .ok (.iload_n 3, 1) ∧ decode cX0_goOn 25 = .ok (.iastore, 1) ∧ decode cX0_goOn 26 = .ok (.aload_n 0, 1) ∧ decode cX0_goOn 27 = .ok (.getfield 15, 3) ∧ decode cX0_goOn 30 = .ok (.iload_n 2, 1) ∧ decode cX0_goOn 31 = .ok (.aload_n 0, 1) ∧ decode cX0_goOn 32 = .ok (.getfield 15, 3) ∧ decode cX0_goOn 35 = .ok (.iload_n 1, 1) ∧ True := zj_of zk_9
abbrev dX0_goOn_16 := zr_9.1
abbrev dX0_goOn_19 := zr_9.2.1
abbrev dX0_goOn_20 := zr_9.2.2.1
abbrev dX0_goOn_23 := zr_9.2.2.2.1
abbrev dX0_goOn_24 := zr_9.2.2.2.2.1
abbrev dX0_goOn_25 := zr_9.2.2.2.2.2.1
abbrev dX0_goOn_26 := zr_9.2.2.2.2.2.2.1
abbrev dX0_goOn_27 := zr_9.2.2.2.2.2.2.2.1
abbrev dX0_goOn_30 := zr_9.2.2.2.2.2.2.2.2.1
abbrev dX0_goOn_31 := zr_9.2.2.2.2.2.2.2.2.2.1
abbrev dX0_goOn_32 := zr_9.2.2.2.2.2.2.2.2.2.2.1
abbrev dX0_goOn_35 := zr_9.2.2.2.2.2.2.2.2.2.2.2.1
set_option maxRecDepth 100000 in
theorem zk_10 : zck 36 (cX0_goOn.data.toList.drop 36) [(36, .laload, 1), (37, .lastore, 1), (38, .goto 28, 3), (41, .iload_n 3, 1), (42, .aload_n 0, 1), (43, .getfield 9, 3), (46, .iload_n 2, 1), (47, .iaload, 1), (48, .if_icmp .ne 18, 3), (51, .aload_n 0, 1), (52, .getfield 15, 3), (55, .iload_n 2, 1)] = true := by decide +kernel
theorem zr_10 : decode cX0_goOn 36 = .ok (.laload, 1) ∧ decode cX0_goOn 37 = .ok (.lastore, 1) ∧ decode cX0_goOn 38 = .ok (.goto 28, 3) ∧ decode cX0_goOn 41 = .ok (.iload_n 3, 1) ∧ decode cX0_goOn 42 = .ok (.aload_n 0, 1) ∧ decode cX0_goOn 43 = .ok (.getfield 9, 3) ∧ decode cX0_goOn 46 = .ok (.iload_n 2, 1) ∧ decode cX0_goOn 47 = .ok (.iaload, 1) ∧ decode cX0_goOn 48 = .ok (.if_icmp .ne 18, 3) ∧ decode cX0_goOn 51 = .ok (.aload_n 0, 1) ∧ decode cX0_goOn 52 = .ok (.getfield 15, 3) ∧ decode cX0_goOn 55 = .ok (.iload_n 2, 1) ∧ True := zj_of zk_10
abbrev dX0_goOn_36 := zr_10.1
abbrev dX0_goOn_37 := zr_10.2.1
abbrev dX0_goOn_38 := zr_10.2.2.1
abbrev dX0_goOn_41 := zr_10.2.2.2.1
abbrev dX0_goOn_42 := zr_10.2.2.2.2.1
abbrev dX0_goOn_43 := zr_10.2.2.2.2.2.1
abbrev dX0_goOn_46 := zr_10.2.2.2.2.2.2.1
abbrev dX0_goOn_47 := zr_10.2.2.2.2.2.2.2.1
abbrev dX0_goOn_48 := zr_10.2.2.2.2.2.2.2.2.1
abbrev dX0_goOn_51 := zr_10.2.2.2.2.2.2.2.2.2.1
abbrev dX0_goOn_52 := zr_10.2.2.2.2.2.2.2.2.2.2.1
abbrev dX0_goOn_55 := zr_10.2.2.2.2.2.2.2.2.2.2.2.1
set_option maxRecDepth 100000 in
theorem zk_11 : zck 56 (cX0_goOn.data.toList.drop 56) [(56, .dup2, 1), (57, .laload, 1), (58, .aload_n 0, 1), (59, .getfield 15, 3), (62, .iload_n 1, 1), (63, .laload, 1), (64, .ladd, 1), (65, .lastore, 1), (66, .return_, 1)] = true := by decide +kernel
theorem zr_11 : decode cX0_goOn 56 = .ok (.dup2, 1) ∧ decode cX0_goOn 57 = .ok (.laload, 1) ∧ decode cX0_goOn 58 = .ok (.aload_n 0, 1) ∧ decode cX0_goOn 59 = .ok (.getfield 15, 3) ∧ decode cX0_goOn 62 = .ok (.iload_n 1, 1) ∧ decode cX0_goOn 63 = .ok (.laload, 1) ∧ decode cX0_goOn 64 = .ok (.ladd, 1) ∧ decode cX0_goOn 65 = .ok (.lastore, 1) ∧ decode cX0_goOn 66 = .ok (.return_, 1) ∧ True := zj_of zk_11
abbrev dX0_goOn_56 := zr_11.1
abbrev dX0_goOn_57 := zr_11.2.1
abbrev dX0_goOn_58 := zr_11.2.2.1
abbrev dX0_goOn_59 := zr_11.2.2.2.1
abbrev dX0_goOn_62 := zr_11.2.2.2.2.1
abbrev dX0_goOn_63 := zr_11.2.2.2.2.2.1
abbrev dX0_goOn_64 := zr_11.2.2.2.2.2.2.1
abbrev dX0_goOn_65 := zr_11.2.2.2.2.2.2.2.1
abbrev dX0_goOn_66 := zr_11.2.2.2.2.2.2.2.2.1
set_option maxRecDepth 100000 in
theorem zk_12 : zck 0 (cX0_leastEnd.data.toList.drop 0) [(0, .iconst (-1), 1), (1, .istore 4, 2), (3, .iload_n 2, 1), (4, .istore 5, 2), (6, .iload 5, 2), (8, .iload_n 3, 1), (9, .if_icmp .ge 44, 3), (12, .aload_n 0, 1), (13, .getfield 9, 3), (16, .iload 5, 2), (18, .iaload, 1), (19, .aload_n 0, 1)] = true := by decide +kernel
theorem zr_12 : decode cX0_leastEnd 0 = .ok (.iconst (-1), 1) ∧ decode cX0_leastEnd 1 = .ok (.istore 4, 2) ∧ decode cX0_leastEnd 3 = .ok (.iload_n 2, 1) ∧ decode cX0_leastEnd 4 = .ok (.istore 5, 2) ∧ decode cX0_leastEnd 6 = .ok (.iload 5, 2) ∧ decode cX0_leastEnd 8 = .ok (.iload_n 3, 1) ∧ decode cX0_leastEnd 9 = .ok (.if_icmp .ge 44, 3) ∧ decode cX0_leastEnd 12 = .ok (.aload_n 0, 1) ∧ decode cX0_leastEnd 13 = .ok (.getfield 9, 3) ∧ decode cX0_leastEnd 16 = .ok (.iload 5, 2) ∧ decode cX0_leastEnd 18 = .ok (.iaload, 1) ∧ decode cX0_leastEnd 19 = .ok (.aload_n 0, 1) ∧ True := zj_of zk_12
abbrev dX0_leastEnd_0 := zr_12.1
abbrev dX0_leastEnd_1 := zr_12.2.1
abbrev dX0_leastEnd_3 := zr_12.2.2.1
abbrev dX0_leastEnd_4 := zr_12.2.2.2.1
abbrev dX0_leastEnd_6 := zr_12.2.2.2.2.1
abbrev dX0_leastEnd_8 := zr_12.2.2.2.2.2.1
abbrev dX0_leastEnd_9 := zr_12.2.2.2.2.2.2.1
abbrev dX0_leastEnd_12 := zr_12.2.2.2.2.2.2.2.1
abbrev dX0_leastEnd_13 := zr_12.2.2.2.2.2.2.2.2.1
abbrev dX0_leastEnd_16 := zr_12.2.2.2.2.2.2.2.2.2.1
abbrev dX0_leastEnd_18 := zr_12.2.2.2.2.2.2.2.2.2.2.1
abbrev dX0_leastEnd_19 := zr_12.2.2.2.2.2.2.2.2.2.2.2.1
set_option maxRecDepth 100000 in
theorem zk_13 : zck 20 (cX0_leastEnd.data.toList.drop 20) [(20, .getfield 19, 3), (23, .if_icmp .ne 24, 3), (26, .iload 4, 2), (28, .iconst (-1), 1), (29, .if_icmp .eq 12, 3), (32, .aload_n 1, 1), (33, .iload 5, 2), (35, .iaload, 1), (36, .iload 4, 2), (38, .if_icmp .ge 9, 3), (41, .aload_n 1, 1), (42, .iload 5, 2)] = true := by decide +kernel
theorem zr_13 : decode cX0_leastEnd 20 = .ok (.getfield 19, 3) ∧ decode cX0_leastEnd 23 = .ok (.if_icmp .ne 24, 3) ∧ decode cX0_leastEnd 26 = .ok (.iload 4, 2) ∧ decode cX0_leastEnd 28 = .ok (.iconst (-1), 1) ∧ decode cX0_leastEnd 29 = .ok (.if_icmp .eq 12, 3) ∧ decode cX0_leastEnd 32 = .ok (.aload_n 1, 1) ∧ decode cX0_leastEnd 33 = .ok (.iload 5, 2) ∧ decode cX0_leastEnd 35 = .ok (.iaload, 1) ∧ decode cX0_leastEnd 36 = .ok (.iload 4, 2) ∧ decode cX0_leastEnd 38 = .ok (.if_icmp .ge 9, 3) ∧ decode cX0_leastEnd 41 = .ok (.aload_n 1, 1) ∧ decode cX0_leastEnd 42 = .ok (.iload 5, 2) ∧ True := zj_of zk_13
abbrev dX0_leastEnd_20 := zr_13.1
abbrev dX0_leastEnd_23 := zr_13.2.1
abbrev dX0_leastEnd_26 := zr_13.2.2.1
abbrev dX0_leastEnd_28 := zr_13.2.2.2.1
abbrev dX0_leastEnd_29 := zr_13.2.2.2.2.1
abbrev dX0_leastEnd_32 := zr_13.2.2.2.2.2.1
abbrev dX0_leastEnd_33 := zr_13.2.2.2.2.2.2.1
abbrev dX0_leastEnd_35 := zr_13.2.2.2.2.2.2.2.1
abbrev dX0_leastEnd_36 := zr_13.2.2.2.2.2.2.2.2.1
abbrev dX0_leastEnd_38 := zr_13.2.2.2.2.2.2.2.2.2.1
abbrev dX0_leastEnd_41 := zr_13.2.2.2.2.2.2.2.2.2.2.1
abbrev dX0_leastEnd_42 := zr_13.2.2.2.2.2.2.2.2.2.2.2.1
set_option maxRecDepth 100000 in
theorem zk_14 : zck 44 (cX0_leastEnd.data.toList.drop 44) [(44, .iaload, 1), (45, .istore 4, 2), (47, .iinc 5 1, 3), (50, .goto (-44), 3), (53, .iload 4, 2), (55, .ireturn, 1)] = true := by decide +kernel
theorem zr_14 : decode cX0_leastEnd 44 = .ok (.iaload, 1) ∧ decode cX0_leastEnd 45 = .ok (.istore 4, 2) ∧ decode cX0_leastEnd 47 = .ok (.iinc 5 1, 3) ∧ decode cX0_leastEnd 50 = .ok (.goto (-44), 3) ∧ decode cX0_leastEnd 53 = .ok (.iload 4, 2) ∧ decode cX0_leastEnd 55 = .ok (.ireturn, 1) ∧ True := zj_of zk_14
abbrev dX0_leastEnd_44 := zr_14.1
abbrev dX0_leastEnd_45 := zr_14.2.1
abbrev dX0_leastEnd_47 := zr_14.2.2.1
abbrev dX0_leastEnd_50 := zr_14.2.2.2.1
abbrev dX0_leastEnd_53 := zr_14.2.2.2.2.1
abbrev dX0_leastEnd_55 := zr_14.2.2.2.2.2.1
set_option maxRecDepth 100000 in
theorem zk_15 : zck 0 (cX0_waysToLongest.data.toList.drop 0) [(0, .lconst 0, 1), (1, .lstore_n 3, 1), (2, .iload_n 1, 1), (3, .istore 5, 2), (5, .iload 5, 2), (7, .iload_n 2, 1), (8, .if_icmp .ge 33, 3), (11, .aload_n 0, 1), (12, .getfield 9, 3), (15, .iload 5, 2), (17, .iaload, 1), (18, .aload_n 0, 1)] = true := by decide +kernel
theorem zr_15 : decode cX0_waysToLongest 0 = .ok (.lconst 0, 1) ∧ decode cX0_waysToLongest 1 = .ok (.lstore_n 3, 1) ∧ decode cX0_waysToLongest 2 = .ok (.iload_n 1, 1) ∧ decode cX0_waysToLongest 3 = .ok (.istore 5, 2) ∧ decode cX0_waysToLongest 5 = .ok (.iload 5, 2) ∧ decode cX0_waysToLongest 7 = .ok (.iload_n 2, 1) ∧ decode cX0_waysToLongest 8 = .ok (.if_icmp .ge 33, 3) ∧ decode cX0_waysToLongest 11 = .ok (.aload_n 0, 1) ∧ decode cX0_waysToLongest 12 = .ok (.getfield 9, 3) ∧ decode cX0_waysToLongest 15 = .ok (.iload 5, 2) ∧ decode cX0_waysToLongest 17 = .ok (.iaload, 1) ∧ decode cX0_waysToLongest 18 = .ok (.aload_n 0, 1) ∧ True := zj_of zk_15
abbrev dX0_waysToLongest_0 := zr_15.1
abbrev dX0_waysToLongest_1 := zr_15.2.1
abbrev dX0_waysToLongest_2 := zr_15.2.2.1
abbrev dX0_waysToLongest_3 := zr_15.2.2.2.1
abbrev dX0_waysToLongest_5 := zr_15.2.2.2.2.1
abbrev dX0_waysToLongest_7 := zr_15.2.2.2.2.2.1
abbrev dX0_waysToLongest_8 := zr_15.2.2.2.2.2.2.1
abbrev dX0_waysToLongest_11 := zr_15.2.2.2.2.2.2.2.1
abbrev dX0_waysToLongest_12 := zr_15.2.2.2.2.2.2.2.2.1
abbrev dX0_waysToLongest_15 := zr_15.2.2.2.2.2.2.2.2.2.1
abbrev dX0_waysToLongest_17 := zr_15.2.2.2.2.2.2.2.2.2.2.1
abbrev dX0_waysToLongest_18 := zr_15.2.2.2.2.2.2.2.2.2.2.2.1
set_option maxRecDepth 100000 in
theorem zk_16 : zck 19 (cX0_waysToLongest.data.toList.drop 19) [(19, .getfield 19, 3), (22, .if_icmp .ne 13, 3), (25, .lload_n 3, 1), (26, .aload_n 0, 1), (27, .getfield 15, 3), (30, .iload 5, 2), (32, .laload, 1), (33, .ladd, 1), (34, .lstore_n 3, 1), (35, .iinc 5 1, 3), (38, .goto (-33), 3), (41, .lload_n 3, 1)] = true := by decide +kernel
theorem zr_16 : decode cX0_waysToLongest 19 = .ok (.getfield 19, 3) ∧ decode cX0_waysToLongest 22 = .ok (.if_icmp .ne 13, 3) ∧ decode cX0_waysToLongest 25 = .ok (.lload_n 3, 1) ∧ decode cX0_waysToLongest 26 = .ok (.aload_n 0, 1) ∧ decode cX0_waysToLongest 27 = .ok (.getfield 15, 3) ∧ decode cX0_waysToLongest 30 = .ok (.iload 5, 2) ∧ decode cX0_waysToLongest 32 = .ok (.laload, 1) ∧ decode cX0_waysToLongest 33 = .ok (.ladd, 1) ∧ decode cX0_waysToLongest 34 = .ok (.lstore_n 3, 1) ∧ decode cX0_waysToLongest 35 = .ok (.iinc 5 1, 3) ∧ decode cX0_waysToLongest 38 = .ok (.goto (-33), 3) ∧ decode cX0_waysToLongest 41 = .ok (.lload_n 3, 1) ∧ True := zj_of zk_16
abbrev dX0_waysToLongest_19 := zr_16.1
abbrev dX0_waysToLongest_22 := zr_16.2.1
abbrev dX0_waysToLongest_25 := zr_16.2.2.1
abbrev dX0_waysToLongest_26 := zr_16.2.2.2.1
abbrev dX0_waysToLongest_27 := zr_16.2.2.2.2.1
abbrev dX0_waysToLongest_30 := zr_16.2.2.2.2.2.1
abbrev dX0_waysToLongest_32 := zr_16.2.2.2.2.2.2.1
abbrev dX0_waysToLongest_33 := zr_16.2.2.2.2.2.2.2.1
abbrev dX0_waysToLongest_34 := zr_16.2.2.2.2.2.2.2.2.1
abbrev dX0_waysToLongest_35 := zr_16.2.2.2.2.2.2.2.2.2.1
abbrev dX0_waysToLongest_38 := zr_16.2.2.2.2.2.2.2.2.2.2.1
abbrev dX0_waysToLongest_41 := zr_16.2.2.2.2.2.2.2.2.2.2.2.1
set_option maxRecDepth 100000 in
theorem zk_17 : zck 42 (cX0_waysToLongest.data.toList.drop 42) [(42, .lreturn, 1)] = true := by decide +kernel
theorem zr_17 : decode cX0_waysToLongest 42 = .ok (.lreturn, 1) ∧ True := zj_of zk_17
abbrev dX0_waysToLongest_42 := zr_17.1
set_option maxRecDepth 100000 in
theorem zk_18 : zck 0 (cX1_init.data.toList.drop 0) [(0, .aload_n 0, 1), (1, .invokespecial 3, 3), (4, .aload_n 0, 1), (5, .bipush 8, 2)] = true := by decide +kernel
theorem zr_18 : decode cX1_init 0 = .ok (.aload_n 0, 1) ∧ decode cX1_init 1 = .ok (.invokespecial 3, 3) ∧ decode cX1_init 4 = .ok (.aload_n 0, 1) ∧ decode cX1_init 5 = .ok (.bipush 8, 2) ∧ True := zj_of zk_18
abbrev dX1_init_0 := zr_18.1
abbrev dX1_init_1 := zr_18.2.1
abbrev dX1_init_4 := zr_18.2.2.1
abbrev dX1_init_5 := zr_18.2.2.2.1
set_option maxRecDepth 100000 in
theorem dX1_init_7 : decode cX1_init 7 = .ok (.newarray .long, 2) := by decide +kernel
set_option maxRecDepth 100000 in
theorem zk_19 : zck 9 (cX1_init.data.toList.drop 9) [(9, .putfield 9, 3), (12, .aload_n 0, 1), (13, .bipush 64, 2)] = true := by decide +kernel
theorem zr_19 : decode cX1_init 9 = .ok (.putfield 9, 3) ∧ decode cX1_init 12 = .ok (.aload_n 0, 1) ∧ decode cX1_init 13 = .ok (.bipush 64, 2) ∧ True := zj_of zk_19
abbrev dX1_init_9 := zr_19.1
abbrev dX1_init_12 := zr_19.2.1
abbrev dX1_init_13 := zr_19.2.2.1
set_option maxRecDepth 100000 in
theorem dX1_init_15 : decode cX1_init 15 = .ok (.newarray .int, 2) := by decide +kernel
set_option maxRecDepth 100000 in
theorem zk_20 : zck 17 (cX1_init.data.toList.drop 17) [(17, .putfield 15, 3), (20, .aload_n 0, 1), (21, .bipush 64, 2)] = true := by decide +kernel
theorem zr_20 : decode cX1_init 17 = .ok (.putfield 15, 3) ∧ decode cX1_init 20 = .ok (.aload_n 0, 1) ∧ decode cX1_init 21 = .ok (.bipush 64, 2) ∧ True := zj_of zk_20
abbrev dX1_init_17 := zr_20.1
abbrev dX1_init_20 := zr_20.2.1
abbrev dX1_init_21 := zr_20.2.2.1
set_option maxRecDepth 100000 in
theorem dX1_init_23 : decode cX1_init 23 = .ok (.newarray .int, 2) := by decide +kernel
set_option maxRecDepth 100000 in
theorem zk_21 : zck 25 (cX1_init.data.toList.drop 25) [(25, .putfield 19, 3), (28, .aload_n 0, 1), (29, .iconst 0, 1), (30, .putfield 22, 3), (33, .return_, 1)] = true := by decide +kernel
theorem zr_21 : decode cX1_init 25 = .ok (.putfield 19, 3) ∧ decode cX1_init 28 = .ok (.aload_n 0, 1) ∧ decode cX1_init 29 = .ok (.iconst 0, 1) ∧ decode cX1_init 30 = .ok (.putfield 22, 3) ∧ decode cX1_init 33 = .ok (.return_, 1) ∧ True := zj_of zk_21
abbrev dX1_init_25 := zr_21.1
abbrev dX1_init_28 := zr_21.2.1
abbrev dX1_init_29 := zr_21.2.2.1
abbrev dX1_init_30 := zr_21.2.2.2.1
abbrev dX1_init_33 := zr_21.2.2.2.2.1
set_option maxRecDepth 100000 in
theorem zk_22 : zck 0 (cX1_remake.data.toList.drop 0) [(0, .aload_n 0, 1), (1, .iload_n 2, 1), (2, .putfield 22, 3), (5, .iconst 0, 1), (6, .istore_n 3, 1), (7, .aload_n 0, 1), (8, .invokevirtual 26, 3), (11, .iconst 0, 1), (12, .istore 4, 2), (14, .iload 4, 2), (16, .bipush 8, 2), (18, .if_icmp .ge 52, 3)] = true := by decide +kernel
theorem zr_22 : decode cX1_remake 0 = .ok (.aload_n 0, 1) ∧ decode cX1_remake 1 = .ok (.iload_n 2, 1) ∧ decode cX1_remake 2 = .ok (.putfield 22, 3) ∧ decode cX1_remake 5 = .ok (.iconst 0, 1) ∧ decode cX1_remake 6 = .ok (.istore_n 3, 1) ∧ decode cX1_remake 7 = .ok (.aload_n 0, 1) ∧ decode cX1_remake 8 = .ok (.invokevirtual 26, 3) ∧ decode cX1_remake 11 = .ok (.iconst 0, 1) ∧ decode cX1_remake 12 = .ok (.istore 4, 2) ∧ decode cX1_remake 14 = .ok (.iload 4, 2) ∧ decode cX1_remake 16 = .ok (.bipush 8, 2) ∧ decode cX1_remake 18 = .ok (.if_icmp .ge 52, 3) ∧ True := zj_of zk_22
abbrev dX1_remake_0 := zr_22.1
abbrev dX1_remake_1 := zr_22.2.1
abbrev dX1_remake_2 := zr_22.2.2.1
abbrev dX1_remake_5 := zr_22.2.2.2.1
abbrev dX1_remake_6 := zr_22.2.2.2.2.1
abbrev dX1_remake_7 := zr_22.2.2.2.2.2.1
abbrev dX1_remake_8 := zr_22.2.2.2.2.2.2.1
abbrev dX1_remake_11 := zr_22.2.2.2.2.2.2.2.1
abbrev dX1_remake_12 := zr_22.2.2.2.2.2.2.2.2.1
abbrev dX1_remake_14 := zr_22.2.2.2.2.2.2.2.2.2.1
abbrev dX1_remake_16 := zr_22.2.2.2.2.2.2.2.2.2.2.1
abbrev dX1_remake_18 := zr_22.2.2.2.2.2.2.2.2.2.2.2.1
set_option maxRecDepth 100000 in
theorem zk_23 : zck 21 (cX1_remake.data.toList.drop 21) [(21, .aload_n 0, 1), (22, .aload_n 1, 1), (23, .bipush 7, 2), (25, .iload 4, 2), (27, .isub, 1), (28, .invokevirtual 29, 3), (31, .lstore 5, 2), (33, .iload_n 3, 1), (34, .lload 5, 2), (36, .aload_n 0, 1), (37, .getfield 9, 3), (40, .iload 4, 2)] = true := by decide +kernel
theorem zr_23 : decode cX1_remake 21 = .ok (.aload_n 0, 1) ∧ decode cX1_remake 22 = .ok (.aload_n 1, 1) ∧ decode cX1_remake 23 = .ok (.bipush 7, 2) ∧ decode cX1_remake 25 = .ok (.iload 4, 2) ∧ decode cX1_remake 27 = .ok (.isub, 1) ∧ decode cX1_remake 28 = .ok (.invokevirtual 29, 3) ∧ decode cX1_remake 31 = .ok (.lstore 5, 2) ∧ decode cX1_remake 33 = .ok (.iload_n 3, 1) ∧ decode cX1_remake 34 = .ok (.lload 5, 2) ∧ decode cX1_remake 36 = .ok (.aload_n 0, 1) ∧ decode cX1_remake 37 = .ok (.getfield 9, 3) ∧ decode cX1_remake 40 = .ok (.iload 4, 2) ∧ True := zj_of zk_23
abbrev dX1_remake_21 := zr_23.1
abbrev dX1_remake_22 := zr_23.2.1
abbrev dX1_remake_23 := zr_23.2.2.1
abbrev dX1_remake_25 := zr_23.2.2.2.1
abbrev dX1_remake_27 := zr_23.2.2.2.2.1
abbrev dX1_remake_28 := zr_23.2.2.2.2.2.1
abbrev dX1_remake_31 := zr_23.2.2.2.2.2.2.1
abbrev dX1_remake_33 := zr_23.2.2.2.2.2.2.2.1
abbrev dX1_remake_34 := zr_23.2.2.2.2.2.2.2.2.1
abbrev dX1_remake_36 := zr_23.2.2.2.2.2.2.2.2.2.1
abbrev dX1_remake_37 := zr_23.2.2.2.2.2.2.2.2.2.2.1
abbrev dX1_remake_40 := zr_23.2.2.2.2.2.2.2.2.2.2.2.1
set_option maxRecDepth 100000 in
theorem zk_24 : zck 42 (cX1_remake.data.toList.drop 42) [(42, .laload, 1), (43, .lxor, 1), (44, .invokestatic 33, 3), (47, .iadd, 1), (48, .istore_n 3, 1), (49, .aload_n 0, 1), (50, .getfield 9, 3), (53, .iload 4, 2), (55, .lload 5, 2), (57, .lastore, 1), (58, .aload_n 0, 1), (59, .lload 5, 2)] = true := by decide +kernel
theorem zr_24 : decode cX1_remake 42 = .ok (.laload, 1) ∧ decode cX1_remake 43 = .ok (.lxor, 1) ∧ decode cX1_remake 44 = .ok (.invokestatic 33, 3) ∧ decode cX1_remake 47 = .ok (.iadd, 1) ∧ decode cX1_remake 48 = .ok (.istore_n 3, 1) ∧ decode cX1_remake 49 = .ok (.aload_n 0, 1) ∧ decode cX1_remake 50 = .ok (.getfield 9, 3) ∧ decode cX1_remake 53 = .ok (.iload 4, 2) ∧ decode cX1_remake 55 = .ok (.lload 5, 2) ∧ decode cX1_remake 57 = .ok (.lastore, 1) ∧ decode cX1_remake 58 = .ok (.aload_n 0, 1) ∧ decode cX1_remake 59 = .ok (.lload 5, 2) ∧ True := zj_of zk_24
abbrev dX1_remake_42 := zr_24.1
abbrev dX1_remake_43 := zr_24.2.1
abbrev dX1_remake_44 := zr_24.2.2.1
abbrev dX1_remake_47 := zr_24.2.2.2.1
abbrev dX1_remake_48 := zr_24.2.2.2.2.1
abbrev dX1_remake_49 := zr_24.2.2.2.2.2.1
abbrev dX1_remake_50 := zr_24.2.2.2.2.2.2.1
abbrev dX1_remake_53 := zr_24.2.2.2.2.2.2.2.1
abbrev dX1_remake_55 := zr_24.2.2.2.2.2.2.2.2.1
abbrev dX1_remake_57 := zr_24.2.2.2.2.2.2.2.2.2.1
abbrev dX1_remake_58 := zr_24.2.2.2.2.2.2.2.2.2.2.1
abbrev dX1_remake_59 := zr_24.2.2.2.2.2.2.2.2.2.2.2.1
set_option maxRecDepth 100000 in
theorem zk_25 : zck 61 (cX1_remake.data.toList.drop 61) [(61, .invokevirtual 39, 3), (64, .iinc 4 1, 3), (67, .goto (-53), 3), (70, .iload_n 3, 1), (71, .ireturn, 1)] = true := by decide +kernel
theorem zr_25 : decode cX1_remake 61 = .ok (.invokevirtual 39, 3) ∧ decode cX1_remake 64 = .ok (.iinc 4 1, 3) ∧ decode cX1_remake 67 = .ok (.goto (-53), 3) ∧ decode cX1_remake 70 = .ok (.iload_n 3, 1) ∧ decode cX1_remake 71 = .ok (.ireturn, 1) ∧ True := zj_of zk_25
abbrev dX1_remake_61 := zr_25.1
abbrev dX1_remake_64 := zr_25.2.1
abbrev dX1_remake_67 := zr_25.2.2.1
abbrev dX1_remake_70 := zr_25.2.2.2.1
abbrev dX1_remake_71 := zr_25.2.2.2.2.1
set_option maxRecDepth 100000 in
theorem zk_26 : zck 0 (cX1_placeAt.data.toList.drop 0) [(0, .aload_n 0, 1), (1, .invokevirtual 26, 3), (4, .iconst 0, 1), (5, .istore_n 3, 1), (6, .iload_n 3, 1), (7, .iload_n 1, 1), (8, .if_icmp .ge 25, 3), (11, .iload_n 3, 1), (12, .bipush 8, 2), (14, .if_icmp .ge 19, 3), (17, .aload_n 0, 1), (18, .aload_n 0, 1)] = true := by decide +kernel
theorem zr_26 : decode cX1_placeAt 0 = .ok (.aload_n 0, 1) ∧ decode cX1_placeAt 1 = .ok (.invokevirtual 26, 3) ∧ decode cX1_placeAt 4 = .ok (.iconst 0, 1) ∧ decode cX1_placeAt 5 = .ok (.istore_n 3, 1) ∧ decode cX1_placeAt 6 = .ok (.iload_n 3, 1) ∧ decode cX1_placeAt 7 = .ok (.iload_n 1, 1) ∧ decode cX1_placeAt 8 = .ok (.if_icmp .ge 25, 3) ∧ decode cX1_placeAt 11 = .ok (.iload_n 3, 1) ∧ decode cX1_placeAt 12 = .ok (.bipush 8, 2) ∧ decode cX1_placeAt 14 = .ok (.if_icmp .ge 19, 3) ∧ decode cX1_placeAt 17 = .ok (.aload_n 0, 1) ∧ decode cX1_placeAt 18 = .ok (.aload_n 0, 1) ∧ True := zj_of zk_26
abbrev dX1_placeAt_0 := zr_26.1
abbrev dX1_placeAt_1 := zr_26.2.1
abbrev dX1_placeAt_4 := zr_26.2.2.1
abbrev dX1_placeAt_5 := zr_26.2.2.2.1
abbrev dX1_placeAt_6 := zr_26.2.2.2.2.1
abbrev dX1_placeAt_7 := zr_26.2.2.2.2.2.1
abbrev dX1_placeAt_8 := zr_26.2.2.2.2.2.2.1
abbrev dX1_placeAt_11 := zr_26.2.2.2.2.2.2.2.1
abbrev dX1_placeAt_12 := zr_26.2.2.2.2.2.2.2.2.1
abbrev dX1_placeAt_14 := zr_26.2.2.2.2.2.2.2.2.2.1
abbrev dX1_placeAt_17 := zr_26.2.2.2.2.2.2.2.2.2.2.1
abbrev dX1_placeAt_18 := zr_26.2.2.2.2.2.2.2.2.2.2.2.1
set_option maxRecDepth 100000 in
theorem zk_27 : zck 19 (cX1_placeAt.data.toList.drop 19) [(19, .getfield 9, 3), (22, .iload_n 3, 1), (23, .laload, 1), (24, .invokevirtual 39, 3), (27, .iinc 3 1, 3), (30, .goto (-24), 3), (33, .aload_n 0, 1), (34, .getfield 15, 3), (37, .iload_n 2, 1), (38, .iaload, 1), (39, .ireturn, 1)] = true := by decide +kernel
theorem zr_27 : decode cX1_placeAt 19 = .ok (.getfield 9, 3) ∧ decode cX1_placeAt 22 = .ok (.iload_n 3, 1) ∧ decode cX1_placeAt 23 = .ok (.laload, 1) ∧ decode cX1_placeAt 24 = .ok (.invokevirtual 39, 3) ∧ decode cX1_placeAt 27 = .ok (.iinc 3 1, 3) ∧ decode cX1_placeAt 30 = .ok (.goto (-24), 3) ∧ decode cX1_placeAt 33 = .ok (.aload_n 0, 1) ∧ decode cX1_placeAt 34 = .ok (.getfield 15, 3) ∧ decode cX1_placeAt 37 = .ok (.iload_n 2, 1) ∧ decode cX1_placeAt 38 = .ok (.iaload, 1) ∧ decode cX1_placeAt 39 = .ok (.ireturn, 1) ∧ True := zj_of zk_27
abbrev dX1_placeAt_19 := zr_27.1
abbrev dX1_placeAt_22 := zr_27.2.1
abbrev dX1_placeAt_23 := zr_27.2.2.1
abbrev dX1_placeAt_24 := zr_27.2.2.2.1
abbrev dX1_placeAt_27 := zr_27.2.2.2.2.1
abbrev dX1_placeAt_30 := zr_27.2.2.2.2.2.1
abbrev dX1_placeAt_33 := zr_27.2.2.2.2.2.2.1
abbrev dX1_placeAt_34 := zr_27.2.2.2.2.2.2.2.1
abbrev dX1_placeAt_37 := zr_27.2.2.2.2.2.2.2.2.1
abbrev dX1_placeAt_38 := zr_27.2.2.2.2.2.2.2.2.2.1
abbrev dX1_placeAt_39 := zr_27.2.2.2.2.2.2.2.2.2.2.1
set_option maxRecDepth 100000 in
theorem zk_28 : zck 0 (cX1_startOrder.data.toList.drop 0) [(0, .iconst 0, 1), (1, .istore_n 1, 1), (2, .iload_n 1, 1), (3, .aload_n 0, 1), (4, .getfield 22, 3), (7, .if_icmp .ge 16, 3), (10, .aload_n 0, 1), (11, .getfield 15, 3), (14, .iload_n 1, 1), (15, .iload_n 1, 1), (16, .iastore, 1), (17, .iinc 1 1, 3)] = true := by decide +kernel
theorem zr_28 : decode cX1_startOrder 0 = .ok (.iconst 0, 1) ∧ decode cX1_startOrder 1 = .ok (.istore_n 1, 1) ∧ decode cX1_startOrder 2 = .ok (.iload_n 1, 1) ∧ decode cX1_startOrder 3 = .ok (.aload_n 0, 1) ∧ decode cX1_startOrder 4 = .ok (.getfield 22, 3) ∧ decode cX1_startOrder 7 = .ok (.if_icmp .ge 16, 3) ∧ decode cX1_startOrder 10 = .ok (.aload_n 0, 1) ∧ decode cX1_startOrder 11 = .ok (.getfield 15, 3) ∧ decode cX1_startOrder 14 = .ok (.iload_n 1, 1) ∧ decode cX1_startOrder 15 = .ok (.iload_n 1, 1) ∧ decode cX1_startOrder 16 = .ok (.iastore, 1) ∧ decode cX1_startOrder 17 = .ok (.iinc 1 1, 3) ∧ True := zj_of zk_28
abbrev dX1_startOrder_0 := zr_28.1
abbrev dX1_startOrder_1 := zr_28.2.1
abbrev dX1_startOrder_2 := zr_28.2.2.1
abbrev dX1_startOrder_3 := zr_28.2.2.2.1
abbrev dX1_startOrder_4 := zr_28.2.2.2.2.1
abbrev dX1_startOrder_7 := zr_28.2.2.2.2.2.1
abbrev dX1_startOrder_10 := zr_28.2.2.2.2.2.2.1
abbrev dX1_startOrder_11 := zr_28.2.2.2.2.2.2.2.1
abbrev dX1_startOrder_14 := zr_28.2.2.2.2.2.2.2.2.1
abbrev dX1_startOrder_15 := zr_28.2.2.2.2.2.2.2.2.2.1
abbrev dX1_startOrder_16 := zr_28.2.2.2.2.2.2.2.2.2.2.1
abbrev dX1_startOrder_17 := zr_28.2.2.2.2.2.2.2.2.2.2.2.1
set_option maxRecDepth 100000 in
theorem zk_29 : zck 20 (cX1_startOrder.data.toList.drop 20) [(20, .goto (-18), 3), (23, .return_, 1)] = true := by decide +kernel
theorem zr_29 : decode cX1_startOrder 20 = .ok (.goto (-18), 3) ∧ decode cX1_startOrder 23 = .ok (.return_, 1) ∧ True := zj_of zk_29
abbrev dX1_startOrder_20 := zr_29.1
abbrev dX1_startOrder_23 := zr_29.2.1
set_option maxRecDepth 100000 in
theorem zk_30 : zck 0 (cX1_bitsInOrder.data.toList.drop 0) [(0, .lconst 0, 1), (1, .lstore_n 3, 1), (2, .iconst 0, 1), (3, .istore 5, 2), (5, .iload 5, 2), (7, .aload_n 0, 1), (8, .getfield 22, 3), (11, .if_icmp .ge 29, 3), (14, .lload_n 3, 1), (15, .aload_n 1, 1), (16, .aload_n 0, 1), (17, .getfield 15, 3)] = true := by decide +kernel
theorem zr_30 : decode cX1_bitsInOrder 0 = .ok (.lconst 0, 1) ∧ decode cX1_bitsInOrder 1 = .ok (.lstore_n 3, 1) ∧ decode cX1_bitsInOrder 2 = .ok (.iconst 0, 1) ∧ decode cX1_bitsInOrder 3 = .ok (.istore 5, 2) ∧ decode cX1_bitsInOrder 5 = .ok (.iload 5, 2) ∧ decode cX1_bitsInOrder 7 = .ok (.aload_n 0, 1) ∧ decode cX1_bitsInOrder 8 = .ok (.getfield 22, 3) ∧ decode cX1_bitsInOrder 11 = .ok (.if_icmp .ge 29, 3) ∧ decode cX1_bitsInOrder 14 = .ok (.lload_n 3, 1) ∧ decode cX1_bitsInOrder 15 = .ok (.aload_n 1, 1) ∧ decode cX1_bitsInOrder 16 = .ok (.aload_n 0, 1) ∧ decode cX1_bitsInOrder 17 = .ok (.getfield 15, 3) ∧ True := zj_of zk_30
abbrev dX1_bitsInOrder_0 := zr_30.1
abbrev dX1_bitsInOrder_1 := zr_30.2.1
abbrev dX1_bitsInOrder_2 := zr_30.2.2.1
abbrev dX1_bitsInOrder_3 := zr_30.2.2.2.1
abbrev dX1_bitsInOrder_5 := zr_30.2.2.2.2.1
abbrev dX1_bitsInOrder_7 := zr_30.2.2.2.2.2.1
abbrev dX1_bitsInOrder_8 := zr_30.2.2.2.2.2.2.1
abbrev dX1_bitsInOrder_11 := zr_30.2.2.2.2.2.2.2.1
abbrev dX1_bitsInOrder_14 := zr_30.2.2.2.2.2.2.2.2.1
abbrev dX1_bitsInOrder_15 := zr_30.2.2.2.2.2.2.2.2.2.1
abbrev dX1_bitsInOrder_16 := zr_30.2.2.2.2.2.2.2.2.2.2.1
abbrev dX1_bitsInOrder_17 := zr_30.2.2.2.2.2.2.2.2.2.2.2.1
set_option maxRecDepth 100000 in
theorem zk_31 : zck 20 (cX1_bitsInOrder.data.toList.drop 20) [(20, .iload 5, 2), (22, .iaload, 1), (23, .iaload, 1), (24, .iload_n 2, 1), (25, .ishr, 1), (26, .iconst 1, 1), (27, .iand, 1), (28, .i2l, 1), (29, .iload 5, 2), (31, .lshl, 1), (32, .lor, 1), (33, .lstore_n 3, 1)] = true := by decide +kernel
theorem zr_31 : decode cX1_bitsInOrder 20 = .ok (.iload 5, 2) ∧ decode cX1_bitsInOrder 22 = .ok (.iaload, 1) ∧ decode cX1_bitsInOrder 23 = .ok (.iaload, 1) ∧ decode cX1_bitsInOrder 24 = .ok (.iload_n 2, 1) ∧ decode cX1_bitsInOrder 25 = .ok (.ishr, 1) ∧ decode cX1_bitsInOrder 26 = .ok (.iconst 1, 1) ∧ decode cX1_bitsInOrder 27 = .ok (.iand, 1) ∧ decode cX1_bitsInOrder 28 = .ok (.i2l, 1) ∧ decode cX1_bitsInOrder 29 = .ok (.iload 5, 2) ∧ decode cX1_bitsInOrder 31 = .ok (.lshl, 1) ∧ decode cX1_bitsInOrder 32 = .ok (.lor, 1) ∧ decode cX1_bitsInOrder 33 = .ok (.lstore_n 3, 1) ∧ True := zj_of zk_31
abbrev dX1_bitsInOrder_20 := zr_31.1
abbrev dX1_bitsInOrder_22 := zr_31.2.1
abbrev dX1_bitsInOrder_23 := zr_31.2.2.1
abbrev dX1_bitsInOrder_24 := zr_31.2.2.2.1
abbrev dX1_bitsInOrder_25 := zr_31.2.2.2.2.1
abbrev dX1_bitsInOrder_26 := zr_31.2.2.2.2.2.1
abbrev dX1_bitsInOrder_27 := zr_31.2.2.2.2.2.2.1
abbrev dX1_bitsInOrder_28 := zr_31.2.2.2.2.2.2.2.1
abbrev dX1_bitsInOrder_29 := zr_31.2.2.2.2.2.2.2.2.1
abbrev dX1_bitsInOrder_31 := zr_31.2.2.2.2.2.2.2.2.2.1
abbrev dX1_bitsInOrder_32 := zr_31.2.2.2.2.2.2.2.2.2.2.1
abbrev dX1_bitsInOrder_33 := zr_31.2.2.2.2.2.2.2.2.2.2.2.1
set_option maxRecDepth 100000 in
theorem zk_32 : zck 34 (cX1_bitsInOrder.data.toList.drop 34) [(34, .iinc 5 1, 3), (37, .goto (-32), 3), (40, .lload_n 3, 1), (41, .lreturn, 1)] = true := by decide +kernel
theorem zr_32 : decode cX1_bitsInOrder 34 = .ok (.iinc 5 1, 3) ∧ decode cX1_bitsInOrder 37 = .ok (.goto (-32), 3) ∧ decode cX1_bitsInOrder 40 = .ok (.lload_n 3, 1) ∧ decode cX1_bitsInOrder 41 = .ok (.lreturn, 1) ∧ True := zj_of zk_32
abbrev dX1_bitsInOrder_34 := zr_32.1
abbrev dX1_bitsInOrder_37 := zr_32.2.1
abbrev dX1_bitsInOrder_40 := zr_32.2.2.1
abbrev dX1_bitsInOrder_41 := zr_32.2.2.2.1
set_option maxRecDepth 100000 in
theorem zk_33 : zck 0 (cX1_part.data.toList.drop 0) [(0, .iconst 0, 1), (1, .istore_n 3, 1), (2, .iconst 0, 1), (3, .istore 4, 2), (5, .iconst 0, 1), (6, .istore 5, 2), (8, .iload 5, 2), (10, .aload_n 0, 1), (11, .getfield 22, 3), (14, .if_icmp .ge 54, 3), (17, .lload_n 1, 1), (18, .iload 5, 2)] = true := by decide +kernel
theorem zr_33 : decode cX1_part 0 = .ok (.iconst 0, 1) ∧ decode cX1_part 1 = .ok (.istore_n 3, 1) ∧ decode cX1_part 2 = .ok (.iconst 0, 1) ∧ decode cX1_part 3 = .ok (.istore 4, 2) ∧ decode cX1_part 5 = .ok (.iconst 0, 1) ∧ decode cX1_part 6 = .ok (.istore 5, 2) ∧ decode cX1_part 8 = .ok (.iload 5, 2) ∧ decode cX1_part 10 = .ok (.aload_n 0, 1) ∧ decode cX1_part 11 = .ok (.getfield 22, 3) ∧ decode cX1_part 14 = .ok (.if_icmp .ge 54, 3) ∧ decode cX1_part 17 = .ok (.lload_n 1, 1) ∧ decode cX1_part 18 = .ok (.iload 5, 2) ∧ True := zj_of zk_33
abbrev dX1_part_0 := zr_33.1
abbrev dX1_part_1 := zr_33.2.1
abbrev dX1_part_2 := zr_33.2.2.1
abbrev dX1_part_3 := zr_33.2.2.2.1
abbrev dX1_part_5 := zr_33.2.2.2.2.1
abbrev dX1_part_6 := zr_33.2.2.2.2.2.1
abbrev dX1_part_8 := zr_33.2.2.2.2.2.2.1
abbrev dX1_part_10 := zr_33.2.2.2.2.2.2.2.1
abbrev dX1_part_11 := zr_33.2.2.2.2.2.2.2.2.1
abbrev dX1_part_14 := zr_33.2.2.2.2.2.2.2.2.2.1
abbrev dX1_part_17 := zr_33.2.2.2.2.2.2.2.2.2.2.1
abbrev dX1_part_18 := zr_33.2.2.2.2.2.2.2.2.2.2.2.1
set_option maxRecDepth 100000 in
theorem zk_34 : zck 20 (cX1_part.data.toList.drop 20) [(20, .invokestatic 43, 3), (23, .ifCond .ne 22, 3), (26, .aload_n 0, 1), (27, .getfield 15, 3), (30, .iload_n 3, 1), (31, .aload_n 0, 1), (32, .getfield 15, 3), (35, .iload 5, 2), (37, .iaload, 1), (38, .iastore, 1), (39, .iinc 3 1, 3), (42, .goto 20, 3)] = true := by decide +kernel
theorem zr_34 : decode cX1_part 20 = .ok (.invokestatic 43, 3) ∧ decode cX1_part 23 = .ok (.ifCond .ne 22, 3) ∧ decode cX1_part 26 = .ok (.aload_n 0, 1) ∧ decode cX1_part 27 = .ok (.getfield 15, 3) ∧ decode cX1_part 30 = .ok (.iload_n 3, 1) ∧ decode cX1_part 31 = .ok (.aload_n 0, 1) ∧ decode cX1_part 32 = .ok (.getfield 15, 3) ∧ decode cX1_part 35 = .ok (.iload 5, 2) ∧ decode cX1_part 37 = .ok (.iaload, 1) ∧ decode cX1_part 38 = .ok (.iastore, 1) ∧ decode cX1_part 39 = .ok (.iinc 3 1, 3) ∧ decode cX1_part 42 = .ok (.goto 20, 3) ∧ True := zj_of zk_34
abbrev dX1_part_20 := zr_34.1
abbrev dX1_part_23 := zr_34.2.1
abbrev dX1_part_26 := zr_34.2.2.1
abbrev dX1_part_27 := zr_34.2.2.2.1
abbrev dX1_part_30 := zr_34.2.2.2.2.1
abbrev dX1_part_31 := zr_34.2.2.2.2.2.1
abbrev dX1_part_32 := zr_34.2.2.2.2.2.2.1
abbrev dX1_part_35 := zr_34.2.2.2.2.2.2.2.1
abbrev dX1_part_37 := zr_34.2.2.2.2.2.2.2.2.1
abbrev dX1_part_38 := zr_34.2.2.2.2.2.2.2.2.2.1
abbrev dX1_part_39 := zr_34.2.2.2.2.2.2.2.2.2.2.1
abbrev dX1_part_42 := zr_34.2.2.2.2.2.2.2.2.2.2.2.1
set_option maxRecDepth 100000 in
theorem zk_35 : zck 45 (cX1_part.data.toList.drop 45) [(45, .aload_n 0, 1), (46, .getfield 19, 3), (49, .iload 4, 2), (51, .aload_n 0, 1), (52, .getfield 15, 3), (55, .iload 5, 2), (57, .iaload, 1), (58, .iastore, 1), (59, .iinc 4 1, 3), (62, .iinc 5 1, 3), (65, .goto (-57), 3), (68, .aload_n 0, 1)] = true := by decide +kernel
theorem zr_35 : decode cX1_part 45 = .ok (.aload_n 0, 1) ∧ decode cX1_part 46 = .ok (.getfield 19, 3) ∧ decode cX1_part 49 = .ok (.iload 4, 2) ∧ decode cX1_part 51 = .ok (.aload_n 0, 1) ∧ decode cX1_part 52 = .ok (.getfield 15, 3) ∧ decode cX1_part 55 = .ok (.iload 5, 2) ∧ decode cX1_part 57 = .ok (.iaload, 1) ∧ decode cX1_part 58 = .ok (.iastore, 1) ∧ decode cX1_part 59 = .ok (.iinc 4 1, 3) ∧ decode cX1_part 62 = .ok (.iinc 5 1, 3) ∧ decode cX1_part 65 = .ok (.goto (-57), 3) ∧ decode cX1_part 68 = .ok (.aload_n 0, 1) ∧ True := zj_of zk_35
abbrev dX1_part_45 := zr_35.1
abbrev dX1_part_46 := zr_35.2.1
abbrev dX1_part_49 := zr_35.2.2.1
abbrev dX1_part_51 := zr_35.2.2.2.1
abbrev dX1_part_52 := zr_35.2.2.2.2.1
abbrev dX1_part_55 := zr_35.2.2.2.2.2.1
abbrev dX1_part_57 := zr_35.2.2.2.2.2.2.1
abbrev dX1_part_58 := zr_35.2.2.2.2.2.2.2.1
abbrev dX1_part_59 := zr_35.2.2.2.2.2.2.2.2.1
abbrev dX1_part_62 := zr_35.2.2.2.2.2.2.2.2.2.1
abbrev dX1_part_65 := zr_35.2.2.2.2.2.2.2.2.2.2.1
abbrev dX1_part_68 := zr_35.2.2.2.2.2.2.2.2.2.2.2.1
set_option maxRecDepth 100000 in
theorem zk_36 : zck 69 (cX1_part.data.toList.drop 69) [(69, .getfield 19, 3), (72, .iconst 0, 1), (73, .aload_n 0, 1), (74, .getfield 15, 3), (77, .iload_n 3, 1), (78, .iload 4, 2), (80, .invokestatic 47, 3), (83, .return_, 1)] = true := by decide +kernel
theorem zr_36 : decode cX1_part 69 = .ok (.getfield 19, 3) ∧ decode cX1_part 72 = .ok (.iconst 0, 1) ∧ decode cX1_part 73 = .ok (.aload_n 0, 1) ∧ decode cX1_part 74 = .ok (.getfield 15, 3) ∧ decode cX1_part 77 = .ok (.iload_n 3, 1) ∧ decode cX1_part 78 = .ok (.iload 4, 2) ∧ decode cX1_part 80 = .ok (.invokestatic 47, 3) ∧ decode cX1_part 83 = .ok (.return_, 1) ∧ True := zj_of zk_36
abbrev dX1_part_69 := zr_36.1
abbrev dX1_part_72 := zr_36.2.1
abbrev dX1_part_73 := zr_36.2.2.1
abbrev dX1_part_74 := zr_36.2.2.2.1
abbrev dX1_part_77 := zr_36.2.2.2.2.1
abbrev dX1_part_78 := zr_36.2.2.2.2.2.1
abbrev dX1_part_80 := zr_36.2.2.2.2.2.2.1
abbrev dX1_part_83 := zr_36.2.2.2.2.2.2.2.1
set_option maxRecDepth 100000 in
theorem zk_37 : zck 0 (cX2_init.data.toList.drop 0) [(0, .aload_n 0, 1), (1, .invokespecial 3, 3), (4, .aload_n 0, 1), (5, .bipush 8, 2), (7, .bipush 64, 2)] = true := by decide +kernel
theorem zr_37 : decode cX2_init 0 = .ok (.aload_n 0, 1) ∧ decode cX2_init 1 = .ok (.invokespecial 3, 3) ∧ decode cX2_init 4 = .ok (.aload_n 0, 1) ∧ decode cX2_init 5 = .ok (.bipush 8, 2) ∧ decode cX2_init 7 = .ok (.bipush 64, 2) ∧ True := zj_of zk_37
abbrev dX2_init_0 := zr_37.1
abbrev dX2_init_1 := zr_37.2.1
abbrev dX2_init_4 := zr_37.2.2.1
abbrev dX2_init_5 := zr_37.2.2.2.1
abbrev dX2_init_7 := zr_37.2.2.2.2.1
set_option maxRecDepth 100000 in
theorem dX2_init_9 : decode cX2_init 9 = .ok (.multianewarray 9 2, 4) := by decide +kernel
set_option maxRecDepth 100000 in
theorem zk_38 : zck 13 (cX2_init.data.toList.drop 13) [(13, .putfield 11, 3), (16, .aload_n 0, 1), (17, .bipush 64, 2)] = true := by decide +kernel
theorem zr_38 : decode cX2_init 13 = .ok (.putfield 11, 3) ∧ decode cX2_init 16 = .ok (.aload_n 0, 1) ∧ decode cX2_init 17 = .ok (.bipush 64, 2) ∧ True := zj_of zk_38
abbrev dX2_init_13 := zr_38.1
abbrev dX2_init_16 := zr_38.2.1
abbrev dX2_init_17 := zr_38.2.2.1
set_option maxRecDepth 100000 in
theorem dX2_init_19 : decode cX2_init 19 = .ok (.newarray .long, 2) := by decide +kernel
set_option maxRecDepth 100000 in
theorem zk_39 : zck 21 (cX2_init.data.toList.drop 21) [(21, .putfield 16, 3), (24, .aload_n 0, 1), (25, .bipush 8, 2)] = true := by decide +kernel
theorem zr_39 : decode cX2_init 21 = .ok (.putfield 16, 3) ∧ decode cX2_init 24 = .ok (.aload_n 0, 1) ∧ decode cX2_init 25 = .ok (.bipush 8, 2) ∧ True := zj_of zk_39
abbrev dX2_init_21 := zr_39.1
abbrev dX2_init_24 := zr_39.2.1
abbrev dX2_init_25 := zr_39.2.2.1
set_option maxRecDepth 100000 in
theorem dX2_init_27 : decode cX2_init 27 = .ok (.newarray .int, 2) := by decide +kernel
set_option maxRecDepth 100000 in
theorem zk_40 : zck 29 (cX2_init.data.toList.drop 29) [(29, .putfield 20, 3), (32, .aload_n 0, 1), (33, .bipush 8, 2)] = true := by decide +kernel
theorem zr_40 : decode cX2_init 29 = .ok (.putfield 20, 3) ∧ decode cX2_init 32 = .ok (.aload_n 0, 1) ∧ decode cX2_init 33 = .ok (.bipush 8, 2) ∧ True := zj_of zk_40
abbrev dX2_init_29 := zr_40.1
abbrev dX2_init_32 := zr_40.2.1
abbrev dX2_init_33 := zr_40.2.2.1
set_option maxRecDepth 100000 in
theorem dX2_init_35 : decode cX2_init 35 = .ok (.newarray .int, 2) := by decide +kernel
set_option maxRecDepth 100000 in
theorem zk_41 : zck 37 (cX2_init.data.toList.drop 37) [(37, .putfield 24, 3), (40, .aload_n 0, 1), (41, .bipush 8, 2)] = true := by decide +kernel
theorem zr_41 : decode cX2_init 37 = .ok (.putfield 24, 3) ∧ decode cX2_init 40 = .ok (.aload_n 0, 1) ∧ decode cX2_init 41 = .ok (.bipush 8, 2) ∧ True := zj_of zk_41
abbrev dX2_init_37 := zr_41.1
abbrev dX2_init_40 := zr_41.2.1
abbrev dX2_init_41 := zr_41.2.2.1
set_option maxRecDepth 100000 in
theorem dX2_init_43 : decode cX2_init 43 = .ok (.newarray .int, 2) := by decide +kernel
set_option maxRecDepth 100000 in
theorem zk_42 : zck 45 (cX2_init.data.toList.drop 45) [(45, .putfield 27, 3), (48, .aload_n 0, 1), (49, .iconst 0, 1), (50, .putfield 30, 3), (53, .aload_n 0, 1), (54, .iconst 0, 1), (55, .putfield 34, 3), (58, .aload_n 0, 1), (59, .iconst 0, 1), (60, .putfield 37, 3), (63, .aload_n 0, 1), (64, .iconst 0, 1)] = true := by decide +kernel
theorem zr_42 : decode cX2_init 45 = .ok (.putfield 27, 3) ∧ decode cX2_init 48 = .ok (.aload_n 0, 1) ∧ decode cX2_init 49 = .ok (.iconst 0, 1) ∧ decode cX2_init 50 = .ok (.putfield 30, 3) ∧ decode cX2_init 53 = .ok (.aload_n 0, 1) ∧ decode cX2_init 54 = .ok (.iconst 0, 1) ∧ decode cX2_init 55 = .ok (.putfield 34, 3) ∧ decode cX2_init 58 = .ok (.aload_n 0, 1) ∧ decode cX2_init 59 = .ok (.iconst 0, 1) ∧ decode cX2_init 60 = .ok (.putfield 37, 3) ∧ decode cX2_init 63 = .ok (.aload_n 0, 1) ∧ decode cX2_init 64 = .ok (.iconst 0, 1) ∧ True := zj_of zk_42
abbrev dX2_init_45 := zr_42.1
abbrev dX2_init_48 := zr_42.2.1
abbrev dX2_init_49 := zr_42.2.2.1
abbrev dX2_init_50 := zr_42.2.2.2.1
abbrev dX2_init_53 := zr_42.2.2.2.2.1
abbrev dX2_init_54 := zr_42.2.2.2.2.2.1
abbrev dX2_init_55 := zr_42.2.2.2.2.2.2.1
abbrev dX2_init_58 := zr_42.2.2.2.2.2.2.2.1
abbrev dX2_init_59 := zr_42.2.2.2.2.2.2.2.2.1
abbrev dX2_init_60 := zr_42.2.2.2.2.2.2.2.2.2.1
abbrev dX2_init_63 := zr_42.2.2.2.2.2.2.2.2.2.2.1
abbrev dX2_init_64 := zr_42.2.2.2.2.2.2.2.2.2.2.2.1
set_option maxRecDepth 100000 in
theorem zk_43 : zck 65 (cX2_init.data.toList.drop 65) [(65, .putfield 40, 3), (68, .return_, 1)] = true := by decide +kernel
theorem zr_43 : decode cX2_init 65 = .ok (.putfield 40, 3) ∧ decode cX2_init 68 = .ok (.return_, 1) ∧ True := zj_of zk_43
abbrev dX2_init_65 := zr_43.1
abbrev dX2_init_68 := zr_43.2.1
set_option maxRecDepth 100000 in
theorem zk_44 : zck 0 (cX2_forget.data.toList.drop 0) [(0, .aload_n 0, 1), (1, .iconst 0, 1), (2, .putfield 40, 3), (5, .return_, 1)] = true := by decide +kernel
theorem zr_44 : decode cX2_forget 0 = .ok (.aload_n 0, 1) ∧ decode cX2_forget 1 = .ok (.iconst 0, 1) ∧ decode cX2_forget 2 = .ok (.putfield 40, 3) ∧ decode cX2_forget 5 = .ok (.return_, 1) ∧ True := zj_of zk_44
abbrev dX2_forget_0 := zr_44.1
abbrev dX2_forget_1 := zr_44.2.1
abbrev dX2_forget_2 := zr_44.2.2.1
abbrev dX2_forget_5 := zr_44.2.2.2.1
set_option maxRecDepth 100000 in
theorem zk_45 : zck 0 (cX2_search.data.toList.drop 0) [(0, .aload_n 0, 1), (1, .getfield 40, 3), (4, .ifCond .ne 84, 3), (7, .aload_n 0, 1), (8, .iload_n 2, 1), (9, .putfield 30, 3), (12, .aload_n 0, 1), (13, .aload_n 1, 1), (14, .invokevirtual 44, 3), (17, .istore_n 3, 1), (18, .aload_n 0, 1), (19, .iload_n 3, 1)] = true := by decide +kernel
theorem zr_45 : decode cX2_search 0 = .ok (.aload_n 0, 1) ∧ decode cX2_search 1 = .ok (.getfield 40, 3) ∧ decode cX2_search 4 = .ok (.ifCond .ne 84, 3) ∧ decode cX2_search 7 = .ok (.aload_n 0, 1) ∧ decode cX2_search 8 = .ok (.iload_n 2, 1) ∧ decode cX2_search 9 = .ok (.putfield 30, 3) ∧ decode cX2_search 12 = .ok (.aload_n 0, 1) ∧ decode cX2_search 13 = .ok (.aload_n 1, 1) ∧ decode cX2_search 14 = .ok (.invokevirtual 44, 3) ∧ decode cX2_search 17 = .ok (.istore_n 3, 1) ∧ decode cX2_search 18 = .ok (.aload_n 0, 1) ∧ decode cX2_search 19 = .ok (.iload_n 3, 1) ∧ True := zj_of zk_45
abbrev dX2_search_0 := zr_45.1
abbrev dX2_search_1 := zr_45.2.1
abbrev dX2_search_4 := zr_45.2.2.1
abbrev dX2_search_7 := zr_45.2.2.2.1
abbrev dX2_search_8 := zr_45.2.2.2.2.1
abbrev dX2_search_9 := zr_45.2.2.2.2.2.1
abbrev dX2_search_12 := zr_45.2.2.2.2.2.2.1
abbrev dX2_search_13 := zr_45.2.2.2.2.2.2.2.1
abbrev dX2_search_14 := zr_45.2.2.2.2.2.2.2.2.1
abbrev dX2_search_17 := zr_45.2.2.2.2.2.2.2.2.2.1
abbrev dX2_search_18 := zr_45.2.2.2.2.2.2.2.2.2.2.1
abbrev dX2_search_19 := zr_45.2.2.2.2.2.2.2.2.2.2.2.1
set_option maxRecDepth 100000 in
theorem zk_46 : zck 20 (cX2_search.data.toList.drop 20) [(20, .invokestatic 48, 3), (23, .putfield 34, 3), (26, .aload_n 0, 1), (27, .aload_n 0, 1), (28, .getfield 34, 3), (31, .ifCond .ne 7, 3), (34, .iconst 0, 1), (35, .goto 6, 3), (38, .sipush 513, 3), (41, .putfield 37, 3), (44, .aload_n 0, 1), (45, .iconst 0, 1)] = true := by decide +kernel
theorem zr_46 : decode cX2_search 20 = .ok (.invokestatic 48, 3) ∧ decode cX2_search 23 = .ok (.putfield 34, 3) ∧ decode cX2_search 26 = .ok (.aload_n 0, 1) ∧ decode cX2_search 27 = .ok (.aload_n 0, 1) ∧ decode cX2_search 28 = .ok (.getfield 34, 3) ∧ decode cX2_search 31 = .ok (.ifCond .ne 7, 3) ∧ decode cX2_search 34 = .ok (.iconst 0, 1) ∧ decode cX2_search 35 = .ok (.goto 6, 3) ∧ decode cX2_search 38 = .ok (.sipush 513, 3) ∧ decode cX2_search 41 = .ok (.putfield 37, 3) ∧ decode cX2_search 44 = .ok (.aload_n 0, 1) ∧ decode cX2_search 45 = .ok (.iconst 0, 1) ∧ True := zj_of zk_46
abbrev dX2_search_20 := zr_46.1
abbrev dX2_search_23 := zr_46.2.1
abbrev dX2_search_26 := zr_46.2.2.1
abbrev dX2_search_27 := zr_46.2.2.2.1
abbrev dX2_search_28 := zr_46.2.2.2.2.1
abbrev dX2_search_31 := zr_46.2.2.2.2.2.1
abbrev dX2_search_34 := zr_46.2.2.2.2.2.2.1
abbrev dX2_search_35 := zr_46.2.2.2.2.2.2.2.1
abbrev dX2_search_38 := zr_46.2.2.2.2.2.2.2.2.1
abbrev dX2_search_41 := zr_46.2.2.2.2.2.2.2.2.2.1
abbrev dX2_search_44 := zr_46.2.2.2.2.2.2.2.2.2.2.1
abbrev dX2_search_45 := zr_46.2.2.2.2.2.2.2.2.2.2.2.1
set_option maxRecDepth 100000 in
theorem zk_47 : zck 46 (cX2_search.data.toList.drop 46) [(46, .iload_n 3, 1), (47, .iconst 0, 1), (48, .invokevirtual 54, 3), (51, .aload_n 0, 1), (52, .iload_n 3, 1), (53, .invokevirtual 58, 3), (56, .aload_n 0, 1), (57, .dup, 1), (58, .getfield 37, 3), (61, .aload_n 0, 1), (62, .getfield 30, 3), (65, .ifCond .ne 7, 3)] = true := by decide +kernel
theorem zr_47 : decode cX2_search 46 = .ok (.iload_n 3, 1) ∧ decode cX2_search 47 = .ok (.iconst 0, 1) ∧ decode cX2_search 48 = .ok (.invokevirtual 54, 3) ∧ decode cX2_search 51 = .ok (.aload_n 0, 1) ∧ decode cX2_search 52 = .ok (.iload_n 3, 1) ∧ decode cX2_search 53 = .ok (.invokevirtual 58, 3) ∧ decode cX2_search 56 = .ok (.aload_n 0, 1) ∧ decode cX2_search 57 = .ok (.dup, 1) ∧ decode cX2_search 58 = .ok (.getfield 37, 3) ∧ decode cX2_search 61 = .ok (.aload_n 0, 1) ∧ decode cX2_search 62 = .ok (.getfield 30, 3) ∧ decode cX2_search 65 = .ok (.ifCond .ne 7, 3) ∧ True := zj_of zk_47
abbrev dX2_search_46 := zr_47.1
abbrev dX2_search_47 := zr_47.2.1
abbrev dX2_search_48 := zr_47.2.2.1
abbrev dX2_search_51 := zr_47.2.2.2.1
abbrev dX2_search_52 := zr_47.2.2.2.2.1
abbrev dX2_search_53 := zr_47.2.2.2.2.2.1
abbrev dX2_search_56 := zr_47.2.2.2.2.2.2.1
abbrev dX2_search_57 := zr_47.2.2.2.2.2.2.2.1
abbrev dX2_search_58 := zr_47.2.2.2.2.2.2.2.2.1
abbrev dX2_search_61 := zr_47.2.2.2.2.2.2.2.2.2.1
abbrev dX2_search_62 := zr_47.2.2.2.2.2.2.2.2.2.2.1
abbrev dX2_search_65 := zr_47.2.2.2.2.2.2.2.2.2.2.2.1
set_option maxRecDepth 100000 in
theorem zk_48 : zck 68 (cX2_search.data.toList.drop 68) [(68, .iconst 0, 1), (69, .goto 10, 3), (72, .bipush 8, 2), (74, .aload_n 0, 1), (75, .getfield 34, 3), (78, .isub, 1), (79, .iadd, 1), (80, .putfield 37, 3), (83, .aload_n 0, 1), (84, .iconst 1, 1), (85, .putfield 40, 3), (88, .aload_n 0, 1)] = true := by decide +kernel
theorem zr_48 : decode cX2_search 68 = .ok (.iconst 0, 1) ∧ decode cX2_search 69 = .ok (.goto 10, 3) ∧ decode cX2_search 72 = .ok (.bipush 8, 2) ∧ decode cX2_search 74 = .ok (.aload_n 0, 1) ∧ decode cX2_search 75 = .ok (.getfield 34, 3) ∧ decode cX2_search 78 = .ok (.isub, 1) ∧ decode cX2_search 79 = .ok (.iadd, 1) ∧ decode cX2_search 80 = .ok (.putfield 37, 3) ∧ decode cX2_search 83 = .ok (.aload_n 0, 1) ∧ decode cX2_search 84 = .ok (.iconst 1, 1) ∧ decode cX2_search 85 = .ok (.putfield 40, 3) ∧ decode cX2_search 88 = .ok (.aload_n 0, 1) ∧ True := zj_of zk_48
abbrev dX2_search_68 := zr_48.1
abbrev dX2_search_69 := zr_48.2.1
abbrev dX2_search_72 := zr_48.2.2.1
abbrev dX2_search_74 := zr_48.2.2.2.1
abbrev dX2_search_75 := zr_48.2.2.2.2.1
abbrev dX2_search_78 := zr_48.2.2.2.2.2.1
abbrev dX2_search_79 := zr_48.2.2.2.2.2.2.1
abbrev dX2_search_80 := zr_48.2.2.2.2.2.2.2.1
abbrev dX2_search_83 := zr_48.2.2.2.2.2.2.2.2.1
abbrev dX2_search_84 := zr_48.2.2.2.2.2.2.2.2.2.1
abbrev dX2_search_85 := zr_48.2.2.2.2.2.2.2.2.2.2.1
abbrev dX2_search_88 := zr_48.2.2.2.2.2.2.2.2.2.2.2.1
set_option maxRecDepth 100000 in
theorem zk_49 : zck 89 (cX2_search.data.toList.drop 89) [(89, .getfield 37, 3), (92, .ireturn, 1)] = true := by decide +kernel
theorem zr_49 : decode cX2_search 89 = .ok (.getfield 37, 3) ∧ decode cX2_search 92 = .ok (.ireturn, 1) ∧ True := zj_of zk_49
abbrev dX2_search_89 := zr_49.1
abbrev dX2_search_92 := zr_49.2.1
set_option maxRecDepth 100000 in
theorem zk_50 : zck 0 (cX2_takeLine.data.toList.drop 0) [(0, .iconst 0, 1), (1, .istore_n 2, 1), (2, .iconst 0, 1), (3, .istore_n 3, 1), (4, .iload_n 3, 1), (5, .aload_n 0, 1), (6, .getfield 30, 3), (9, .if_icmp .ge 33, 3), (12, .aload_n 0, 1), (13, .getfield 11, 3), (16, .iconst 0, 1), (17, .aaload, 1)] = true := by decide +kernel
theorem zr_50 : decode cX2_takeLine 0 = .ok (.iconst 0, 1) ∧ decode cX2_takeLine 1 = .ok (.istore_n 2, 1) ∧ decode cX2_takeLine 2 = .ok (.iconst 0, 1) ∧ decode cX2_takeLine 3 = .ok (.istore_n 3, 1) ∧ decode cX2_takeLine 4 = .ok (.iload_n 3, 1) ∧ decode cX2_takeLine 5 = .ok (.aload_n 0, 1) ∧ decode cX2_takeLine 6 = .ok (.getfield 30, 3) ∧ decode cX2_takeLine 9 = .ok (.if_icmp .ge 33, 3) ∧ decode cX2_takeLine 12 = .ok (.aload_n 0, 1) ∧ decode cX2_takeLine 13 = .ok (.getfield 11, 3) ∧ decode cX2_takeLine 16 = .ok (.iconst 0, 1) ∧ decode cX2_takeLine 17 = .ok (.aaload, 1) ∧ True := zj_of zk_50
abbrev dX2_takeLine_0 := zr_50.1
abbrev dX2_takeLine_1 := zr_50.2.1
abbrev dX2_takeLine_2 := zr_50.2.2.1
abbrev dX2_takeLine_3 := zr_50.2.2.2.1
abbrev dX2_takeLine_4 := zr_50.2.2.2.2.1
abbrev dX2_takeLine_5 := zr_50.2.2.2.2.2.1
abbrev dX2_takeLine_6 := zr_50.2.2.2.2.2.2.1
abbrev dX2_takeLine_9 := zr_50.2.2.2.2.2.2.2.1
abbrev dX2_takeLine_12 := zr_50.2.2.2.2.2.2.2.2.1
abbrev dX2_takeLine_13 := zr_50.2.2.2.2.2.2.2.2.2.1
abbrev dX2_takeLine_16 := zr_50.2.2.2.2.2.2.2.2.2.2.1
abbrev dX2_takeLine_17 := zr_50.2.2.2.2.2.2.2.2.2.2.2.1
set_option maxRecDepth 100000 in
theorem zk_51 : zck 18 (cX2_takeLine.data.toList.drop 18) [(18, .iload_n 3, 1), (19, .aload_n 1, 1), (20, .iload_n 3, 1), (21, .iaload, 1), (22, .invokestatic 62, 3), (25, .lastore, 1), (26, .iload_n 2, 1), (27, .aload_n 1, 1), (28, .iload_n 3, 1), (29, .iaload, 1), (30, .aload_n 1, 1), (31, .iconst 0, 1)] = true := by decide +kernel
theorem zr_51 : decode cX2_takeLine 18 = .ok (.iload_n 3, 1) ∧ decode cX2_takeLine 19 = .ok (.aload_n 1, 1) ∧ decode cX2_takeLine 20 = .ok (.iload_n 3, 1) ∧ decode cX2_takeLine 21 = .ok (.iaload, 1) ∧ decode cX2_takeLine 22 = .ok (.invokestatic 62, 3) ∧ decode cX2_takeLine 25 = .ok (.lastore, 1) ∧ decode cX2_takeLine 26 = .ok (.iload_n 2, 1) ∧ decode cX2_takeLine 27 = .ok (.aload_n 1, 1) ∧ decode cX2_takeLine 28 = .ok (.iload_n 3, 1) ∧ decode cX2_takeLine 29 = .ok (.iaload, 1) ∧ decode cX2_takeLine 30 = .ok (.aload_n 1, 1) ∧ decode cX2_takeLine 31 = .ok (.iconst 0, 1) ∧ True := zj_of zk_51
abbrev dX2_takeLine_18 := zr_51.1
abbrev dX2_takeLine_19 := zr_51.2.1
abbrev dX2_takeLine_20 := zr_51.2.2.1
abbrev dX2_takeLine_21 := zr_51.2.2.2.1
abbrev dX2_takeLine_22 := zr_51.2.2.2.2.1
abbrev dX2_takeLine_25 := zr_51.2.2.2.2.2.1
abbrev dX2_takeLine_26 := zr_51.2.2.2.2.2.2.1
abbrev dX2_takeLine_27 := zr_51.2.2.2.2.2.2.2.1
abbrev dX2_takeLine_28 := zr_51.2.2.2.2.2.2.2.2.1
abbrev dX2_takeLine_29 := zr_51.2.2.2.2.2.2.2.2.2.1
abbrev dX2_takeLine_30 := zr_51.2.2.2.2.2.2.2.2.2.2.1
abbrev dX2_takeLine_31 := zr_51.2.2.2.2.2.2.2.2.2.2.2.1
set_option maxRecDepth 100000 in
theorem zk_52 : zck 32 (cX2_takeLine.data.toList.drop 32) [(32, .iaload, 1), (33, .ixor, 1), (34, .ior, 1), (35, .istore_n 2, 1), (36, .iinc 3 1, 3), (39, .goto (-35), 3), (42, .iload_n 2, 1), (43, .ireturn, 1)] = true := by decide +kernel
theorem zr_52 : decode cX2_takeLine 32 = .ok (.iaload, 1) ∧ decode cX2_takeLine 33 = .ok (.ixor, 1) ∧ decode cX2_takeLine 34 = .ok (.ior, 1) ∧ decode cX2_takeLine 35 = .ok (.istore_n 2, 1) ∧ decode cX2_takeLine 36 = .ok (.iinc 3 1, 3) ∧ decode cX2_takeLine 39 = .ok (.goto (-35), 3) ∧ decode cX2_takeLine 42 = .ok (.iload_n 2, 1) ∧ decode cX2_takeLine 43 = .ok (.ireturn, 1) ∧ True := zj_of zk_52
abbrev dX2_takeLine_32 := zr_52.1
abbrev dX2_takeLine_33 := zr_52.2.1
abbrev dX2_takeLine_34 := zr_52.2.2.1
abbrev dX2_takeLine_35 := zr_52.2.2.2.1
abbrev dX2_takeLine_36 := zr_52.2.2.2.2.1
abbrev dX2_takeLine_39 := zr_52.2.2.2.2.2.1
abbrev dX2_takeLine_42 := zr_52.2.2.2.2.2.2.1
abbrev dX2_takeLine_43 := zr_52.2.2.2.2.2.2.2.1
set_option maxRecDepth 100000 in
theorem zk_53 : zck 0 (cX2_lanesOf.data.toList.drop 0) [(0, .lconst 0, 1), (1, .lstore_n 1, 1), (2, .iconst 0, 1), (3, .istore_n 3, 1), (4, .iload_n 3, 1), (5, .bipush 8, 2), (7, .if_icmp .ge 23, 3), (10, .lload_n 1, 1), (11, .iload_n 0, 1), (12, .iload_n 3, 1), (13, .ishr, 1), (14, .iconst 1, 1)] = true := by decide +kernel
theorem zr_53 : decode cX2_lanesOf 0 = .ok (.lconst 0, 1) ∧ decode cX2_lanesOf 1 = .ok (.lstore_n 1, 1) ∧ decode cX2_lanesOf 2 = .ok (.iconst 0, 1) ∧ decode cX2_lanesOf 3 = .ok (.istore_n 3, 1) ∧ decode cX2_lanesOf 4 = .ok (.iload_n 3, 1) ∧ decode cX2_lanesOf 5 = .ok (.bipush 8, 2) ∧ decode cX2_lanesOf 7 = .ok (.if_icmp .ge 23, 3) ∧ decode cX2_lanesOf 10 = .ok (.lload_n 1, 1) ∧ decode cX2_lanesOf 11 = .ok (.iload_n 0, 1) ∧ decode cX2_lanesOf 12 = .ok (.iload_n 3, 1) ∧ decode cX2_lanesOf 13 = .ok (.ishr, 1) ∧ decode cX2_lanesOf 14 = .ok (.iconst 1, 1) ∧ True := zj_of zk_53
abbrev dX2_lanesOf_0 := zr_53.1
abbrev dX2_lanesOf_1 := zr_53.2.1
abbrev dX2_lanesOf_2 := zr_53.2.2.1
abbrev dX2_lanesOf_3 := zr_53.2.2.2.1
abbrev dX2_lanesOf_4 := zr_53.2.2.2.2.1
abbrev dX2_lanesOf_5 := zr_53.2.2.2.2.2.1
abbrev dX2_lanesOf_7 := zr_53.2.2.2.2.2.2.1
abbrev dX2_lanesOf_10 := zr_53.2.2.2.2.2.2.2.1
abbrev dX2_lanesOf_11 := zr_53.2.2.2.2.2.2.2.2.1
abbrev dX2_lanesOf_12 := zr_53.2.2.2.2.2.2.2.2.2.1
abbrev dX2_lanesOf_13 := zr_53.2.2.2.2.2.2.2.2.2.2.1
abbrev dX2_lanesOf_14 := zr_53.2.2.2.2.2.2.2.2.2.2.2.1
set_option maxRecDepth 100000 in
theorem zk_54 : zck 15 (cX2_lanesOf.data.toList.drop 15) [(15, .iand, 1), (16, .i2l, 1), (17, .bipush 8, 2), (19, .iload_n 3, 1), (20, .imul, 1), (21, .lshl, 1), (22, .lor, 1), (23, .lstore_n 1, 1), (24, .iinc 3 1, 3), (27, .goto (-23), 3), (30, .lload_n 1, 1), (31, .lreturn, 1)] = true := by decide +kernel
theorem zr_54 : decode cX2_lanesOf 15 = .ok (.iand, 1) ∧ decode cX2_lanesOf 16 = .ok (.i2l, 1) ∧ decode cX2_lanesOf 17 = .ok (.bipush 8, 2) ∧ decode cX2_lanesOf 19 = .ok (.iload_n 3, 1) ∧ decode cX2_lanesOf 20 = .ok (.imul, 1) ∧ decode cX2_lanesOf 21 = .ok (.lshl, 1) ∧ decode cX2_lanesOf 22 = .ok (.lor, 1) ∧ decode cX2_lanesOf 23 = .ok (.lstore_n 1, 1) ∧ decode cX2_lanesOf 24 = .ok (.iinc 3 1, 3) ∧ decode cX2_lanesOf 27 = .ok (.goto (-23), 3) ∧ decode cX2_lanesOf 30 = .ok (.lload_n 1, 1) ∧ decode cX2_lanesOf 31 = .ok (.lreturn, 1) ∧ True := zj_of zk_54
abbrev dX2_lanesOf_15 := zr_54.1
abbrev dX2_lanesOf_16 := zr_54.2.1
abbrev dX2_lanesOf_17 := zr_54.2.2.1
abbrev dX2_lanesOf_19 := zr_54.2.2.2.1
abbrev dX2_lanesOf_20 := zr_54.2.2.2.2.1
abbrev dX2_lanesOf_21 := zr_54.2.2.2.2.2.1
abbrev dX2_lanesOf_22 := zr_54.2.2.2.2.2.2.1
abbrev dX2_lanesOf_23 := zr_54.2.2.2.2.2.2.2.1
abbrev dX2_lanesOf_24 := zr_54.2.2.2.2.2.2.2.2.1
abbrev dX2_lanesOf_27 := zr_54.2.2.2.2.2.2.2.2.2.1
abbrev dX2_lanesOf_30 := zr_54.2.2.2.2.2.2.2.2.2.2.1
abbrev dX2_lanesOf_31 := zr_54.2.2.2.2.2.2.2.2.2.2.2.1
set_option maxRecDepth 100000 in
theorem zk_55 : zck 0 (cX2_tryBits.data.toList.drop 0) [(0, .iload_n 1, 1), (1, .aload_n 0, 1), (2, .getfield 34, 3), (5, .if_icmp .ge 9, 3), (8, .iload_n 1, 1), (9, .bipush 8, 2), (11, .if_icmp .lt 4, 3), (14, .return_, 1), (15, .aload_n 0, 1), (16, .aload_n 0, 1), (17, .getfield 11, 3), (20, .iload_n 1, 1)] = true := by decide +kernel
theorem zr_55 : decode cX2_tryBits 0 = .ok (.iload_n 1, 1) ∧ decode cX2_tryBits 1 = .ok (.aload_n 0, 1) ∧ decode cX2_tryBits 2 = .ok (.getfield 34, 3) ∧ decode cX2_tryBits 5 = .ok (.if_icmp .ge 9, 3) ∧ decode cX2_tryBits 8 = .ok (.iload_n 1, 1) ∧ decode cX2_tryBits 9 = .ok (.bipush 8, 2) ∧ decode cX2_tryBits 11 = .ok (.if_icmp .lt 4, 3) ∧ decode cX2_tryBits 14 = .ok (.return_, 1) ∧ decode cX2_tryBits 15 = .ok (.aload_n 0, 1) ∧ decode cX2_tryBits 16 = .ok (.aload_n 0, 1) ∧ decode cX2_tryBits 17 = .ok (.getfield 11, 3) ∧ decode cX2_tryBits 20 = .ok (.iload_n 1, 1) ∧ True := zj_of zk_55
abbrev dX2_tryBits_0 := zr_55.1
abbrev dX2_tryBits_1 := zr_55.2.1
abbrev dX2_tryBits_2 := zr_55.2.2.1
abbrev dX2_tryBits_5 := zr_55.2.2.2.1
abbrev dX2_tryBits_8 := zr_55.2.2.2.2.1
abbrev dX2_tryBits_9 := zr_55.2.2.2.2.2.1
abbrev dX2_tryBits_11 := zr_55.2.2.2.2.2.2.1
abbrev dX2_tryBits_14 := zr_55.2.2.2.2.2.2.2.1
abbrev dX2_tryBits_15 := zr_55.2.2.2.2.2.2.2.2.1
abbrev dX2_tryBits_16 := zr_55.2.2.2.2.2.2.2.2.2.1
abbrev dX2_tryBits_17 := zr_55.2.2.2.2.2.2.2.2.2.2.1
abbrev dX2_tryBits_20 := zr_55.2.2.2.2.2.2.2.2.2.2.2.1
set_option maxRecDepth 100000 in
theorem zk_56 : zck 21 (cX2_tryBits.data.toList.drop 21) [(21, .aaload, 1), (22, .invokevirtual 66, 3), (25, .lstore 4, 2), (27, .iconst 2, 1), (28, .aload_n 0, 1), (29, .getfield 34, 3), (32, .iconst 1, 1), (33, .isub, 1), (34, .iload_n 1, 1), (35, .isub, 1), (36, .imul, 1), (37, .istore 6, 2)] = true := by decide +kernel
theorem zr_56 : decode cX2_tryBits 21 = .ok (.aaload, 1) ∧ decode cX2_tryBits 22 = .ok (.invokevirtual 66, 3) ∧ decode cX2_tryBits 25 = .ok (.lstore 4, 2) ∧ decode cX2_tryBits 27 = .ok (.iconst 2, 1) ∧ decode cX2_tryBits 28 = .ok (.aload_n 0, 1) ∧ decode cX2_tryBits 29 = .ok (.getfield 34, 3) ∧ decode cX2_tryBits 32 = .ok (.iconst 1, 1) ∧ decode cX2_tryBits 33 = .ok (.isub, 1) ∧ decode cX2_tryBits 34 = .ok (.iload_n 1, 1) ∧ decode cX2_tryBits 35 = .ok (.isub, 1) ∧ decode cX2_tryBits 36 = .ok (.imul, 1) ∧ decode cX2_tryBits 37 = .ok (.istore 6, 2) ∧ True := zj_of zk_56
abbrev dX2_tryBits_21 := zr_56.1
abbrev dX2_tryBits_22 := zr_56.2.1
abbrev dX2_tryBits_25 := zr_56.2.2.1
abbrev dX2_tryBits_27 := zr_56.2.2.2.1
abbrev dX2_tryBits_28 := zr_56.2.2.2.2.1
abbrev dX2_tryBits_29 := zr_56.2.2.2.2.2.1
abbrev dX2_tryBits_32 := zr_56.2.2.2.2.2.2.1
abbrev dX2_tryBits_33 := zr_56.2.2.2.2.2.2.2.1
abbrev dX2_tryBits_34 := zr_56.2.2.2.2.2.2.2.2.1
abbrev dX2_tryBits_35 := zr_56.2.2.2.2.2.2.2.2.2.1
abbrev dX2_tryBits_36 := zr_56.2.2.2.2.2.2.2.2.2.2.1
abbrev dX2_tryBits_37 := zr_56.2.2.2.2.2.2.2.2.2.2.2.1
set_option maxRecDepth 100000 in
theorem zk_57 : zck 39 (cX2_tryBits.data.toList.drop 39) [(39, .bipush 7, 2), (41, .istore 7, 2), (43, .iload 7, 2), (45, .ifCond .lt 72, 3), (48, .iload_n 3, 1), (49, .iconst 1, 1), (50, .iadd, 1), (51, .lload 4, 2), (53, .bipush 8, 2), (55, .iload 7, 2), (57, .imul, 1), (58, .lushr, 1)] = true := by decide +kernel
theorem zr_57 : decode cX2_tryBits 39 = .ok (.bipush 7, 2) ∧ decode cX2_tryBits 41 = .ok (.istore 7, 2) ∧ decode cX2_tryBits 43 = .ok (.iload 7, 2) ∧ decode cX2_tryBits 45 = .ok (.ifCond .lt 72, 3) ∧ decode cX2_tryBits 48 = .ok (.iload_n 3, 1) ∧ decode cX2_tryBits 49 = .ok (.iconst 1, 1) ∧ decode cX2_tryBits 50 = .ok (.iadd, 1) ∧ decode cX2_tryBits 51 = .ok (.lload 4, 2) ∧ decode cX2_tryBits 53 = .ok (.bipush 8, 2) ∧ decode cX2_tryBits 55 = .ok (.iload 7, 2) ∧ decode cX2_tryBits 57 = .ok (.imul, 1) ∧ decode cX2_tryBits 58 = .ok (.lushr, 1) ∧ True := zj_of zk_57
abbrev dX2_tryBits_39 := zr_57.1
abbrev dX2_tryBits_41 := zr_57.2.1
abbrev dX2_tryBits_43 := zr_57.2.2.1
abbrev dX2_tryBits_45 := zr_57.2.2.2.1
abbrev dX2_tryBits_48 := zr_57.2.2.2.2.1
abbrev dX2_tryBits_49 := zr_57.2.2.2.2.2.1
abbrev dX2_tryBits_50 := zr_57.2.2.2.2.2.2.1
abbrev dX2_tryBits_51 := zr_57.2.2.2.2.2.2.2.1
abbrev dX2_tryBits_53 := zr_57.2.2.2.2.2.2.2.2.1
abbrev dX2_tryBits_55 := zr_57.2.2.2.2.2.2.2.2.2.1
abbrev dX2_tryBits_57 := zr_57.2.2.2.2.2.2.2.2.2.2.1
abbrev dX2_tryBits_58 := zr_57.2.2.2.2.2.2.2.2.2.2.2.1
set_option maxRecDepth 100000 in
theorem zk_58 : zck 59 (cX2_tryBits.data.toList.drop 59) [(59, .ldc2_w 70, 3), (62, .land, 1), (63, .l2i, 1), (64, .iadd, 1), (65, .istore 8, 2), (67, .iload_n 2, 1), (68, .iload 7, 2), (70, .ishr, 1), (71, .iconst 1, 1), (72, .iand, 1), (73, .ifCond .eq 38, 3), (76, .iload 8, 2)] = true := by decide +kernel
theorem zr_58 : decode cX2_tryBits 59 = .ok (.ldc2_w 70, 3) ∧ decode cX2_tryBits 62 = .ok (.land, 1) ∧ decode cX2_tryBits 63 = .ok (.l2i, 1) ∧ decode cX2_tryBits 64 = .ok (.iadd, 1) ∧ decode cX2_tryBits 65 = .ok (.istore 8, 2) ∧ decode cX2_tryBits 67 = .ok (.iload_n 2, 1) ∧ decode cX2_tryBits 68 = .ok (.iload 7, 2) ∧ decode cX2_tryBits 70 = .ok (.ishr, 1) ∧ decode cX2_tryBits 71 = .ok (.iconst 1, 1) ∧ decode cX2_tryBits 72 = .ok (.iand, 1) ∧ decode cX2_tryBits 73 = .ok (.ifCond .eq 38, 3) ∧ decode cX2_tryBits 76 = .ok (.iload 8, 2) ∧ True := zj_of zk_58
abbrev dX2_tryBits_59 := zr_58.1
abbrev dX2_tryBits_62 := zr_58.2.1
abbrev dX2_tryBits_63 := zr_58.2.2.1
abbrev dX2_tryBits_64 := zr_58.2.2.2.1
abbrev dX2_tryBits_65 := zr_58.2.2.2.2.1
abbrev dX2_tryBits_67 := zr_58.2.2.2.2.2.1
abbrev dX2_tryBits_68 := zr_58.2.2.2.2.2.2.1
abbrev dX2_tryBits_70 := zr_58.2.2.2.2.2.2.2.1
abbrev dX2_tryBits_71 := zr_58.2.2.2.2.2.2.2.2.1
abbrev dX2_tryBits_72 := zr_58.2.2.2.2.2.2.2.2.2.1
abbrev dX2_tryBits_73 := zr_58.2.2.2.2.2.2.2.2.2.2.1
abbrev dX2_tryBits_76 := zr_58.2.2.2.2.2.2.2.2.2.2.2.1
set_option maxRecDepth 100000 in
theorem zk_59 : zck 78 (cX2_tryBits.data.toList.drop 78) [(78, .iload 6, 2), (80, .iadd, 1), (81, .aload_n 0, 1), (82, .getfield 37, 3), (85, .if_icmp .ge 26, 3), (88, .aload_n 0, 1), (89, .getfield 20, 3), (92, .iload_n 1, 1), (93, .iload 7, 2), (95, .iastore, 1), (96, .aload_n 0, 1), (97, .iload_n 1, 1)] = true := by decide +kernel
theorem zr_59 : decode cX2_tryBits 78 = .ok (.iload 6, 2) ∧ decode cX2_tryBits 80 = .ok (.iadd, 1) ∧ decode cX2_tryBits 81 = .ok (.aload_n 0, 1) ∧ decode cX2_tryBits 82 = .ok (.getfield 37, 3) ∧ decode cX2_tryBits 85 = .ok (.if_icmp .ge 26, 3) ∧ decode cX2_tryBits 88 = .ok (.aload_n 0, 1) ∧ decode cX2_tryBits 89 = .ok (.getfield 20, 3) ∧ decode cX2_tryBits 92 = .ok (.iload_n 1, 1) ∧ decode cX2_tryBits 93 = .ok (.iload 7, 2) ∧ decode cX2_tryBits 95 = .ok (.iastore, 1) ∧ decode cX2_tryBits 96 = .ok (.aload_n 0, 1) ∧ decode cX2_tryBits 97 = .ok (.iload_n 1, 1) ∧ True := zj_of zk_59
abbrev dX2_tryBits_78 := zr_59.1
abbrev dX2_tryBits_80 := zr_59.2.1
abbrev dX2_tryBits_81 := zr_59.2.2.1
abbrev dX2_tryBits_82 := zr_59.2.2.2.1
abbrev dX2_tryBits_85 := zr_59.2.2.2.2.1
abbrev dX2_tryBits_88 := zr_59.2.2.2.2.2.1
abbrev dX2_tryBits_89 := zr_59.2.2.2.2.2.2.1
abbrev dX2_tryBits_92 := zr_59.2.2.2.2.2.2.2.1
abbrev dX2_tryBits_93 := zr_59.2.2.2.2.2.2.2.2.1
abbrev dX2_tryBits_95 := zr_59.2.2.2.2.2.2.2.2.2.1
abbrev dX2_tryBits_96 := zr_59.2.2.2.2.2.2.2.2.2.2.1
abbrev dX2_tryBits_97 := zr_59.2.2.2.2.2.2.2.2.2.2.2.1
set_option maxRecDepth 100000 in
theorem zk_60 : zck 98 (cX2_tryBits.data.toList.drop 98) [(98, .iload_n 2, 1), (99, .iconst 1, 1), (100, .iload 7, 2), (102, .ishl, 1), (103, .iconst (-1), 1), (104, .ixor, 1), (105, .iand, 1), (106, .iload 8, 2), (108, .invokevirtual 72, 3), (111, .iinc 7 (-1), 3), (114, .goto (-71), 3), (117, .return_, 1)] = true := by decide +kernel
theorem zr_60 : decode cX2_tryBits 98 = .ok (.iload_n 2, 1) ∧ decode cX2_tryBits 99 = .ok (.iconst 1, 1) ∧ decode cX2_tryBits 100 = .ok (.iload 7, 2) ∧ decode cX2_tryBits 102 = .ok (.ishl, 1) ∧ decode cX2_tryBits 103 = .ok (.iconst (-1), 1) ∧ decode cX2_tryBits 104 = .ok (.ixor, 1) ∧ decode cX2_tryBits 105 = .ok (.iand, 1) ∧ decode cX2_tryBits 106 = .ok (.iload 8, 2) ∧ decode cX2_tryBits 108 = .ok (.invokevirtual 72, 3) ∧ decode cX2_tryBits 111 = .ok (.iinc 7 (-1), 3) ∧ decode cX2_tryBits 114 = .ok (.goto (-71), 3) ∧ decode cX2_tryBits 117 = .ok (.return_, 1) ∧ True := zj_of zk_60
abbrev dX2_tryBits_98 := zr_60.1
abbrev dX2_tryBits_99 := zr_60.2.1
abbrev dX2_tryBits_100 := zr_60.2.2.1
abbrev dX2_tryBits_102 := zr_60.2.2.2.1
abbrev dX2_tryBits_103 := zr_60.2.2.2.2.1
abbrev dX2_tryBits_104 := zr_60.2.2.2.2.2.1
abbrev dX2_tryBits_105 := zr_60.2.2.2.2.2.2.1
abbrev dX2_tryBits_106 := zr_60.2.2.2.2.2.2.2.1
abbrev dX2_tryBits_108 := zr_60.2.2.2.2.2.2.2.2.1
abbrev dX2_tryBits_111 := zr_60.2.2.2.2.2.2.2.2.2.1
abbrev dX2_tryBits_114 := zr_60.2.2.2.2.2.2.2.2.2.2.1
abbrev dX2_tryBits_117 := zr_60.2.2.2.2.2.2.2.2.2.2.2.1
set_option maxRecDepth 100000 in
theorem zk_61 : zck 0 (cX2_takeBit.data.toList.drop 0) [(0, .iload_n 2, 1), (1, .ifCond .ne 28, 3), (4, .aload_n 0, 1), (5, .iload_n 3, 1), (6, .putfield 37, 3), (9, .aload_n 0, 1), (10, .getfield 20, 3), (13, .iconst 0, 1), (14, .aload_n 0, 1), (15, .getfield 24, 3), (18, .iconst 0, 1), (19, .aload_n 0, 1)] = true := by decide +kernel
theorem zr_61 : decode cX2_takeBit 0 = .ok (.iload_n 2, 1) ∧ decode cX2_takeBit 1 = .ok (.ifCond .ne 28, 3) ∧ decode cX2_takeBit 4 = .ok (.aload_n 0, 1) ∧ decode cX2_takeBit 5 = .ok (.iload_n 3, 1) ∧ decode cX2_takeBit 6 = .ok (.putfield 37, 3) ∧ decode cX2_takeBit 9 = .ok (.aload_n 0, 1) ∧ decode cX2_takeBit 10 = .ok (.getfield 20, 3) ∧ decode cX2_takeBit 13 = .ok (.iconst 0, 1) ∧ decode cX2_takeBit 14 = .ok (.aload_n 0, 1) ∧ decode cX2_takeBit 15 = .ok (.getfield 24, 3) ∧ decode cX2_takeBit 18 = .ok (.iconst 0, 1) ∧ decode cX2_takeBit 19 = .ok (.aload_n 0, 1) ∧ True := zj_of zk_61
abbrev dX2_takeBit_0 := zr_61.1
abbrev dX2_takeBit_1 := zr_61.2.1
abbrev dX2_takeBit_4 := zr_61.2.2.1
abbrev dX2_takeBit_5 := zr_61.2.2.2.1
abbrev dX2_takeBit_6 := zr_61.2.2.2.2.1
abbrev dX2_takeBit_9 := zr_61.2.2.2.2.2.1
abbrev dX2_takeBit_10 := zr_61.2.2.2.2.2.2.1
abbrev dX2_takeBit_13 := zr_61.2.2.2.2.2.2.2.1
abbrev dX2_takeBit_14 := zr_61.2.2.2.2.2.2.2.2.1
abbrev dX2_takeBit_15 := zr_61.2.2.2.2.2.2.2.2.2.1
abbrev dX2_takeBit_18 := zr_61.2.2.2.2.2.2.2.2.2.2.1
abbrev dX2_takeBit_19 := zr_61.2.2.2.2.2.2.2.2.2.2.2.1
set_option maxRecDepth 100000 in
theorem zk_62 : zck 20 (cX2_takeBit.data.toList.drop 20) [(20, .getfield 34, 3), (23, .invokestatic 75, 3), (26, .goto 44, 3), (29, .iload_n 1, 1), (30, .iconst 1, 1), (31, .iadd, 1), (32, .bipush 8, 2), (34, .if_icmp .ge 36, 3), (37, .aload_n 0, 1), (38, .aload_n 0, 1), (39, .getfield 11, 3), (42, .iload_n 1, 1)] = true := by decide +kernel
theorem zr_62 : decode cX2_takeBit 20 = .ok (.getfield 34, 3) ∧ decode cX2_takeBit 23 = .ok (.invokestatic 75, 3) ∧ decode cX2_takeBit 26 = .ok (.goto 44, 3) ∧ decode cX2_takeBit 29 = .ok (.iload_n 1, 1) ∧ decode cX2_takeBit 30 = .ok (.iconst 1, 1) ∧ decode cX2_takeBit 31 = .ok (.iadd, 1) ∧ decode cX2_takeBit 32 = .ok (.bipush 8, 2) ∧ decode cX2_takeBit 34 = .ok (.if_icmp .ge 36, 3) ∧ decode cX2_takeBit 37 = .ok (.aload_n 0, 1) ∧ decode cX2_takeBit 38 = .ok (.aload_n 0, 1) ∧ decode cX2_takeBit 39 = .ok (.getfield 11, 3) ∧ decode cX2_takeBit 42 = .ok (.iload_n 1, 1) ∧ True := zj_of zk_62
abbrev dX2_takeBit_20 := zr_62.1
abbrev dX2_takeBit_23 := zr_62.2.1
abbrev dX2_takeBit_26 := zr_62.2.2.1
abbrev dX2_takeBit_29 := zr_62.2.2.2.1
abbrev dX2_takeBit_30 := zr_62.2.2.2.2.1
abbrev dX2_takeBit_31 := zr_62.2.2.2.2.2.1
abbrev dX2_takeBit_32 := zr_62.2.2.2.2.2.2.1
abbrev dX2_takeBit_34 := zr_62.2.2.2.2.2.2.2.1
abbrev dX2_takeBit_37 := zr_62.2.2.2.2.2.2.2.2.1
abbrev dX2_takeBit_38 := zr_62.2.2.2.2.2.2.2.2.2.1
abbrev dX2_takeBit_39 := zr_62.2.2.2.2.2.2.2.2.2.2.1
abbrev dX2_takeBit_42 := zr_62.2.2.2.2.2.2.2.2.2.2.2.1
set_option maxRecDepth 100000 in
theorem zk_63 : zck 43 (cX2_takeBit.data.toList.drop 43) [(43, .aaload, 1), (44, .aload_n 0, 1), (45, .getfield 11, 3), (48, .iload_n 1, 1), (49, .iconst 1, 1), (50, .iadd, 1), (51, .aaload, 1), (52, .aload_n 0, 1), (53, .getfield 20, 3), (56, .iload_n 1, 1), (57, .iaload, 1), (58, .invokevirtual 81, 3)] = true := by decide +kernel
theorem zr_63 : decode cX2_takeBit 43 = .ok (.aaload, 1) ∧ decode cX2_takeBit 44 = .ok (.aload_n 0, 1) ∧ decode cX2_takeBit 45 = .ok (.getfield 11, 3) ∧ decode cX2_takeBit 48 = .ok (.iload_n 1, 1) ∧ decode cX2_takeBit 49 = .ok (.iconst 1, 1) ∧ decode cX2_takeBit 50 = .ok (.iadd, 1) ∧ decode cX2_takeBit 51 = .ok (.aaload, 1) ∧ decode cX2_takeBit 52 = .ok (.aload_n 0, 1) ∧ decode cX2_takeBit 53 = .ok (.getfield 20, 3) ∧ decode cX2_takeBit 56 = .ok (.iload_n 1, 1) ∧ decode cX2_takeBit 57 = .ok (.iaload, 1) ∧ decode cX2_takeBit 58 = .ok (.invokevirtual 81, 3) ∧ True := zj_of zk_63
abbrev dX2_takeBit_43 := zr_63.1
abbrev dX2_takeBit_44 := zr_63.2.1
abbrev dX2_takeBit_45 := zr_63.2.2.1
abbrev dX2_takeBit_48 := zr_63.2.2.2.1
abbrev dX2_takeBit_49 := zr_63.2.2.2.2.1
abbrev dX2_takeBit_50 := zr_63.2.2.2.2.2.1
abbrev dX2_takeBit_51 := zr_63.2.2.2.2.2.2.1
abbrev dX2_takeBit_52 := zr_63.2.2.2.2.2.2.2.1
abbrev dX2_takeBit_53 := zr_63.2.2.2.2.2.2.2.2.1
abbrev dX2_takeBit_56 := zr_63.2.2.2.2.2.2.2.2.2.1
abbrev dX2_takeBit_57 := zr_63.2.2.2.2.2.2.2.2.2.2.1
abbrev dX2_takeBit_58 := zr_63.2.2.2.2.2.2.2.2.2.2.2.1
set_option maxRecDepth 100000 in
theorem zk_64 : zck 61 (cX2_takeBit.data.toList.drop 61) [(61, .aload_n 0, 1), (62, .iload_n 1, 1), (63, .iconst 1, 1), (64, .iadd, 1), (65, .iload_n 2, 1), (66, .iload_n 3, 1), (67, .invokevirtual 54, 3), (70, .return_, 1)] = true := by decide +kernel
theorem zr_64 : decode cX2_takeBit 61 = .ok (.aload_n 0, 1) ∧ decode cX2_takeBit 62 = .ok (.iload_n 1, 1) ∧ decode cX2_takeBit 63 = .ok (.iconst 1, 1) ∧ decode cX2_takeBit 64 = .ok (.iadd, 1) ∧ decode cX2_takeBit 65 = .ok (.iload_n 2, 1) ∧ decode cX2_takeBit 66 = .ok (.iload_n 3, 1) ∧ decode cX2_takeBit 67 = .ok (.invokevirtual 54, 3) ∧ decode cX2_takeBit 70 = .ok (.return_, 1) ∧ True := zj_of zk_64
abbrev dX2_takeBit_61 := zr_64.1
abbrev dX2_takeBit_62 := zr_64.2.1
abbrev dX2_takeBit_63 := zr_64.2.2.1
abbrev dX2_takeBit_64 := zr_64.2.2.2.1
abbrev dX2_takeBit_65 := zr_64.2.2.2.2.1
abbrev dX2_takeBit_66 := zr_64.2.2.2.2.2.1
abbrev dX2_takeBit_67 := zr_64.2.2.2.2.2.2.1
abbrev dX2_takeBit_70 := zr_64.2.2.2.2.2.2.2.1
set_option maxRecDepth 100000 in
theorem zk_65 : zck 0 (cX2_changesOf.data.toList.drop 0) [(0, .lconst 0, 1), (1, .lstore_n 2, 1), (2, .iconst 1, 1), (3, .istore 4, 2), (5, .iload 4, 2), (7, .aload_n 0, 1), (8, .getfield 30, 3), (11, .if_icmp .ge 23, 3), (14, .lload_n 2, 1), (15, .aload_n 1, 1), (16, .iload 4, 2), (18, .laload, 1)] = true := by decide +kernel
theorem zr_65 : decode cX2_changesOf 0 = .ok (.lconst 0, 1) ∧ decode cX2_changesOf 1 = .ok (.lstore_n 2, 1) ∧ decode cX2_changesOf 2 = .ok (.iconst 1, 1) ∧ decode cX2_changesOf 3 = .ok (.istore 4, 2) ∧ decode cX2_changesOf 5 = .ok (.iload 4, 2) ∧ decode cX2_changesOf 7 = .ok (.aload_n 0, 1) ∧ decode cX2_changesOf 8 = .ok (.getfield 30, 3) ∧ decode cX2_changesOf 11 = .ok (.if_icmp .ge 23, 3) ∧ decode cX2_changesOf 14 = .ok (.lload_n 2, 1) ∧ decode cX2_changesOf 15 = .ok (.aload_n 1, 1) ∧ decode cX2_changesOf 16 = .ok (.iload 4, 2) ∧ decode cX2_changesOf 18 = .ok (.laload, 1) ∧ True := zj_of zk_65
abbrev dX2_changesOf_0 := zr_65.1
abbrev dX2_changesOf_1 := zr_65.2.1
abbrev dX2_changesOf_2 := zr_65.2.2.1
abbrev dX2_changesOf_3 := zr_65.2.2.2.1
abbrev dX2_changesOf_5 := zr_65.2.2.2.2.1
abbrev dX2_changesOf_7 := zr_65.2.2.2.2.2.1
abbrev dX2_changesOf_8 := zr_65.2.2.2.2.2.2.1
abbrev dX2_changesOf_11 := zr_65.2.2.2.2.2.2.2.1
abbrev dX2_changesOf_14 := zr_65.2.2.2.2.2.2.2.2.1
abbrev dX2_changesOf_15 := zr_65.2.2.2.2.2.2.2.2.2.1
abbrev dX2_changesOf_16 := zr_65.2.2.2.2.2.2.2.2.2.2.1
abbrev dX2_changesOf_18 := zr_65.2.2.2.2.2.2.2.2.2.2.2.1
set_option maxRecDepth 100000 in
theorem zk_66 : zck 19 (cX2_changesOf.data.toList.drop 19) [(19, .aload_n 1, 1), (20, .iload 4, 2), (22, .iconst 1, 1), (23, .isub, 1), (24, .laload, 1), (25, .lxor, 1), (26, .ladd, 1), (27, .lstore_n 2, 1), (28, .iinc 4 1, 3), (31, .goto (-26), 3), (34, .lload_n 2, 1), (35, .lreturn, 1)] = true := by decide +kernel
theorem zr_66 : decode cX2_changesOf 19 = .ok (.aload_n 1, 1) ∧ decode cX2_changesOf 20 = .ok (.iload 4, 2) ∧ decode cX2_changesOf 22 = .ok (.iconst 1, 1) ∧ decode cX2_changesOf 23 = .ok (.isub, 1) ∧ decode cX2_changesOf 24 = .ok (.laload, 1) ∧ decode cX2_changesOf 25 = .ok (.lxor, 1) ∧ decode cX2_changesOf 26 = .ok (.ladd, 1) ∧ decode cX2_changesOf 27 = .ok (.lstore_n 2, 1) ∧ decode cX2_changesOf 28 = .ok (.iinc 4 1, 3) ∧ decode cX2_changesOf 31 = .ok (.goto (-26), 3) ∧ decode cX2_changesOf 34 = .ok (.lload_n 2, 1) ∧ decode cX2_changesOf 35 = .ok (.lreturn, 1) ∧ True := zj_of zk_66
abbrev dX2_changesOf_19 := zr_66.1
abbrev dX2_changesOf_20 := zr_66.2.1
abbrev dX2_changesOf_22 := zr_66.2.2.1
abbrev dX2_changesOf_23 := zr_66.2.2.2.1
abbrev dX2_changesOf_24 := zr_66.2.2.2.2.1
abbrev dX2_changesOf_25 := zr_66.2.2.2.2.2.1
abbrev dX2_changesOf_26 := zr_66.2.2.2.2.2.2.1
abbrev dX2_changesOf_27 := zr_66.2.2.2.2.2.2.2.1
abbrev dX2_changesOf_28 := zr_66.2.2.2.2.2.2.2.2.1
abbrev dX2_changesOf_31 := zr_66.2.2.2.2.2.2.2.2.2.1
abbrev dX2_changesOf_34 := zr_66.2.2.2.2.2.2.2.2.2.2.1
abbrev dX2_changesOf_35 := zr_66.2.2.2.2.2.2.2.2.2.2.2.1
set_option maxRecDepth 100000 in
theorem zk_67 : zck 0 (cX2_part.data.toList.drop 0) [(0, .lconst 1, 1), (1, .bipush 8, 2), (3, .iload_n 3, 1), (4, .imul, 1), (5, .lshl, 1), (6, .lstore 4, 2), (8, .iconst 0, 1), (9, .istore 6, 2), (11, .iconst 0, 1), (12, .istore 7, 2), (14, .iconst 0, 1), (15, .istore 8, 2)] = true := by decide +kernel
theorem zr_67 : decode cX2_part 0 = .ok (.lconst 1, 1) ∧ decode cX2_part 1 = .ok (.bipush 8, 2) ∧ decode cX2_part 3 = .ok (.iload_n 3, 1) ∧ decode cX2_part 4 = .ok (.imul, 1) ∧ decode cX2_part 5 = .ok (.lshl, 1) ∧ decode cX2_part 6 = .ok (.lstore 4, 2) ∧ decode cX2_part 8 = .ok (.iconst 0, 1) ∧ decode cX2_part 9 = .ok (.istore 6, 2) ∧ decode cX2_part 11 = .ok (.iconst 0, 1) ∧ decode cX2_part 12 = .ok (.istore 7, 2) ∧ decode cX2_part 14 = .ok (.iconst 0, 1) ∧ decode cX2_part 15 = .ok (.istore 8, 2) ∧ True := zj_of zk_67
abbrev dX2_part_0 := zr_67.1
abbrev dX2_part_1 := zr_67.2.1
abbrev dX2_part_3 := zr_67.2.2.1
abbrev dX2_part_4 := zr_67.2.2.2.1
abbrev dX2_part_5 := zr_67.2.2.2.2.1
abbrev dX2_part_6 := zr_67.2.2.2.2.2.1
abbrev dX2_part_8 := zr_67.2.2.2.2.2.2.1
abbrev dX2_part_9 := zr_67.2.2.2.2.2.2.2.1
abbrev dX2_part_11 := zr_67.2.2.2.2.2.2.2.2.1
abbrev dX2_part_12 := zr_67.2.2.2.2.2.2.2.2.2.1
abbrev dX2_part_14 := zr_67.2.2.2.2.2.2.2.2.2.2.1
abbrev dX2_part_15 := zr_67.2.2.2.2.2.2.2.2.2.2.2.1
set_option maxRecDepth 100000 in
theorem zk_68 : zck 17 (cX2_part.data.toList.drop 17) [(17, .iload 8, 2), (19, .aload_n 0, 1), (20, .getfield 30, 3), (23, .if_icmp .ge 49, 3), (26, .aload_n 1, 1), (27, .iload 8, 2), (29, .laload, 1), (30, .lload 4, 2), (32, .land, 1), (33, .lconst 0, 1), (34, .lcmp, 1), (35, .ifCond .ne 17, 3)] = true := by decide +kernel
theorem zr_68 : decode cX2_part 17 = .ok (.iload 8, 2) ∧ decode cX2_part 19 = .ok (.aload_n 0, 1) ∧ decode cX2_part 20 = .ok (.getfield 30, 3) ∧ decode cX2_part 23 = .ok (.if_icmp .ge 49, 3) ∧ decode cX2_part 26 = .ok (.aload_n 1, 1) ∧ decode cX2_part 27 = .ok (.iload 8, 2) ∧ decode cX2_part 29 = .ok (.laload, 1) ∧ decode cX2_part 30 = .ok (.lload 4, 2) ∧ decode cX2_part 32 = .ok (.land, 1) ∧ decode cX2_part 33 = .ok (.lconst 0, 1) ∧ decode cX2_part 34 = .ok (.lcmp, 1) ∧ decode cX2_part 35 = .ok (.ifCond .ne 17, 3) ∧ True := zj_of zk_68
abbrev dX2_part_17 := zr_68.1
abbrev dX2_part_19 := zr_68.2.1
abbrev dX2_part_20 := zr_68.2.2.1
abbrev dX2_part_23 := zr_68.2.2.2.1
abbrev dX2_part_26 := zr_68.2.2.2.2.1
abbrev dX2_part_27 := zr_68.2.2.2.2.2.1
abbrev dX2_part_29 := zr_68.2.2.2.2.2.2.1
abbrev dX2_part_30 := zr_68.2.2.2.2.2.2.2.1
abbrev dX2_part_32 := zr_68.2.2.2.2.2.2.2.2.1
abbrev dX2_part_33 := zr_68.2.2.2.2.2.2.2.2.2.1
abbrev dX2_part_34 := zr_68.2.2.2.2.2.2.2.2.2.2.1
abbrev dX2_part_35 := zr_68.2.2.2.2.2.2.2.2.2.2.2.1
set_option maxRecDepth 100000 in
theorem zk_69 : zck 38 (cX2_part.data.toList.drop 38) [(38, .aload_n 2, 1), (39, .iload 6, 2), (41, .aload_n 1, 1), (42, .iload 8, 2), (44, .laload, 1), (45, .lastore, 1), (46, .iinc 6 1, 3), (49, .goto 17, 3), (52, .aload_n 0, 1), (53, .getfield 16, 3), (56, .iload 7, 2), (58, .aload_n 1, 1)] = true := by decide +kernel
theorem zr_69 : decode cX2_part 38 = .ok (.aload_n 2, 1) ∧ decode cX2_part 39 = .ok (.iload 6, 2) ∧ decode cX2_part 41 = .ok (.aload_n 1, 1) ∧ decode cX2_part 42 = .ok (.iload 8, 2) ∧ decode cX2_part 44 = .ok (.laload, 1) ∧ decode cX2_part 45 = .ok (.lastore, 1) ∧ decode cX2_part 46 = .ok (.iinc 6 1, 3) ∧ decode cX2_part 49 = .ok (.goto 17, 3) ∧ decode cX2_part 52 = .ok (.aload_n 0, 1) ∧ decode cX2_part 53 = .ok (.getfield 16, 3) ∧ decode cX2_part 56 = .ok (.iload 7, 2) ∧ decode cX2_part 58 = .ok (.aload_n 1, 1) ∧ True := zj_of zk_69
abbrev dX2_part_38 := zr_69.1
abbrev dX2_part_39 := zr_69.2.1
abbrev dX2_part_41 := zr_69.2.2.1
abbrev dX2_part_42 := zr_69.2.2.2.1
abbrev dX2_part_44 := zr_69.2.2.2.2.1
abbrev dX2_part_45 := zr_69.2.2.2.2.2.1
abbrev dX2_part_46 := zr_69.2.2.2.2.2.2.1
abbrev dX2_part_49 := zr_69.2.2.2.2.2.2.2.1
abbrev dX2_part_52 := zr_69.2.2.2.2.2.2.2.2.1
abbrev dX2_part_53 := zr_69.2.2.2.2.2.2.2.2.2.1
abbrev dX2_part_56 := zr_69.2.2.2.2.2.2.2.2.2.2.1
abbrev dX2_part_58 := zr_69.2.2.2.2.2.2.2.2.2.2.2.1
set_option maxRecDepth 100000 in
theorem zk_70 : zck 59 (cX2_part.data.toList.drop 59) [(59, .iload 8, 2), (61, .laload, 1), (62, .lastore, 1), (63, .iinc 7 1, 3), (66, .iinc 8 1, 3), (69, .goto (-52), 3), (72, .aload_n 0, 1), (73, .getfield 16, 3), (76, .iconst 0, 1), (77, .aload_n 2, 1), (78, .iload 6, 2), (80, .iload 7, 2)] = true := by decide +kernel
theorem zr_70 : decode cX2_part 59 = .ok (.iload 8, 2) ∧ decode cX2_part 61 = .ok (.laload, 1) ∧ decode cX2_part 62 = .ok (.lastore, 1) ∧ decode cX2_part 63 = .ok (.iinc 7 1, 3) ∧ decode cX2_part 66 = .ok (.iinc 8 1, 3) ∧ decode cX2_part 69 = .ok (.goto (-52), 3) ∧ decode cX2_part 72 = .ok (.aload_n 0, 1) ∧ decode cX2_part 73 = .ok (.getfield 16, 3) ∧ decode cX2_part 76 = .ok (.iconst 0, 1) ∧ decode cX2_part 77 = .ok (.aload_n 2, 1) ∧ decode cX2_part 78 = .ok (.iload 6, 2) ∧ decode cX2_part 80 = .ok (.iload 7, 2) ∧ True := zj_of zk_70
abbrev dX2_part_59 := zr_70.1
abbrev dX2_part_61 := zr_70.2.1
abbrev dX2_part_62 := zr_70.2.2.1
abbrev dX2_part_63 := zr_70.2.2.2.1
abbrev dX2_part_66 := zr_70.2.2.2.2.1
abbrev dX2_part_69 := zr_70.2.2.2.2.2.1
abbrev dX2_part_72 := zr_70.2.2.2.2.2.2.1
abbrev dX2_part_73 := zr_70.2.2.2.2.2.2.2.1
abbrev dX2_part_76 := zr_70.2.2.2.2.2.2.2.2.1
abbrev dX2_part_77 := zr_70.2.2.2.2.2.2.2.2.2.1
abbrev dX2_part_78 := zr_70.2.2.2.2.2.2.2.2.2.2.1
abbrev dX2_part_80 := zr_70.2.2.2.2.2.2.2.2.2.2.2.1
set_option maxRecDepth 100000 in
theorem zk_71 : zck 82 (cX2_part.data.toList.drop 82) [(82, .invokestatic 75, 3), (85, .return_, 1)] = true := by decide +kernel
theorem zr_71 : decode cX2_part 82 = .ok (.invokestatic 75, 3) ∧ decode cX2_part 85 = .ok (.return_, 1) ∧ True := zj_of zk_71
abbrev dX2_part_82 := zr_71.1
abbrev dX2_part_85 := zr_71.2.1
set_option maxRecDepth 100000 in
theorem zk_72 : zck 0 (cX2_fillOrder.data.toList.drop 0) [(0, .iconst 0, 1), (1, .istore_n 2, 1), (2, .iconst 0, 1), (3, .istore_n 3, 1), (4, .bipush 7, 2), (6, .istore 4, 2), (8, .iload 4, 2), (10, .ifCond .lt 69, 3), (13, .iload_n 1, 1), (14, .iload 4, 2), (16, .ishr, 1), (17, .iconst 1, 1)] = true := by decide +kernel
theorem zr_72 : decode cX2_fillOrder 0 = .ok (.iconst 0, 1) ∧ decode cX2_fillOrder 1 = .ok (.istore_n 2, 1) ∧ decode cX2_fillOrder 2 = .ok (.iconst 0, 1) ∧ decode cX2_fillOrder 3 = .ok (.istore_n 3, 1) ∧ decode cX2_fillOrder 4 = .ok (.bipush 7, 2) ∧ decode cX2_fillOrder 6 = .ok (.istore 4, 2) ∧ decode cX2_fillOrder 8 = .ok (.iload 4, 2) ∧ decode cX2_fillOrder 10 = .ok (.ifCond .lt 69, 3) ∧ decode cX2_fillOrder 13 = .ok (.iload_n 1, 1) ∧ decode cX2_fillOrder 14 = .ok (.iload 4, 2) ∧ decode cX2_fillOrder 16 = .ok (.ishr, 1) ∧ decode cX2_fillOrder 17 = .ok (.iconst 1, 1) ∧ True := zj_of zk_72
abbrev dX2_fillOrder_0 := zr_72.1
abbrev dX2_fillOrder_1 := zr_72.2.1
abbrev dX2_fillOrder_2 := zr_72.2.2.1
abbrev dX2_fillOrder_3 := zr_72.2.2.2.1
abbrev dX2_fillOrder_4 := zr_72.2.2.2.2.1
abbrev dX2_fillOrder_6 := zr_72.2.2.2.2.2.1
abbrev dX2_fillOrder_8 := zr_72.2.2.2.2.2.2.1
abbrev dX2_fillOrder_10 := zr_72.2.2.2.2.2.2.2.1
abbrev dX2_fillOrder_13 := zr_72.2.2.2.2.2.2.2.2.1
abbrev dX2_fillOrder_14 := zr_72.2.2.2.2.2.2.2.2.2.1
abbrev dX2_fillOrder_16 := zr_72.2.2.2.2.2.2.2.2.2.2.1
abbrev dX2_fillOrder_17 := zr_72.2.2.2.2.2.2.2.2.2.2.2.1
set_option maxRecDepth 100000 in
theorem zk_73 : zck 18 (cX2_fillOrder.data.toList.drop 18) [(18, .iand, 1), (19, .ifCond .ne 54, 3), (22, .iload_n 3, 1), (23, .aload_n 0, 1), (24, .getfield 34, 3), (27, .if_icmp .ge 35, 3), (30, .aload_n 0, 1), (31, .getfield 24, 3), (34, .iload_n 3, 1), (35, .iaload, 1), (36, .iload 4, 2), (38, .if_icmp .le 24, 3)] = true := by decide +kernel
theorem zr_73 : decode cX2_fillOrder 18 = .ok (.iand, 1) ∧ decode cX2_fillOrder 19 = .ok (.ifCond .ne 54, 3) ∧ decode cX2_fillOrder 22 = .ok (.iload_n 3, 1) ∧ decode cX2_fillOrder 23 = .ok (.aload_n 0, 1) ∧ decode cX2_fillOrder 24 = .ok (.getfield 34, 3) ∧ decode cX2_fillOrder 27 = .ok (.if_icmp .ge 35, 3) ∧ decode cX2_fillOrder 30 = .ok (.aload_n 0, 1) ∧ decode cX2_fillOrder 31 = .ok (.getfield 24, 3) ∧ decode cX2_fillOrder 34 = .ok (.iload_n 3, 1) ∧ decode cX2_fillOrder 35 = .ok (.iaload, 1) ∧ decode cX2_fillOrder 36 = .ok (.iload 4, 2) ∧ decode cX2_fillOrder 38 = .ok (.if_icmp .le 24, 3) ∧ True := zj_of zk_73
abbrev dX2_fillOrder_18 := zr_73.1
abbrev dX2_fillOrder_19 := zr_73.2.1
abbrev dX2_fillOrder_22 := zr_73.2.2.1
abbrev dX2_fillOrder_23 := zr_73.2.2.2.1
abbrev dX2_fillOrder_24 := zr_73.2.2.2.2.1
abbrev dX2_fillOrder_27 := zr_73.2.2.2.2.2.1
abbrev dX2_fillOrder_30 := zr_73.2.2.2.2.2.2.1
abbrev dX2_fillOrder_31 := zr_73.2.2.2.2.2.2.2.1
abbrev dX2_fillOrder_34 := zr_73.2.2.2.2.2.2.2.2.1
abbrev dX2_fillOrder_35 := zr_73.2.2.2.2.2.2.2.2.2.1
abbrev dX2_fillOrder_36 := zr_73.2.2.2.2.2.2.2.2.2.2.1
abbrev dX2_fillOrder_38 := zr_73.2.2.2.2.2.2.2.2.2.2.2.1
set_option maxRecDepth 100000 in
theorem zk_74 : zck 41 (cX2_fillOrder.data.toList.drop 41) [(41, .aload_n 0, 1), (42, .getfield 27, 3), (45, .iload_n 2, 1), (46, .aload_n 0, 1), (47, .getfield 24, 3), (50, .iload_n 3, 1), (51, .iaload, 1), (52, .iastore, 1), (53, .iinc 2 1, 3), (56, .iinc 3 1, 3), (59, .goto (-37), 3), (62, .aload_n 0, 1)] = true := by decide +kernel
theorem zr_74 : decode cX2_fillOrder 41 = .ok (.aload_n 0, 1) ∧ decode cX2_fillOrder 42 = .ok (.getfield 27, 3) ∧ decode cX2_fillOrder 45 = .ok (.iload_n 2, 1) ∧ decode cX2_fillOrder 46 = .ok (.aload_n 0, 1) ∧ decode cX2_fillOrder 47 = .ok (.getfield 24, 3) ∧ decode cX2_fillOrder 50 = .ok (.iload_n 3, 1) ∧ decode cX2_fillOrder 51 = .ok (.iaload, 1) ∧ decode cX2_fillOrder 52 = .ok (.iastore, 1) ∧ decode cX2_fillOrder 53 = .ok (.iinc 2 1, 3) ∧ decode cX2_fillOrder 56 = .ok (.iinc 3 1, 3) ∧ decode cX2_fillOrder 59 = .ok (.goto (-37), 3) ∧ decode cX2_fillOrder 62 = .ok (.aload_n 0, 1) ∧ True := zj_of zk_74
abbrev dX2_fillOrder_41 := zr_74.1
abbrev dX2_fillOrder_42 := zr_74.2.1
abbrev dX2_fillOrder_45 := zr_74.2.2.1
abbrev dX2_fillOrder_46 := zr_74.2.2.2.1
abbrev dX2_fillOrder_47 := zr_74.2.2.2.2.1
abbrev dX2_fillOrder_50 := zr_74.2.2.2.2.2.1
abbrev dX2_fillOrder_51 := zr_74.2.2.2.2.2.2.1
abbrev dX2_fillOrder_52 := zr_74.2.2.2.2.2.2.2.1
abbrev dX2_fillOrder_53 := zr_74.2.2.2.2.2.2.2.2.1
abbrev dX2_fillOrder_56 := zr_74.2.2.2.2.2.2.2.2.2.1
abbrev dX2_fillOrder_59 := zr_74.2.2.2.2.2.2.2.2.2.2.1
abbrev dX2_fillOrder_62 := zr_74.2.2.2.2.2.2.2.2.2.2.2.1
set_option maxRecDepth 100000 in
theorem zk_75 : zck 63 (cX2_fillOrder.data.toList.drop 63) [(63, .getfield 27, 3), (66, .iload_n 2, 1), (67, .iload 4, 2), (69, .iastore, 1), (70, .iinc 2 1, 3), (73, .iinc 4 (-1), 3), (76, .goto (-68), 3), (79, .aload_n 0, 1), (80, .getfield 24, 3), (83, .iload_n 3, 1), (84, .aload_n 0, 1), (85, .getfield 27, 3)] = true := by decide +kernel
theorem zr_75 : decode cX2_fillOrder 63 = .ok (.getfield 27, 3) ∧ decode cX2_fillOrder 66 = .ok (.iload_n 2, 1) ∧ decode cX2_fillOrder 67 = .ok (.iload 4, 2) ∧ decode cX2_fillOrder 69 = .ok (.iastore, 1) ∧ decode cX2_fillOrder 70 = .ok (.iinc 2 1, 3) ∧ decode cX2_fillOrder 73 = .ok (.iinc 4 (-1), 3) ∧ decode cX2_fillOrder 76 = .ok (.goto (-68), 3) ∧ decode cX2_fillOrder 79 = .ok (.aload_n 0, 1) ∧ decode cX2_fillOrder 80 = .ok (.getfield 24, 3) ∧ decode cX2_fillOrder 83 = .ok (.iload_n 3, 1) ∧ decode cX2_fillOrder 84 = .ok (.aload_n 0, 1) ∧ decode cX2_fillOrder 85 = .ok (.getfield 27, 3) ∧ True := zj_of zk_75
abbrev dX2_fillOrder_63 := zr_75.1
abbrev dX2_fillOrder_66 := zr_75.2.1
abbrev dX2_fillOrder_67 := zr_75.2.2.1
abbrev dX2_fillOrder_69 := zr_75.2.2.2.1
abbrev dX2_fillOrder_70 := zr_75.2.2.2.2.1
abbrev dX2_fillOrder_73 := zr_75.2.2.2.2.2.1
abbrev dX2_fillOrder_76 := zr_75.2.2.2.2.2.2.1
abbrev dX2_fillOrder_79 := zr_75.2.2.2.2.2.2.2.1
abbrev dX2_fillOrder_80 := zr_75.2.2.2.2.2.2.2.2.1
abbrev dX2_fillOrder_83 := zr_75.2.2.2.2.2.2.2.2.2.1
abbrev dX2_fillOrder_84 := zr_75.2.2.2.2.2.2.2.2.2.2.1
abbrev dX2_fillOrder_85 := zr_75.2.2.2.2.2.2.2.2.2.2.2.1
set_option maxRecDepth 100000 in
theorem zk_76 : zck 88 (cX2_fillOrder.data.toList.drop 88) [(88, .iload_n 2, 1), (89, .aload_n 0, 1), (90, .getfield 34, 3), (93, .iload_n 3, 1), (94, .isub, 1), (95, .invokestatic 75, 3), (98, .return_, 1)] = true := by decide +kernel
theorem zr_76 : decode cX2_fillOrder 88 = .ok (.iload_n 2, 1) ∧ decode cX2_fillOrder 89 = .ok (.aload_n 0, 1) ∧ decode cX2_fillOrder 90 = .ok (.getfield 34, 3) ∧ decode cX2_fillOrder 93 = .ok (.iload_n 3, 1) ∧ decode cX2_fillOrder 94 = .ok (.isub, 1) ∧ decode cX2_fillOrder 95 = .ok (.invokestatic 75, 3) ∧ decode cX2_fillOrder 98 = .ok (.return_, 1) ∧ True := zj_of zk_76
abbrev dX2_fillOrder_88 := zr_76.1
abbrev dX2_fillOrder_89 := zr_76.2.1
abbrev dX2_fillOrder_90 := zr_76.2.2.1
abbrev dX2_fillOrder_93 := zr_76.2.2.2.1
abbrev dX2_fillOrder_94 := zr_76.2.2.2.2.1
abbrev dX2_fillOrder_95 := zr_76.2.2.2.2.2.1
abbrev dX2_fillOrder_98 := zr_76.2.2.2.2.2.2.1
set_option maxRecDepth 100000 in
theorem zk_77 : zck 0 (cX3_init.data.toList.drop 0) [(0, .aload_n 0, 1), (1, .invokespecial 3, 3), (4, .aload_n 0, 1), (5, .bipush 64, 2)] = true := by decide +kernel
theorem zr_77 : decode cX3_init 0 = .ok (.aload_n 0, 1) ∧ decode cX3_init 1 = .ok (.invokespecial 3, 3) ∧ decode cX3_init 4 = .ok (.aload_n 0, 1) ∧ decode cX3_init 5 = .ok (.bipush 64, 2) ∧ True := zj_of zk_77
abbrev dX3_init_0 := zr_77.1
abbrev dX3_init_1 := zr_77.2.1
abbrev dX3_init_4 := zr_77.2.2.1
abbrev dX3_init_5 := zr_77.2.2.2.1
set_option maxRecDepth 100000 in
theorem dX3_init_7 : decode cX3_init 7 = .ok (.newarray .int, 2) := by decide +kernel
set_option maxRecDepth 100000 in
theorem zk_78 : zck 9 (cX3_init.data.toList.drop 9) [(9, .putfield 9, 3), (12, .aload_n 0, 1), (13, .iconst 0, 1), (14, .putfield 15, 3), (17, .aload_n 0, 1), (18, .iconst 0, 1), (19, .putfield 19, 3), (22, .return_, 1)] = true := by decide +kernel
theorem zr_78 : decode cX3_init 9 = .ok (.putfield 9, 3) ∧ decode cX3_init 12 = .ok (.aload_n 0, 1) ∧ decode cX3_init 13 = .ok (.iconst 0, 1) ∧ decode cX3_init 14 = .ok (.putfield 15, 3) ∧ decode cX3_init 17 = .ok (.aload_n 0, 1) ∧ decode cX3_init 18 = .ok (.iconst 0, 1) ∧ decode cX3_init 19 = .ok (.putfield 19, 3) ∧ decode cX3_init 22 = .ok (.return_, 1) ∧ True := zj_of zk_78
abbrev dX3_init_9 := zr_78.1
abbrev dX3_init_12 := zr_78.2.1
abbrev dX3_init_13 := zr_78.2.2.1
abbrev dX3_init_14 := zr_78.2.2.2.1
abbrev dX3_init_17 := zr_78.2.2.2.2.1
abbrev dX3_init_18 := zr_78.2.2.2.2.2.1
abbrev dX3_init_19 := zr_78.2.2.2.2.2.2.1
abbrev dX3_init_22 := zr_78.2.2.2.2.2.2.2.1
set_option maxRecDepth 100000 in
theorem zk_79 : zck 0 (cX3_read.data.toList.drop 0) [(0, .aload_n 0, 1), (1, .iconst 0, 1), (2, .putfield 15, 3), (5, .aload_n 0, 1), (6, .iconst 0, 1), (7, .putfield 19, 3), (10, .aload_n 1, 1), (11, .getfield 22, 3), (14, .ifCond .ne 5, 3), (17, .iconst (-1), 1), (18, .ireturn, 1), (19, .iconst 0, 1)] = true := by decide +kernel
theorem zr_79 : decode cX3_read 0 = .ok (.aload_n 0, 1) ∧ decode cX3_read 1 = .ok (.iconst 0, 1) ∧ decode cX3_read 2 = .ok (.putfield 15, 3) ∧ decode cX3_read 5 = .ok (.aload_n 0, 1) ∧ decode cX3_read 6 = .ok (.iconst 0, 1) ∧ decode cX3_read 7 = .ok (.putfield 19, 3) ∧ decode cX3_read 10 = .ok (.aload_n 1, 1) ∧ decode cX3_read 11 = .ok (.getfield 22, 3) ∧ decode cX3_read 14 = .ok (.ifCond .ne 5, 3) ∧ decode cX3_read 17 = .ok (.iconst (-1), 1) ∧ decode cX3_read 18 = .ok (.ireturn, 1) ∧ decode cX3_read 19 = .ok (.iconst 0, 1) ∧ True := zj_of zk_79
abbrev dX3_read_0 := zr_79.1
abbrev dX3_read_1 := zr_79.2.1
abbrev dX3_read_2 := zr_79.2.2.1
abbrev dX3_read_5 := zr_79.2.2.2.1
abbrev dX3_read_6 := zr_79.2.2.2.2.1
abbrev dX3_read_7 := zr_79.2.2.2.2.2.1
abbrev dX3_read_10 := zr_79.2.2.2.2.2.2.1
abbrev dX3_read_11 := zr_79.2.2.2.2.2.2.2.1
abbrev dX3_read_14 := zr_79.2.2.2.2.2.2.2.2.1
abbrev dX3_read_17 := zr_79.2.2.2.2.2.2.2.2.2.1
abbrev dX3_read_18 := zr_79.2.2.2.2.2.2.2.2.2.2.1
abbrev dX3_read_19 := zr_79.2.2.2.2.2.2.2.2.2.2.2.1
set_option maxRecDepth 100000 in
theorem zk_80 : zck 20 (cX3_read.data.toList.drop 20) [(20, .istore_n 2, 1), (21, .iload_n 2, 1), (22, .bipush 100, 2), (24, .if_icmp .ge 63, 3), (27, .aload_n 0, 1), (28, .aload_n 1, 1), (29, .invokevirtual 25, 3), (32, .istore_n 3, 1), (33, .iload_n 3, 1), (34, .iconst (-1), 1), (35, .if_icmp .eq 5, 3), (38, .iload_n 3, 1)] = true := by decide +kernel
theorem zr_80 : decode cX3_read 20 = .ok (.istore_n 2, 1) ∧ decode cX3_read 21 = .ok (.iload_n 2, 1) ∧ decode cX3_read 22 = .ok (.bipush 100, 2) ∧ decode cX3_read 24 = .ok (.if_icmp .ge 63, 3) ∧ decode cX3_read 27 = .ok (.aload_n 0, 1) ∧ decode cX3_read 28 = .ok (.aload_n 1, 1) ∧ decode cX3_read 29 = .ok (.invokevirtual 25, 3) ∧ decode cX3_read 32 = .ok (.istore_n 3, 1) ∧ decode cX3_read 33 = .ok (.iload_n 3, 1) ∧ decode cX3_read 34 = .ok (.iconst (-1), 1) ∧ decode cX3_read 35 = .ok (.if_icmp .eq 5, 3) ∧ decode cX3_read 38 = .ok (.iload_n 3, 1) ∧ True := zj_of zk_80
abbrev dX3_read_20 := zr_80.1
abbrev dX3_read_21 := zr_80.2.1
abbrev dX3_read_22 := zr_80.2.2.1
abbrev dX3_read_24 := zr_80.2.2.2.1
abbrev dX3_read_27 := zr_80.2.2.2.2.1
abbrev dX3_read_28 := zr_80.2.2.2.2.2.1
abbrev dX3_read_29 := zr_80.2.2.2.2.2.2.1
abbrev dX3_read_32 := zr_80.2.2.2.2.2.2.2.1
abbrev dX3_read_33 := zr_80.2.2.2.2.2.2.2.2.1
abbrev dX3_read_34 := zr_80.2.2.2.2.2.2.2.2.2.1
abbrev dX3_read_35 := zr_80.2.2.2.2.2.2.2.2.2.2.1
abbrev dX3_read_38 := zr_80.2.2.2.2.2.2.2.2.2.2.2.1
set_option maxRecDepth 100000 in
theorem zk_81 : zck 39 (cX3_read.data.toList.drop 39) [(39, .ireturn, 1), (40, .aload_n 0, 1), (41, .getfield 19, 3), (44, .aload_n 1, 1), (45, .getfield 22, 3), (48, .if_icmp .lt 5, 3), (51, .iconst (-1), 1), (52, .ireturn, 1), (53, .aload_n 1, 1), (54, .aload_n 0, 1), (55, .getfield 19, 3), (58, .invokevirtual 29, 3)] = true := by decide +kernel
theorem zr_81 : decode cX3_read 39 = .ok (.ireturn, 1) ∧ decode cX3_read 40 = .ok (.aload_n 0, 1) ∧ decode cX3_read 41 = .ok (.getfield 19, 3) ∧ decode cX3_read 44 = .ok (.aload_n 1, 1) ∧ decode cX3_read 45 = .ok (.getfield 22, 3) ∧ decode cX3_read 48 = .ok (.if_icmp .lt 5, 3) ∧ decode cX3_read 51 = .ok (.iconst (-1), 1) ∧ decode cX3_read 52 = .ok (.ireturn, 1) ∧ decode cX3_read 53 = .ok (.aload_n 1, 1) ∧ decode cX3_read 54 = .ok (.aload_n 0, 1) ∧ decode cX3_read 55 = .ok (.getfield 19, 3) ∧ decode cX3_read 58 = .ok (.invokevirtual 29, 3) ∧ True := zj_of zk_81
abbrev dX3_read_39 := zr_81.1
abbrev dX3_read_40 := zr_81.2.1
abbrev dX3_read_41 := zr_81.2.2.1
abbrev dX3_read_44 := zr_81.2.2.2.1
abbrev dX3_read_45 := zr_81.2.2.2.2.1
abbrev dX3_read_48 := zr_81.2.2.2.2.2.1
abbrev dX3_read_51 := zr_81.2.2.2.2.2.2.1
abbrev dX3_read_52 := zr_81.2.2.2.2.2.2.2.1
abbrev dX3_read_53 := zr_81.2.2.2.2.2.2.2.2.1
abbrev dX3_read_54 := zr_81.2.2.2.2.2.2.2.2.2.1
abbrev dX3_read_55 := zr_81.2.2.2.2.2.2.2.2.2.2.1
abbrev dX3_read_58 := zr_81.2.2.2.2.2.2.2.2.2.2.2.1
set_option maxRecDepth 100000 in
theorem zk_82 : zck 61 (cX3_read.data.toList.drop 61) [(61, .bipush 44, 2), (63, .if_icmp .eq 8, 3), (66, .aload_n 0, 1), (67, .getfield 19, 3), (70, .ireturn, 1), (71, .aload_n 0, 1), (72, .dup, 1), (73, .getfield 19, 3), (76, .iconst 1, 1), (77, .iadd, 1), (78, .putfield 19, 3), (81, .iinc 2 1, 3)] = true := by decide +kernel
theorem zr_82 : decode cX3_read 61 = .ok (.bipush 44, 2) ∧ decode cX3_read 63 = .ok (.if_icmp .eq 8, 3) ∧ decode cX3_read 66 = .ok (.aload_n 0, 1) ∧ decode cX3_read 67 = .ok (.getfield 19, 3) ∧ decode cX3_read 70 = .ok (.ireturn, 1) ∧ decode cX3_read 71 = .ok (.aload_n 0, 1) ∧ decode cX3_read 72 = .ok (.dup, 1) ∧ decode cX3_read 73 = .ok (.getfield 19, 3) ∧ decode cX3_read 76 = .ok (.iconst 1, 1) ∧ decode cX3_read 77 = .ok (.iadd, 1) ∧ decode cX3_read 78 = .ok (.putfield 19, 3) ∧ decode cX3_read 81 = .ok (.iinc 2 1, 3) ∧ True := zj_of zk_82
abbrev dX3_read_61 := zr_82.1
abbrev dX3_read_63 := zr_82.2.1
abbrev dX3_read_66 := zr_82.2.2.1
abbrev dX3_read_67 := zr_82.2.2.2.1
abbrev dX3_read_70 := zr_82.2.2.2.2.1
abbrev dX3_read_71 := zr_82.2.2.2.2.2.1
abbrev dX3_read_72 := zr_82.2.2.2.2.2.2.1
abbrev dX3_read_73 := zr_82.2.2.2.2.2.2.2.1
abbrev dX3_read_76 := zr_82.2.2.2.2.2.2.2.2.1
abbrev dX3_read_77 := zr_82.2.2.2.2.2.2.2.2.2.1
abbrev dX3_read_78 := zr_82.2.2.2.2.2.2.2.2.2.2.1
abbrev dX3_read_81 := zr_82.2.2.2.2.2.2.2.2.2.2.2.1
set_option maxRecDepth 100000 in
theorem zk_83 : zck 84 (cX3_read.data.toList.drop 84) [(84, .goto (-63), 3), (87, .aload_n 0, 1), (88, .getfield 19, 3), (91, .ireturn, 1)] = true := by decide +kernel
theorem zr_83 : decode cX3_read 84 = .ok (.goto (-63), 3) ∧ decode cX3_read 87 = .ok (.aload_n 0, 1) ∧ decode cX3_read 88 = .ok (.getfield 19, 3) ∧ decode cX3_read 91 = .ok (.ireturn, 1) ∧ True := zj_of zk_83
abbrev dX3_read_84 := zr_83.1
abbrev dX3_read_87 := zr_83.2.1
abbrev dX3_read_88 := zr_83.2.2.1
abbrev dX3_read_91 := zr_83.2.2.2.1
set_option maxRecDepth 100000 in
theorem zk_84 : zck 0 (cX3_readPart.data.toList.drop 0) [(0, .aload_n 0, 1), (1, .getfield 19, 3), (4, .istore_n 2, 1), (5, .aload_n 0, 1), (6, .aload_n 1, 1), (7, .iconst 3, 1), (8, .iconst 0, 1), (9, .sipush 255, 3), (12, .invokevirtual 32, 3), (15, .istore_n 3, 1), (16, .iload_n 3, 1), (17, .ifCond .ge 8, 3)] = true := by decide +kernel
theorem zr_84 : decode cX3_readPart 0 = .ok (.aload_n 0, 1) ∧ decode cX3_readPart 1 = .ok (.getfield 19, 3) ∧ decode cX3_readPart 4 = .ok (.istore_n 2, 1) ∧ decode cX3_readPart 5 = .ok (.aload_n 0, 1) ∧ decode cX3_readPart 6 = .ok (.aload_n 1, 1) ∧ decode cX3_readPart 7 = .ok (.iconst 3, 1) ∧ decode cX3_readPart 8 = .ok (.iconst 0, 1) ∧ decode cX3_readPart 9 = .ok (.sipush 255, 3) ∧ decode cX3_readPart 12 = .ok (.invokevirtual 32, 3) ∧ decode cX3_readPart 15 = .ok (.istore_n 3, 1) ∧ decode cX3_readPart 16 = .ok (.iload_n 3, 1) ∧ decode cX3_readPart 17 = .ok (.ifCond .ge 8, 3) ∧ True := zj_of zk_84
abbrev dX3_readPart_0 := zr_84.1
abbrev dX3_readPart_1 := zr_84.2.1
abbrev dX3_readPart_4 := zr_84.2.2.1
abbrev dX3_readPart_5 := zr_84.2.2.2.1
abbrev dX3_readPart_6 := zr_84.2.2.2.2.1
abbrev dX3_readPart_7 := zr_84.2.2.2.2.2.1
abbrev dX3_readPart_8 := zr_84.2.2.2.2.2.2.1
abbrev dX3_readPart_9 := zr_84.2.2.2.2.2.2.2.1
abbrev dX3_readPart_12 := zr_84.2.2.2.2.2.2.2.2.1
abbrev dX3_readPart_15 := zr_84.2.2.2.2.2.2.2.2.2.1
abbrev dX3_readPart_16 := zr_84.2.2.2.2.2.2.2.2.2.2.1
abbrev dX3_readPart_17 := zr_84.2.2.2.2.2.2.2.2.2.2.2.1
set_option maxRecDepth 100000 in
theorem zk_85 : zck 20 (cX3_readPart.data.toList.drop 20) [(20, .aload_n 0, 1), (21, .getfield 19, 3), (24, .ireturn, 1), (25, .iconst 1, 1), (26, .istore 4, 2), (28, .aload_n 1, 1), (29, .aload_n 0, 1), (30, .getfield 19, 3), (33, .invokevirtual 29, 3), (36, .bipush 120, 2), (38, .if_icmp .ne 34, 3), (41, .aload_n 0, 1)] = true := by decide +kernel
theorem zr_85 : decode cX3_readPart 20 = .ok (.aload_n 0, 1) ∧ decode cX3_readPart 21 = .ok (.getfield 19, 3) ∧ decode cX3_readPart 24 = .ok (.ireturn, 1) ∧ decode cX3_readPart 25 = .ok (.iconst 1, 1) ∧ decode cX3_readPart 26 = .ok (.istore 4, 2) ∧ decode cX3_readPart 28 = .ok (.aload_n 1, 1) ∧ decode cX3_readPart 29 = .ok (.aload_n 0, 1) ∧ decode cX3_readPart 30 = .ok (.getfield 19, 3) ∧ decode cX3_readPart 33 = .ok (.invokevirtual 29, 3) ∧ decode cX3_readPart 36 = .ok (.bipush 120, 2) ∧ decode cX3_readPart 38 = .ok (.if_icmp .ne 34, 3) ∧ decode cX3_readPart 41 = .ok (.aload_n 0, 1) ∧ True := zj_of zk_85
abbrev dX3_readPart_20 := zr_85.1
abbrev dX3_readPart_21 := zr_85.2.1
abbrev dX3_readPart_24 := zr_85.2.2.1
abbrev dX3_readPart_25 := zr_85.2.2.2.1
abbrev dX3_readPart_26 := zr_85.2.2.2.2.1
abbrev dX3_readPart_28 := zr_85.2.2.2.2.2.1
abbrev dX3_readPart_29 := zr_85.2.2.2.2.2.2.1
abbrev dX3_readPart_30 := zr_85.2.2.2.2.2.2.2.1
abbrev dX3_readPart_33 := zr_85.2.2.2.2.2.2.2.2.1
abbrev dX3_readPart_36 := zr_85.2.2.2.2.2.2.2.2.2.1
abbrev dX3_readPart_38 := zr_85.2.2.2.2.2.2.2.2.2.2.1
abbrev dX3_readPart_41 := zr_85.2.2.2.2.2.2.2.2.2.2.2.1
set_option maxRecDepth 100000 in
theorem zk_86 : zck 42 (cX3_readPart.data.toList.drop 42) [(42, .dup, 1), (43, .getfield 19, 3), (46, .iconst 1, 1), (47, .iadd, 1), (48, .putfield 19, 3), (51, .aload_n 0, 1), (52, .aload_n 1, 1), (53, .iconst 2, 1), (54, .iconst 1, 1), (55, .bipush 64, 2), (57, .invokevirtual 32, 3), (60, .istore 4, 2)] = true := by decide +kernel
theorem zr_86 : decode cX3_readPart 42 = .ok (.dup, 1) ∧ decode cX3_readPart 43 = .ok (.getfield 19, 3) ∧ decode cX3_readPart 46 = .ok (.iconst 1, 1) ∧ decode cX3_readPart 47 = .ok (.iadd, 1) ∧ decode cX3_readPart 48 = .ok (.putfield 19, 3) ∧ decode cX3_readPart 51 = .ok (.aload_n 0, 1) ∧ decode cX3_readPart 52 = .ok (.aload_n 1, 1) ∧ decode cX3_readPart 53 = .ok (.iconst 2, 1) ∧ decode cX3_readPart 54 = .ok (.iconst 1, 1) ∧ decode cX3_readPart 55 = .ok (.bipush 64, 2) ∧ decode cX3_readPart 57 = .ok (.invokevirtual 32, 3) ∧ decode cX3_readPart 60 = .ok (.istore 4, 2) ∧ True := zj_of zk_86
abbrev dX3_readPart_42 := zr_86.1
abbrev dX3_readPart_43 := zr_86.2.1
abbrev dX3_readPart_46 := zr_86.2.2.1
abbrev dX3_readPart_47 := zr_86.2.2.2.1
abbrev dX3_readPart_48 := zr_86.2.2.2.2.1
abbrev dX3_readPart_51 := zr_86.2.2.2.2.2.1
abbrev dX3_readPart_52 := zr_86.2.2.2.2.2.2.1
abbrev dX3_readPart_53 := zr_86.2.2.2.2.2.2.2.1
abbrev dX3_readPart_54 := zr_86.2.2.2.2.2.2.2.2.1
abbrev dX3_readPart_55 := zr_86.2.2.2.2.2.2.2.2.2.1
abbrev dX3_readPart_57 := zr_86.2.2.2.2.2.2.2.2.2.2.1
abbrev dX3_readPart_60 := zr_86.2.2.2.2.2.2.2.2.2.2.2.1
set_option maxRecDepth 100000 in
theorem zk_87 : zck 62 (cX3_readPart.data.toList.drop 62) [(62, .iload 4, 2), (64, .ifCond .ge 8, 3), (67, .aload_n 0, 1), (68, .getfield 19, 3), (71, .ireturn, 1), (72, .aload_n 0, 1), (73, .getfield 15, 3), (76, .iload 4, 2), (78, .iadd, 1), (79, .bipush 64, 2), (81, .if_icmp .le 5, 3), (84, .iload_n 2, 1)] = true := by decide +kernel
theorem zr_87 : decode cX3_readPart 62 = .ok (.iload 4, 2) ∧ decode cX3_readPart 64 = .ok (.ifCond .ge 8, 3) ∧ decode cX3_readPart 67 = .ok (.aload_n 0, 1) ∧ decode cX3_readPart 68 = .ok (.getfield 19, 3) ∧ decode cX3_readPart 71 = .ok (.ireturn, 1) ∧ decode cX3_readPart 72 = .ok (.aload_n 0, 1) ∧ decode cX3_readPart 73 = .ok (.getfield 15, 3) ∧ decode cX3_readPart 76 = .ok (.iload 4, 2) ∧ decode cX3_readPart 78 = .ok (.iadd, 1) ∧ decode cX3_readPart 79 = .ok (.bipush 64, 2) ∧ decode cX3_readPart 81 = .ok (.if_icmp .le 5, 3) ∧ decode cX3_readPart 84 = .ok (.iload_n 2, 1) ∧ True := zj_of zk_87
abbrev dX3_readPart_62 := zr_87.1
abbrev dX3_readPart_64 := zr_87.2.1
abbrev dX3_readPart_67 := zr_87.2.2.1
abbrev dX3_readPart_68 := zr_87.2.2.2.1
abbrev dX3_readPart_71 := zr_87.2.2.2.2.1
abbrev dX3_readPart_72 := zr_87.2.2.2.2.2.1
abbrev dX3_readPart_73 := zr_87.2.2.2.2.2.2.1
abbrev dX3_readPart_76 := zr_87.2.2.2.2.2.2.2.1
abbrev dX3_readPart_78 := zr_87.2.2.2.2.2.2.2.2.1
abbrev dX3_readPart_79 := zr_87.2.2.2.2.2.2.2.2.2.1
abbrev dX3_readPart_81 := zr_87.2.2.2.2.2.2.2.2.2.2.1
abbrev dX3_readPart_84 := zr_87.2.2.2.2.2.2.2.2.2.2.2.1
set_option maxRecDepth 100000 in
theorem zk_88 : zck 85 (cX3_readPart.data.toList.drop 85) [(85, .ireturn, 1), (86, .iconst 0, 1), (87, .istore 5, 2), (89, .iload 5, 2), (91, .iload 4, 2), (93, .if_icmp .ge 29, 3), (96, .aload_n 0, 1), (97, .getfield 9, 3), (100, .aload_n 0, 1), (101, .getfield 15, 3), (104, .iload_n 3, 1), (105, .iastore, 1)] = true := by decide +kernel
theorem zr_88 : decode cX3_readPart 85 = .ok (.ireturn, 1) ∧ decode cX3_readPart 86 = .ok (.iconst 0, 1) ∧ decode cX3_readPart 87 = .ok (.istore 5, 2) ∧ decode cX3_readPart 89 = .ok (.iload 5, 2) ∧ decode cX3_readPart 91 = .ok (.iload 4, 2) ∧ decode cX3_readPart 93 = .ok (.if_icmp .ge 29, 3) ∧ decode cX3_readPart 96 = .ok (.aload_n 0, 1) ∧ decode cX3_readPart 97 = .ok (.getfield 9, 3) ∧ decode cX3_readPart 100 = .ok (.aload_n 0, 1) ∧ decode cX3_readPart 101 = .ok (.getfield 15, 3) ∧ decode cX3_readPart 104 = .ok (.iload_n 3, 1) ∧ decode cX3_readPart 105 = .ok (.iastore, 1) ∧ True := zj_of zk_88
abbrev dX3_readPart_85 := zr_88.1
abbrev dX3_readPart_86 := zr_88.2.1
abbrev dX3_readPart_87 := zr_88.2.2.1
abbrev dX3_readPart_89 := zr_88.2.2.2.1
abbrev dX3_readPart_91 := zr_88.2.2.2.2.1
abbrev dX3_readPart_93 := zr_88.2.2.2.2.2.1
abbrev dX3_readPart_96 := zr_88.2.2.2.2.2.2.1
abbrev dX3_readPart_97 := zr_88.2.2.2.2.2.2.2.1
abbrev dX3_readPart_100 := zr_88.2.2.2.2.2.2.2.2.1
abbrev dX3_readPart_101 := zr_88.2.2.2.2.2.2.2.2.2.1
abbrev dX3_readPart_104 := zr_88.2.2.2.2.2.2.2.2.2.2.1
abbrev dX3_readPart_105 := zr_88.2.2.2.2.2.2.2.2.2.2.2.1
set_option maxRecDepth 100000 in
theorem zk_89 : zck 106 (cX3_readPart.data.toList.drop 106) [(106, .aload_n 0, 1), (107, .dup, 1), (108, .getfield 15, 3), (111, .iconst 1, 1), (112, .iadd, 1), (113, .putfield 15, 3), (116, .iinc 5 1, 3), (119, .goto (-30), 3), (122, .iconst (-1), 1), (123, .ireturn, 1)] = true := by decide +kernel
theorem zr_89 : decode cX3_readPart 106 = .ok (.aload_n 0, 1) ∧ decode cX3_readPart 107 = .ok (.dup, 1) ∧ decode cX3_readPart 108 = .ok (.getfield 15, 3) ∧ decode cX3_readPart 111 = .ok (.iconst 1, 1) ∧ decode cX3_readPart 112 = .ok (.iadd, 1) ∧ decode cX3_readPart 113 = .ok (.putfield 15, 3) ∧ decode cX3_readPart 116 = .ok (.iinc 5 1, 3) ∧ decode cX3_readPart 119 = .ok (.goto (-30), 3) ∧ decode cX3_readPart 122 = .ok (.iconst (-1), 1) ∧ decode cX3_readPart 123 = .ok (.ireturn, 1) ∧ True := zj_of zk_89
abbrev dX3_readPart_106 := zr_89.1
abbrev dX3_readPart_107 := zr_89.2.1
abbrev dX3_readPart_108 := zr_89.2.2.1
abbrev dX3_readPart_111 := zr_89.2.2.2.1
abbrev dX3_readPart_112 := zr_89.2.2.2.2.1
abbrev dX3_readPart_113 := zr_89.2.2.2.2.2.1
abbrev dX3_readPart_116 := zr_89.2.2.2.2.2.2.1
abbrev dX3_readPart_119 := zr_89.2.2.2.2.2.2.2.1
abbrev dX3_readPart_122 := zr_89.2.2.2.2.2.2.2.2.1
abbrev dX3_readPart_123 := zr_89.2.2.2.2.2.2.2.2.2.1
set_option maxRecDepth 100000 in
theorem zk_90 : zck 0 (cX3_readDigits.data.toList.drop 0) [(0, .iconst 0, 1), (1, .istore 5, 2), (3, .iconst 0, 1), (4, .istore 6, 2), (6, .iload 6, 2), (8, .iload_n 2, 1), (9, .if_icmp .ge 52, 3), (12, .aload_n 1, 1), (13, .aload_n 0, 1), (14, .getfield 19, 3), (17, .invokevirtual 29, 3), (20, .invokestatic 36, 3)] = true := by decide +kernel
theorem zr_90 : decode cX3_readDigits 0 = .ok (.iconst 0, 1) ∧ decode cX3_readDigits 1 = .ok (.istore 5, 2) ∧ decode cX3_readDigits 3 = .ok (.iconst 0, 1) ∧ decode cX3_readDigits 4 = .ok (.istore 6, 2) ∧ decode cX3_readDigits 6 = .ok (.iload 6, 2) ∧ decode cX3_readDigits 8 = .ok (.iload_n 2, 1) ∧ decode cX3_readDigits 9 = .ok (.if_icmp .ge 52, 3) ∧ decode cX3_readDigits 12 = .ok (.aload_n 1, 1) ∧ decode cX3_readDigits 13 = .ok (.aload_n 0, 1) ∧ decode cX3_readDigits 14 = .ok (.getfield 19, 3) ∧ decode cX3_readDigits 17 = .ok (.invokevirtual 29, 3) ∧ decode cX3_readDigits 20 = .ok (.invokestatic 36, 3) ∧ True := zj_of zk_90
abbrev dX3_readDigits_0 := zr_90.1
abbrev dX3_readDigits_1 := zr_90.2.1
abbrev dX3_readDigits_3 := zr_90.2.2.1
abbrev dX3_readDigits_4 := zr_90.2.2.2.1
abbrev dX3_readDigits_6 := zr_90.2.2.2.2.1
abbrev dX3_readDigits_8 := zr_90.2.2.2.2.2.1
abbrev dX3_readDigits_9 := zr_90.2.2.2.2.2.2.1
abbrev dX3_readDigits_12 := zr_90.2.2.2.2.2.2.2.1
abbrev dX3_readDigits_13 := zr_90.2.2.2.2.2.2.2.2.1
abbrev dX3_readDigits_14 := zr_90.2.2.2.2.2.2.2.2.2.1
abbrev dX3_readDigits_17 := zr_90.2.2.2.2.2.2.2.2.2.2.1
abbrev dX3_readDigits_20 := zr_90.2.2.2.2.2.2.2.2.2.2.2.1
set_option maxRecDepth 100000 in
theorem zk_91 : zck 23 (cX3_readDigits.data.toList.drop 23) [(23, .ifCond .eq 38, 3), (26, .iload 5, 2), (28, .bipush 10, 2), (30, .imul, 1), (31, .aload_n 1, 1), (32, .aload_n 0, 1), (33, .getfield 19, 3), (36, .invokevirtual 29, 3), (39, .iadd, 1), (40, .bipush 48, 2), (42, .isub, 1), (43, .istore 5, 2)] = true := by decide +kernel
theorem zr_91 : decode cX3_readDigits 23 = .ok (.ifCond .eq 38, 3) ∧ decode cX3_readDigits 26 = .ok (.iload 5, 2) ∧ decode cX3_readDigits 28 = .ok (.bipush 10, 2) ∧ decode cX3_readDigits 30 = .ok (.imul, 1) ∧ decode cX3_readDigits 31 = .ok (.aload_n 1, 1) ∧ decode cX3_readDigits 32 = .ok (.aload_n 0, 1) ∧ decode cX3_readDigits 33 = .ok (.getfield 19, 3) ∧ decode cX3_readDigits 36 = .ok (.invokevirtual 29, 3) ∧ decode cX3_readDigits 39 = .ok (.iadd, 1) ∧ decode cX3_readDigits 40 = .ok (.bipush 48, 2) ∧ decode cX3_readDigits 42 = .ok (.isub, 1) ∧ decode cX3_readDigits 43 = .ok (.istore 5, 2) ∧ True := zj_of zk_91
abbrev dX3_readDigits_23 := zr_91.1
abbrev dX3_readDigits_26 := zr_91.2.1
abbrev dX3_readDigits_28 := zr_91.2.2.1
abbrev dX3_readDigits_30 := zr_91.2.2.2.1
abbrev dX3_readDigits_31 := zr_91.2.2.2.2.1
abbrev dX3_readDigits_32 := zr_91.2.2.2.2.2.1
abbrev dX3_readDigits_33 := zr_91.2.2.2.2.2.2.1
abbrev dX3_readDigits_36 := zr_91.2.2.2.2.2.2.2.1
abbrev dX3_readDigits_39 := zr_91.2.2.2.2.2.2.2.2.1
abbrev dX3_readDigits_40 := zr_91.2.2.2.2.2.2.2.2.2.1
abbrev dX3_readDigits_42 := zr_91.2.2.2.2.2.2.2.2.2.2.1
abbrev dX3_readDigits_43 := zr_91.2.2.2.2.2.2.2.2.2.2.2.1
set_option maxRecDepth 100000 in
theorem zk_92 : zck 45 (cX3_readDigits.data.toList.drop 45) [(45, .aload_n 0, 1), (46, .dup, 1), (47, .getfield 19, 3), (50, .iconst 1, 1), (51, .iadd, 1), (52, .putfield 19, 3), (55, .iinc 6 1, 3), (58, .goto (-52), 3), (61, .iload 6, 2), (63, .ifCond .ne 5, 3), (66, .iconst (-1), 1), (67, .ireturn, 1)] = true := by decide +kernel
theorem zr_92 : decode cX3_readDigits 45 = .ok (.aload_n 0, 1) ∧ decode cX3_readDigits 46 = .ok (.dup, 1) ∧ decode cX3_readDigits 47 = .ok (.getfield 19, 3) ∧ decode cX3_readDigits 50 = .ok (.iconst 1, 1) ∧ decode cX3_readDigits 51 = .ok (.iadd, 1) ∧ decode cX3_readDigits 52 = .ok (.putfield 19, 3) ∧ decode cX3_readDigits 55 = .ok (.iinc 6 1, 3) ∧ decode cX3_readDigits 58 = .ok (.goto (-52), 3) ∧ decode cX3_readDigits 61 = .ok (.iload 6, 2) ∧ decode cX3_readDigits 63 = .ok (.ifCond .ne 5, 3) ∧ decode cX3_readDigits 66 = .ok (.iconst (-1), 1) ∧ decode cX3_readDigits 67 = .ok (.ireturn, 1) ∧ True := zj_of zk_92
abbrev dX3_readDigits_45 := zr_92.1
abbrev dX3_readDigits_46 := zr_92.2.1
abbrev dX3_readDigits_47 := zr_92.2.2.1
abbrev dX3_readDigits_50 := zr_92.2.2.2.1
abbrev dX3_readDigits_51 := zr_92.2.2.2.2.1
abbrev dX3_readDigits_52 := zr_92.2.2.2.2.2.1
abbrev dX3_readDigits_55 := zr_92.2.2.2.2.2.2.1
abbrev dX3_readDigits_58 := zr_92.2.2.2.2.2.2.2.1
abbrev dX3_readDigits_61 := zr_92.2.2.2.2.2.2.2.2.1
abbrev dX3_readDigits_63 := zr_92.2.2.2.2.2.2.2.2.2.1
abbrev dX3_readDigits_66 := zr_92.2.2.2.2.2.2.2.2.2.2.1
abbrev dX3_readDigits_67 := zr_92.2.2.2.2.2.2.2.2.2.2.2.1
set_option maxRecDepth 100000 in
theorem zk_93 : zck 68 (cX3_readDigits.data.toList.drop 68) [(68, .iload 5, 2), (70, .iload_n 3, 1), (71, .if_icmp .lt 10, 3), (74, .iload 5, 2), (76, .iload 4, 2), (78, .if_icmp .le 15, 3), (81, .aload_n 0, 1), (82, .dup, 1), (83, .getfield 19, 3), (86, .iconst 1, 1), (87, .isub, 1), (88, .putfield 19, 3)] = true := by decide +kernel
theorem zr_93 : decode cX3_readDigits 68 = .ok (.iload 5, 2) ∧ decode cX3_readDigits 70 = .ok (.iload_n 3, 1) ∧ decode cX3_readDigits 71 = .ok (.if_icmp .lt 10, 3) ∧ decode cX3_readDigits 74 = .ok (.iload 5, 2) ∧ decode cX3_readDigits 76 = .ok (.iload 4, 2) ∧ decode cX3_readDigits 78 = .ok (.if_icmp .le 15, 3) ∧ decode cX3_readDigits 81 = .ok (.aload_n 0, 1) ∧ decode cX3_readDigits 82 = .ok (.dup, 1) ∧ decode cX3_readDigits 83 = .ok (.getfield 19, 3) ∧ decode cX3_readDigits 86 = .ok (.iconst 1, 1) ∧ decode cX3_readDigits 87 = .ok (.isub, 1) ∧ decode cX3_readDigits 88 = .ok (.putfield 19, 3) ∧ True := zj_of zk_93
abbrev dX3_readDigits_68 := zr_93.1
abbrev dX3_readDigits_70 := zr_93.2.1
abbrev dX3_readDigits_71 := zr_93.2.2.1
abbrev dX3_readDigits_74 := zr_93.2.2.2.1
abbrev dX3_readDigits_76 := zr_93.2.2.2.2.1
abbrev dX3_readDigits_78 := zr_93.2.2.2.2.2.1
abbrev dX3_readDigits_81 := zr_93.2.2.2.2.2.2.1
abbrev dX3_readDigits_82 := zr_93.2.2.2.2.2.2.2.1
abbrev dX3_readDigits_83 := zr_93.2.2.2.2.2.2.2.2.1
abbrev dX3_readDigits_86 := zr_93.2.2.2.2.2.2.2.2.2.1
abbrev dX3_readDigits_87 := zr_93.2.2.2.2.2.2.2.2.2.2.1
abbrev dX3_readDigits_88 := zr_93.2.2.2.2.2.2.2.2.2.2.2.1
set_option maxRecDepth 100000 in
theorem zk_94 : zck 91 (cX3_readDigits.data.toList.drop 91) [(91, .iconst (-1), 1), (92, .ireturn, 1), (93, .aload_n 1, 1), (94, .aload_n 0, 1), (95, .getfield 19, 3), (98, .invokevirtual 29, 3), (101, .invokestatic 36, 3), (104, .ifCond .eq 7, 3), (107, .iconst (-1), 1), (108, .goto 5, 3), (111, .iload 5, 2), (113, .ireturn, 1)] = true := by decide +kernel
theorem zr_94 : decode cX3_readDigits 91 = .ok (.iconst (-1), 1) ∧ decode cX3_readDigits 92 = .ok (.ireturn, 1) ∧ decode cX3_readDigits 93 = .ok (.aload_n 1, 1) ∧ decode cX3_readDigits 94 = .ok (.aload_n 0, 1) ∧ decode cX3_readDigits 95 = .ok (.getfield 19, 3) ∧ decode cX3_readDigits 98 = .ok (.invokevirtual 29, 3) ∧ decode cX3_readDigits 101 = .ok (.invokestatic 36, 3) ∧ decode cX3_readDigits 104 = .ok (.ifCond .eq 7, 3) ∧ decode cX3_readDigits 107 = .ok (.iconst (-1), 1) ∧ decode cX3_readDigits 108 = .ok (.goto 5, 3) ∧ decode cX3_readDigits 111 = .ok (.iload 5, 2) ∧ decode cX3_readDigits 113 = .ok (.ireturn, 1) ∧ True := zj_of zk_94
abbrev dX3_readDigits_91 := zr_94.1
abbrev dX3_readDigits_92 := zr_94.2.1
abbrev dX3_readDigits_93 := zr_94.2.2.1
abbrev dX3_readDigits_94 := zr_94.2.2.2.1
abbrev dX3_readDigits_95 := zr_94.2.2.2.2.1
abbrev dX3_readDigits_98 := zr_94.2.2.2.2.2.1
abbrev dX3_readDigits_101 := zr_94.2.2.2.2.2.2.1
abbrev dX3_readDigits_104 := zr_94.2.2.2.2.2.2.2.1
abbrev dX3_readDigits_107 := zr_94.2.2.2.2.2.2.2.2.1
abbrev dX3_readDigits_108 := zr_94.2.2.2.2.2.2.2.2.2.1
abbrev dX3_readDigits_111 := zr_94.2.2.2.2.2.2.2.2.2.2.1
abbrev dX3_readDigits_113 := zr_94.2.2.2.2.2.2.2.2.2.2.2.1
set_option maxRecDepth 100000 in
theorem zk_95 : zck 0 (cX3_isDigit.data.toList.drop 0) [(0, .iload_n 0, 1), (1, .bipush 48, 2), (3, .if_icmp .lt 13, 3), (6, .iload_n 0, 1), (7, .bipush 57, 2), (9, .if_icmp .gt 7, 3), (12, .iconst 1, 1), (13, .goto 4, 3), (16, .iconst 0, 1), (17, .ireturn, 1)] = true := by decide +kernel
theorem zr_95 : decode cX3_isDigit 0 = .ok (.iload_n 0, 1) ∧ decode cX3_isDigit 1 = .ok (.bipush 48, 2) ∧ decode cX3_isDigit 3 = .ok (.if_icmp .lt 13, 3) ∧ decode cX3_isDigit 6 = .ok (.iload_n 0, 1) ∧ decode cX3_isDigit 7 = .ok (.bipush 57, 2) ∧ decode cX3_isDigit 9 = .ok (.if_icmp .gt 7, 3) ∧ decode cX3_isDigit 12 = .ok (.iconst 1, 1) ∧ decode cX3_isDigit 13 = .ok (.goto 4, 3) ∧ decode cX3_isDigit 16 = .ok (.iconst 0, 1) ∧ decode cX3_isDigit 17 = .ok (.ireturn, 1) ∧ True := zj_of zk_95
abbrev dX3_isDigit_0 := zr_95.1
abbrev dX3_isDigit_1 := zr_95.2.1
abbrev dX3_isDigit_3 := zr_95.2.2.1
abbrev dX3_isDigit_6 := zr_95.2.2.2.1
abbrev dX3_isDigit_7 := zr_95.2.2.2.2.1
abbrev dX3_isDigit_9 := zr_95.2.2.2.2.2.1
abbrev dX3_isDigit_12 := zr_95.2.2.2.2.2.2.1
abbrev dX3_isDigit_13 := zr_95.2.2.2.2.2.2.2.1
abbrev dX3_isDigit_16 := zr_95.2.2.2.2.2.2.2.2.1
abbrev dX3_isDigit_17 := zr_95.2.2.2.2.2.2.2.2.2.1
set_option maxRecDepth 100000 in
theorem zk_96 : zck 0 (cX4_init.data.toList.drop 0) [(0, .aload_n 0, 1), (1, .invokespecial 3, 3), (4, .aload_n 0, 1), (5, .bipush 8, 2)] = true := by decide +kernel
theorem zr_96 : decode cX4_init 0 = .ok (.aload_n 0, 1) ∧ decode cX4_init 1 = .ok (.invokespecial 3, 3) ∧ decode cX4_init 4 = .ok (.aload_n 0, 1) ∧ decode cX4_init 5 = .ok (.bipush 8, 2) ∧ True := zj_of zk_96
abbrev dX4_init_0 := zr_96.1
abbrev dX4_init_1 := zr_96.2.1
abbrev dX4_init_4 := zr_96.2.2.1
abbrev dX4_init_5 := zr_96.2.2.2.1
set_option maxRecDepth 100000 in
theorem dX4_init_7 : decode cX4_init 7 = .ok (.newarray .long, 2) := by decide +kernel
set_option maxRecDepth 100000 in
theorem zk_97 : zck 9 (cX4_init.data.toList.drop 9) [(9, .putfield 9, 3), (12, .aload_n 0, 1), (13, .iconst 0, 1), (14, .putfield 15, 3), (17, .return_, 1)] = true := by decide +kernel
theorem zr_97 : decode cX4_init 9 = .ok (.putfield 9, 3) ∧ decode cX4_init 12 = .ok (.aload_n 0, 1) ∧ decode cX4_init 13 = .ok (.iconst 0, 1) ∧ decode cX4_init 14 = .ok (.putfield 15, 3) ∧ decode cX4_init 17 = .ok (.return_, 1) ∧ True := zj_of zk_97
abbrev dX4_init_9 := zr_97.1
abbrev dX4_init_12 := zr_97.2.1
abbrev dX4_init_13 := zr_97.2.2.1
abbrev dX4_init_14 := zr_97.2.2.2.1
abbrev dX4_init_17 := zr_97.2.2.2.2.1
set_option maxRecDepth 100000 in
theorem zk_98 : zck 0 (cX4_read.data.toList.drop 0) [(0, .iconst 0, 1), (1, .istore_n 2, 1), (2, .iconst 0, 1), (3, .istore_n 3, 1), (4, .iload_n 3, 1), (5, .bipush 8, 2), (7, .if_icmp .ge 84, 3), (10, .aload_n 0, 1), (11, .aload_n 1, 1), (12, .iload_n 2, 1), (13, .iload_n 3, 1), (14, .iload_n 3, 1)] = true := by decide +kernel
theorem zr_98 : decode cX4_read 0 = .ok (.iconst 0, 1) ∧ decode cX4_read 1 = .ok (.istore_n 2, 1) ∧ decode cX4_read 2 = .ok (.iconst 0, 1) ∧ decode cX4_read 3 = .ok (.istore_n 3, 1) ∧ decode cX4_read 4 = .ok (.iload_n 3, 1) ∧ decode cX4_read 5 = .ok (.bipush 8, 2) ∧ decode cX4_read 7 = .ok (.if_icmp .ge 84, 3) ∧ decode cX4_read 10 = .ok (.aload_n 0, 1) ∧ decode cX4_read 11 = .ok (.aload_n 1, 1) ∧ decode cX4_read 12 = .ok (.iload_n 2, 1) ∧ decode cX4_read 13 = .ok (.iload_n 3, 1) ∧ decode cX4_read 14 = .ok (.iload_n 3, 1) ∧ True := zj_of zk_98
abbrev dX4_read_0 := zr_98.1
abbrev dX4_read_1 := zr_98.2.1
abbrev dX4_read_2 := zr_98.2.2.1
abbrev dX4_read_3 := zr_98.2.2.2.1
abbrev dX4_read_4 := zr_98.2.2.2.2.1
abbrev dX4_read_5 := zr_98.2.2.2.2.2.1
abbrev dX4_read_7 := zr_98.2.2.2.2.2.2.1
abbrev dX4_read_10 := zr_98.2.2.2.2.2.2.2.1
abbrev dX4_read_11 := zr_98.2.2.2.2.2.2.2.2.1
abbrev dX4_read_12 := zr_98.2.2.2.2.2.2.2.2.2.1
abbrev dX4_read_13 := zr_98.2.2.2.2.2.2.2.2.2.2.1
abbrev dX4_read_14 := zr_98.2.2.2.2.2.2.2.2.2.2.2.1
set_option maxRecDepth 100000 in
theorem zk_99 : zck 15 (cX4_read.data.toList.drop 15) [(15, .ifCond .ne 8, 3), (18, .bipush 11, 2), (20, .goto 7, 3), (23, .aload_n 0, 1), (24, .getfield 15, 3), (27, .invokevirtual 19, 3), (30, .istore 4, 2), (32, .iload_n 2, 1), (33, .iload 4, 2), (35, .iadd, 1), (36, .istore_n 2, 1), (37, .iload_n 3, 1)] = true := by decide +kernel
theorem zr_99 : decode cX4_read 15 = .ok (.ifCond .ne 8, 3) ∧ decode cX4_read 18 = .ok (.bipush 11, 2) ∧ decode cX4_read 20 = .ok (.goto 7, 3) ∧ decode cX4_read 23 = .ok (.aload_n 0, 1) ∧ decode cX4_read 24 = .ok (.getfield 15, 3) ∧ decode cX4_read 27 = .ok (.invokevirtual 19, 3) ∧ decode cX4_read 30 = .ok (.istore 4, 2) ∧ decode cX4_read 32 = .ok (.iload_n 2, 1) ∧ decode cX4_read 33 = .ok (.iload 4, 2) ∧ decode cX4_read 35 = .ok (.iadd, 1) ∧ decode cX4_read 36 = .ok (.istore_n 2, 1) ∧ decode cX4_read 37 = .ok (.iload_n 3, 1) ∧ True := zj_of zk_99
abbrev dX4_read_15 := zr_99.1
abbrev dX4_read_18 := zr_99.2.1
abbrev dX4_read_20 := zr_99.2.2.1
abbrev dX4_read_23 := zr_99.2.2.2.1
abbrev dX4_read_24 := zr_99.2.2.2.2.1
abbrev dX4_read_27 := zr_99.2.2.2.2.2.1
abbrev dX4_read_30 := zr_99.2.2.2.2.2.2.1
abbrev dX4_read_32 := zr_99.2.2.2.2.2.2.2.1
abbrev dX4_read_33 := zr_99.2.2.2.2.2.2.2.2.1
abbrev dX4_read_35 := zr_99.2.2.2.2.2.2.2.2.2.1
abbrev dX4_read_36 := zr_99.2.2.2.2.2.2.2.2.2.2.1
abbrev dX4_read_37 := zr_99.2.2.2.2.2.2.2.2.2.2.2.1
set_option maxRecDepth 100000 in
theorem zk_100 : zck 38 (cX4_read.data.toList.drop 38) [(38, .ifCond .ne 9, 3), (41, .aload_n 0, 1), (42, .iload 4, 2), (44, .putfield 15, 3), (47, .iload_n 3, 1), (48, .bipush 7, 2), (50, .if_icmp .ne 7, 3), (53, .iconst (-1), 1), (54, .goto 5, 3), (57, .bipush 47, 2), (59, .istore 5, 2), (61, .iload 4, 2)] = true := by decide +kernel
theorem zr_100 : decode cX4_read 38 = .ok (.ifCond .ne 9, 3) ∧ decode cX4_read 41 = .ok (.aload_n 0, 1) ∧ decode cX4_read 42 = .ok (.iload 4, 2) ∧ decode cX4_read 44 = .ok (.putfield 15, 3) ∧ decode cX4_read 47 = .ok (.iload_n 3, 1) ∧ decode cX4_read 48 = .ok (.bipush 7, 2) ∧ decode cX4_read 50 = .ok (.if_icmp .ne 7, 3) ∧ decode cX4_read 53 = .ok (.iconst (-1), 1) ∧ decode cX4_read 54 = .ok (.goto 5, 3) ∧ decode cX4_read 57 = .ok (.bipush 47, 2) ∧ decode cX4_read 59 = .ok (.istore 5, 2) ∧ decode cX4_read 61 = .ok (.iload 4, 2) ∧ True := zj_of zk_100
abbrev dX4_read_38 := zr_100.1
abbrev dX4_read_41 := zr_100.2.1
abbrev dX4_read_42 := zr_100.2.2.1
abbrev dX4_read_44 := zr_100.2.2.2.1
abbrev dX4_read_47 := zr_100.2.2.2.2.1
abbrev dX4_read_48 := zr_100.2.2.2.2.2.1
abbrev dX4_read_50 := zr_100.2.2.2.2.2.2.1
abbrev dX4_read_53 := zr_100.2.2.2.2.2.2.2.1
abbrev dX4_read_54 := zr_100.2.2.2.2.2.2.2.2.1
abbrev dX4_read_57 := zr_100.2.2.2.2.2.2.2.2.2.1
abbrev dX4_read_59 := zr_100.2.2.2.2.2.2.2.2.2.2.1
abbrev dX4_read_61 := zr_100.2.2.2.2.2.2.2.2.2.2.2.1
set_option maxRecDepth 100000 in
theorem zk_101 : zck 63 (cX4_read.data.toList.drop 63) [(63, .aload_n 0, 1), (64, .getfield 15, 3), (67, .if_icmp .lt 13, 3), (70, .aload_n 1, 1), (71, .iload_n 2, 1), (72, .invokevirtual 25, 3), (75, .iload 5, 2), (77, .if_icmp .eq 5, 3), (80, .iload_n 2, 1), (81, .ireturn, 1), (82, .iinc 2 1, 3), (85, .iinc 3 1, 3)] = true := by decide +kernel
theorem zr_101 : decode cX4_read 63 = .ok (.aload_n 0, 1) ∧ decode cX4_read 64 = .ok (.getfield 15, 3) ∧ decode cX4_read 67 = .ok (.if_icmp .lt 13, 3) ∧ decode cX4_read 70 = .ok (.aload_n 1, 1) ∧ decode cX4_read 71 = .ok (.iload_n 2, 1) ∧ decode cX4_read 72 = .ok (.invokevirtual 25, 3) ∧ decode cX4_read 75 = .ok (.iload 5, 2) ∧ decode cX4_read 77 = .ok (.if_icmp .eq 5, 3) ∧ decode cX4_read 80 = .ok (.iload_n 2, 1) ∧ decode cX4_read 81 = .ok (.ireturn, 1) ∧ decode cX4_read 82 = .ok (.iinc 2 1, 3) ∧ decode cX4_read 85 = .ok (.iinc 3 1, 3) ∧ True := zj_of zk_101
abbrev dX4_read_63 := zr_101.1
abbrev dX4_read_64 := zr_101.2.1
abbrev dX4_read_67 := zr_101.2.2.1
abbrev dX4_read_70 := zr_101.2.2.2.1
abbrev dX4_read_71 := zr_101.2.2.2.2.1
abbrev dX4_read_72 := zr_101.2.2.2.2.2.1
abbrev dX4_read_75 := zr_101.2.2.2.2.2.2.1
abbrev dX4_read_77 := zr_101.2.2.2.2.2.2.2.1
abbrev dX4_read_80 := zr_101.2.2.2.2.2.2.2.2.1
abbrev dX4_read_81 := zr_101.2.2.2.2.2.2.2.2.2.1
abbrev dX4_read_82 := zr_101.2.2.2.2.2.2.2.2.2.2.1
abbrev dX4_read_85 := zr_101.2.2.2.2.2.2.2.2.2.2.2.1
set_option maxRecDepth 100000 in
theorem zk_102 : zck 88 (cX4_read.data.toList.drop 88) [(88, .goto (-84), 3), (91, .iconst (-1), 1), (92, .ireturn, 1)] = true := by decide +kernel
theorem zr_102 : decode cX4_read 88 = .ok (.goto (-84), 3) ∧ decode cX4_read 91 = .ok (.iconst (-1), 1) ∧ decode cX4_read 92 = .ok (.ireturn, 1) ∧ True := zj_of zk_102
abbrev dX4_read_88 := zr_102.1
abbrev dX4_read_91 := zr_102.2.1
abbrev dX4_read_92 := zr_102.2.2.1
set_option maxRecDepth 100000 in
theorem zk_103 : zck 0 (cX4_readBits.data.toList.drop 0) [(0, .aload_n 0, 1), (1, .getfield 9, 3), (4, .iload_n 3, 1), (5, .lconst 0, 1), (6, .lastore, 1), (7, .iconst 0, 1), (8, .istore 5, 2), (10, .iload 5, 2), (12, .iload 4, 2), (14, .if_icmp .ge 47, 3), (17, .aload_n 1, 1), (18, .iload_n 2, 1)] = true := by decide +kernel
theorem zr_103 : decode cX4_readBits 0 = .ok (.aload_n 0, 1) ∧ decode cX4_readBits 1 = .ok (.getfield 9, 3) ∧ decode cX4_readBits 4 = .ok (.iload_n 3, 1) ∧ decode cX4_readBits 5 = .ok (.lconst 0, 1) ∧ decode cX4_readBits 6 = .ok (.lastore, 1) ∧ decode cX4_readBits 7 = .ok (.iconst 0, 1) ∧ decode cX4_readBits 8 = .ok (.istore 5, 2) ∧ decode cX4_readBits 10 = .ok (.iload 5, 2) ∧ decode cX4_readBits 12 = .ok (.iload 4, 2) ∧ decode cX4_readBits 14 = .ok (.if_icmp .ge 47, 3) ∧ decode cX4_readBits 17 = .ok (.aload_n 1, 1) ∧ decode cX4_readBits 18 = .ok (.iload_n 2, 1) ∧ True := zj_of zk_103
abbrev dX4_readBits_0 := zr_103.1
abbrev dX4_readBits_1 := zr_103.2.1
abbrev dX4_readBits_4 := zr_103.2.2.1
abbrev dX4_readBits_5 := zr_103.2.2.2.1
abbrev dX4_readBits_6 := zr_103.2.2.2.2.1
abbrev dX4_readBits_7 := zr_103.2.2.2.2.2.1
abbrev dX4_readBits_8 := zr_103.2.2.2.2.2.2.1
abbrev dX4_readBits_10 := zr_103.2.2.2.2.2.2.2.1
abbrev dX4_readBits_12 := zr_103.2.2.2.2.2.2.2.2.1
abbrev dX4_readBits_14 := zr_103.2.2.2.2.2.2.2.2.2.1
abbrev dX4_readBits_17 := zr_103.2.2.2.2.2.2.2.2.2.2.1
abbrev dX4_readBits_18 := zr_103.2.2.2.2.2.2.2.2.2.2.2.1
set_option maxRecDepth 100000 in
theorem zk_104 : zck 19 (cX4_readBits.data.toList.drop 19) [(19, .iload 5, 2), (21, .iadd, 1), (22, .invokevirtual 25, 3), (25, .invokestatic 29, 3), (28, .ifCond .eq 33, 3), (31, .aload_n 0, 1), (32, .getfield 9, 3), (35, .iload_n 3, 1), (36, .dup2, 1), (37, .laload, 1), (38, .aload_n 1, 1), (39, .iload_n 2, 1)] = true := by decide +kernel
theorem zr_104 : decode cX4_readBits 19 = .ok (.iload 5, 2) ∧ decode cX4_readBits 21 = .ok (.iadd, 1) ∧ decode cX4_readBits 22 = .ok (.invokevirtual 25, 3) ∧ decode cX4_readBits 25 = .ok (.invokestatic 29, 3) ∧ decode cX4_readBits 28 = .ok (.ifCond .eq 33, 3) ∧ decode cX4_readBits 31 = .ok (.aload_n 0, 1) ∧ decode cX4_readBits 32 = .ok (.getfield 9, 3) ∧ decode cX4_readBits 35 = .ok (.iload_n 3, 1) ∧ decode cX4_readBits 36 = .ok (.dup2, 1) ∧ decode cX4_readBits 37 = .ok (.laload, 1) ∧ decode cX4_readBits 38 = .ok (.aload_n 1, 1) ∧ decode cX4_readBits 39 = .ok (.iload_n 2, 1) ∧ True := zj_of zk_104
abbrev dX4_readBits_19 := zr_104.1
abbrev dX4_readBits_21 := zr_104.2.1
abbrev dX4_readBits_22 := zr_104.2.2.1
abbrev dX4_readBits_25 := zr_104.2.2.2.1
abbrev dX4_readBits_28 := zr_104.2.2.2.2.1
abbrev dX4_readBits_31 := zr_104.2.2.2.2.2.1
abbrev dX4_readBits_32 := zr_104.2.2.2.2.2.2.1
abbrev dX4_readBits_35 := zr_104.2.2.2.2.2.2.2.1
abbrev dX4_readBits_36 := zr_104.2.2.2.2.2.2.2.2.1
abbrev dX4_readBits_37 := zr_104.2.2.2.2.2.2.2.2.2.1
abbrev dX4_readBits_38 := zr_104.2.2.2.2.2.2.2.2.2.2.1
abbrev dX4_readBits_39 := zr_104.2.2.2.2.2.2.2.2.2.2.2.1
set_option maxRecDepth 100000 in
theorem zk_105 : zck 40 (cX4_readBits.data.toList.drop 40) [(40, .iload 5, 2), (42, .iadd, 1), (43, .invokevirtual 25, 3), (46, .bipush 48, 2), (48, .isub, 1), (49, .i2l, 1), (50, .iload 5, 2), (52, .lshl, 1), (53, .lor, 1), (54, .lastore, 1), (55, .iinc 5 1, 3), (58, .goto (-48), 3)] = true := by decide +kernel
theorem zr_105 : decode cX4_readBits 40 = .ok (.iload 5, 2) ∧ decode cX4_readBits 42 = .ok (.iadd, 1) ∧ decode cX4_readBits 43 = .ok (.invokevirtual 25, 3) ∧ decode cX4_readBits 46 = .ok (.bipush 48, 2) ∧ decode cX4_readBits 48 = .ok (.isub, 1) ∧ decode cX4_readBits 49 = .ok (.i2l, 1) ∧ decode cX4_readBits 50 = .ok (.iload 5, 2) ∧ decode cX4_readBits 52 = .ok (.lshl, 1) ∧ decode cX4_readBits 53 = .ok (.lor, 1) ∧ decode cX4_readBits 54 = .ok (.lastore, 1) ∧ decode cX4_readBits 55 = .ok (.iinc 5 1, 3) ∧ decode cX4_readBits 58 = .ok (.goto (-48), 3) ∧ True := zj_of zk_105
abbrev dX4_readBits_40 := zr_105.1
abbrev dX4_readBits_42 := zr_105.2.1
abbrev dX4_readBits_43 := zr_105.2.2.1
abbrev dX4_readBits_46 := zr_105.2.2.2.1
abbrev dX4_readBits_48 := zr_105.2.2.2.2.1
abbrev dX4_readBits_49 := zr_105.2.2.2.2.2.1
abbrev dX4_readBits_50 := zr_105.2.2.2.2.2.2.1
abbrev dX4_readBits_52 := zr_105.2.2.2.2.2.2.2.1
abbrev dX4_readBits_53 := zr_105.2.2.2.2.2.2.2.2.1
abbrev dX4_readBits_54 := zr_105.2.2.2.2.2.2.2.2.2.1
abbrev dX4_readBits_55 := zr_105.2.2.2.2.2.2.2.2.2.2.1
abbrev dX4_readBits_58 := zr_105.2.2.2.2.2.2.2.2.2.2.2.1
set_option maxRecDepth 100000 in
theorem zk_106 : zck 61 (cX4_readBits.data.toList.drop 61) [(61, .iload 5, 2), (63, .ireturn, 1)] = true := by decide +kernel
theorem zr_106 : decode cX4_readBits 61 = .ok (.iload 5, 2) ∧ decode cX4_readBits 63 = .ok (.ireturn, 1) ∧ True := zj_of zk_106
abbrev dX4_readBits_61 := zr_106.1
abbrev dX4_readBits_63 := zr_106.2.1
set_option maxRecDepth 100000 in
theorem zk_107 : zck 0 (cX4_isBit.data.toList.drop 0) [(0, .iload_n 0, 1), (1, .bipush 48, 2), (3, .if_icmp .eq 9, 3), (6, .iload_n 0, 1), (7, .bipush 49, 2), (9, .if_icmp .ne 7, 3), (12, .iconst 1, 1), (13, .goto 4, 3), (16, .iconst 0, 1), (17, .ireturn, 1)] = true := by decide +kernel
theorem zr_107 : decode cX4_isBit 0 = .ok (.iload_n 0, 1) ∧ decode cX4_isBit 1 = .ok (.bipush 48, 2) ∧ decode cX4_isBit 3 = .ok (.if_icmp .eq 9, 3) ∧ decode cX4_isBit 6 = .ok (.iload_n 0, 1) ∧ decode cX4_isBit 7 = .ok (.bipush 49, 2) ∧ decode cX4_isBit 9 = .ok (.if_icmp .ne 7, 3) ∧ decode cX4_isBit 12 = .ok (.iconst 1, 1) ∧ decode cX4_isBit 13 = .ok (.goto 4, 3) ∧ decode cX4_isBit 16 = .ok (.iconst 0, 1) ∧ decode cX4_isBit 17 = .ok (.ireturn, 1) ∧ True := zj_of zk_107
abbrev dX4_isBit_0 := zr_107.1
abbrev dX4_isBit_1 := zr_107.2.1
abbrev dX4_isBit_3 := zr_107.2.2.1
abbrev dX4_isBit_6 := zr_107.2.2.2.1
abbrev dX4_isBit_7 := zr_107.2.2.2.2.1
abbrev dX4_isBit_9 := zr_107.2.2.2.2.2.1
abbrev dX4_isBit_12 := zr_107.2.2.2.2.2.2.1
abbrev dX4_isBit_13 := zr_107.2.2.2.2.2.2.2.1
abbrev dX4_isBit_16 := zr_107.2.2.2.2.2.2.2.2.1
abbrev dX4_isBit_17 := zr_107.2.2.2.2.2.2.2.2.2.1
set_option maxRecDepth 100000 in
theorem zk_108 : zck 0 (cX5_init.data.toList.drop 0) [(0, .aload_n 0, 1), (1, .invokespecial 1, 3), (4, .aload_n 0, 1), (5, .bipush 100, 2)] = true := by decide +kernel
theorem zr_108 : decode cX5_init 0 = .ok (.aload_n 0, 1) ∧ decode cX5_init 1 = .ok (.invokespecial 1, 3) ∧ decode cX5_init 4 = .ok (.aload_n 0, 1) ∧ decode cX5_init 5 = .ok (.bipush 100, 2) ∧ True := zj_of zk_108
abbrev dX5_init_0 := zr_108.1
abbrev dX5_init_1 := zr_108.2.1
abbrev dX5_init_4 := zr_108.2.2.1
abbrev dX5_init_5 := zr_108.2.2.2.1
set_option maxRecDepth 100000 in
theorem dX5_init_7 : decode cX5_init 7 = .ok (.newarray .int, 2) := by decide +kernel
set_option maxRecDepth 100000 in
theorem zk_109 : zck 9 (cX5_init.data.toList.drop 9) [(9, .putfield 9, 3), (12, .aload_n 0, 1), (13, .iconst 0, 1), (14, .putfield 13, 3), (17, .return_, 1)] = true := by decide +kernel
theorem zr_109 : decode cX5_init 9 = .ok (.putfield 9, 3) ∧ decode cX5_init 12 = .ok (.aload_n 0, 1) ∧ decode cX5_init 13 = .ok (.iconst 0, 1) ∧ decode cX5_init 14 = .ok (.putfield 13, 3) ∧ decode cX5_init 17 = .ok (.return_, 1) ∧ True := zj_of zk_109
abbrev dX5_init_9 := zr_109.1
abbrev dX5_init_12 := zr_109.2.1
abbrev dX5_init_13 := zr_109.2.2.1
abbrev dX5_init_14 := zr_109.2.2.2.1
abbrev dX5_init_17 := zr_109.2.2.2.2.1
set_option maxRecDepth 100000 in
theorem zk_110 : zck 0 (cX5_add.data.toList.drop 0) [(0, .aload_n 0, 1), (1, .getfield 13, 3), (4, .iconst 4, 1), (5, .iadd, 1), (6, .bipush 100, 2), (8, .if_icmp .le 5, 3), (11, .iconst 0, 1), (12, .ireturn, 1), (13, .iconst 3, 1), (14, .istore_n 2, 1), (15, .iload_n 2, 1), (16, .ifCond .lt 38, 3)] = true := by decide +kernel
theorem zr_110 : decode cX5_add 0 = .ok (.aload_n 0, 1) ∧ decode cX5_add 1 = .ok (.getfield 13, 3) ∧ decode cX5_add 4 = .ok (.iconst 4, 1) ∧ decode cX5_add 5 = .ok (.iadd, 1) ∧ decode cX5_add 6 = .ok (.bipush 100, 2) ∧ decode cX5_add 8 = .ok (.if_icmp .le 5, 3) ∧ decode cX5_add 11 = .ok (.iconst 0, 1) ∧ decode cX5_add 12 = .ok (.ireturn, 1) ∧ decode cX5_add 13 = .ok (.iconst 3, 1) ∧ decode cX5_add 14 = .ok (.istore_n 2, 1) ∧ decode cX5_add 15 = .ok (.iload_n 2, 1) ∧ decode cX5_add 16 = .ok (.ifCond .lt 38, 3) ∧ True := zj_of zk_110
abbrev dX5_add_0 := zr_110.1
abbrev dX5_add_1 := zr_110.2.1
abbrev dX5_add_4 := zr_110.2.2.1
abbrev dX5_add_5 := zr_110.2.2.2.1
abbrev dX5_add_6 := zr_110.2.2.2.2.1
abbrev dX5_add_8 := zr_110.2.2.2.2.2.1
abbrev dX5_add_11 := zr_110.2.2.2.2.2.2.1
abbrev dX5_add_12 := zr_110.2.2.2.2.2.2.2.1
abbrev dX5_add_13 := zr_110.2.2.2.2.2.2.2.2.1
abbrev dX5_add_14 := zr_110.2.2.2.2.2.2.2.2.2.1
abbrev dX5_add_15 := zr_110.2.2.2.2.2.2.2.2.2.2.1
abbrev dX5_add_16 := zr_110.2.2.2.2.2.2.2.2.2.2.2.1
set_option maxRecDepth 100000 in
theorem zk_111 : zck 19 (cX5_add.data.toList.drop 19) [(19, .aload_n 0, 1), (20, .getfield 9, 3), (23, .aload_n 0, 1), (24, .getfield 13, 3), (27, .iload_n 1, 1), (28, .bipush 8, 2), (30, .iload_n 2, 1), (31, .imul, 1), (32, .iushr, 1), (33, .sipush 255, 3), (36, .iand, 1), (37, .iastore, 1)] = true := by decide +kernel
theorem zr_111 : decode cX5_add 19 = .ok (.aload_n 0, 1) ∧ decode cX5_add 20 = .ok (.getfield 9, 3) ∧ decode cX5_add 23 = .ok (.aload_n 0, 1) ∧ decode cX5_add 24 = .ok (.getfield 13, 3) ∧ decode cX5_add 27 = .ok (.iload_n 1, 1) ∧ decode cX5_add 28 = .ok (.bipush 8, 2) ∧ decode cX5_add 30 = .ok (.iload_n 2, 1) ∧ decode cX5_add 31 = .ok (.imul, 1) ∧ decode cX5_add 32 = .ok (.iushr, 1) ∧ decode cX5_add 33 = .ok (.sipush 255, 3) ∧ decode cX5_add 36 = .ok (.iand, 1) ∧ decode cX5_add 37 = .ok (.iastore, 1) ∧ True := zj_of zk_111
abbrev dX5_add_19 := zr_111.1
abbrev dX5_add_20 := zr_111.2.1
abbrev dX5_add_23 := zr_111.2.2.1
abbrev dX5_add_24 := zr_111.2.2.2.1
abbrev dX5_add_27 := zr_111.2.2.2.2.1
abbrev dX5_add_28 := zr_111.2.2.2.2.2.1
abbrev dX5_add_30 := zr_111.2.2.2.2.2.2.1
abbrev dX5_add_31 := zr_111.2.2.2.2.2.2.2.1
abbrev dX5_add_32 := zr_111.2.2.2.2.2.2.2.2.1
abbrev dX5_add_33 := zr_111.2.2.2.2.2.2.2.2.2.1
abbrev dX5_add_36 := zr_111.2.2.2.2.2.2.2.2.2.2.1
abbrev dX5_add_37 := zr_111.2.2.2.2.2.2.2.2.2.2.2.1
set_option maxRecDepth 100000 in
theorem zk_112 : zck 38 (cX5_add.data.toList.drop 38) [(38, .aload_n 0, 1), (39, .dup, 1), (40, .getfield 13, 3), (43, .iconst 1, 1), (44, .iadd, 1), (45, .putfield 13, 3), (48, .iinc 2 (-1), 3), (51, .goto (-36), 3), (54, .iconst 1, 1), (55, .ireturn, 1)] = true := by decide +kernel
theorem zr_112 : decode cX5_add 38 = .ok (.aload_n 0, 1) ∧ decode cX5_add 39 = .ok (.dup, 1) ∧ decode cX5_add 40 = .ok (.getfield 13, 3) ∧ decode cX5_add 43 = .ok (.iconst 1, 1) ∧ decode cX5_add 44 = .ok (.iadd, 1) ∧ decode cX5_add 45 = .ok (.putfield 13, 3) ∧ decode cX5_add 48 = .ok (.iinc 2 (-1), 3) ∧ decode cX5_add 51 = .ok (.goto (-36), 3) ∧ decode cX5_add 54 = .ok (.iconst 1, 1) ∧ decode cX5_add 55 = .ok (.ireturn, 1) ∧ True := zj_of zk_112
abbrev dX5_add_38 := zr_112.1
abbrev dX5_add_39 := zr_112.2.1
abbrev dX5_add_40 := zr_112.2.2.1
abbrev dX5_add_43 := zr_112.2.2.2.1
abbrev dX5_add_44 := zr_112.2.2.2.2.1
abbrev dX5_add_45 := zr_112.2.2.2.2.2.1
abbrev dX5_add_48 := zr_112.2.2.2.2.2.2.1
abbrev dX5_add_51 := zr_112.2.2.2.2.2.2.2.1
abbrev dX5_add_54 := zr_112.2.2.2.2.2.2.2.2.1
abbrev dX5_add_55 := zr_112.2.2.2.2.2.2.2.2.2.1
set_option maxRecDepth 100000 in
theorem zk_113 : zck 0 (cX5_keep.data.toList.drop 0) [(0, .iload_n 1, 1), (1, .ifCond .lt 11, 3), (4, .iload_n 1, 1), (5, .aload_n 0, 1), (6, .getfield 13, 3), (9, .if_icmp .le 5, 3), (12, .iconst 0, 1), (13, .ireturn, 1), (14, .aload_n 0, 1), (15, .iload_n 1, 1), (16, .putfield 13, 3), (19, .iconst 1, 1)] = true := by decide +kernel
theorem zr_113 : decode cX5_keep 0 = .ok (.iload_n 1, 1) ∧ decode cX5_keep 1 = .ok (.ifCond .lt 11, 3) ∧ decode cX5_keep 4 = .ok (.iload_n 1, 1) ∧ decode cX5_keep 5 = .ok (.aload_n 0, 1) ∧ decode cX5_keep 6 = .ok (.getfield 13, 3) ∧ decode cX5_keep 9 = .ok (.if_icmp .le 5, 3) ∧ decode cX5_keep 12 = .ok (.iconst 0, 1) ∧ decode cX5_keep 13 = .ok (.ireturn, 1) ∧ decode cX5_keep 14 = .ok (.aload_n 0, 1) ∧ decode cX5_keep 15 = .ok (.iload_n 1, 1) ∧ decode cX5_keep 16 = .ok (.putfield 13, 3) ∧ decode cX5_keep 19 = .ok (.iconst 1, 1) ∧ True := zj_of zk_113
abbrev dX5_keep_0 := zr_113.1
abbrev dX5_keep_1 := zr_113.2.1
abbrev dX5_keep_4 := zr_113.2.2.1
abbrev dX5_keep_5 := zr_113.2.2.2.1
abbrev dX5_keep_6 := zr_113.2.2.2.2.1
abbrev dX5_keep_9 := zr_113.2.2.2.2.2.1
abbrev dX5_keep_12 := zr_113.2.2.2.2.2.2.1
abbrev dX5_keep_13 := zr_113.2.2.2.2.2.2.2.1
abbrev dX5_keep_14 := zr_113.2.2.2.2.2.2.2.2.1
abbrev dX5_keep_15 := zr_113.2.2.2.2.2.2.2.2.2.1
abbrev dX5_keep_16 := zr_113.2.2.2.2.2.2.2.2.2.2.1
abbrev dX5_keep_19 := zr_113.2.2.2.2.2.2.2.2.2.2.2.1
set_option maxRecDepth 100000 in
theorem zk_114 : zck 20 (cX5_keep.data.toList.drop 20) [(20, .ireturn, 1)] = true := by decide +kernel
theorem zr_114 : decode cX5_keep 20 = .ok (.ireturn, 1) ∧ True := zj_of zk_114
abbrev dX5_keep_20 := zr_114.1
set_option maxRecDepth 100000 in
theorem zk_115 : zck 0 (cX5_at.data.toList.drop 0) [(0, .iload_n 1, 1), (1, .ifCond .lt 20, 3), (4, .iload_n 1, 1), (5, .aload_n 0, 1), (6, .getfield 13, 3), (9, .if_icmp .ge 12, 3), (12, .aload_n 0, 1), (13, .getfield 9, 3), (16, .iload_n 1, 1), (17, .iaload, 1), (18, .goto 4, 3), (21, .iconst (-1), 1)] = true := by decide +kernel
theorem zr_115 : decode cX5_at 0 = .ok (.iload_n 1, 1) ∧ decode cX5_at 1 = .ok (.ifCond .lt 20, 3) ∧ decode cX5_at 4 = .ok (.iload_n 1, 1) ∧ decode cX5_at 5 = .ok (.aload_n 0, 1) ∧ decode cX5_at 6 = .ok (.getfield 13, 3) ∧ decode cX5_at 9 = .ok (.if_icmp .ge 12, 3) ∧ decode cX5_at 12 = .ok (.aload_n 0, 1) ∧ decode cX5_at 13 = .ok (.getfield 9, 3) ∧ decode cX5_at 16 = .ok (.iload_n 1, 1) ∧ decode cX5_at 17 = .ok (.iaload, 1) ∧ decode cX5_at 18 = .ok (.goto 4, 3) ∧ decode cX5_at 21 = .ok (.iconst (-1), 1) ∧ True := zj_of zk_115
abbrev dX5_at_0 := zr_115.1
abbrev dX5_at_1 := zr_115.2.1
abbrev dX5_at_4 := zr_115.2.2.1
abbrev dX5_at_5 := zr_115.2.2.2.1
abbrev dX5_at_6 := zr_115.2.2.2.2.1
abbrev dX5_at_9 := zr_115.2.2.2.2.2.1
abbrev dX5_at_12 := zr_115.2.2.2.2.2.2.1
abbrev dX5_at_13 := zr_115.2.2.2.2.2.2.2.1
abbrev dX5_at_16 := zr_115.2.2.2.2.2.2.2.2.1
abbrev dX5_at_17 := zr_115.2.2.2.2.2.2.2.2.2.1
abbrev dX5_at_18 := zr_115.2.2.2.2.2.2.2.2.2.2.1
abbrev dX5_at_21 := zr_115.2.2.2.2.2.2.2.2.2.2.2.1
set_option maxRecDepth 100000 in
theorem zk_116 : zck 22 (cX5_at.data.toList.drop 22) [(22, .ireturn, 1)] = true := by decide +kernel
theorem zr_116 : decode cX5_at 22 = .ok (.ireturn, 1) ∧ True := zj_of zk_116
abbrev dX5_at_22 := zr_116.1
set_option maxRecDepth 100000 in
theorem zk_117 : zck 0 (cX6_init.data.toList.drop 0) [(0, .aload_n 0, 1), (1, .invokespecial 3, 3), (4, .aload_n 0, 1), (5, .sipush 512, 3)] = true := by decide +kernel
theorem zr_117 : decode cX6_init 0 = .ok (.aload_n 0, 1) ∧ decode cX6_init 1 = .ok (.invokespecial 3, 3) ∧ decode cX6_init 4 = .ok (.aload_n 0, 1) ∧ decode cX6_init 5 = .ok (.sipush 512, 3) ∧ True := zj_of zk_117
abbrev dX6_init_0 := zr_117.1
abbrev dX6_init_1 := zr_117.2.1
abbrev dX6_init_4 := zr_117.2.2.1
abbrev dX6_init_5 := zr_117.2.2.2.1
set_option maxRecDepth 100000 in
theorem dX6_init_8 : decode cX6_init 8 = .ok (.newarray .int, 2) := by decide +kernel
set_option maxRecDepth 100000 in
theorem zk_118 : zck 10 (cX6_init.data.toList.drop 10) [(10, .putfield 9, 3), (13, .aload_n 0, 1), (14, .bipush 64, 2)] = true := by decide +kernel
theorem zr_118 : decode cX6_init 10 = .ok (.putfield 9, 3) ∧ decode cX6_init 13 = .ok (.aload_n 0, 1) ∧ decode cX6_init 14 = .ok (.bipush 64, 2) ∧ True := zj_of zk_118
abbrev dX6_init_10 := zr_118.1
abbrev dX6_init_13 := zr_118.2.1
abbrev dX6_init_14 := zr_118.2.2.1
set_option maxRecDepth 100000 in
theorem dX6_init_16 : decode cX6_init 16 = .ok (.newarray .int, 2) := by decide +kernel
set_option maxRecDepth 100000 in
theorem zk_119 : zck 18 (cX6_init.data.toList.drop 18) [(18, .putfield 15, 3), (21, .aload_n 0, 1), (22, .iconst 0, 1), (23, .putfield 18, 3), (26, .return_, 1)] = true := by decide +kernel
theorem zr_119 : decode cX6_init 18 = .ok (.putfield 15, 3) ∧ decode cX6_init 21 = .ok (.aload_n 0, 1) ∧ decode cX6_init 22 = .ok (.iconst 0, 1) ∧ decode cX6_init 23 = .ok (.putfield 18, 3) ∧ decode cX6_init 26 = .ok (.return_, 1) ∧ True := zj_of zk_119
abbrev dX6_init_18 := zr_119.1
abbrev dX6_init_21 := zr_119.2.1
abbrev dX6_init_22 := zr_119.2.2.1
abbrev dX6_init_23 := zr_119.2.2.2.1
abbrev dX6_init_26 := zr_119.2.2.2.2.1
set_option maxRecDepth 100000 in
theorem zk_120 : zck 0 (cX6_take.data.toList.drop 0) [(0, .aload_n 0, 1), (1, .getfield 9, 3), (4, .iconst 0, 1), (5, .invokestatic 22, 3), (8, .iload_n 2, 1), (9, .istore 4, 2), (11, .iload 4, 2), (13, .iload_n 3, 1), (14, .if_icmp .ge 49, 3), (17, .iconst 0, 1), (18, .istore 5, 2), (20, .iload 5, 2)] = true := by decide +kernel
theorem zr_120 : decode cX6_take 0 = .ok (.aload_n 0, 1) ∧ decode cX6_take 1 = .ok (.getfield 9, 3) ∧ decode cX6_take 4 = .ok (.iconst 0, 1) ∧ decode cX6_take 5 = .ok (.invokestatic 22, 3) ∧ decode cX6_take 8 = .ok (.iload_n 2, 1) ∧ decode cX6_take 9 = .ok (.istore 4, 2) ∧ decode cX6_take 11 = .ok (.iload 4, 2) ∧ decode cX6_take 13 = .ok (.iload_n 3, 1) ∧ decode cX6_take 14 = .ok (.if_icmp .ge 49, 3) ∧ decode cX6_take 17 = .ok (.iconst 0, 1) ∧ decode cX6_take 18 = .ok (.istore 5, 2) ∧ decode cX6_take 20 = .ok (.iload 5, 2) ∧ True := zj_of zk_120
abbrev dX6_take_0 := zr_120.1
abbrev dX6_take_1 := zr_120.2.1
abbrev dX6_take_4 := zr_120.2.2.1
abbrev dX6_take_5 := zr_120.2.2.2.1
abbrev dX6_take_8 := zr_120.2.2.2.2.1
abbrev dX6_take_9 := zr_120.2.2.2.2.2.1
abbrev dX6_take_11 := zr_120.2.2.2.2.2.2.1
abbrev dX6_take_13 := zr_120.2.2.2.2.2.2.2.1
abbrev dX6_take_14 := zr_120.2.2.2.2.2.2.2.2.1
abbrev dX6_take_17 := zr_120.2.2.2.2.2.2.2.2.2.1
abbrev dX6_take_18 := zr_120.2.2.2.2.2.2.2.2.2.2.1
abbrev dX6_take_20 := zr_120.2.2.2.2.2.2.2.2.2.2.2.1
set_option maxRecDepth 100000 in
theorem zk_121 : zck 22 (cX6_take.data.toList.drop 22) [(22, .bipush 8, 2), (24, .if_icmp .gt 33, 3), (27, .aload_n 0, 1), (28, .getfield 9, 3), (31, .iconst 1, 1), (32, .iload 5, 2), (34, .ishl, 1), (35, .aload_n 1, 1), (36, .iload 4, 2), (38, .iaload, 1), (39, .bipush 8, 2), (41, .iload 5, 2)] = true := by decide +kernel
theorem zr_121 : decode cX6_take 22 = .ok (.bipush 8, 2) ∧ decode cX6_take 24 = .ok (.if_icmp .gt 33, 3) ∧ decode cX6_take 27 = .ok (.aload_n 0, 1) ∧ decode cX6_take 28 = .ok (.getfield 9, 3) ∧ decode cX6_take 31 = .ok (.iconst 1, 1) ∧ decode cX6_take 32 = .ok (.iload 5, 2) ∧ decode cX6_take 34 = .ok (.ishl, 1) ∧ decode cX6_take 35 = .ok (.aload_n 1, 1) ∧ decode cX6_take 36 = .ok (.iload 4, 2) ∧ decode cX6_take 38 = .ok (.iaload, 1) ∧ decode cX6_take 39 = .ok (.bipush 8, 2) ∧ decode cX6_take 41 = .ok (.iload 5, 2) ∧ True := zj_of zk_121
abbrev dX6_take_22 := zr_121.1
abbrev dX6_take_24 := zr_121.2.1
abbrev dX6_take_27 := zr_121.2.2.1
abbrev dX6_take_28 := zr_121.2.2.2.1
abbrev dX6_take_31 := zr_121.2.2.2.2.1
abbrev dX6_take_32 := zr_121.2.2.2.2.2.1
abbrev dX6_take_34 := zr_121.2.2.2.2.2.2.1
abbrev dX6_take_35 := zr_121.2.2.2.2.2.2.2.1
abbrev dX6_take_36 := zr_121.2.2.2.2.2.2.2.2.1
abbrev dX6_take_38 := zr_121.2.2.2.2.2.2.2.2.2.1
abbrev dX6_take_39 := zr_121.2.2.2.2.2.2.2.2.2.2.1
abbrev dX6_take_41 := zr_121.2.2.2.2.2.2.2.2.2.2.2.1
set_option maxRecDepth 100000 in
theorem zk_122 : zck 43 (cX6_take.data.toList.drop 43) [(43, .isub, 1), (44, .ishr, 1), (45, .iadd, 1), (46, .dup2, 1), (47, .iaload, 1), (48, .iconst 1, 1), (49, .iadd, 1), (50, .iastore, 1), (51, .iinc 5 1, 3), (54, .goto (-34), 3), (57, .iinc 4 1, 3), (60, .goto (-49), 3)] = true := by decide +kernel
theorem zr_122 : decode cX6_take 43 = .ok (.isub, 1) ∧ decode cX6_take 44 = .ok (.ishr, 1) ∧ decode cX6_take 45 = .ok (.iadd, 1) ∧ decode cX6_take 46 = .ok (.dup2, 1) ∧ decode cX6_take 47 = .ok (.iaload, 1) ∧ decode cX6_take 48 = .ok (.iconst 1, 1) ∧ decode cX6_take 49 = .ok (.iadd, 1) ∧ decode cX6_take 50 = .ok (.iastore, 1) ∧ decode cX6_take 51 = .ok (.iinc 5 1, 3) ∧ decode cX6_take 54 = .ok (.goto (-34), 3) ∧ decode cX6_take 57 = .ok (.iinc 4 1, 3) ∧ decode cX6_take 60 = .ok (.goto (-49), 3) ∧ True := zj_of zk_122
abbrev dX6_take_43 := zr_122.1
abbrev dX6_take_44 := zr_122.2.1
abbrev dX6_take_45 := zr_122.2.2.1
abbrev dX6_take_46 := zr_122.2.2.2.1
abbrev dX6_take_47 := zr_122.2.2.2.2.1
abbrev dX6_take_48 := zr_122.2.2.2.2.2.1
abbrev dX6_take_49 := zr_122.2.2.2.2.2.2.1
abbrev dX6_take_50 := zr_122.2.2.2.2.2.2.2.1
abbrev dX6_take_51 := zr_122.2.2.2.2.2.2.2.2.1
abbrev dX6_take_54 := zr_122.2.2.2.2.2.2.2.2.2.1
abbrev dX6_take_57 := zr_122.2.2.2.2.2.2.2.2.2.2.1
abbrev dX6_take_60 := zr_122.2.2.2.2.2.2.2.2.2.2.2.1
set_option maxRecDepth 100000 in
theorem zk_123 : zck 63 (cX6_take.data.toList.drop 63) [(63, .aload_n 0, 1), (64, .invokevirtual 28, 3), (67, .return_, 1)] = true := by decide +kernel
theorem zr_123 : decode cX6_take 63 = .ok (.aload_n 0, 1) ∧ decode cX6_take 64 = .ok (.invokevirtual 28, 3) ∧ decode cX6_take 67 = .ok (.return_, 1) ∧ True := zj_of zk_123
abbrev dX6_take_63 := zr_123.1
abbrev dX6_take_64 := zr_123.2.1
abbrev dX6_take_67 := zr_123.2.2.1
set_option maxRecDepth 100000 in
theorem zk_124 : zck 0 (cX6_sort.data.toList.drop 0) [(0, .aload_n 0, 1), (1, .iconst 0, 1), (2, .putfield 18, 3), (5, .iconst 0, 1), (6, .istore_n 1, 1), (7, .iload_n 1, 1), (8, .sipush 255, 3), (11, .if_icmp .gt 60, 3), (14, .aload_n 0, 1), (15, .iload_n 1, 1), (16, .invokevirtual 31, 3), (19, .istore_n 2, 1)] = true := by decide +kernel
theorem zr_124 : decode cX6_sort 0 = .ok (.aload_n 0, 1) ∧ decode cX6_sort 1 = .ok (.iconst 0, 1) ∧ decode cX6_sort 2 = .ok (.putfield 18, 3) ∧ decode cX6_sort 5 = .ok (.iconst 0, 1) ∧ decode cX6_sort 6 = .ok (.istore_n 1, 1) ∧ decode cX6_sort 7 = .ok (.iload_n 1, 1) ∧ decode cX6_sort 8 = .ok (.sipush 255, 3) ∧ decode cX6_sort 11 = .ok (.if_icmp .gt 60, 3) ∧ decode cX6_sort 14 = .ok (.aload_n 0, 1) ∧ decode cX6_sort 15 = .ok (.iload_n 1, 1) ∧ decode cX6_sort 16 = .ok (.invokevirtual 31, 3) ∧ decode cX6_sort 19 = .ok (.istore_n 2, 1) ∧ True := zj_of zk_124
abbrev dX6_sort_0 := zr_124.1
abbrev dX6_sort_1 := zr_124.2.1
abbrev dX6_sort_2 := zr_124.2.2.1
abbrev dX6_sort_5 := zr_124.2.2.2.1
abbrev dX6_sort_6 := zr_124.2.2.2.2.1
abbrev dX6_sort_7 := zr_124.2.2.2.2.2.1
abbrev dX6_sort_8 := zr_124.2.2.2.2.2.2.1
abbrev dX6_sort_11 := zr_124.2.2.2.2.2.2.2.1
abbrev dX6_sort_14 := zr_124.2.2.2.2.2.2.2.2.1
abbrev dX6_sort_15 := zr_124.2.2.2.2.2.2.2.2.2.1
abbrev dX6_sort_16 := zr_124.2.2.2.2.2.2.2.2.2.2.1
abbrev dX6_sort_19 := zr_124.2.2.2.2.2.2.2.2.2.2.2.1
set_option maxRecDepth 100000 in
theorem zk_125 : zck 20 (cX6_sort.data.toList.drop 20) [(20, .iconst 0, 1), (21, .istore_n 3, 1), (22, .iload_n 3, 1), (23, .iload_n 2, 1), (24, .if_icmp .ge 41, 3), (27, .aload_n 0, 1), (28, .getfield 18, 3), (31, .aload_n 0, 1), (32, .getfield 15, 3), (35, .arraylength, 1), (36, .if_icmp .ge 29, 3), (39, .aload_n 0, 1)] = true := by decide +kernel
theorem zr_125 : decode cX6_sort 20 = .ok (.iconst 0, 1) ∧ decode cX6_sort 21 = .ok (.istore_n 3, 1) ∧ decode cX6_sort 22 = .ok (.iload_n 3, 1) ∧ decode cX6_sort 23 = .ok (.iload_n 2, 1) ∧ decode cX6_sort 24 = .ok (.if_icmp .ge 41, 3) ∧ decode cX6_sort 27 = .ok (.aload_n 0, 1) ∧ decode cX6_sort 28 = .ok (.getfield 18, 3) ∧ decode cX6_sort 31 = .ok (.aload_n 0, 1) ∧ decode cX6_sort 32 = .ok (.getfield 15, 3) ∧ decode cX6_sort 35 = .ok (.arraylength, 1) ∧ decode cX6_sort 36 = .ok (.if_icmp .ge 29, 3) ∧ decode cX6_sort 39 = .ok (.aload_n 0, 1) ∧ True := zj_of zk_125
abbrev dX6_sort_20 := zr_125.1
abbrev dX6_sort_21 := zr_125.2.1
abbrev dX6_sort_22 := zr_125.2.2.1
abbrev dX6_sort_23 := zr_125.2.2.2.1
abbrev dX6_sort_24 := zr_125.2.2.2.2.1
abbrev dX6_sort_27 := zr_125.2.2.2.2.2.1
abbrev dX6_sort_28 := zr_125.2.2.2.2.2.2.1
abbrev dX6_sort_31 := zr_125.2.2.2.2.2.2.2.1
abbrev dX6_sort_32 := zr_125.2.2.2.2.2.2.2.2.1
abbrev dX6_sort_35 := zr_125.2.2.2.2.2.2.2.2.2.1
abbrev dX6_sort_36 := zr_125.2.2.2.2.2.2.2.2.2.2.1
abbrev dX6_sort_39 := zr_125.2.2.2.2.2.2.2.2.2.2.2.1
set_option maxRecDepth 100000 in
theorem zk_126 : zck 40 (cX6_sort.data.toList.drop 40) [(40, .getfield 15, 3), (43, .aload_n 0, 1), (44, .getfield 18, 3), (47, .iload_n 1, 1), (48, .iastore, 1), (49, .aload_n 0, 1), (50, .dup, 1), (51, .getfield 18, 3), (54, .iconst 1, 1), (55, .iadd, 1), (56, .putfield 18, 3), (59, .iinc 3 1, 3)] = true := by decide +kernel
theorem zr_126 : decode cX6_sort 40 = .ok (.getfield 15, 3) ∧ decode cX6_sort 43 = .ok (.aload_n 0, 1) ∧ decode cX6_sort 44 = .ok (.getfield 18, 3) ∧ decode cX6_sort 47 = .ok (.iload_n 1, 1) ∧ decode cX6_sort 48 = .ok (.iastore, 1) ∧ decode cX6_sort 49 = .ok (.aload_n 0, 1) ∧ decode cX6_sort 50 = .ok (.dup, 1) ∧ decode cX6_sort 51 = .ok (.getfield 18, 3) ∧ decode cX6_sort 54 = .ok (.iconst 1, 1) ∧ decode cX6_sort 55 = .ok (.iadd, 1) ∧ decode cX6_sort 56 = .ok (.putfield 18, 3) ∧ decode cX6_sort 59 = .ok (.iinc 3 1, 3) ∧ True := zj_of zk_126
abbrev dX6_sort_40 := zr_126.1
abbrev dX6_sort_43 := zr_126.2.1
abbrev dX6_sort_44 := zr_126.2.2.1
abbrev dX6_sort_47 := zr_126.2.2.2.1
abbrev dX6_sort_48 := zr_126.2.2.2.2.1
abbrev dX6_sort_49 := zr_126.2.2.2.2.2.1
abbrev dX6_sort_50 := zr_126.2.2.2.2.2.2.1
abbrev dX6_sort_51 := zr_126.2.2.2.2.2.2.2.1
abbrev dX6_sort_54 := zr_126.2.2.2.2.2.2.2.2.1
abbrev dX6_sort_55 := zr_126.2.2.2.2.2.2.2.2.2.1
abbrev dX6_sort_56 := zr_126.2.2.2.2.2.2.2.2.2.2.1
abbrev dX6_sort_59 := zr_126.2.2.2.2.2.2.2.2.2.2.2.1
set_option maxRecDepth 100000 in
theorem zk_127 : zck 62 (cX6_sort.data.toList.drop 62) [(62, .goto (-40), 3), (65, .iinc 1 1, 3), (68, .goto (-61), 3), (71, .return_, 1)] = true := by decide +kernel
theorem zr_127 : decode cX6_sort 62 = .ok (.goto (-40), 3) ∧ decode cX6_sort 65 = .ok (.iinc 1 1, 3) ∧ decode cX6_sort 68 = .ok (.goto (-61), 3) ∧ decode cX6_sort 71 = .ok (.return_, 1) ∧ True := zj_of zk_127
abbrev dX6_sort_62 := zr_127.1
abbrev dX6_sort_65 := zr_127.2.1
abbrev dX6_sort_68 := zr_127.2.2.1
abbrev dX6_sort_71 := zr_127.2.2.2.1
set_option maxRecDepth 100000 in
theorem zk_128 : zck 0 (cX6_timesOf.data.toList.drop 0) [(0, .aload_n 0, 1), (1, .bipush 8, 2), (3, .iload_n 1, 1), (4, .invokevirtual 35, 3), (7, .ireturn, 1)] = true := by decide +kernel
theorem zr_128 : decode cX6_timesOf 0 = .ok (.aload_n 0, 1) ∧ decode cX6_timesOf 1 = .ok (.bipush 8, 2) ∧ decode cX6_timesOf 3 = .ok (.iload_n 1, 1) ∧ decode cX6_timesOf 4 = .ok (.invokevirtual 35, 3) ∧ decode cX6_timesOf 7 = .ok (.ireturn, 1) ∧ True := zj_of zk_128
abbrev dX6_timesOf_0 := zr_128.1
abbrev dX6_timesOf_1 := zr_128.2.1
abbrev dX6_timesOf_3 := zr_128.2.2.1
abbrev dX6_timesOf_4 := zr_128.2.2.2.1
abbrev dX6_timesOf_7 := zr_128.2.2.2.2.1
set_option maxRecDepth 100000 in
theorem zk_129 : zck 0 (cX6_inNode.data.toList.drop 0) [(0, .iload_n 1, 1), (1, .ifCond .lt 20, 3), (4, .iload_n 1, 1), (5, .bipush 8, 2), (7, .if_icmp .gt 14, 3), (10, .iload_n 2, 1), (11, .ifCond .lt 10, 3), (14, .iload_n 2, 1), (15, .iconst 1, 1), (16, .iload_n 1, 1), (17, .ishl, 1), (18, .if_icmp .lt 5, 3)] = true := by decide +kernel
theorem zr_129 : decode cX6_inNode 0 = .ok (.iload_n 1, 1) ∧ decode cX6_inNode 1 = .ok (.ifCond .lt 20, 3) ∧ decode cX6_inNode 4 = .ok (.iload_n 1, 1) ∧ decode cX6_inNode 5 = .ok (.bipush 8, 2) ∧ decode cX6_inNode 7 = .ok (.if_icmp .gt 14, 3) ∧ decode cX6_inNode 10 = .ok (.iload_n 2, 1) ∧ decode cX6_inNode 11 = .ok (.ifCond .lt 10, 3) ∧ decode cX6_inNode 14 = .ok (.iload_n 2, 1) ∧ decode cX6_inNode 15 = .ok (.iconst 1, 1) ∧ decode cX6_inNode 16 = .ok (.iload_n 1, 1) ∧ decode cX6_inNode 17 = .ok (.ishl, 1) ∧ decode cX6_inNode 18 = .ok (.if_icmp .lt 5, 3) ∧ True := zj_of zk_129
abbrev dX6_inNode_0 := zr_129.1
abbrev dX6_inNode_1 := zr_129.2.1
abbrev dX6_inNode_4 := zr_129.2.2.1
abbrev dX6_inNode_5 := zr_129.2.2.2.1
abbrev dX6_inNode_7 := zr_129.2.2.2.2.1
abbrev dX6_inNode_10 := zr_129.2.2.2.2.2.1
abbrev dX6_inNode_11 := zr_129.2.2.2.2.2.2.1
abbrev dX6_inNode_14 := zr_129.2.2.2.2.2.2.2.1
abbrev dX6_inNode_15 := zr_129.2.2.2.2.2.2.2.2.1
abbrev dX6_inNode_16 := zr_129.2.2.2.2.2.2.2.2.2.1
abbrev dX6_inNode_17 := zr_129.2.2.2.2.2.2.2.2.2.2.1
abbrev dX6_inNode_18 := zr_129.2.2.2.2.2.2.2.2.2.2.2.1
set_option maxRecDepth 100000 in
theorem zk_130 : zck 21 (cX6_inNode.data.toList.drop 21) [(21, .iconst 0, 1), (22, .ireturn, 1), (23, .aload_n 0, 1), (24, .getfield 9, 3), (27, .iconst 1, 1), (28, .iload_n 1, 1), (29, .ishl, 1), (30, .iload_n 2, 1), (31, .iadd, 1), (32, .iaload, 1), (33, .ireturn, 1)] = true := by decide +kernel
theorem zr_130 : decode cX6_inNode 21 = .ok (.iconst 0, 1) ∧ decode cX6_inNode 22 = .ok (.ireturn, 1) ∧ decode cX6_inNode 23 = .ok (.aload_n 0, 1) ∧ decode cX6_inNode 24 = .ok (.getfield 9, 3) ∧ decode cX6_inNode 27 = .ok (.iconst 1, 1) ∧ decode cX6_inNode 28 = .ok (.iload_n 1, 1) ∧ decode cX6_inNode 29 = .ok (.ishl, 1) ∧ decode cX6_inNode 30 = .ok (.iload_n 2, 1) ∧ decode cX6_inNode 31 = .ok (.iadd, 1) ∧ decode cX6_inNode 32 = .ok (.iaload, 1) ∧ decode cX6_inNode 33 = .ok (.ireturn, 1) ∧ True := zj_of zk_130
abbrev dX6_inNode_21 := zr_130.1
abbrev dX6_inNode_22 := zr_130.2.1
abbrev dX6_inNode_23 := zr_130.2.2.1
abbrev dX6_inNode_24 := zr_130.2.2.2.1
abbrev dX6_inNode_27 := zr_130.2.2.2.2.1
abbrev dX6_inNode_28 := zr_130.2.2.2.2.2.1
abbrev dX6_inNode_29 := zr_130.2.2.2.2.2.2.1
abbrev dX6_inNode_30 := zr_130.2.2.2.2.2.2.2.1
abbrev dX6_inNode_31 := zr_130.2.2.2.2.2.2.2.2.1
abbrev dX6_inNode_32 := zr_130.2.2.2.2.2.2.2.2.2.1
abbrev dX6_inNode_33 := zr_130.2.2.2.2.2.2.2.2.2.2.1
set_option maxRecDepth 100000 in
theorem zk_131 : zck 0 (cX6_sortedAt.data.toList.drop 0) [(0, .iload_n 1, 1), (1, .ifCond .lt 20, 3), (4, .iload_n 1, 1), (5, .aload_n 0, 1), (6, .getfield 18, 3), (9, .if_icmp .ge 12, 3), (12, .aload_n 0, 1), (13, .getfield 15, 3), (16, .iload_n 1, 1), (17, .iaload, 1), (18, .goto 4, 3), (21, .iconst (-1), 1)] = true := by decide +kernel
theorem zr_131 : decode cX6_sortedAt 0 = .ok (.iload_n 1, 1) ∧ decode cX6_sortedAt 1 = .ok (.ifCond .lt 20, 3) ∧ decode cX6_sortedAt 4 = .ok (.iload_n 1, 1) ∧ decode cX6_sortedAt 5 = .ok (.aload_n 0, 1) ∧ decode cX6_sortedAt 6 = .ok (.getfield 18, 3) ∧ decode cX6_sortedAt 9 = .ok (.if_icmp .ge 12, 3) ∧ decode cX6_sortedAt 12 = .ok (.aload_n 0, 1) ∧ decode cX6_sortedAt 13 = .ok (.getfield 15, 3) ∧ decode cX6_sortedAt 16 = .ok (.iload_n 1, 1) ∧ decode cX6_sortedAt 17 = .ok (.iaload, 1) ∧ decode cX6_sortedAt 18 = .ok (.goto 4, 3) ∧ decode cX6_sortedAt 21 = .ok (.iconst (-1), 1) ∧ True := zj_of zk_131
abbrev dX6_sortedAt_0 := zr_131.1
abbrev dX6_sortedAt_1 := zr_131.2.1
abbrev dX6_sortedAt_4 := zr_131.2.2.1
abbrev dX6_sortedAt_5 := zr_131.2.2.2.1
abbrev dX6_sortedAt_6 := zr_131.2.2.2.2.1
abbrev dX6_sortedAt_9 := zr_131.2.2.2.2.2.1
abbrev dX6_sortedAt_12 := zr_131.2.2.2.2.2.2.1
abbrev dX6_sortedAt_13 := zr_131.2.2.2.2.2.2.2.1
abbrev dX6_sortedAt_16 := zr_131.2.2.2.2.2.2.2.2.1
abbrev dX6_sortedAt_17 := zr_131.2.2.2.2.2.2.2.2.2.1
abbrev dX6_sortedAt_18 := zr_131.2.2.2.2.2.2.2.2.2.2.1
abbrev dX6_sortedAt_21 := zr_131.2.2.2.2.2.2.2.2.2.2.2.1
set_option maxRecDepth 100000 in
theorem zk_132 : zck 22 (cX6_sortedAt.data.toList.drop 22) [(22, .ireturn, 1)] = true := by decide +kernel
theorem zr_132 : decode cX6_sortedAt 22 = .ok (.ireturn, 1) ∧ True := zj_of zk_132
abbrev dX6_sortedAt_22 := zr_132.1
set_option maxRecDepth 100000 in
theorem zk_133 : zck 0 (cX6_nodesWith.data.toList.drop 0) [(0, .iconst 0, 1), (1, .istore_n 2, 1), (2, .iconst 1, 1), (3, .istore_n 3, 1), (4, .iload_n 3, 1), (5, .aload_n 0, 1), (6, .getfield 9, 3), (9, .arraylength, 1), (10, .if_icmp .ge 22, 3), (13, .aload_n 0, 1), (14, .getfield 9, 3), (17, .iload_n 3, 1)] = true := by decide +kernel
theorem zr_133 : decode cX6_nodesWith 0 = .ok (.iconst 0, 1) ∧ decode cX6_nodesWith 1 = .ok (.istore_n 2, 1) ∧ decode cX6_nodesWith 2 = .ok (.iconst 1, 1) ∧ decode cX6_nodesWith 3 = .ok (.istore_n 3, 1) ∧ decode cX6_nodesWith 4 = .ok (.iload_n 3, 1) ∧ decode cX6_nodesWith 5 = .ok (.aload_n 0, 1) ∧ decode cX6_nodesWith 6 = .ok (.getfield 9, 3) ∧ decode cX6_nodesWith 9 = .ok (.arraylength, 1) ∧ decode cX6_nodesWith 10 = .ok (.if_icmp .ge 22, 3) ∧ decode cX6_nodesWith 13 = .ok (.aload_n 0, 1) ∧ decode cX6_nodesWith 14 = .ok (.getfield 9, 3) ∧ decode cX6_nodesWith 17 = .ok (.iload_n 3, 1) ∧ True := zj_of zk_133
abbrev dX6_nodesWith_0 := zr_133.1
abbrev dX6_nodesWith_1 := zr_133.2.1
abbrev dX6_nodesWith_2 := zr_133.2.2.1
abbrev dX6_nodesWith_3 := zr_133.2.2.2.1
abbrev dX6_nodesWith_4 := zr_133.2.2.2.2.1
abbrev dX6_nodesWith_5 := zr_133.2.2.2.2.2.1
abbrev dX6_nodesWith_6 := zr_133.2.2.2.2.2.2.1
abbrev dX6_nodesWith_9 := zr_133.2.2.2.2.2.2.2.1
abbrev dX6_nodesWith_10 := zr_133.2.2.2.2.2.2.2.2.1
abbrev dX6_nodesWith_13 := zr_133.2.2.2.2.2.2.2.2.2.1
abbrev dX6_nodesWith_14 := zr_133.2.2.2.2.2.2.2.2.2.2.1
abbrev dX6_nodesWith_17 := zr_133.2.2.2.2.2.2.2.2.2.2.2.1
set_option maxRecDepth 100000 in
theorem zk_134 : zck 18 (cX6_nodesWith.data.toList.drop 18) [(18, .iaload, 1), (19, .iload_n 1, 1), (20, .if_icmp .lt 6, 3), (23, .iinc 2 1, 3), (26, .iinc 3 1, 3), (29, .goto (-25), 3), (32, .iload_n 2, 1), (33, .ireturn, 1)] = true := by decide +kernel
theorem zr_134 : decode cX6_nodesWith 18 = .ok (.iaload, 1) ∧ decode cX6_nodesWith 19 = .ok (.iload_n 1, 1) ∧ decode cX6_nodesWith 20 = .ok (.if_icmp .lt 6, 3) ∧ decode cX6_nodesWith 23 = .ok (.iinc 2 1, 3) ∧ decode cX6_nodesWith 26 = .ok (.iinc 3 1, 3) ∧ decode cX6_nodesWith 29 = .ok (.goto (-25), 3) ∧ decode cX6_nodesWith 32 = .ok (.iload_n 2, 1) ∧ decode cX6_nodesWith 33 = .ok (.ireturn, 1) ∧ True := zj_of zk_134
abbrev dX6_nodesWith_18 := zr_134.1
abbrev dX6_nodesWith_19 := zr_134.2.1
abbrev dX6_nodesWith_20 := zr_134.2.2.1
abbrev dX6_nodesWith_23 := zr_134.2.2.2.1
abbrev dX6_nodesWith_26 := zr_134.2.2.2.2.1
abbrev dX6_nodesWith_29 := zr_134.2.2.2.2.2.1
abbrev dX6_nodesWith_32 := zr_134.2.2.2.2.2.2.1
abbrev dX6_nodesWith_33 := zr_134.2.2.2.2.2.2.2.1
set_option maxRecDepth 100000 in
theorem zk_135 : zck 0 (cX6_nodesSharedWith.data.toList.drop 0) [(0, .iconst 0, 1), (1, .istore_n 2, 1), (2, .iconst 1, 1), (3, .istore_n 3, 1), (4, .iload_n 3, 1), (5, .aload_n 0, 1), (6, .getfield 9, 3), (9, .arraylength, 1), (10, .if_icmp .ge 30, 3), (13, .aload_n 0, 1), (14, .getfield 9, 3), (17, .iload_n 3, 1)] = true := by decide +kernel
theorem zr_135 : decode cX6_nodesSharedWith 0 = .ok (.iconst 0, 1) ∧ decode cX6_nodesSharedWith 1 = .ok (.istore_n 2, 1) ∧ decode cX6_nodesSharedWith 2 = .ok (.iconst 1, 1) ∧ decode cX6_nodesSharedWith 3 = .ok (.istore_n 3, 1) ∧ decode cX6_nodesSharedWith 4 = .ok (.iload_n 3, 1) ∧ decode cX6_nodesSharedWith 5 = .ok (.aload_n 0, 1) ∧ decode cX6_nodesSharedWith 6 = .ok (.getfield 9, 3) ∧ decode cX6_nodesSharedWith 9 = .ok (.arraylength, 1) ∧ decode cX6_nodesSharedWith 10 = .ok (.if_icmp .ge 30, 3) ∧ decode cX6_nodesSharedWith 13 = .ok (.aload_n 0, 1) ∧ decode cX6_nodesSharedWith 14 = .ok (.getfield 9, 3) ∧ decode cX6_nodesSharedWith 17 = .ok (.iload_n 3, 1) ∧ True := zj_of zk_135
abbrev dX6_nodesSharedWith_0 := zr_135.1
abbrev dX6_nodesSharedWith_1 := zr_135.2.1
abbrev dX6_nodesSharedWith_2 := zr_135.2.2.1
abbrev dX6_nodesSharedWith_3 := zr_135.2.2.2.1
abbrev dX6_nodesSharedWith_4 := zr_135.2.2.2.2.1
abbrev dX6_nodesSharedWith_5 := zr_135.2.2.2.2.2.1
abbrev dX6_nodesSharedWith_6 := zr_135.2.2.2.2.2.2.1
abbrev dX6_nodesSharedWith_9 := zr_135.2.2.2.2.2.2.2.1
abbrev dX6_nodesSharedWith_10 := zr_135.2.2.2.2.2.2.2.2.1
abbrev dX6_nodesSharedWith_13 := zr_135.2.2.2.2.2.2.2.2.2.1
abbrev dX6_nodesSharedWith_14 := zr_135.2.2.2.2.2.2.2.2.2.2.1
abbrev dX6_nodesSharedWith_17 := zr_135.2.2.2.2.2.2.2.2.2.2.2.1
set_option maxRecDepth 100000 in
theorem zk_136 : zck 18 (cX6_nodesSharedWith.data.toList.drop 18) [(18, .iaload, 1), (19, .ifCond .le 15, 3), (22, .aload_n 1, 1), (23, .getfield 9, 3), (26, .iload_n 3, 1), (27, .iaload, 1), (28, .ifCond .le 6, 3), (31, .iinc 2 1, 3), (34, .iinc 3 1, 3), (37, .goto (-33), 3), (40, .iload_n 2, 1), (41, .ireturn, 1)] = true := by decide +kernel
theorem zr_136 : decode cX6_nodesSharedWith 18 = .ok (.iaload, 1) ∧ decode cX6_nodesSharedWith 19 = .ok (.ifCond .le 15, 3) ∧ decode cX6_nodesSharedWith 22 = .ok (.aload_n 1, 1) ∧ decode cX6_nodesSharedWith 23 = .ok (.getfield 9, 3) ∧ decode cX6_nodesSharedWith 26 = .ok (.iload_n 3, 1) ∧ decode cX6_nodesSharedWith 27 = .ok (.iaload, 1) ∧ decode cX6_nodesSharedWith 28 = .ok (.ifCond .le 6, 3) ∧ decode cX6_nodesSharedWith 31 = .ok (.iinc 2 1, 3) ∧ decode cX6_nodesSharedWith 34 = .ok (.iinc 3 1, 3) ∧ decode cX6_nodesSharedWith 37 = .ok (.goto (-33), 3) ∧ decode cX6_nodesSharedWith 40 = .ok (.iload_n 2, 1) ∧ decode cX6_nodesSharedWith 41 = .ok (.ireturn, 1) ∧ True := zj_of zk_136
abbrev dX6_nodesSharedWith_18 := zr_136.1
abbrev dX6_nodesSharedWith_19 := zr_136.2.1
abbrev dX6_nodesSharedWith_22 := zr_136.2.2.1
abbrev dX6_nodesSharedWith_23 := zr_136.2.2.2.1
abbrev dX6_nodesSharedWith_26 := zr_136.2.2.2.2.1
abbrev dX6_nodesSharedWith_27 := zr_136.2.2.2.2.2.1
abbrev dX6_nodesSharedWith_28 := zr_136.2.2.2.2.2.2.1
abbrev dX6_nodesSharedWith_31 := zr_136.2.2.2.2.2.2.2.1
abbrev dX6_nodesSharedWith_34 := zr_136.2.2.2.2.2.2.2.2.1
abbrev dX6_nodesSharedWith_37 := zr_136.2.2.2.2.2.2.2.2.2.1
abbrev dX6_nodesSharedWith_40 := zr_136.2.2.2.2.2.2.2.2.2.2.1
abbrev dX6_nodesSharedWith_41 := zr_136.2.2.2.2.2.2.2.2.2.2.2.1
set_option maxRecDepth 100000 in
theorem zk_137 : zck 0 (cX6_visitsOfBand.data.toList.drop 0) [(0, .iconst 0, 1), (1, .istore_n 3, 1), (2, .iconst 0, 1), (3, .istore 4, 2), (5, .iload 4, 2), (7, .bipush 8, 2), (9, .if_icmp .gt 84, 3), (12, .bipush 8, 2), (14, .iload 4, 2), (16, .isub, 1), (17, .istore 5, 2), (19, .iload_n 1, 1)] = true := by decide +kernel
theorem zr_137 : decode cX6_visitsOfBand 0 = .ok (.iconst 0, 1) ∧ decode cX6_visitsOfBand 1 = .ok (.istore_n 3, 1) ∧ decode cX6_visitsOfBand 2 = .ok (.iconst 0, 1) ∧ decode cX6_visitsOfBand 3 = .ok (.istore 4, 2) ∧ decode cX6_visitsOfBand 5 = .ok (.iload 4, 2) ∧ decode cX6_visitsOfBand 7 = .ok (.bipush 8, 2) ∧ decode cX6_visitsOfBand 9 = .ok (.if_icmp .gt 84, 3) ∧ decode cX6_visitsOfBand 12 = .ok (.bipush 8, 2) ∧ decode cX6_visitsOfBand 14 = .ok (.iload 4, 2) ∧ decode cX6_visitsOfBand 16 = .ok (.isub, 1) ∧ decode cX6_visitsOfBand 17 = .ok (.istore 5, 2) ∧ decode cX6_visitsOfBand 19 = .ok (.iload_n 1, 1) ∧ True := zj_of zk_137
abbrev dX6_visitsOfBand_0 := zr_137.1
abbrev dX6_visitsOfBand_1 := zr_137.2.1
abbrev dX6_visitsOfBand_2 := zr_137.2.2.1
abbrev dX6_visitsOfBand_3 := zr_137.2.2.2.1
abbrev dX6_visitsOfBand_5 := zr_137.2.2.2.2.1
abbrev dX6_visitsOfBand_7 := zr_137.2.2.2.2.2.1
abbrev dX6_visitsOfBand_9 := zr_137.2.2.2.2.2.2.1
abbrev dX6_visitsOfBand_12 := zr_137.2.2.2.2.2.2.2.1
abbrev dX6_visitsOfBand_14 := zr_137.2.2.2.2.2.2.2.2.1
abbrev dX6_visitsOfBand_16 := zr_137.2.2.2.2.2.2.2.2.2.1
abbrev dX6_visitsOfBand_17 := zr_137.2.2.2.2.2.2.2.2.2.2.1
abbrev dX6_visitsOfBand_19 := zr_137.2.2.2.2.2.2.2.2.2.2.2.1
set_option maxRecDepth 100000 in
theorem zk_138 : zck 20 (cX6_visitsOfBand.data.toList.drop 20) [(20, .iload 5, 2), (22, .ishr, 1), (23, .istore 6, 2), (25, .iload 6, 2), (27, .iload_n 2, 1), (28, .iload 5, 2), (30, .ishr, 1), (31, .if_icmp .gt 56, 3), (34, .iload 4, 2), (36, .ifCond .eq 19, 3), (39, .iload 6, 2), (41, .iconst 1, 1)] = true := by decide +kernel
theorem zr_138 : decode cX6_visitsOfBand 20 = .ok (.iload 5, 2) ∧ decode cX6_visitsOfBand 22 = .ok (.ishr, 1) ∧ decode cX6_visitsOfBand 23 = .ok (.istore 6, 2) ∧ decode cX6_visitsOfBand 25 = .ok (.iload 6, 2) ∧ decode cX6_visitsOfBand 27 = .ok (.iload_n 2, 1) ∧ decode cX6_visitsOfBand 28 = .ok (.iload 5, 2) ∧ decode cX6_visitsOfBand 30 = .ok (.ishr, 1) ∧ decode cX6_visitsOfBand 31 = .ok (.if_icmp .gt 56, 3) ∧ decode cX6_visitsOfBand 34 = .ok (.iload 4, 2) ∧ decode cX6_visitsOfBand 36 = .ok (.ifCond .eq 19, 3) ∧ decode cX6_visitsOfBand 39 = .ok (.iload 6, 2) ∧ decode cX6_visitsOfBand 41 = .ok (.iconst 1, 1) ∧ True := zj_of zk_138
abbrev dX6_visitsOfBand_20 := zr_138.1
abbrev dX6_visitsOfBand_22 := zr_138.2.1
abbrev dX6_visitsOfBand_23 := zr_138.2.2.1
abbrev dX6_visitsOfBand_25 := zr_138.2.2.2.1
abbrev dX6_visitsOfBand_27 := zr_138.2.2.2.2.1
abbrev dX6_visitsOfBand_28 := zr_138.2.2.2.2.2.1
abbrev dX6_visitsOfBand_30 := zr_138.2.2.2.2.2.2.1
abbrev dX6_visitsOfBand_31 := zr_138.2.2.2.2.2.2.2.1
abbrev dX6_visitsOfBand_34 := zr_138.2.2.2.2.2.2.2.2.1
abbrev dX6_visitsOfBand_36 := zr_138.2.2.2.2.2.2.2.2.2.1
abbrev dX6_visitsOfBand_39 := zr_138.2.2.2.2.2.2.2.2.2.2.1
abbrev dX6_visitsOfBand_41 := zr_138.2.2.2.2.2.2.2.2.2.2.2.1
set_option maxRecDepth 100000 in
theorem zk_139 : zck 42 (cX6_visitsOfBand.data.toList.drop 42) [(42, .ishr, 1), (43, .iload 5, 2), (45, .iconst 1, 1), (46, .iadd, 1), (47, .iload_n 1, 1), (48, .iload_n 2, 1), (49, .invokestatic 39, 3), (52, .ifCond .ne 7, 3), (55, .iconst 1, 1), (56, .goto 4, 3), (59, .iconst 0, 1), (60, .istore 7, 2)] = true := by decide +kernel
theorem zr_139 : decode cX6_visitsOfBand 42 = .ok (.ishr, 1) ∧ decode cX6_visitsOfBand 43 = .ok (.iload 5, 2) ∧ decode cX6_visitsOfBand 45 = .ok (.iconst 1, 1) ∧ decode cX6_visitsOfBand 46 = .ok (.iadd, 1) ∧ decode cX6_visitsOfBand 47 = .ok (.iload_n 1, 1) ∧ decode cX6_visitsOfBand 48 = .ok (.iload_n 2, 1) ∧ decode cX6_visitsOfBand 49 = .ok (.invokestatic 39, 3) ∧ decode cX6_visitsOfBand 52 = .ok (.ifCond .ne 7, 3) ∧ decode cX6_visitsOfBand 55 = .ok (.iconst 1, 1) ∧ decode cX6_visitsOfBand 56 = .ok (.goto 4, 3) ∧ decode cX6_visitsOfBand 59 = .ok (.iconst 0, 1) ∧ decode cX6_visitsOfBand 60 = .ok (.istore 7, 2) ∧ True := zj_of zk_139
abbrev dX6_visitsOfBand_42 := zr_139.1
abbrev dX6_visitsOfBand_43 := zr_139.2.1
abbrev dX6_visitsOfBand_45 := zr_139.2.2.1
abbrev dX6_visitsOfBand_46 := zr_139.2.2.2.1
abbrev dX6_visitsOfBand_47 := zr_139.2.2.2.2.1
abbrev dX6_visitsOfBand_48 := zr_139.2.2.2.2.2.1
abbrev dX6_visitsOfBand_49 := zr_139.2.2.2.2.2.2.1
abbrev dX6_visitsOfBand_52 := zr_139.2.2.2.2.2.2.2.1
abbrev dX6_visitsOfBand_55 := zr_139.2.2.2.2.2.2.2.2.1
abbrev dX6_visitsOfBand_56 := zr_139.2.2.2.2.2.2.2.2.2.1
abbrev dX6_visitsOfBand_59 := zr_139.2.2.2.2.2.2.2.2.2.2.1
abbrev dX6_visitsOfBand_60 := zr_139.2.2.2.2.2.2.2.2.2.2.2.1
set_option maxRecDepth 100000 in
theorem zk_140 : zck 62 (cX6_visitsOfBand.data.toList.drop 62) [(62, .iload 7, 2), (64, .ifCond .eq 17, 3), (67, .aload_n 0, 1), (68, .iload 4, 2), (70, .iload 6, 2), (72, .invokevirtual 35, 3), (75, .ifCond .le 6, 3), (78, .iinc 3 1, 3), (81, .iinc 6 1, 3), (84, .goto (-59), 3), (87, .iinc 4 1, 3), (90, .goto (-85), 3)] = true := by decide +kernel
theorem zr_140 : decode cX6_visitsOfBand 62 = .ok (.iload 7, 2) ∧ decode cX6_visitsOfBand 64 = .ok (.ifCond .eq 17, 3) ∧ decode cX6_visitsOfBand 67 = .ok (.aload_n 0, 1) ∧ decode cX6_visitsOfBand 68 = .ok (.iload 4, 2) ∧ decode cX6_visitsOfBand 70 = .ok (.iload 6, 2) ∧ decode cX6_visitsOfBand 72 = .ok (.invokevirtual 35, 3) ∧ decode cX6_visitsOfBand 75 = .ok (.ifCond .le 6, 3) ∧ decode cX6_visitsOfBand 78 = .ok (.iinc 3 1, 3) ∧ decode cX6_visitsOfBand 81 = .ok (.iinc 6 1, 3) ∧ decode cX6_visitsOfBand 84 = .ok (.goto (-59), 3) ∧ decode cX6_visitsOfBand 87 = .ok (.iinc 4 1, 3) ∧ decode cX6_visitsOfBand 90 = .ok (.goto (-85), 3) ∧ True := zj_of zk_140
abbrev dX6_visitsOfBand_62 := zr_140.1
abbrev dX6_visitsOfBand_64 := zr_140.2.1
abbrev dX6_visitsOfBand_67 := zr_140.2.2.1
abbrev dX6_visitsOfBand_68 := zr_140.2.2.2.1
abbrev dX6_visitsOfBand_70 := zr_140.2.2.2.2.1
abbrev dX6_visitsOfBand_72 := zr_140.2.2.2.2.2.1
abbrev dX6_visitsOfBand_75 := zr_140.2.2.2.2.2.2.1
abbrev dX6_visitsOfBand_78 := zr_140.2.2.2.2.2.2.2.1
abbrev dX6_visitsOfBand_81 := zr_140.2.2.2.2.2.2.2.2.1
abbrev dX6_visitsOfBand_84 := zr_140.2.2.2.2.2.2.2.2.2.1
abbrev dX6_visitsOfBand_87 := zr_140.2.2.2.2.2.2.2.2.2.2.1
abbrev dX6_visitsOfBand_90 := zr_140.2.2.2.2.2.2.2.2.2.2.2.1
set_option maxRecDepth 100000 in
theorem zk_141 : zck 93 (cX6_visitsOfBand.data.toList.drop 93) [(93, .iload_n 3, 1), (94, .ireturn, 1)] = true := by decide +kernel
theorem zr_141 : decode cX6_visitsOfBand 93 = .ok (.iload_n 3, 1) ∧ decode cX6_visitsOfBand 94 = .ok (.ireturn, 1) ∧ True := zj_of zk_141
abbrev dX6_visitsOfBand_93 := zr_141.1
abbrev dX6_visitsOfBand_94 := zr_141.2.1
set_option maxRecDepth 100000 in
theorem zk_142 : zck 0 (cX6_isWithin.data.toList.drop 0) [(0, .iload_n 0, 1), (1, .iload_n 1, 1), (2, .ishl, 1), (3, .iload_n 2, 1), (4, .if_icmp .lt 18, 3), (7, .iload_n 0, 1), (8, .iconst 1, 1), (9, .iadd, 1), (10, .iload_n 1, 1), (11, .ishl, 1), (12, .iconst 1, 1), (13, .isub, 1)] = true := by decide +kernel
theorem zr_142 : decode cX6_isWithin 0 = .ok (.iload_n 0, 1) ∧ decode cX6_isWithin 1 = .ok (.iload_n 1, 1) ∧ decode cX6_isWithin 2 = .ok (.ishl, 1) ∧ decode cX6_isWithin 3 = .ok (.iload_n 2, 1) ∧ decode cX6_isWithin 4 = .ok (.if_icmp .lt 18, 3) ∧ decode cX6_isWithin 7 = .ok (.iload_n 0, 1) ∧ decode cX6_isWithin 8 = .ok (.iconst 1, 1) ∧ decode cX6_isWithin 9 = .ok (.iadd, 1) ∧ decode cX6_isWithin 10 = .ok (.iload_n 1, 1) ∧ decode cX6_isWithin 11 = .ok (.ishl, 1) ∧ decode cX6_isWithin 12 = .ok (.iconst 1, 1) ∧ decode cX6_isWithin 13 = .ok (.isub, 1) ∧ True := zj_of zk_142
abbrev dX6_isWithin_0 := zr_142.1
abbrev dX6_isWithin_1 := zr_142.2.1
abbrev dX6_isWithin_2 := zr_142.2.2.1
abbrev dX6_isWithin_3 := zr_142.2.2.2.1
abbrev dX6_isWithin_4 := zr_142.2.2.2.2.1
abbrev dX6_isWithin_7 := zr_142.2.2.2.2.2.1
abbrev dX6_isWithin_8 := zr_142.2.2.2.2.2.2.1
abbrev dX6_isWithin_9 := zr_142.2.2.2.2.2.2.2.1
abbrev dX6_isWithin_10 := zr_142.2.2.2.2.2.2.2.2.1
abbrev dX6_isWithin_11 := zr_142.2.2.2.2.2.2.2.2.2.1
abbrev dX6_isWithin_12 := zr_142.2.2.2.2.2.2.2.2.2.2.1
abbrev dX6_isWithin_13 := zr_142.2.2.2.2.2.2.2.2.2.2.2.1
set_option maxRecDepth 100000 in
theorem zk_143 : zck 14 (cX6_isWithin.data.toList.drop 14) [(14, .iload_n 3, 1), (15, .if_icmp .gt 7, 3), (18, .iconst 1, 1), (19, .goto 4, 3), (22, .iconst 0, 1), (23, .ireturn, 1)] = true := by decide +kernel
theorem zr_143 : decode cX6_isWithin 14 = .ok (.iload_n 3, 1) ∧ decode cX6_isWithin 15 = .ok (.if_icmp .gt 7, 3) ∧ decode cX6_isWithin 18 = .ok (.iconst 1, 1) ∧ decode cX6_isWithin 19 = .ok (.goto 4, 3) ∧ decode cX6_isWithin 22 = .ok (.iconst 0, 1) ∧ decode cX6_isWithin 23 = .ok (.ireturn, 1) ∧ True := zj_of zk_143
abbrev dX6_isWithin_14 := zr_143.1
abbrev dX6_isWithin_15 := zr_143.2.1
abbrev dX6_isWithin_18 := zr_143.2.2.1
abbrev dX6_isWithin_19 := zr_143.2.2.2.1
abbrev dX6_isWithin_22 := zr_143.2.2.2.2.1
abbrev dX6_isWithin_23 := zr_143.2.2.2.2.2.1
set_option maxRecDepth 100000 in
theorem zk_144 : zck 0 (cX7_init.data.toList.drop 0) [(0, .aload_n 0, 1), (1, .invokespecial 1, 3), (4, .aload_n 0, 1), (5, .bipush 64, 2)] = true := by decide +kernel
theorem zr_144 : decode cX7_init 0 = .ok (.aload_n 0, 1) ∧ decode cX7_init 1 = .ok (.invokespecial 1, 3) ∧ decode cX7_init 4 = .ok (.aload_n 0, 1) ∧ decode cX7_init 5 = .ok (.bipush 64, 2) ∧ True := zj_of zk_144
abbrev dX7_init_0 := zr_144.1
abbrev dX7_init_1 := zr_144.2.1
abbrev dX7_init_4 := zr_144.2.2.1
abbrev dX7_init_5 := zr_144.2.2.2.1
set_option maxRecDepth 100000 in
theorem dX7_init_7 : decode cX7_init 7 = .ok (.newarray .long, 2) := by decide +kernel
set_option maxRecDepth 100000 in
theorem zk_145 : zck 9 (cX7_init.data.toList.drop 9) [(9, .putfield 7, 3), (12, .aload_n 0, 1), (13, .iconst 0, 1), (14, .putfield 13, 3), (17, .return_, 1)] = true := by decide +kernel
theorem zr_145 : decode cX7_init 9 = .ok (.putfield 7, 3) ∧ decode cX7_init 12 = .ok (.aload_n 0, 1) ∧ decode cX7_init 13 = .ok (.iconst 0, 1) ∧ decode cX7_init 14 = .ok (.putfield 13, 3) ∧ decode cX7_init 17 = .ok (.return_, 1) ∧ True := zj_of zk_145
abbrev dX7_init_9 := zr_145.1
abbrev dX7_init_12 := zr_145.2.1
abbrev dX7_init_13 := zr_145.2.2.1
abbrev dX7_init_14 := zr_145.2.2.2.1
abbrev dX7_init_17 := zr_145.2.2.2.2.1
set_option maxRecDepth 100000 in
theorem zk_146 : zck 0 (cX7_begin.data.toList.drop 0) [(0, .aload_n 0, 1), (1, .iconst 0, 1), (2, .putfield 13, 3), (5, .return_, 1)] = true := by decide +kernel
theorem zr_146 : decode cX7_begin 0 = .ok (.aload_n 0, 1) ∧ decode cX7_begin 1 = .ok (.iconst 0, 1) ∧ decode cX7_begin 2 = .ok (.putfield 13, 3) ∧ decode cX7_begin 5 = .ok (.return_, 1) ∧ True := zj_of zk_146
abbrev dX7_begin_0 := zr_146.1
abbrev dX7_begin_1 := zr_146.2.1
abbrev dX7_begin_2 := zr_146.2.2.1
abbrev dX7_begin_5 := zr_146.2.2.2.1
set_option maxRecDepth 100000 in
theorem zk_147 : zck 0 (cX7_add.data.toList.drop 0) [(0, .aload_n 0, 1), (1, .getfield 13, 3), (4, .aload_n 0, 1), (5, .getfield 7, 3), (8, .arraylength, 1), (9, .if_icmp .ge 23, 3), (12, .aload_n 0, 1), (13, .getfield 7, 3), (16, .aload_n 0, 1), (17, .getfield 13, 3), (20, .lload_n 1, 1), (21, .lastore, 1)] = true := by decide +kernel
theorem zr_147 : decode cX7_add 0 = .ok (.aload_n 0, 1) ∧ decode cX7_add 1 = .ok (.getfield 13, 3) ∧ decode cX7_add 4 = .ok (.aload_n 0, 1) ∧ decode cX7_add 5 = .ok (.getfield 7, 3) ∧ decode cX7_add 8 = .ok (.arraylength, 1) ∧ decode cX7_add 9 = .ok (.if_icmp .ge 23, 3) ∧ decode cX7_add 12 = .ok (.aload_n 0, 1) ∧ decode cX7_add 13 = .ok (.getfield 7, 3) ∧ decode cX7_add 16 = .ok (.aload_n 0, 1) ∧ decode cX7_add 17 = .ok (.getfield 13, 3) ∧ decode cX7_add 20 = .ok (.lload_n 1, 1) ∧ decode cX7_add 21 = .ok (.lastore, 1) ∧ True := zj_of zk_147
abbrev dX7_add_0 := zr_147.1
abbrev dX7_add_1 := zr_147.2.1
abbrev dX7_add_4 := zr_147.2.2.1
abbrev dX7_add_5 := zr_147.2.2.2.1
abbrev dX7_add_8 := zr_147.2.2.2.2.1
abbrev dX7_add_9 := zr_147.2.2.2.2.2.1
abbrev dX7_add_12 := zr_147.2.2.2.2.2.2.1
abbrev dX7_add_13 := zr_147.2.2.2.2.2.2.2.1
abbrev dX7_add_16 := zr_147.2.2.2.2.2.2.2.2.1
abbrev dX7_add_17 := zr_147.2.2.2.2.2.2.2.2.2.1
abbrev dX7_add_20 := zr_147.2.2.2.2.2.2.2.2.2.2.1
abbrev dX7_add_21 := zr_147.2.2.2.2.2.2.2.2.2.2.2.1
set_option maxRecDepth 100000 in
theorem zk_148 : zck 22 (cX7_add.data.toList.drop 22) [(22, .aload_n 0, 1), (23, .dup, 1), (24, .getfield 13, 3), (27, .iconst 1, 1), (28, .iadd, 1), (29, .putfield 13, 3), (32, .return_, 1)] = true := by decide +kernel
theorem zr_148 : decode cX7_add 22 = .ok (.aload_n 0, 1) ∧ decode cX7_add 23 = .ok (.dup, 1) ∧ decode cX7_add 24 = .ok (.getfield 13, 3) ∧ decode cX7_add 27 = .ok (.iconst 1, 1) ∧ decode cX7_add 28 = .ok (.iadd, 1) ∧ decode cX7_add 29 = .ok (.putfield 13, 3) ∧ decode cX7_add 32 = .ok (.return_, 1) ∧ True := zj_of zk_148
abbrev dX7_add_22 := zr_148.1
abbrev dX7_add_23 := zr_148.2.1
abbrev dX7_add_24 := zr_148.2.2.1
abbrev dX7_add_27 := zr_148.2.2.2.1
abbrev dX7_add_28 := zr_148.2.2.2.2.1
abbrev dX7_add_29 := zr_148.2.2.2.2.2.1
abbrev dX7_add_32 := zr_148.2.2.2.2.2.2.1
set_option maxRecDepth 100000 in
theorem zk_149 : zck 0 (cX8_init.data.toList.drop 0) [(0, .aload_n 0, 1), (1, .invokespecial 1, 3), (4, .aload_n 0, 1), (5, .bipush 64, 2)] = true := by decide +kernel
theorem zr_149 : decode cX8_init 0 = .ok (.aload_n 0, 1) ∧ decode cX8_init 1 = .ok (.invokespecial 1, 3) ∧ decode cX8_init 4 = .ok (.aload_n 0, 1) ∧ decode cX8_init 5 = .ok (.bipush 64, 2) ∧ True := zj_of zk_149
abbrev dX8_init_0 := zr_149.1
abbrev dX8_init_1 := zr_149.2.1
abbrev dX8_init_4 := zr_149.2.2.1
abbrev dX8_init_5 := zr_149.2.2.2.1
set_option maxRecDepth 100000 in
theorem dX8_init_7 : decode cX8_init 7 = .ok (.newarray .int, 2) := by decide +kernel
set_option maxRecDepth 100000 in
theorem zk_150 : zck 9 (cX8_init.data.toList.drop 9) [(9, .putfield 9, 3), (12, .aload_n 0, 1), (13, .iconst 0, 1), (14, .putfield 13, 3), (17, .aload_n 0, 1), (18, .new 17, 3), (21, .dup, 1), (22, .invokespecial 19, 3), (25, .putfield 20, 3), (28, .aload_n 0, 1), (29, .new 24, 3), (32, .dup, 1)] = true := by decide +kernel
theorem zr_150 : decode cX8_init 9 = .ok (.putfield 9, 3) ∧ decode cX8_init 12 = .ok (.aload_n 0, 1) ∧ decode cX8_init 13 = .ok (.iconst 0, 1) ∧ decode cX8_init 14 = .ok (.putfield 13, 3) ∧ decode cX8_init 17 = .ok (.aload_n 0, 1) ∧ decode cX8_init 18 = .ok (.new 17, 3) ∧ decode cX8_init 21 = .ok (.dup, 1) ∧ decode cX8_init 22 = .ok (.invokespecial 19, 3) ∧ decode cX8_init 25 = .ok (.putfield 20, 3) ∧ decode cX8_init 28 = .ok (.aload_n 0, 1) ∧ decode cX8_init 29 = .ok (.new 24, 3) ∧ decode cX8_init 32 = .ok (.dup, 1) ∧ True := zj_of zk_150
abbrev dX8_init_9 := zr_150.1
abbrev dX8_init_12 := zr_150.2.1
abbrev dX8_init_13 := zr_150.2.2.1
abbrev dX8_init_14 := zr_150.2.2.2.1
abbrev dX8_init_17 := zr_150.2.2.2.2.1
abbrev dX8_init_18 := zr_150.2.2.2.2.2.1
abbrev dX8_init_21 := zr_150.2.2.2.2.2.2.1
abbrev dX8_init_22 := zr_150.2.2.2.2.2.2.2.1
abbrev dX8_init_25 := zr_150.2.2.2.2.2.2.2.2.1
abbrev dX8_init_28 := zr_150.2.2.2.2.2.2.2.2.2.1
abbrev dX8_init_29 := zr_150.2.2.2.2.2.2.2.2.2.2.1
abbrev dX8_init_32 := zr_150.2.2.2.2.2.2.2.2.2.2.2.1
set_option maxRecDepth 100000 in
theorem zk_151 : zck 33 (cX8_init.data.toList.drop 33) [(33, .invokespecial 26, 3), (36, .putfield 27, 3), (39, .aload_n 0, 1), (40, .new 31, 3), (43, .dup, 1), (44, .invokespecial 33, 3), (47, .putfield 34, 3), (50, .aload_n 0, 1), (51, .new 38, 3), (54, .dup, 1), (55, .invokespecial 40, 3), (58, .putfield 41, 3)] = true := by decide +kernel
theorem zr_151 : decode cX8_init 33 = .ok (.invokespecial 26, 3) ∧ decode cX8_init 36 = .ok (.putfield 27, 3) ∧ decode cX8_init 39 = .ok (.aload_n 0, 1) ∧ decode cX8_init 40 = .ok (.new 31, 3) ∧ decode cX8_init 43 = .ok (.dup, 1) ∧ decode cX8_init 44 = .ok (.invokespecial 33, 3) ∧ decode cX8_init 47 = .ok (.putfield 34, 3) ∧ decode cX8_init 50 = .ok (.aload_n 0, 1) ∧ decode cX8_init 51 = .ok (.new 38, 3) ∧ decode cX8_init 54 = .ok (.dup, 1) ∧ decode cX8_init 55 = .ok (.invokespecial 40, 3) ∧ decode cX8_init 58 = .ok (.putfield 41, 3) ∧ True := zj_of zk_151
abbrev dX8_init_33 := zr_151.1
abbrev dX8_init_36 := zr_151.2.1
abbrev dX8_init_39 := zr_151.2.2.1
abbrev dX8_init_40 := zr_151.2.2.2.1
abbrev dX8_init_43 := zr_151.2.2.2.2.1
abbrev dX8_init_44 := zr_151.2.2.2.2.2.1
abbrev dX8_init_47 := zr_151.2.2.2.2.2.2.1
abbrev dX8_init_50 := zr_151.2.2.2.2.2.2.2.1
abbrev dX8_init_51 := zr_151.2.2.2.2.2.2.2.2.1
abbrev dX8_init_54 := zr_151.2.2.2.2.2.2.2.2.2.1
abbrev dX8_init_55 := zr_151.2.2.2.2.2.2.2.2.2.2.1
abbrev dX8_init_58 := zr_151.2.2.2.2.2.2.2.2.2.2.2.1
set_option maxRecDepth 100000 in
theorem zk_152 : zck 61 (cX8_init.data.toList.drop 61) [(61, .aload_n 0, 1), (62, .new 38, 3), (65, .dup, 1), (66, .invokespecial 40, 3), (69, .putfield 45, 3), (72, .aload_n 0, 1), (73, .new 48, 3), (76, .dup, 1), (77, .invokespecial 50, 3), (80, .putfield 51, 3), (83, .aload_n 0, 1), (84, .new 55, 3)] = true := by decide +kernel
theorem zr_152 : decode cX8_init 61 = .ok (.aload_n 0, 1) ∧ decode cX8_init 62 = .ok (.new 38, 3) ∧ decode cX8_init 65 = .ok (.dup, 1) ∧ decode cX8_init 66 = .ok (.invokespecial 40, 3) ∧ decode cX8_init 69 = .ok (.putfield 45, 3) ∧ decode cX8_init 72 = .ok (.aload_n 0, 1) ∧ decode cX8_init 73 = .ok (.new 48, 3) ∧ decode cX8_init 76 = .ok (.dup, 1) ∧ decode cX8_init 77 = .ok (.invokespecial 50, 3) ∧ decode cX8_init 80 = .ok (.putfield 51, 3) ∧ decode cX8_init 83 = .ok (.aload_n 0, 1) ∧ decode cX8_init 84 = .ok (.new 55, 3) ∧ True := zj_of zk_152
abbrev dX8_init_61 := zr_152.1
abbrev dX8_init_62 := zr_152.2.1
abbrev dX8_init_65 := zr_152.2.2.1
abbrev dX8_init_66 := zr_152.2.2.2.1
abbrev dX8_init_69 := zr_152.2.2.2.2.1
abbrev dX8_init_72 := zr_152.2.2.2.2.2.1
abbrev dX8_init_73 := zr_152.2.2.2.2.2.2.1
abbrev dX8_init_76 := zr_152.2.2.2.2.2.2.2.1
abbrev dX8_init_77 := zr_152.2.2.2.2.2.2.2.2.1
abbrev dX8_init_80 := zr_152.2.2.2.2.2.2.2.2.2.1
abbrev dX8_init_83 := zr_152.2.2.2.2.2.2.2.2.2.2.1
abbrev dX8_init_84 := zr_152.2.2.2.2.2.2.2.2.2.2.2.1
set_option maxRecDepth 100000 in
theorem zk_153 : zck 87 (cX8_init.data.toList.drop 87) [(87, .dup, 1), (88, .invokespecial 57, 3), (91, .putfield 58, 3), (94, .aload_n 0, 1), (95, .new 62, 3), (98, .dup, 1), (99, .invokespecial 64, 3), (102, .putfield 65, 3), (105, .aload_n 0, 1), (106, .new 69, 3), (109, .dup, 1), (110, .invokespecial 71, 3)] = true := by decide +kernel
theorem zr_153 : decode cX8_init 87 = .ok (.dup, 1) ∧ decode cX8_init 88 = .ok (.invokespecial 57, 3) ∧ decode cX8_init 91 = .ok (.putfield 58, 3) ∧ decode cX8_init 94 = .ok (.aload_n 0, 1) ∧ decode cX8_init 95 = .ok (.new 62, 3) ∧ decode cX8_init 98 = .ok (.dup, 1) ∧ decode cX8_init 99 = .ok (.invokespecial 64, 3) ∧ decode cX8_init 102 = .ok (.putfield 65, 3) ∧ decode cX8_init 105 = .ok (.aload_n 0, 1) ∧ decode cX8_init 106 = .ok (.new 69, 3) ∧ decode cX8_init 109 = .ok (.dup, 1) ∧ decode cX8_init 110 = .ok (.invokespecial 71, 3) ∧ True := zj_of zk_153
abbrev dX8_init_87 := zr_153.1
abbrev dX8_init_88 := zr_153.2.1
abbrev dX8_init_91 := zr_153.2.2.1
abbrev dX8_init_94 := zr_153.2.2.2.1
abbrev dX8_init_95 := zr_153.2.2.2.2.1
abbrev dX8_init_98 := zr_153.2.2.2.2.2.1
abbrev dX8_init_99 := zr_153.2.2.2.2.2.2.1
abbrev dX8_init_102 := zr_153.2.2.2.2.2.2.2.1
abbrev dX8_init_105 := zr_153.2.2.2.2.2.2.2.2.1
abbrev dX8_init_106 := zr_153.2.2.2.2.2.2.2.2.2.1
abbrev dX8_init_109 := zr_153.2.2.2.2.2.2.2.2.2.2.1
abbrev dX8_init_110 := zr_153.2.2.2.2.2.2.2.2.2.2.2.1
set_option maxRecDepth 100000 in
theorem zk_154 : zck 113 (cX8_init.data.toList.drop 113) [(113, .putfield 72, 3), (116, .return_, 1)] = true := by decide +kernel
theorem zr_154 : decode cX8_init 113 = .ok (.putfield 72, 3) ∧ decode cX8_init 116 = .ok (.return_, 1) ∧ True := zj_of zk_154
abbrev dX8_init_113 := zr_154.1
abbrev dX8_init_116 := zr_154.2.1
set_option maxRecDepth 100000 in
theorem zk_155 : zck 0 (cX8_column.data.toList.drop 0) [(0, .aload_n 0, 1), (1, .getfield 51, 3), (4, .aload_n 0, 1), (5, .getfield 27, 3), (8, .invokevirtual 76, 3), (11, .istore_n 1, 1), (12, .aload_n 0, 1), (13, .getfield 27, 3), (16, .iconst 0, 1), (17, .invokevirtual 80, 3), (20, .pop, 1), (21, .iload_n 1, 1)] = true := by decide +kernel
theorem zr_155 : decode cX8_column 0 = .ok (.aload_n 0, 1) ∧ decode cX8_column 1 = .ok (.getfield 51, 3) ∧ decode cX8_column 4 = .ok (.aload_n 0, 1) ∧ decode cX8_column 5 = .ok (.getfield 27, 3) ∧ decode cX8_column 8 = .ok (.invokevirtual 76, 3) ∧ decode cX8_column 11 = .ok (.istore_n 1, 1) ∧ decode cX8_column 12 = .ok (.aload_n 0, 1) ∧ decode cX8_column 13 = .ok (.getfield 27, 3) ∧ decode cX8_column 16 = .ok (.iconst 0, 1) ∧ decode cX8_column 17 = .ok (.invokevirtual 80, 3) ∧ decode cX8_column 20 = .ok (.pop, 1) ∧ decode cX8_column 21 = .ok (.iload_n 1, 1) ∧ True := zj_of zk_155
abbrev dX8_column_0 := zr_155.1
abbrev dX8_column_1 := zr_155.2.1
abbrev dX8_column_4 := zr_155.2.2.1
abbrev dX8_column_5 := zr_155.2.2.2.1
abbrev dX8_column_8 := zr_155.2.2.2.2.1
abbrev dX8_column_11 := zr_155.2.2.2.2.2.1
abbrev dX8_column_12 := zr_155.2.2.2.2.2.2.1
abbrev dX8_column_13 := zr_155.2.2.2.2.2.2.2.1
abbrev dX8_column_16 := zr_155.2.2.2.2.2.2.2.2.1
abbrev dX8_column_17 := zr_155.2.2.2.2.2.2.2.2.2.1
abbrev dX8_column_20 := zr_155.2.2.2.2.2.2.2.2.2.2.1
abbrev dX8_column_21 := zr_155.2.2.2.2.2.2.2.2.2.2.2.1
set_option maxRecDepth 100000 in
theorem zk_156 : zck 22 (cX8_column.data.toList.drop 22) [(22, .iconst (-1), 1), (23, .if_icmp .eq 7, 3), (26, .iconst (-1), 1), (27, .iload_n 1, 1), (28, .isub, 1), (29, .ireturn, 1), (30, .aload_n 0, 1), (31, .aload_n 0, 1), (32, .getfield 51, 3), (35, .getfield 84, 3), (38, .putfield 13, 3), (41, .aload_n 0, 1)] = true := by decide +kernel
theorem zr_156 : decode cX8_column 22 = .ok (.iconst (-1), 1) ∧ decode cX8_column 23 = .ok (.if_icmp .eq 7, 3) ∧ decode cX8_column 26 = .ok (.iconst (-1), 1) ∧ decode cX8_column 27 = .ok (.iload_n 1, 1) ∧ decode cX8_column 28 = .ok (.isub, 1) ∧ decode cX8_column 29 = .ok (.ireturn, 1) ∧ decode cX8_column 30 = .ok (.aload_n 0, 1) ∧ decode cX8_column 31 = .ok (.aload_n 0, 1) ∧ decode cX8_column 32 = .ok (.getfield 51, 3) ∧ decode cX8_column 35 = .ok (.getfield 84, 3) ∧ decode cX8_column 38 = .ok (.putfield 13, 3) ∧ decode cX8_column 41 = .ok (.aload_n 0, 1) ∧ True := zj_of zk_156
abbrev dX8_column_22 := zr_156.1
abbrev dX8_column_23 := zr_156.2.1
abbrev dX8_column_26 := zr_156.2.2.1
abbrev dX8_column_27 := zr_156.2.2.2.1
abbrev dX8_column_28 := zr_156.2.2.2.2.1
abbrev dX8_column_29 := zr_156.2.2.2.2.2.1
abbrev dX8_column_30 := zr_156.2.2.2.2.2.2.1
abbrev dX8_column_31 := zr_156.2.2.2.2.2.2.2.1
abbrev dX8_column_32 := zr_156.2.2.2.2.2.2.2.2.1
abbrev dX8_column_35 := zr_156.2.2.2.2.2.2.2.2.2.1
abbrev dX8_column_38 := zr_156.2.2.2.2.2.2.2.2.2.2.1
abbrev dX8_column_41 := zr_156.2.2.2.2.2.2.2.2.2.2.2.1
set_option maxRecDepth 100000 in
theorem zk_157 : zck 42 (cX8_column.data.toList.drop 42) [(42, .getfield 51, 3), (45, .getfield 85, 3), (48, .iconst 0, 1), (49, .aload_n 0, 1), (50, .getfield 9, 3), (53, .iconst 0, 1), (54, .aload_n 0, 1), (55, .getfield 13, 3), (58, .invokestatic 86, 3), (61, .aload_n 0, 1), (62, .invokevirtual 92, 3), (65, .pop, 1)] = true := by decide +kernel
theorem zr_157 : decode cX8_column 42 = .ok (.getfield 51, 3) ∧ decode cX8_column 45 = .ok (.getfield 85, 3) ∧ decode cX8_column 48 = .ok (.iconst 0, 1) ∧ decode cX8_column 49 = .ok (.aload_n 0, 1) ∧ decode cX8_column 50 = .ok (.getfield 9, 3) ∧ decode cX8_column 53 = .ok (.iconst 0, 1) ∧ decode cX8_column 54 = .ok (.aload_n 0, 1) ∧ decode cX8_column 55 = .ok (.getfield 13, 3) ∧ decode cX8_column 58 = .ok (.invokestatic 86, 3) ∧ decode cX8_column 61 = .ok (.aload_n 0, 1) ∧ decode cX8_column 62 = .ok (.invokevirtual 92, 3) ∧ decode cX8_column 65 = .ok (.pop, 1) ∧ True := zj_of zk_157
abbrev dX8_column_42 := zr_157.1
abbrev dX8_column_45 := zr_157.2.1
abbrev dX8_column_48 := zr_157.2.2.1
abbrev dX8_column_49 := zr_157.2.2.2.1
abbrev dX8_column_50 := zr_157.2.2.2.2.1
abbrev dX8_column_53 := zr_157.2.2.2.2.2.1
abbrev dX8_column_54 := zr_157.2.2.2.2.2.2.1
abbrev dX8_column_55 := zr_157.2.2.2.2.2.2.2.1
abbrev dX8_column_58 := zr_157.2.2.2.2.2.2.2.2.1
abbrev dX8_column_61 := zr_157.2.2.2.2.2.2.2.2.2.1
abbrev dX8_column_62 := zr_157.2.2.2.2.2.2.2.2.2.2.1
abbrev dX8_column_65 := zr_157.2.2.2.2.2.2.2.2.2.2.2.1
set_option maxRecDepth 100000 in
theorem zk_158 : zck 66 (cX8_column.data.toList.drop 66) [(66, .aload_n 0, 1), (67, .getfield 13, 3), (70, .ireturn, 1)] = true := by decide +kernel
theorem zr_158 : decode cX8_column 66 = .ok (.aload_n 0, 1) ∧ decode cX8_column 67 = .ok (.getfield 13, 3) ∧ decode cX8_column 70 = .ok (.ireturn, 1) ∧ True := zj_of zk_158
abbrev dX8_column_66 := zr_158.1
abbrev dX8_column_67 := zr_158.2.1
abbrev dX8_column_70 := zr_158.2.2.1
set_option maxRecDepth 100000 in
theorem zk_159 : zck 0 (cX8_planes.data.toList.drop 0) [(0, .aload_n 0, 1), (1, .getfield 58, 3), (4, .aload_n 0, 1), (5, .getfield 27, 3), (8, .invokevirtual 96, 3), (11, .istore_n 1, 1), (12, .aload_n 0, 1), (13, .getfield 27, 3), (16, .iconst 0, 1), (17, .invokevirtual 80, 3), (20, .pop, 1), (21, .iload_n 1, 1)] = true := by decide +kernel
theorem zr_159 : decode cX8_planes 0 = .ok (.aload_n 0, 1) ∧ decode cX8_planes 1 = .ok (.getfield 58, 3) ∧ decode cX8_planes 4 = .ok (.aload_n 0, 1) ∧ decode cX8_planes 5 = .ok (.getfield 27, 3) ∧ decode cX8_planes 8 = .ok (.invokevirtual 96, 3) ∧ decode cX8_planes 11 = .ok (.istore_n 1, 1) ∧ decode cX8_planes 12 = .ok (.aload_n 0, 1) ∧ decode cX8_planes 13 = .ok (.getfield 27, 3) ∧ decode cX8_planes 16 = .ok (.iconst 0, 1) ∧ decode cX8_planes 17 = .ok (.invokevirtual 80, 3) ∧ decode cX8_planes 20 = .ok (.pop, 1) ∧ decode cX8_planes 21 = .ok (.iload_n 1, 1) ∧ True := zj_of zk_159
abbrev dX8_planes_0 := zr_159.1
abbrev dX8_planes_1 := zr_159.2.1
abbrev dX8_planes_4 := zr_159.2.2.1
abbrev dX8_planes_5 := zr_159.2.2.2.1
abbrev dX8_planes_8 := zr_159.2.2.2.2.1
abbrev dX8_planes_11 := zr_159.2.2.2.2.2.1
abbrev dX8_planes_12 := zr_159.2.2.2.2.2.2.1
abbrev dX8_planes_13 := zr_159.2.2.2.2.2.2.2.1
abbrev dX8_planes_16 := zr_159.2.2.2.2.2.2.2.2.1
abbrev dX8_planes_17 := zr_159.2.2.2.2.2.2.2.2.2.1
abbrev dX8_planes_20 := zr_159.2.2.2.2.2.2.2.2.2.2.1
abbrev dX8_planes_21 := zr_159.2.2.2.2.2.2.2.2.2.2.2.1
set_option maxRecDepth 100000 in
theorem zk_160 : zck 22 (cX8_planes.data.toList.drop 22) [(22, .iconst (-1), 1), (23, .if_icmp .eq 7, 3), (26, .iconst (-1), 1), (27, .iload_n 1, 1), (28, .isub, 1), (29, .ireturn, 1), (30, .aload_n 0, 1), (31, .aload_n 0, 1), (32, .getfield 58, 3), (35, .getfield 97, 3), (38, .putfield 13, 3), (41, .iconst 0, 1)] = true := by decide +kernel
theorem zr_160 : decode cX8_planes 22 = .ok (.iconst (-1), 1) ∧ decode cX8_planes 23 = .ok (.if_icmp .eq 7, 3) ∧ decode cX8_planes 26 = .ok (.iconst (-1), 1) ∧ decode cX8_planes 27 = .ok (.iload_n 1, 1) ∧ decode cX8_planes 28 = .ok (.isub, 1) ∧ decode cX8_planes 29 = .ok (.ireturn, 1) ∧ decode cX8_planes 30 = .ok (.aload_n 0, 1) ∧ decode cX8_planes 31 = .ok (.aload_n 0, 1) ∧ decode cX8_planes 32 = .ok (.getfield 58, 3) ∧ decode cX8_planes 35 = .ok (.getfield 97, 3) ∧ decode cX8_planes 38 = .ok (.putfield 13, 3) ∧ decode cX8_planes 41 = .ok (.iconst 0, 1) ∧ True := zj_of zk_160
abbrev dX8_planes_22 := zr_160.1
abbrev dX8_planes_23 := zr_160.2.1
abbrev dX8_planes_26 := zr_160.2.2.1
abbrev dX8_planes_27 := zr_160.2.2.2.1
abbrev dX8_planes_28 := zr_160.2.2.2.2.1
abbrev dX8_planes_29 := zr_160.2.2.2.2.2.1
abbrev dX8_planes_30 := zr_160.2.2.2.2.2.2.1
abbrev dX8_planes_31 := zr_160.2.2.2.2.2.2.2.1
abbrev dX8_planes_32 := zr_160.2.2.2.2.2.2.2.2.1
abbrev dX8_planes_35 := zr_160.2.2.2.2.2.2.2.2.2.1
abbrev dX8_planes_38 := zr_160.2.2.2.2.2.2.2.2.2.2.1
abbrev dX8_planes_41 := zr_160.2.2.2.2.2.2.2.2.2.2.2.1
set_option maxRecDepth 100000 in
theorem zk_161 : zck 42 (cX8_planes.data.toList.drop 42) [(42, .istore_n 2, 1), (43, .iload_n 2, 1), (44, .aload_n 0, 1), (45, .getfield 13, 3), (48, .if_icmp .ge 30, 3), (51, .aload_n 0, 1), (52, .getfield 9, 3), (55, .iload_n 2, 1), (56, .aload_n 0, 1), (57, .getfield 58, 3), (60, .getfield 100, 3), (63, .aload_n 0, 1)] = true := by decide +kernel
theorem zr_161 : decode cX8_planes 42 = .ok (.istore_n 2, 1) ∧ decode cX8_planes 43 = .ok (.iload_n 2, 1) ∧ decode cX8_planes 44 = .ok (.aload_n 0, 1) ∧ decode cX8_planes 45 = .ok (.getfield 13, 3) ∧ decode cX8_planes 48 = .ok (.if_icmp .ge 30, 3) ∧ decode cX8_planes 51 = .ok (.aload_n 0, 1) ∧ decode cX8_planes 52 = .ok (.getfield 9, 3) ∧ decode cX8_planes 55 = .ok (.iload_n 2, 1) ∧ decode cX8_planes 56 = .ok (.aload_n 0, 1) ∧ decode cX8_planes 57 = .ok (.getfield 58, 3) ∧ decode cX8_planes 60 = .ok (.getfield 100, 3) ∧ decode cX8_planes 63 = .ok (.aload_n 0, 1) ∧ True := zj_of zk_161
abbrev dX8_planes_42 := zr_161.1
abbrev dX8_planes_43 := zr_161.2.1
abbrev dX8_planes_44 := zr_161.2.2.1
abbrev dX8_planes_45 := zr_161.2.2.2.1
abbrev dX8_planes_48 := zr_161.2.2.2.2.1
abbrev dX8_planes_51 := zr_161.2.2.2.2.2.1
abbrev dX8_planes_52 := zr_161.2.2.2.2.2.2.1
abbrev dX8_planes_55 := zr_161.2.2.2.2.2.2.2.1
abbrev dX8_planes_56 := zr_161.2.2.2.2.2.2.2.2.1
abbrev dX8_planes_57 := zr_161.2.2.2.2.2.2.2.2.2.1
abbrev dX8_planes_60 := zr_161.2.2.2.2.2.2.2.2.2.2.1
abbrev dX8_planes_63 := zr_161.2.2.2.2.2.2.2.2.2.2.2.1
set_option maxRecDepth 100000 in
theorem zk_162 : zck 64 (cX8_planes.data.toList.drop 64) [(64, .getfield 13, 3), (67, .iload_n 2, 1), (68, .invokestatic 104, 3), (71, .iastore, 1), (72, .iinc 2 1, 3), (75, .goto (-32), 3), (78, .aload_n 0, 1), (79, .invokevirtual 92, 3), (82, .pop, 1), (83, .aload_n 0, 1), (84, .getfield 13, 3), (87, .ireturn, 1)] = true := by decide +kernel
theorem zr_162 : decode cX8_planes 64 = .ok (.getfield 13, 3) ∧ decode cX8_planes 67 = .ok (.iload_n 2, 1) ∧ decode cX8_planes 68 = .ok (.invokestatic 104, 3) ∧ decode cX8_planes 71 = .ok (.iastore, 1) ∧ decode cX8_planes 72 = .ok (.iinc 2 1, 3) ∧ decode cX8_planes 75 = .ok (.goto (-32), 3) ∧ decode cX8_planes 78 = .ok (.aload_n 0, 1) ∧ decode cX8_planes 79 = .ok (.invokevirtual 92, 3) ∧ decode cX8_planes 82 = .ok (.pop, 1) ∧ decode cX8_planes 83 = .ok (.aload_n 0, 1) ∧ decode cX8_planes 84 = .ok (.getfield 13, 3) ∧ decode cX8_planes 87 = .ok (.ireturn, 1) ∧ True := zj_of zk_162
abbrev dX8_planes_64 := zr_162.1
abbrev dX8_planes_67 := zr_162.2.1
abbrev dX8_planes_68 := zr_162.2.2.1
abbrev dX8_planes_71 := zr_162.2.2.2.1
abbrev dX8_planes_72 := zr_162.2.2.2.2.1
abbrev dX8_planes_75 := zr_162.2.2.2.2.2.1
abbrev dX8_planes_78 := zr_162.2.2.2.2.2.2.1
abbrev dX8_planes_79 := zr_162.2.2.2.2.2.2.2.1
abbrev dX8_planes_82 := zr_162.2.2.2.2.2.2.2.2.1
abbrev dX8_planes_83 := zr_162.2.2.2.2.2.2.2.2.2.1
abbrev dX8_planes_84 := zr_162.2.2.2.2.2.2.2.2.2.2.1
abbrev dX8_planes_87 := zr_162.2.2.2.2.2.2.2.2.2.2.2.1
set_option maxRecDepth 100000 in
theorem zk_163 : zck 0 (cX8_adds.data.toList.drop 0) [(0, .iload_n 1, 1), (1, .invokestatic 108, 3), (4, .ifCond .ne 5, 3), (7, .iconst (-1), 1), (8, .ireturn, 1), (9, .aload_n 0, 1), (10, .getfield 13, 3), (13, .bipush 64, 2), (15, .if_icmp .lt 6, 3), (18, .bipush (-3), 2), (20, .ireturn, 1), (21, .aload_n 0, 1)] = true := by decide +kernel
theorem zr_163 : decode cX8_adds 0 = .ok (.iload_n 1, 1) ∧ decode cX8_adds 1 = .ok (.invokestatic 108, 3) ∧ decode cX8_adds 4 = .ok (.ifCond .ne 5, 3) ∧ decode cX8_adds 7 = .ok (.iconst (-1), 1) ∧ decode cX8_adds 8 = .ok (.ireturn, 1) ∧ decode cX8_adds 9 = .ok (.aload_n 0, 1) ∧ decode cX8_adds 10 = .ok (.getfield 13, 3) ∧ decode cX8_adds 13 = .ok (.bipush 64, 2) ∧ decode cX8_adds 15 = .ok (.if_icmp .lt 6, 3) ∧ decode cX8_adds 18 = .ok (.bipush (-3), 2) ∧ decode cX8_adds 20 = .ok (.ireturn, 1) ∧ decode cX8_adds 21 = .ok (.aload_n 0, 1) ∧ True := zj_of zk_163
abbrev dX8_adds_0 := zr_163.1
abbrev dX8_adds_1 := zr_163.2.1
abbrev dX8_adds_4 := zr_163.2.2.1
abbrev dX8_adds_7 := zr_163.2.2.2.1
abbrev dX8_adds_8 := zr_163.2.2.2.2.1
abbrev dX8_adds_9 := zr_163.2.2.2.2.2.1
abbrev dX8_adds_10 := zr_163.2.2.2.2.2.2.1
abbrev dX8_adds_13 := zr_163.2.2.2.2.2.2.2.1
abbrev dX8_adds_15 := zr_163.2.2.2.2.2.2.2.2.1
abbrev dX8_adds_18 := zr_163.2.2.2.2.2.2.2.2.2.1
abbrev dX8_adds_20 := zr_163.2.2.2.2.2.2.2.2.2.2.1
abbrev dX8_adds_21 := zr_163.2.2.2.2.2.2.2.2.2.2.2.1
set_option maxRecDepth 100000 in
theorem zk_164 : zck 22 (cX8_adds.data.toList.drop 22) [(22, .getfield 9, 3), (25, .aload_n 0, 1), (26, .getfield 13, 3), (29, .iload_n 1, 1), (30, .iastore, 1), (31, .aload_n 0, 1), (32, .dup, 1), (33, .getfield 13, 3), (36, .iconst 1, 1), (37, .iadd, 1), (38, .putfield 13, 3), (41, .aload_n 0, 1)] = true := by decide +kernel
theorem zr_164 : decode cX8_adds 22 = .ok (.getfield 9, 3) ∧ decode cX8_adds 25 = .ok (.aload_n 0, 1) ∧ decode cX8_adds 26 = .ok (.getfield 13, 3) ∧ decode cX8_adds 29 = .ok (.iload_n 1, 1) ∧ decode cX8_adds 30 = .ok (.iastore, 1) ∧ decode cX8_adds 31 = .ok (.aload_n 0, 1) ∧ decode cX8_adds 32 = .ok (.dup, 1) ∧ decode cX8_adds 33 = .ok (.getfield 13, 3) ∧ decode cX8_adds 36 = .ok (.iconst 1, 1) ∧ decode cX8_adds 37 = .ok (.iadd, 1) ∧ decode cX8_adds 38 = .ok (.putfield 13, 3) ∧ decode cX8_adds 41 = .ok (.aload_n 0, 1) ∧ True := zj_of zk_164
abbrev dX8_adds_22 := zr_164.1
abbrev dX8_adds_25 := zr_164.2.1
abbrev dX8_adds_26 := zr_164.2.2.1
abbrev dX8_adds_29 := zr_164.2.2.2.1
abbrev dX8_adds_30 := zr_164.2.2.2.2.1
abbrev dX8_adds_31 := zr_164.2.2.2.2.2.1
abbrev dX8_adds_32 := zr_164.2.2.2.2.2.2.1
abbrev dX8_adds_33 := zr_164.2.2.2.2.2.2.2.1
abbrev dX8_adds_36 := zr_164.2.2.2.2.2.2.2.2.1
abbrev dX8_adds_37 := zr_164.2.2.2.2.2.2.2.2.2.1
abbrev dX8_adds_38 := zr_164.2.2.2.2.2.2.2.2.2.2.1
abbrev dX8_adds_41 := zr_164.2.2.2.2.2.2.2.2.2.2.2.1
set_option maxRecDepth 100000 in
theorem zk_165 : zck 42 (cX8_adds.data.toList.drop 42) [(42, .invokevirtual 92, 3), (45, .pop, 1), (46, .aload_n 0, 1), (47, .getfield 13, 3), (50, .ireturn, 1)] = true := by decide +kernel
theorem zr_165 : decode cX8_adds 42 = .ok (.invokevirtual 92, 3) ∧ decode cX8_adds 45 = .ok (.pop, 1) ∧ decode cX8_adds 46 = .ok (.aload_n 0, 1) ∧ decode cX8_adds 47 = .ok (.getfield 13, 3) ∧ decode cX8_adds 50 = .ok (.ireturn, 1) ∧ True := zj_of zk_165
abbrev dX8_adds_42 := zr_165.1
abbrev dX8_adds_45 := zr_165.2.1
abbrev dX8_adds_46 := zr_165.2.2.1
abbrev dX8_adds_47 := zr_165.2.2.2.1
abbrev dX8_adds_50 := zr_165.2.2.2.2.1
set_option maxRecDepth 100000 in
theorem zk_166 : zck 0 (cX8_puts.data.toList.drop 0) [(0, .iload_n 2, 1), (1, .invokestatic 108, 3), (4, .ifCond .ne 5, 3), (7, .iconst (-1), 1), (8, .ireturn, 1), (9, .aload_n 0, 1), (10, .iload_n 1, 1), (11, .invokevirtual 111, 3), (14, .ifCond .ne 6, 3), (17, .bipush (-2), 2), (19, .ireturn, 1), (20, .aload_n 0, 1)] = true := by decide +kernel
theorem zr_166 : decode cX8_puts 0 = .ok (.iload_n 2, 1) ∧ decode cX8_puts 1 = .ok (.invokestatic 108, 3) ∧ decode cX8_puts 4 = .ok (.ifCond .ne 5, 3) ∧ decode cX8_puts 7 = .ok (.iconst (-1), 1) ∧ decode cX8_puts 8 = .ok (.ireturn, 1) ∧ decode cX8_puts 9 = .ok (.aload_n 0, 1) ∧ decode cX8_puts 10 = .ok (.iload_n 1, 1) ∧ decode cX8_puts 11 = .ok (.invokevirtual 111, 3) ∧ decode cX8_puts 14 = .ok (.ifCond .ne 6, 3) ∧ decode cX8_puts 17 = .ok (.bipush (-2), 2) ∧ decode cX8_puts 19 = .ok (.ireturn, 1) ∧ decode cX8_puts 20 = .ok (.aload_n 0, 1) ∧ True := zj_of zk_166
abbrev dX8_puts_0 := zr_166.1
abbrev dX8_puts_1 := zr_166.2.1
abbrev dX8_puts_4 := zr_166.2.2.1
abbrev dX8_puts_7 := zr_166.2.2.2.1
abbrev dX8_puts_8 := zr_166.2.2.2.2.1
abbrev dX8_puts_9 := zr_166.2.2.2.2.2.1
abbrev dX8_puts_10 := zr_166.2.2.2.2.2.2.1
abbrev dX8_puts_11 := zr_166.2.2.2.2.2.2.2.1
abbrev dX8_puts_14 := zr_166.2.2.2.2.2.2.2.2.1
abbrev dX8_puts_17 := zr_166.2.2.2.2.2.2.2.2.2.1
abbrev dX8_puts_19 := zr_166.2.2.2.2.2.2.2.2.2.2.1
abbrev dX8_puts_20 := zr_166.2.2.2.2.2.2.2.2.2.2.2.1
set_option maxRecDepth 100000 in
theorem zk_167 : zck 21 (cX8_puts.data.toList.drop 21) [(21, .getfield 9, 3), (24, .iload_n 1, 1), (25, .iaload, 1), (26, .istore_n 3, 1), (27, .iload_n 3, 1), (28, .iload_n 2, 1), (29, .if_icmp .ne 6, 3), (32, .bipush (-4), 2), (34, .ireturn, 1), (35, .aload_n 0, 1), (36, .getfield 9, 3), (39, .iload_n 1, 1)] = true := by decide +kernel
theorem zr_167 : decode cX8_puts 21 = .ok (.getfield 9, 3) ∧ decode cX8_puts 24 = .ok (.iload_n 1, 1) ∧ decode cX8_puts 25 = .ok (.iaload, 1) ∧ decode cX8_puts 26 = .ok (.istore_n 3, 1) ∧ decode cX8_puts 27 = .ok (.iload_n 3, 1) ∧ decode cX8_puts 28 = .ok (.iload_n 2, 1) ∧ decode cX8_puts 29 = .ok (.if_icmp .ne 6, 3) ∧ decode cX8_puts 32 = .ok (.bipush (-4), 2) ∧ decode cX8_puts 34 = .ok (.ireturn, 1) ∧ decode cX8_puts 35 = .ok (.aload_n 0, 1) ∧ decode cX8_puts 36 = .ok (.getfield 9, 3) ∧ decode cX8_puts 39 = .ok (.iload_n 1, 1) ∧ True := zj_of zk_167
abbrev dX8_puts_21 := zr_167.1
abbrev dX8_puts_24 := zr_167.2.1
abbrev dX8_puts_25 := zr_167.2.2.1
abbrev dX8_puts_26 := zr_167.2.2.2.1
abbrev dX8_puts_27 := zr_167.2.2.2.2.1
abbrev dX8_puts_28 := zr_167.2.2.2.2.2.1
abbrev dX8_puts_29 := zr_167.2.2.2.2.2.2.1
abbrev dX8_puts_32 := zr_167.2.2.2.2.2.2.2.1
abbrev dX8_puts_34 := zr_167.2.2.2.2.2.2.2.2.1
abbrev dX8_puts_35 := zr_167.2.2.2.2.2.2.2.2.2.1
abbrev dX8_puts_36 := zr_167.2.2.2.2.2.2.2.2.2.2.1
abbrev dX8_puts_39 := zr_167.2.2.2.2.2.2.2.2.2.2.2.1
set_option maxRecDepth 100000 in
theorem zk_168 : zck 40 (cX8_puts.data.toList.drop 40) [(40, .iload_n 2, 1), (41, .iastore, 1), (42, .aload_n 0, 1), (43, .aload_n 0, 1), (44, .invokevirtual 92, 3), (47, .i2l, 1), (48, .invokevirtual 114, 3), (51, .iload_n 3, 1), (52, .ireturn, 1)] = true := by decide +kernel
theorem zr_168 : decode cX8_puts 40 = .ok (.iload_n 2, 1) ∧ decode cX8_puts 41 = .ok (.iastore, 1) ∧ decode cX8_puts 42 = .ok (.aload_n 0, 1) ∧ decode cX8_puts 43 = .ok (.aload_n 0, 1) ∧ decode cX8_puts 44 = .ok (.invokevirtual 92, 3) ∧ decode cX8_puts 47 = .ok (.i2l, 1) ∧ decode cX8_puts 48 = .ok (.invokevirtual 114, 3) ∧ decode cX8_puts 51 = .ok (.iload_n 3, 1) ∧ decode cX8_puts 52 = .ok (.ireturn, 1) ∧ True := zj_of zk_168
abbrev dX8_puts_40 := zr_168.1
abbrev dX8_puts_41 := zr_168.2.1
abbrev dX8_puts_42 := zr_168.2.2.1
abbrev dX8_puts_43 := zr_168.2.2.2.1
abbrev dX8_puts_44 := zr_168.2.2.2.2.1
abbrev dX8_puts_47 := zr_168.2.2.2.2.2.1
abbrev dX8_puts_48 := zr_168.2.2.2.2.2.2.1
abbrev dX8_puts_51 := zr_168.2.2.2.2.2.2.2.1
abbrev dX8_puts_52 := zr_168.2.2.2.2.2.2.2.2.1
set_option maxRecDepth 100000 in
theorem zk_169 : zck 0 (cX8_cuts.data.toList.drop 0) [(0, .aload_n 0, 1), (1, .iload_n 1, 1), (2, .invokevirtual 111, 3), (5, .ifCond .ne 6, 3), (8, .bipush (-2), 2), (10, .ireturn, 1), (11, .aload_n 0, 1), (12, .getfield 9, 3), (15, .iload_n 1, 1), (16, .iaload, 1), (17, .istore_n 2, 1), (18, .iload_n 1, 1)] = true := by decide +kernel
theorem zr_169 : decode cX8_cuts 0 = .ok (.aload_n 0, 1) ∧ decode cX8_cuts 1 = .ok (.iload_n 1, 1) ∧ decode cX8_cuts 2 = .ok (.invokevirtual 111, 3) ∧ decode cX8_cuts 5 = .ok (.ifCond .ne 6, 3) ∧ decode cX8_cuts 8 = .ok (.bipush (-2), 2) ∧ decode cX8_cuts 10 = .ok (.ireturn, 1) ∧ decode cX8_cuts 11 = .ok (.aload_n 0, 1) ∧ decode cX8_cuts 12 = .ok (.getfield 9, 3) ∧ decode cX8_cuts 15 = .ok (.iload_n 1, 1) ∧ decode cX8_cuts 16 = .ok (.iaload, 1) ∧ decode cX8_cuts 17 = .ok (.istore_n 2, 1) ∧ decode cX8_cuts 18 = .ok (.iload_n 1, 1) ∧ True := zj_of zk_169
abbrev dX8_cuts_0 := zr_169.1
abbrev dX8_cuts_1 := zr_169.2.1
abbrev dX8_cuts_2 := zr_169.2.2.1
abbrev dX8_cuts_5 := zr_169.2.2.2.1
abbrev dX8_cuts_8 := zr_169.2.2.2.2.1
abbrev dX8_cuts_10 := zr_169.2.2.2.2.2.1
abbrev dX8_cuts_11 := zr_169.2.2.2.2.2.2.1
abbrev dX8_cuts_12 := zr_169.2.2.2.2.2.2.2.1
abbrev dX8_cuts_15 := zr_169.2.2.2.2.2.2.2.2.1
abbrev dX8_cuts_16 := zr_169.2.2.2.2.2.2.2.2.2.1
abbrev dX8_cuts_17 := zr_169.2.2.2.2.2.2.2.2.2.2.1
abbrev dX8_cuts_18 := zr_169.2.2.2.2.2.2.2.2.2.2.2.1
set_option maxRecDepth 100000 in
theorem zk_170 : zck 19 (cX8_cuts.data.toList.drop 19) [(19, .iconst 1, 1), (20, .iadd, 1), (21, .istore_n 3, 1), (22, .iload_n 3, 1), (23, .aload_n 0, 1), (24, .getfield 13, 3), (27, .if_icmp .ge 23, 3), (30, .aload_n 0, 1), (31, .getfield 9, 3), (34, .iload_n 3, 1), (35, .iconst 1, 1), (36, .isub, 1)] = true := by decide +kernel
theorem zr_170 : decode cX8_cuts 19 = .ok (.iconst 1, 1) ∧ decode cX8_cuts 20 = .ok (.iadd, 1) ∧ decode cX8_cuts 21 = .ok (.istore_n 3, 1) ∧ decode cX8_cuts 22 = .ok (.iload_n 3, 1) ∧ decode cX8_cuts 23 = .ok (.aload_n 0, 1) ∧ decode cX8_cuts 24 = .ok (.getfield 13, 3) ∧ decode cX8_cuts 27 = .ok (.if_icmp .ge 23, 3) ∧ decode cX8_cuts 30 = .ok (.aload_n 0, 1) ∧ decode cX8_cuts 31 = .ok (.getfield 9, 3) ∧ decode cX8_cuts 34 = .ok (.iload_n 3, 1) ∧ decode cX8_cuts 35 = .ok (.iconst 1, 1) ∧ decode cX8_cuts 36 = .ok (.isub, 1) ∧ True := zj_of zk_170
abbrev dX8_cuts_19 := zr_170.1
abbrev dX8_cuts_20 := zr_170.2.1
abbrev dX8_cuts_21 := zr_170.2.2.1
abbrev dX8_cuts_22 := zr_170.2.2.2.1
abbrev dX8_cuts_23 := zr_170.2.2.2.2.1
abbrev dX8_cuts_24 := zr_170.2.2.2.2.2.1
abbrev dX8_cuts_27 := zr_170.2.2.2.2.2.2.1
abbrev dX8_cuts_30 := zr_170.2.2.2.2.2.2.2.1
abbrev dX8_cuts_31 := zr_170.2.2.2.2.2.2.2.2.1
abbrev dX8_cuts_34 := zr_170.2.2.2.2.2.2.2.2.2.1
abbrev dX8_cuts_35 := zr_170.2.2.2.2.2.2.2.2.2.2.1
abbrev dX8_cuts_36 := zr_170.2.2.2.2.2.2.2.2.2.2.2.1
set_option maxRecDepth 100000 in
theorem zk_171 : zck 37 (cX8_cuts.data.toList.drop 37) [(37, .aload_n 0, 1), (38, .getfield 9, 3), (41, .iload_n 3, 1), (42, .iaload, 1), (43, .iastore, 1), (44, .iinc 3 1, 3), (47, .goto (-25), 3), (50, .aload_n 0, 1), (51, .dup, 1), (52, .getfield 13, 3), (55, .iconst 1, 1), (56, .isub, 1)] = true := by decide +kernel
theorem zr_171 : decode cX8_cuts 37 = .ok (.aload_n 0, 1) ∧ decode cX8_cuts 38 = .ok (.getfield 9, 3) ∧ decode cX8_cuts 41 = .ok (.iload_n 3, 1) ∧ decode cX8_cuts 42 = .ok (.iaload, 1) ∧ decode cX8_cuts 43 = .ok (.iastore, 1) ∧ decode cX8_cuts 44 = .ok (.iinc 3 1, 3) ∧ decode cX8_cuts 47 = .ok (.goto (-25), 3) ∧ decode cX8_cuts 50 = .ok (.aload_n 0, 1) ∧ decode cX8_cuts 51 = .ok (.dup, 1) ∧ decode cX8_cuts 52 = .ok (.getfield 13, 3) ∧ decode cX8_cuts 55 = .ok (.iconst 1, 1) ∧ decode cX8_cuts 56 = .ok (.isub, 1) ∧ True := zj_of zk_171
abbrev dX8_cuts_37 := zr_171.1
abbrev dX8_cuts_38 := zr_171.2.1
abbrev dX8_cuts_41 := zr_171.2.2.1
abbrev dX8_cuts_42 := zr_171.2.2.2.1
abbrev dX8_cuts_43 := zr_171.2.2.2.2.1
abbrev dX8_cuts_44 := zr_171.2.2.2.2.2.1
abbrev dX8_cuts_47 := zr_171.2.2.2.2.2.2.1
abbrev dX8_cuts_50 := zr_171.2.2.2.2.2.2.2.1
abbrev dX8_cuts_51 := zr_171.2.2.2.2.2.2.2.2.1
abbrev dX8_cuts_52 := zr_171.2.2.2.2.2.2.2.2.2.1
abbrev dX8_cuts_55 := zr_171.2.2.2.2.2.2.2.2.2.2.1
abbrev dX8_cuts_56 := zr_171.2.2.2.2.2.2.2.2.2.2.2.1
set_option maxRecDepth 100000 in
theorem zk_172 : zck 57 (cX8_cuts.data.toList.drop 57) [(57, .putfield 13, 3), (60, .aload_n 0, 1), (61, .invokevirtual 92, 3), (64, .pop, 1), (65, .iload_n 2, 1), (66, .ireturn, 1)] = true := by decide +kernel
theorem zr_172 : decode cX8_cuts 57 = .ok (.putfield 13, 3) ∧ decode cX8_cuts 60 = .ok (.aload_n 0, 1) ∧ decode cX8_cuts 61 = .ok (.invokevirtual 92, 3) ∧ decode cX8_cuts 64 = .ok (.pop, 1) ∧ decode cX8_cuts 65 = .ok (.iload_n 2, 1) ∧ decode cX8_cuts 66 = .ok (.ireturn, 1) ∧ True := zj_of zk_172
abbrev dX8_cuts_57 := zr_172.1
abbrev dX8_cuts_60 := zr_172.2.1
abbrev dX8_cuts_61 := zr_172.2.2.1
abbrev dX8_cuts_64 := zr_172.2.2.2.1
abbrev dX8_cuts_65 := zr_172.2.2.2.2.1
abbrev dX8_cuts_66 := zr_172.2.2.2.2.2.1
set_option maxRecDepth 100000 in
theorem zk_173 : zck 0 (cX8_swaps.data.toList.drop 0) [(0, .aload_n 0, 1), (1, .iload_n 1, 1), (2, .invokevirtual 111, 3), (5, .ifCond .eq 16, 3), (8, .aload_n 0, 1), (9, .iload_n 2, 1), (10, .invokevirtual 111, 3), (13, .ifCond .eq 8, 3), (16, .iload_n 1, 1), (17, .iload_n 2, 1), (18, .if_icmp .ne 6, 3), (21, .bipush (-2), 2)] = true := by decide +kernel
theorem zr_173 : decode cX8_swaps 0 = .ok (.aload_n 0, 1) ∧ decode cX8_swaps 1 = .ok (.iload_n 1, 1) ∧ decode cX8_swaps 2 = .ok (.invokevirtual 111, 3) ∧ decode cX8_swaps 5 = .ok (.ifCond .eq 16, 3) ∧ decode cX8_swaps 8 = .ok (.aload_n 0, 1) ∧ decode cX8_swaps 9 = .ok (.iload_n 2, 1) ∧ decode cX8_swaps 10 = .ok (.invokevirtual 111, 3) ∧ decode cX8_swaps 13 = .ok (.ifCond .eq 8, 3) ∧ decode cX8_swaps 16 = .ok (.iload_n 1, 1) ∧ decode cX8_swaps 17 = .ok (.iload_n 2, 1) ∧ decode cX8_swaps 18 = .ok (.if_icmp .ne 6, 3) ∧ decode cX8_swaps 21 = .ok (.bipush (-2), 2) ∧ True := zj_of zk_173
abbrev dX8_swaps_0 := zr_173.1
abbrev dX8_swaps_1 := zr_173.2.1
abbrev dX8_swaps_2 := zr_173.2.2.1
abbrev dX8_swaps_5 := zr_173.2.2.2.1
abbrev dX8_swaps_8 := zr_173.2.2.2.2.1
abbrev dX8_swaps_9 := zr_173.2.2.2.2.2.1
abbrev dX8_swaps_10 := zr_173.2.2.2.2.2.2.1
abbrev dX8_swaps_13 := zr_173.2.2.2.2.2.2.2.1
abbrev dX8_swaps_16 := zr_173.2.2.2.2.2.2.2.2.1
abbrev dX8_swaps_17 := zr_173.2.2.2.2.2.2.2.2.2.1
abbrev dX8_swaps_18 := zr_173.2.2.2.2.2.2.2.2.2.2.1
abbrev dX8_swaps_21 := zr_173.2.2.2.2.2.2.2.2.2.2.2.1
set_option maxRecDepth 100000 in
theorem zk_174 : zck 23 (cX8_swaps.data.toList.drop 23) [(23, .ireturn, 1), (24, .aload_n 0, 1), (25, .iload_n 1, 1), (26, .iload_n 2, 1), (27, .invokevirtual 118, 3), (30, .aload_n 0, 1), (31, .invokevirtual 92, 3), (34, .ireturn, 1)] = true := by decide +kernel
theorem zr_174 : decode cX8_swaps 23 = .ok (.ireturn, 1) ∧ decode cX8_swaps 24 = .ok (.aload_n 0, 1) ∧ decode cX8_swaps 25 = .ok (.iload_n 1, 1) ∧ decode cX8_swaps 26 = .ok (.iload_n 2, 1) ∧ decode cX8_swaps 27 = .ok (.invokevirtual 118, 3) ∧ decode cX8_swaps 30 = .ok (.aload_n 0, 1) ∧ decode cX8_swaps 31 = .ok (.invokevirtual 92, 3) ∧ decode cX8_swaps 34 = .ok (.ireturn, 1) ∧ True := zj_of zk_174
abbrev dX8_swaps_23 := zr_174.1
abbrev dX8_swaps_24 := zr_174.2.1
abbrev dX8_swaps_25 := zr_174.2.2.1
abbrev dX8_swaps_26 := zr_174.2.2.2.1
abbrev dX8_swaps_27 := zr_174.2.2.2.2.1
abbrev dX8_swaps_30 := zr_174.2.2.2.2.2.1
abbrev dX8_swaps_31 := zr_174.2.2.2.2.2.2.1
abbrev dX8_swaps_34 := zr_174.2.2.2.2.2.2.2.1
set_option maxRecDepth 100000 in
theorem zk_175 : zck 0 (cX8_reverses.data.toList.drop 0) [(0, .aload_n 0, 1), (1, .iload_n 1, 1), (2, .iload_n 2, 1), (3, .invokevirtual 122, 3), (6, .ifCond .ne 5, 3), (9, .iconst (-1), 1), (10, .ireturn, 1), (11, .iload_n 2, 1), (12, .iconst 1, 1), (13, .isub, 1), (14, .istore_n 3, 1), (15, .iload_n 1, 1)] = true := by decide +kernel
theorem zr_175 : decode cX8_reverses 0 = .ok (.aload_n 0, 1) ∧ decode cX8_reverses 1 = .ok (.iload_n 1, 1) ∧ decode cX8_reverses 2 = .ok (.iload_n 2, 1) ∧ decode cX8_reverses 3 = .ok (.invokevirtual 122, 3) ∧ decode cX8_reverses 6 = .ok (.ifCond .ne 5, 3) ∧ decode cX8_reverses 9 = .ok (.iconst (-1), 1) ∧ decode cX8_reverses 10 = .ok (.ireturn, 1) ∧ decode cX8_reverses 11 = .ok (.iload_n 2, 1) ∧ decode cX8_reverses 12 = .ok (.iconst 1, 1) ∧ decode cX8_reverses 13 = .ok (.isub, 1) ∧ decode cX8_reverses 14 = .ok (.istore_n 3, 1) ∧ decode cX8_reverses 15 = .ok (.iload_n 1, 1) ∧ True := zj_of zk_175
abbrev dX8_reverses_0 := zr_175.1
abbrev dX8_reverses_1 := zr_175.2.1
abbrev dX8_reverses_2 := zr_175.2.2.1
abbrev dX8_reverses_3 := zr_175.2.2.2.1
abbrev dX8_reverses_6 := zr_175.2.2.2.2.1
abbrev dX8_reverses_9 := zr_175.2.2.2.2.2.1
abbrev dX8_reverses_10 := zr_175.2.2.2.2.2.2.1
abbrev dX8_reverses_11 := zr_175.2.2.2.2.2.2.2.1
abbrev dX8_reverses_12 := zr_175.2.2.2.2.2.2.2.2.1
abbrev dX8_reverses_13 := zr_175.2.2.2.2.2.2.2.2.2.1
abbrev dX8_reverses_14 := zr_175.2.2.2.2.2.2.2.2.2.2.1
abbrev dX8_reverses_15 := zr_175.2.2.2.2.2.2.2.2.2.2.2.1
set_option maxRecDepth 100000 in
theorem zk_176 : zck 16 (cX8_reverses.data.toList.drop 16) [(16, .istore 4, 2), (18, .iload 4, 2), (20, .iload_n 3, 1), (21, .if_icmp .ge 19, 3), (24, .aload_n 0, 1), (25, .iload 4, 2), (27, .iload_n 3, 1), (28, .invokevirtual 118, 3), (31, .iinc 3 (-1), 3), (34, .iinc 4 1, 3), (37, .goto (-19), 3), (40, .aload_n 0, 1)] = true := by decide +kernel
theorem zr_176 : decode cX8_reverses 16 = .ok (.istore 4, 2) ∧ decode cX8_reverses 18 = .ok (.iload 4, 2) ∧ decode cX8_reverses 20 = .ok (.iload_n 3, 1) ∧ decode cX8_reverses 21 = .ok (.if_icmp .ge 19, 3) ∧ decode cX8_reverses 24 = .ok (.aload_n 0, 1) ∧ decode cX8_reverses 25 = .ok (.iload 4, 2) ∧ decode cX8_reverses 27 = .ok (.iload_n 3, 1) ∧ decode cX8_reverses 28 = .ok (.invokevirtual 118, 3) ∧ decode cX8_reverses 31 = .ok (.iinc 3 (-1), 3) ∧ decode cX8_reverses 34 = .ok (.iinc 4 1, 3) ∧ decode cX8_reverses 37 = .ok (.goto (-19), 3) ∧ decode cX8_reverses 40 = .ok (.aload_n 0, 1) ∧ True := zj_of zk_176
abbrev dX8_reverses_16 := zr_176.1
abbrev dX8_reverses_18 := zr_176.2.1
abbrev dX8_reverses_20 := zr_176.2.2.1
abbrev dX8_reverses_21 := zr_176.2.2.2.1
abbrev dX8_reverses_24 := zr_176.2.2.2.2.1
abbrev dX8_reverses_25 := zr_176.2.2.2.2.2.1
abbrev dX8_reverses_27 := zr_176.2.2.2.2.2.2.1
abbrev dX8_reverses_28 := zr_176.2.2.2.2.2.2.2.1
abbrev dX8_reverses_31 := zr_176.2.2.2.2.2.2.2.2.1
abbrev dX8_reverses_34 := zr_176.2.2.2.2.2.2.2.2.2.1
abbrev dX8_reverses_37 := zr_176.2.2.2.2.2.2.2.2.2.2.1
abbrev dX8_reverses_40 := zr_176.2.2.2.2.2.2.2.2.2.2.2.1
set_option maxRecDepth 100000 in
theorem zk_177 : zck 41 (cX8_reverses.data.toList.drop 41) [(41, .invokevirtual 92, 3), (44, .ireturn, 1)] = true := by decide +kernel
theorem zr_177 : decode cX8_reverses 41 = .ok (.invokevirtual 92, 3) ∧ decode cX8_reverses 44 = .ok (.ireturn, 1) ∧ True := zj_of zk_177
abbrev dX8_reverses_41 := zr_177.1
abbrev dX8_reverses_44 := zr_177.2.1
set_option maxRecDepth 100000 in
theorem zk_178 : zck 0 (cX8_sign.data.toList.drop 0) [(0, .aload_n 0, 1), (1, .getfield 27, 3), (4, .iload_n 1, 1), (5, .invokevirtual 126, 3), (8, .ifCond .eq 13, 3), (11, .aload_n 0, 1), (12, .getfield 27, 3), (15, .getfield 129, 3), (18, .goto 4, 3), (21, .iconst (-1), 1), (22, .ireturn, 1)] = true := by decide +kernel
theorem zr_178 : decode cX8_sign 0 = .ok (.aload_n 0, 1) ∧ decode cX8_sign 1 = .ok (.getfield 27, 3) ∧ decode cX8_sign 4 = .ok (.iload_n 1, 1) ∧ decode cX8_sign 5 = .ok (.invokevirtual 126, 3) ∧ decode cX8_sign 8 = .ok (.ifCond .eq 13, 3) ∧ decode cX8_sign 11 = .ok (.aload_n 0, 1) ∧ decode cX8_sign 12 = .ok (.getfield 27, 3) ∧ decode cX8_sign 15 = .ok (.getfield 129, 3) ∧ decode cX8_sign 18 = .ok (.goto 4, 3) ∧ decode cX8_sign 21 = .ok (.iconst (-1), 1) ∧ decode cX8_sign 22 = .ok (.ireturn, 1) ∧ True := zj_of zk_178
abbrev dX8_sign_0 := zr_178.1
abbrev dX8_sign_1 := zr_178.2.1
abbrev dX8_sign_4 := zr_178.2.2.1
abbrev dX8_sign_5 := zr_178.2.2.2.1
abbrev dX8_sign_8 := zr_178.2.2.2.2.1
abbrev dX8_sign_11 := zr_178.2.2.2.2.2.1
abbrev dX8_sign_12 := zr_178.2.2.2.2.2.2.1
abbrev dX8_sign_15 := zr_178.2.2.2.2.2.2.2.1
abbrev dX8_sign_18 := zr_178.2.2.2.2.2.2.2.2.1
abbrev dX8_sign_21 := zr_178.2.2.2.2.2.2.2.2.2.1
abbrev dX8_sign_22 := zr_178.2.2.2.2.2.2.2.2.2.2.1
set_option maxRecDepth 100000 in
theorem zk_179 : zck 0 (cX8_end.data.toList.drop 0) [(0, .aload_n 0, 1), (1, .getfield 27, 3), (4, .iload_n 1, 1), (5, .invokevirtual 80, 3), (8, .ireturn, 1)] = true := by decide +kernel
theorem zr_179 : decode cX8_end 0 = .ok (.aload_n 0, 1) ∧ decode cX8_end 1 = .ok (.getfield 27, 3) ∧ decode cX8_end 4 = .ok (.iload_n 1, 1) ∧ decode cX8_end 5 = .ok (.invokevirtual 80, 3) ∧ decode cX8_end 8 = .ok (.ireturn, 1) ∧ True := zj_of zk_179
abbrev dX8_end_0 := zr_179.1
abbrev dX8_end_1 := zr_179.2.1
abbrev dX8_end_4 := zr_179.2.2.1
abbrev dX8_end_5 := zr_179.2.2.2.1
abbrev dX8_end_8 := zr_179.2.2.2.2.1
set_option maxRecDepth 100000 in
theorem zk_180 : zck 0 (cX8_level.data.toList.drop 0) [(0, .iload_n 1, 1), (1, .ifCond .lt 9, 3), (4, .iload_n 1, 1), (5, .bipush 8, 2), (7, .if_icmp .lt 5, 3), (10, .iconst (-1), 1), (11, .ireturn, 1), (12, .aload_n 0, 1), (13, .getfield 20, 3), (16, .getfield 130, 3), (19, .iload_n 1, 1), (20, .laload, 1)] = true := by decide +kernel
theorem zr_180 : decode cX8_level 0 = .ok (.iload_n 1, 1) ∧ decode cX8_level 1 = .ok (.ifCond .lt 9, 3) ∧ decode cX8_level 4 = .ok (.iload_n 1, 1) ∧ decode cX8_level 5 = .ok (.bipush 8, 2) ∧ decode cX8_level 7 = .ok (.if_icmp .lt 5, 3) ∧ decode cX8_level 10 = .ok (.iconst (-1), 1) ∧ decode cX8_level 11 = .ok (.ireturn, 1) ∧ decode cX8_level 12 = .ok (.aload_n 0, 1) ∧ decode cX8_level 13 = .ok (.getfield 20, 3) ∧ decode cX8_level 16 = .ok (.getfield 130, 3) ∧ decode cX8_level 19 = .ok (.iload_n 1, 1) ∧ decode cX8_level 20 = .ok (.laload, 1) ∧ True := zj_of zk_180
abbrev dX8_level_0 := zr_180.1
abbrev dX8_level_1 := zr_180.2.1
abbrev dX8_level_4 := zr_180.2.2.1
abbrev dX8_level_5 := zr_180.2.2.2.1
abbrev dX8_level_7 := zr_180.2.2.2.2.1
abbrev dX8_level_10 := zr_180.2.2.2.2.2.1
abbrev dX8_level_11 := zr_180.2.2.2.2.2.2.1
abbrev dX8_level_12 := zr_180.2.2.2.2.2.2.2.1
abbrev dX8_level_13 := zr_180.2.2.2.2.2.2.2.2.1
abbrev dX8_level_16 := zr_180.2.2.2.2.2.2.2.2.2.1
abbrev dX8_level_19 := zr_180.2.2.2.2.2.2.2.2.2.2.1
abbrev dX8_level_20 := zr_180.2.2.2.2.2.2.2.2.2.2.2.1
set_option maxRecDepth 100000 in
theorem zk_181 : zck 21 (cX8_level.data.toList.drop 21) [(21, .lstore_n 2, 1), (22, .aload_n 0, 1), (23, .lload_n 2, 1), (24, .lload_n 2, 1), (25, .aload_n 0, 1), (26, .getfield 13, 3), (29, .invokestatic 131, 3), (32, .i2l, 1), (33, .invokevirtual 135, 3), (36, .aload_n 0, 1), (37, .getfield 13, 3), (40, .lload_n 2, 1)] = true := by decide +kernel
theorem zr_181 : decode cX8_level 21 = .ok (.lstore_n 2, 1) ∧ decode cX8_level 22 = .ok (.aload_n 0, 1) ∧ decode cX8_level 23 = .ok (.lload_n 2, 1) ∧ decode cX8_level 24 = .ok (.lload_n 2, 1) ∧ decode cX8_level 25 = .ok (.aload_n 0, 1) ∧ decode cX8_level 26 = .ok (.getfield 13, 3) ∧ decode cX8_level 29 = .ok (.invokestatic 131, 3) ∧ decode cX8_level 32 = .ok (.i2l, 1) ∧ decode cX8_level 33 = .ok (.invokevirtual 135, 3) ∧ decode cX8_level 36 = .ok (.aload_n 0, 1) ∧ decode cX8_level 37 = .ok (.getfield 13, 3) ∧ decode cX8_level 40 = .ok (.lload_n 2, 1) ∧ True := zj_of zk_181
abbrev dX8_level_21 := zr_181.1
abbrev dX8_level_22 := zr_181.2.1
abbrev dX8_level_23 := zr_181.2.2.1
abbrev dX8_level_24 := zr_181.2.2.2.1
abbrev dX8_level_25 := zr_181.2.2.2.2.1
abbrev dX8_level_26 := zr_181.2.2.2.2.2.1
abbrev dX8_level_29 := zr_181.2.2.2.2.2.2.1
abbrev dX8_level_32 := zr_181.2.2.2.2.2.2.2.1
abbrev dX8_level_33 := zr_181.2.2.2.2.2.2.2.2.1
abbrev dX8_level_36 := zr_181.2.2.2.2.2.2.2.2.2.1
abbrev dX8_level_37 := zr_181.2.2.2.2.2.2.2.2.2.2.1
abbrev dX8_level_40 := zr_181.2.2.2.2.2.2.2.2.2.2.2.1
set_option maxRecDepth 100000 in
theorem zk_182 : zck 41 (cX8_level.data.toList.drop 41) [(41, .invokestatic 138, 3), (44, .isub, 1), (45, .ireturn, 1)] = true := by decide +kernel
theorem zr_182 : decode cX8_level 41 = .ok (.invokestatic 138, 3) ∧ decode cX8_level 44 = .ok (.isub, 1) ∧ decode cX8_level 45 = .ok (.ireturn, 1) ∧ True := zj_of zk_182
abbrev dX8_level_41 := zr_182.1
abbrev dX8_level_44 := zr_182.2.1
abbrev dX8_level_45 := zr_182.2.2.1
set_option maxRecDepth 100000 in
theorem zk_183 : zck 0 (cX8_spot.data.toList.drop 0) [(0, .iload_n 2, 1), (1, .ifCond .lt 9, 3), (4, .iload_n 2, 1), (5, .bipush 8, 2), (7, .if_icmp .le 5, 3), (10, .iconst (-1), 1), (11, .ireturn, 1), (12, .aload_n 0, 1), (13, .iload_n 1, 1), (14, .invokevirtual 111, 3), (17, .ifCond .ne 6, 3), (20, .bipush (-2), 2)] = true := by decide +kernel
theorem zr_183 : decode cX8_spot 0 = .ok (.iload_n 2, 1) ∧ decode cX8_spot 1 = .ok (.ifCond .lt 9, 3) ∧ decode cX8_spot 4 = .ok (.iload_n 2, 1) ∧ decode cX8_spot 5 = .ok (.bipush 8, 2) ∧ decode cX8_spot 7 = .ok (.if_icmp .le 5, 3) ∧ decode cX8_spot 10 = .ok (.iconst (-1), 1) ∧ decode cX8_spot 11 = .ok (.ireturn, 1) ∧ decode cX8_spot 12 = .ok (.aload_n 0, 1) ∧ decode cX8_spot 13 = .ok (.iload_n 1, 1) ∧ decode cX8_spot 14 = .ok (.invokevirtual 111, 3) ∧ decode cX8_spot 17 = .ok (.ifCond .ne 6, 3) ∧ decode cX8_spot 20 = .ok (.bipush (-2), 2) ∧ True := zj_of zk_183
abbrev dX8_spot_0 := zr_183.1
abbrev dX8_spot_1 := zr_183.2.1
abbrev dX8_spot_4 := zr_183.2.2.1
abbrev dX8_spot_5 := zr_183.2.2.2.1
abbrev dX8_spot_7 := zr_183.2.2.2.2.1
abbrev dX8_spot_10 := zr_183.2.2.2.2.2.1
abbrev dX8_spot_11 := zr_183.2.2.2.2.2.2.1
abbrev dX8_spot_12 := zr_183.2.2.2.2.2.2.2.1
abbrev dX8_spot_13 := zr_183.2.2.2.2.2.2.2.2.1
abbrev dX8_spot_14 := zr_183.2.2.2.2.2.2.2.2.2.1
abbrev dX8_spot_17 := zr_183.2.2.2.2.2.2.2.2.2.2.1
abbrev dX8_spot_20 := zr_183.2.2.2.2.2.2.2.2.2.2.2.1
set_option maxRecDepth 100000 in
theorem zk_184 : zck 22 (cX8_spot.data.toList.drop 22) [(22, .ireturn, 1), (23, .aload_n 0, 1), (24, .aload_n 0, 1), (25, .getfield 9, 3), (28, .iload_n 1, 1), (29, .iaload, 1), (30, .bipush 8, 2), (32, .iload_n 2, 1), (33, .isub, 1), (34, .ishr, 1), (35, .i2l, 1), (36, .invokevirtual 114, 3)] = true := by decide +kernel
theorem zr_184 : decode cX8_spot 22 = .ok (.ireturn, 1) ∧ decode cX8_spot 23 = .ok (.aload_n 0, 1) ∧ decode cX8_spot 24 = .ok (.aload_n 0, 1) ∧ decode cX8_spot 25 = .ok (.getfield 9, 3) ∧ decode cX8_spot 28 = .ok (.iload_n 1, 1) ∧ decode cX8_spot 29 = .ok (.iaload, 1) ∧ decode cX8_spot 30 = .ok (.bipush 8, 2) ∧ decode cX8_spot 32 = .ok (.iload_n 2, 1) ∧ decode cX8_spot 33 = .ok (.isub, 1) ∧ decode cX8_spot 34 = .ok (.ishr, 1) ∧ decode cX8_spot 35 = .ok (.i2l, 1) ∧ decode cX8_spot 36 = .ok (.invokevirtual 114, 3) ∧ True := zj_of zk_184
abbrev dX8_spot_22 := zr_184.1
abbrev dX8_spot_23 := zr_184.2.1
abbrev dX8_spot_24 := zr_184.2.2.1
abbrev dX8_spot_25 := zr_184.2.2.2.1
abbrev dX8_spot_28 := zr_184.2.2.2.2.1
abbrev dX8_spot_29 := zr_184.2.2.2.2.2.1
abbrev dX8_spot_30 := zr_184.2.2.2.2.2.2.1
abbrev dX8_spot_32 := zr_184.2.2.2.2.2.2.2.1
abbrev dX8_spot_33 := zr_184.2.2.2.2.2.2.2.2.1
abbrev dX8_spot_34 := zr_184.2.2.2.2.2.2.2.2.2.1
abbrev dX8_spot_35 := zr_184.2.2.2.2.2.2.2.2.2.2.1
abbrev dX8_spot_36 := zr_184.2.2.2.2.2.2.2.2.2.2.2.1
set_option maxRecDepth 100000 in
theorem zk_185 : zck 39 (cX8_spot.data.toList.drop 39) [(39, .aload_n 0, 1), (40, .getfield 20, 3), (43, .getfield 130, 3), (46, .aload_n 0, 1), (47, .getfield 13, 3), (50, .iload_n 1, 1), (51, .iload_n 2, 1), (52, .invokestatic 144, 3), (55, .ireturn, 1)] = true := by decide +kernel
theorem zr_185 : decode cX8_spot 39 = .ok (.aload_n 0, 1) ∧ decode cX8_spot 40 = .ok (.getfield 20, 3) ∧ decode cX8_spot 43 = .ok (.getfield 130, 3) ∧ decode cX8_spot 46 = .ok (.aload_n 0, 1) ∧ decode cX8_spot 47 = .ok (.getfield 13, 3) ∧ decode cX8_spot 50 = .ok (.iload_n 1, 1) ∧ decode cX8_spot 51 = .ok (.iload_n 2, 1) ∧ decode cX8_spot 52 = .ok (.invokestatic 144, 3) ∧ decode cX8_spot 55 = .ok (.ireturn, 1) ∧ True := zj_of zk_185
abbrev dX8_spot_39 := zr_185.1
abbrev dX8_spot_40 := zr_185.2.1
abbrev dX8_spot_43 := zr_185.2.2.1
abbrev dX8_spot_46 := zr_185.2.2.2.1
abbrev dX8_spot_47 := zr_185.2.2.2.2.1
abbrev dX8_spot_50 := zr_185.2.2.2.2.2.1
abbrev dX8_spot_51 := zr_185.2.2.2.2.2.2.1
abbrev dX8_spot_52 := zr_185.2.2.2.2.2.2.2.1
abbrev dX8_spot_55 := zr_185.2.2.2.2.2.2.2.2.1
set_option maxRecDepth 100000 in
theorem zk_186 : zck 0 (cX8_from.data.toList.drop 0) [(0, .iload_n 1, 1), (1, .ifCond .lt 9, 3), (4, .iload_n 1, 1), (5, .bipush 8, 2), (7, .if_icmp .le 5, 3), (10, .iconst (-1), 1), (11, .ireturn, 1), (12, .aload_n 0, 1), (13, .iload_n 2, 1), (14, .invokevirtual 111, 3), (17, .ifCond .ne 6, 3), (20, .bipush (-2), 2)] = true := by decide +kernel
theorem zr_186 : decode cX8_from 0 = .ok (.iload_n 1, 1) ∧ decode cX8_from 1 = .ok (.ifCond .lt 9, 3) ∧ decode cX8_from 4 = .ok (.iload_n 1, 1) ∧ decode cX8_from 5 = .ok (.bipush 8, 2) ∧ decode cX8_from 7 = .ok (.if_icmp .le 5, 3) ∧ decode cX8_from 10 = .ok (.iconst (-1), 1) ∧ decode cX8_from 11 = .ok (.ireturn, 1) ∧ decode cX8_from 12 = .ok (.aload_n 0, 1) ∧ decode cX8_from 13 = .ok (.iload_n 2, 1) ∧ decode cX8_from 14 = .ok (.invokevirtual 111, 3) ∧ decode cX8_from 17 = .ok (.ifCond .ne 6, 3) ∧ decode cX8_from 20 = .ok (.bipush (-2), 2) ∧ True := zj_of zk_186
abbrev dX8_from_0 := zr_186.1
abbrev dX8_from_1 := zr_186.2.1
abbrev dX8_from_4 := zr_186.2.2.1
abbrev dX8_from_5 := zr_186.2.2.2.1
abbrev dX8_from_7 := zr_186.2.2.2.2.1
abbrev dX8_from_10 := zr_186.2.2.2.2.2.1
abbrev dX8_from_11 := zr_186.2.2.2.2.2.2.1
abbrev dX8_from_12 := zr_186.2.2.2.2.2.2.2.1
abbrev dX8_from_13 := zr_186.2.2.2.2.2.2.2.2.1
abbrev dX8_from_14 := zr_186.2.2.2.2.2.2.2.2.2.1
abbrev dX8_from_17 := zr_186.2.2.2.2.2.2.2.2.2.2.1
abbrev dX8_from_20 := zr_186.2.2.2.2.2.2.2.2.2.2.2.1
set_option maxRecDepth 100000 in
theorem zk_187 : zck 22 (cX8_from.data.toList.drop 22) [(22, .ireturn, 1), (23, .aload_n 0, 1), (24, .getfield 20, 3), (27, .iload_n 1, 1), (28, .iload_n 2, 1), (29, .invokevirtual 148, 3), (32, .istore_n 3, 1), (33, .aload_n 0, 1), (34, .aload_n 0, 1), (35, .getfield 9, 3), (38, .iload_n 3, 1), (39, .iaload, 1)] = true := by decide +kernel
theorem zr_187 : decode cX8_from 22 = .ok (.ireturn, 1) ∧ decode cX8_from 23 = .ok (.aload_n 0, 1) ∧ decode cX8_from 24 = .ok (.getfield 20, 3) ∧ decode cX8_from 27 = .ok (.iload_n 1, 1) ∧ decode cX8_from 28 = .ok (.iload_n 2, 1) ∧ decode cX8_from 29 = .ok (.invokevirtual 148, 3) ∧ decode cX8_from 32 = .ok (.istore_n 3, 1) ∧ decode cX8_from 33 = .ok (.aload_n 0, 1) ∧ decode cX8_from 34 = .ok (.aload_n 0, 1) ∧ decode cX8_from 35 = .ok (.getfield 9, 3) ∧ decode cX8_from 38 = .ok (.iload_n 3, 1) ∧ decode cX8_from 39 = .ok (.iaload, 1) ∧ True := zj_of zk_187
abbrev dX8_from_22 := zr_187.1
abbrev dX8_from_23 := zr_187.2.1
abbrev dX8_from_24 := zr_187.2.2.1
abbrev dX8_from_27 := zr_187.2.2.2.1
abbrev dX8_from_28 := zr_187.2.2.2.2.1
abbrev dX8_from_29 := zr_187.2.2.2.2.2.1
abbrev dX8_from_32 := zr_187.2.2.2.2.2.2.1
abbrev dX8_from_33 := zr_187.2.2.2.2.2.2.2.1
abbrev dX8_from_34 := zr_187.2.2.2.2.2.2.2.2.1
abbrev dX8_from_35 := zr_187.2.2.2.2.2.2.2.2.2.1
abbrev dX8_from_38 := zr_187.2.2.2.2.2.2.2.2.2.2.1
abbrev dX8_from_39 := zr_187.2.2.2.2.2.2.2.2.2.2.2.1
set_option maxRecDepth 100000 in
theorem zk_188 : zck 40 (cX8_from.data.toList.drop 40) [(40, .i2l, 1), (41, .invokevirtual 114, 3), (44, .iload_n 3, 1), (45, .ireturn, 1)] = true := by decide +kernel
theorem zr_188 : decode cX8_from 40 = .ok (.i2l, 1) ∧ decode cX8_from 41 = .ok (.invokevirtual 114, 3) ∧ decode cX8_from 44 = .ok (.iload_n 3, 1) ∧ decode cX8_from 45 = .ok (.ireturn, 1) ∧ True := zj_of zk_188
abbrev dX8_from_40 := zr_188.1
abbrev dX8_from_41 := zr_188.2.1
abbrev dX8_from_44 := zr_188.2.2.1
abbrev dX8_from_45 := zr_188.2.2.2.1
set_option maxRecDepth 100000 in
theorem zk_189 : zck 0 (cX8_runs.data.toList.drop 0) [(0, .iconst 0, 1), (1, .istore_n 1, 1), (2, .aload_n 0, 1), (3, .getfield 34, 3), (6, .invokevirtual 152, 3), (9, .iconst 0, 1), (10, .istore_n 2, 1), (11, .iload_n 2, 1), (12, .bipush 8, 2), (14, .if_icmp .ge 39, 3), (17, .aload_n 0, 1), (18, .getfield 20, 3)] = true := by decide +kernel
theorem zr_189 : decode cX8_runs 0 = .ok (.iconst 0, 1) ∧ decode cX8_runs 1 = .ok (.istore_n 1, 1) ∧ decode cX8_runs 2 = .ok (.aload_n 0, 1) ∧ decode cX8_runs 3 = .ok (.getfield 34, 3) ∧ decode cX8_runs 6 = .ok (.invokevirtual 152, 3) ∧ decode cX8_runs 9 = .ok (.iconst 0, 1) ∧ decode cX8_runs 10 = .ok (.istore_n 2, 1) ∧ decode cX8_runs 11 = .ok (.iload_n 2, 1) ∧ decode cX8_runs 12 = .ok (.bipush 8, 2) ∧ decode cX8_runs 14 = .ok (.if_icmp .ge 39, 3) ∧ decode cX8_runs 17 = .ok (.aload_n 0, 1) ∧ decode cX8_runs 18 = .ok (.getfield 20, 3) ∧ True := zj_of zk_189
abbrev dX8_runs_0 := zr_189.1
abbrev dX8_runs_1 := zr_189.2.1
abbrev dX8_runs_2 := zr_189.2.2.1
abbrev dX8_runs_3 := zr_189.2.2.2.1
abbrev dX8_runs_6 := zr_189.2.2.2.2.1
abbrev dX8_runs_9 := zr_189.2.2.2.2.2.1
abbrev dX8_runs_10 := zr_189.2.2.2.2.2.2.1
abbrev dX8_runs_11 := zr_189.2.2.2.2.2.2.2.1
abbrev dX8_runs_12 := zr_189.2.2.2.2.2.2.2.2.1
abbrev dX8_runs_14 := zr_189.2.2.2.2.2.2.2.2.2.1
abbrev dX8_runs_17 := zr_189.2.2.2.2.2.2.2.2.2.2.1
abbrev dX8_runs_18 := zr_189.2.2.2.2.2.2.2.2.2.2.2.1
set_option maxRecDepth 100000 in
theorem zk_190 : zck 21 (cX8_runs.data.toList.drop 21) [(21, .getfield 130, 3), (24, .iload_n 2, 1), (25, .laload, 1), (26, .aload_n 0, 1), (27, .getfield 13, 3), (30, .invokestatic 131, 3), (33, .istore_n 3, 1), (34, .aload_n 0, 1), (35, .getfield 34, 3), (38, .iload_n 3, 1), (39, .i2l, 1), (40, .invokevirtual 155, 3)] = true := by decide +kernel
theorem zr_190 : decode cX8_runs 21 = .ok (.getfield 130, 3) ∧ decode cX8_runs 24 = .ok (.iload_n 2, 1) ∧ decode cX8_runs 25 = .ok (.laload, 1) ∧ decode cX8_runs 26 = .ok (.aload_n 0, 1) ∧ decode cX8_runs 27 = .ok (.getfield 13, 3) ∧ decode cX8_runs 30 = .ok (.invokestatic 131, 3) ∧ decode cX8_runs 33 = .ok (.istore_n 3, 1) ∧ decode cX8_runs 34 = .ok (.aload_n 0, 1) ∧ decode cX8_runs 35 = .ok (.getfield 34, 3) ∧ decode cX8_runs 38 = .ok (.iload_n 3, 1) ∧ decode cX8_runs 39 = .ok (.i2l, 1) ∧ decode cX8_runs 40 = .ok (.invokevirtual 155, 3) ∧ True := zj_of zk_190
abbrev dX8_runs_21 := zr_190.1
abbrev dX8_runs_24 := zr_190.2.1
abbrev dX8_runs_25 := zr_190.2.2.1
abbrev dX8_runs_26 := zr_190.2.2.2.1
abbrev dX8_runs_27 := zr_190.2.2.2.2.1
abbrev dX8_runs_30 := zr_190.2.2.2.2.2.1
abbrev dX8_runs_33 := zr_190.2.2.2.2.2.2.1
abbrev dX8_runs_34 := zr_190.2.2.2.2.2.2.2.1
abbrev dX8_runs_35 := zr_190.2.2.2.2.2.2.2.2.1
abbrev dX8_runs_38 := zr_190.2.2.2.2.2.2.2.2.2.1
abbrev dX8_runs_39 := zr_190.2.2.2.2.2.2.2.2.2.2.1
abbrev dX8_runs_40 := zr_190.2.2.2.2.2.2.2.2.2.2.2.1
set_option maxRecDepth 100000 in
theorem zk_191 : zck 43 (cX8_runs.data.toList.drop 43) [(43, .iload_n 1, 1), (44, .iload_n 3, 1), (45, .iadd, 1), (46, .istore_n 1, 1), (47, .iinc 2 1, 3), (50, .goto (-39), 3), (53, .iload_n 1, 1), (54, .ireturn, 1)] = true := by decide +kernel
theorem zr_191 : decode cX8_runs 43 = .ok (.iload_n 1, 1) ∧ decode cX8_runs 44 = .ok (.iload_n 3, 1) ∧ decode cX8_runs 45 = .ok (.iadd, 1) ∧ decode cX8_runs 46 = .ok (.istore_n 1, 1) ∧ decode cX8_runs 47 = .ok (.iinc 2 1, 3) ∧ decode cX8_runs 50 = .ok (.goto (-39), 3) ∧ decode cX8_runs 53 = .ok (.iload_n 1, 1) ∧ decode cX8_runs 54 = .ok (.ireturn, 1) ∧ True := zj_of zk_191
abbrev dX8_runs_43 := zr_191.1
abbrev dX8_runs_44 := zr_191.2.1
abbrev dX8_runs_45 := zr_191.2.2.1
abbrev dX8_runs_46 := zr_191.2.2.2.1
abbrev dX8_runs_47 := zr_191.2.2.2.2.1
abbrev dX8_runs_50 := zr_191.2.2.2.2.2.1
abbrev dX8_runs_53 := zr_191.2.2.2.2.2.2.1
abbrev dX8_runs_54 := zr_191.2.2.2.2.2.2.2.1
set_option maxRecDepth 100000 in
theorem zk_192 : zck 0 (cX8_thrift.data.toList.drop 0) [(0, .aload_n 0, 1), (1, .getfield 65, 3), (4, .aload_n 0, 1), (5, .getfield 9, 3), (8, .aload_n 0, 1), (9, .getfield 13, 3), (12, .invokevirtual 157, 3), (15, .istore_n 1, 1), (16, .aload_n 0, 1), (17, .getfield 34, 3), (20, .invokevirtual 152, 3), (23, .iconst 0, 1)] = true := by decide +kernel
theorem zr_192 : decode cX8_thrift 0 = .ok (.aload_n 0, 1) ∧ decode cX8_thrift 1 = .ok (.getfield 65, 3) ∧ decode cX8_thrift 4 = .ok (.aload_n 0, 1) ∧ decode cX8_thrift 5 = .ok (.getfield 9, 3) ∧ decode cX8_thrift 8 = .ok (.aload_n 0, 1) ∧ decode cX8_thrift 9 = .ok (.getfield 13, 3) ∧ decode cX8_thrift 12 = .ok (.invokevirtual 157, 3) ∧ decode cX8_thrift 15 = .ok (.istore_n 1, 1) ∧ decode cX8_thrift 16 = .ok (.aload_n 0, 1) ∧ decode cX8_thrift 17 = .ok (.getfield 34, 3) ∧ decode cX8_thrift 20 = .ok (.invokevirtual 152, 3) ∧ decode cX8_thrift 23 = .ok (.iconst 0, 1) ∧ True := zj_of zk_192
abbrev dX8_thrift_0 := zr_192.1
abbrev dX8_thrift_1 := zr_192.2.1
abbrev dX8_thrift_4 := zr_192.2.2.1
abbrev dX8_thrift_5 := zr_192.2.2.2.1
abbrev dX8_thrift_8 := zr_192.2.2.2.2.1
abbrev dX8_thrift_9 := zr_192.2.2.2.2.2.1
abbrev dX8_thrift_12 := zr_192.2.2.2.2.2.2.1
abbrev dX8_thrift_15 := zr_192.2.2.2.2.2.2.2.1
abbrev dX8_thrift_16 := zr_192.2.2.2.2.2.2.2.2.1
abbrev dX8_thrift_17 := zr_192.2.2.2.2.2.2.2.2.2.1
abbrev dX8_thrift_20 := zr_192.2.2.2.2.2.2.2.2.2.2.1
abbrev dX8_thrift_23 := zr_192.2.2.2.2.2.2.2.2.2.2.2.1
set_option maxRecDepth 100000 in
theorem zk_193 : zck 24 (cX8_thrift.data.toList.drop 24) [(24, .istore_n 2, 1), (25, .iload_n 2, 1), (26, .bipush 8, 2), (28, .if_icmp .ge 26, 3), (31, .aload_n 0, 1), (32, .getfield 34, 3), (35, .aload_n 0, 1), (36, .getfield 65, 3), (39, .getfield 161, 3), (42, .iload_n 2, 1), (43, .iaload, 1), (44, .i2l, 1)] = true := by decide +kernel
theorem zr_193 : decode cX8_thrift 24 = .ok (.istore_n 2, 1) ∧ decode cX8_thrift 25 = .ok (.iload_n 2, 1) ∧ decode cX8_thrift 26 = .ok (.bipush 8, 2) ∧ decode cX8_thrift 28 = .ok (.if_icmp .ge 26, 3) ∧ decode cX8_thrift 31 = .ok (.aload_n 0, 1) ∧ decode cX8_thrift 32 = .ok (.getfield 34, 3) ∧ decode cX8_thrift 35 = .ok (.aload_n 0, 1) ∧ decode cX8_thrift 36 = .ok (.getfield 65, 3) ∧ decode cX8_thrift 39 = .ok (.getfield 161, 3) ∧ decode cX8_thrift 42 = .ok (.iload_n 2, 1) ∧ decode cX8_thrift 43 = .ok (.iaload, 1) ∧ decode cX8_thrift 44 = .ok (.i2l, 1) ∧ True := zj_of zk_193
abbrev dX8_thrift_24 := zr_193.1
abbrev dX8_thrift_25 := zr_193.2.1
abbrev dX8_thrift_26 := zr_193.2.2.1
abbrev dX8_thrift_28 := zr_193.2.2.2.1
abbrev dX8_thrift_31 := zr_193.2.2.2.2.1
abbrev dX8_thrift_32 := zr_193.2.2.2.2.2.1
abbrev dX8_thrift_35 := zr_193.2.2.2.2.2.2.1
abbrev dX8_thrift_36 := zr_193.2.2.2.2.2.2.2.1
abbrev dX8_thrift_39 := zr_193.2.2.2.2.2.2.2.2.1
abbrev dX8_thrift_42 := zr_193.2.2.2.2.2.2.2.2.2.1
abbrev dX8_thrift_43 := zr_193.2.2.2.2.2.2.2.2.2.2.1
abbrev dX8_thrift_44 := zr_193.2.2.2.2.2.2.2.2.2.2.2.1
set_option maxRecDepth 100000 in
theorem zk_194 : zck 45 (cX8_thrift.data.toList.drop 45) [(45, .invokevirtual 155, 3), (48, .iinc 2 1, 3), (51, .goto (-26), 3), (54, .iload_n 1, 1), (55, .ireturn, 1)] = true := by decide +kernel
theorem zr_194 : decode cX8_thrift 45 = .ok (.invokevirtual 155, 3) ∧ decode cX8_thrift 48 = .ok (.iinc 2 1, 3) ∧ decode cX8_thrift 51 = .ok (.goto (-26), 3) ∧ decode cX8_thrift 54 = .ok (.iload_n 1, 1) ∧ decode cX8_thrift 55 = .ok (.ireturn, 1) ∧ True := zj_of zk_194
abbrev dX8_thrift_45 := zr_194.1
abbrev dX8_thrift_48 := zr_194.2.1
abbrev dX8_thrift_51 := zr_194.2.2.1
abbrev dX8_thrift_54 := zr_194.2.2.2.1
abbrev dX8_thrift_55 := zr_194.2.2.2.2.1
set_option maxRecDepth 100000 in
theorem zk_195 : zck 0 (cX8_kth.data.toList.drop 0) [(0, .aload_n 0, 1), (1, .iload_n 1, 1), (2, .iload_n 2, 1), (3, .invokevirtual 122, 3), (6, .ifCond .eq 7, 3), (9, .iload_n 3, 1), (10, .ifCond .ge 5, 3), (13, .iconst (-1), 1), (14, .ireturn, 1), (15, .iload_n 3, 1), (16, .iload_n 2, 1), (17, .iload_n 1, 1)] = true := by decide +kernel
theorem zr_195 : decode cX8_kth 0 = .ok (.aload_n 0, 1) ∧ decode cX8_kth 1 = .ok (.iload_n 1, 1) ∧ decode cX8_kth 2 = .ok (.iload_n 2, 1) ∧ decode cX8_kth 3 = .ok (.invokevirtual 122, 3) ∧ decode cX8_kth 6 = .ok (.ifCond .eq 7, 3) ∧ decode cX8_kth 9 = .ok (.iload_n 3, 1) ∧ decode cX8_kth 10 = .ok (.ifCond .ge 5, 3) ∧ decode cX8_kth 13 = .ok (.iconst (-1), 1) ∧ decode cX8_kth 14 = .ok (.ireturn, 1) ∧ decode cX8_kth 15 = .ok (.iload_n 3, 1) ∧ decode cX8_kth 16 = .ok (.iload_n 2, 1) ∧ decode cX8_kth 17 = .ok (.iload_n 1, 1) ∧ True := zj_of zk_195
abbrev dX8_kth_0 := zr_195.1
abbrev dX8_kth_1 := zr_195.2.1
abbrev dX8_kth_2 := zr_195.2.2.1
abbrev dX8_kth_3 := zr_195.2.2.2.1
abbrev dX8_kth_6 := zr_195.2.2.2.2.1
abbrev dX8_kth_9 := zr_195.2.2.2.2.2.1
abbrev dX8_kth_10 := zr_195.2.2.2.2.2.2.1
abbrev dX8_kth_13 := zr_195.2.2.2.2.2.2.2.1
abbrev dX8_kth_14 := zr_195.2.2.2.2.2.2.2.2.1
abbrev dX8_kth_15 := zr_195.2.2.2.2.2.2.2.2.2.1
abbrev dX8_kth_16 := zr_195.2.2.2.2.2.2.2.2.2.2.1
abbrev dX8_kth_17 := zr_195.2.2.2.2.2.2.2.2.2.2.2.1
set_option maxRecDepth 100000 in
theorem zk_196 : zck 18 (cX8_kth.data.toList.drop 18) [(18, .isub, 1), (19, .if_icmp .lt 6, 3), (22, .bipush (-2), 2), (24, .ireturn, 1), (25, .aload_n 0, 1), (26, .getfield 41, 3), (29, .aload_n 0, 1), (30, .getfield 9, 3), (33, .iload_n 1, 1), (34, .iload_n 2, 1), (35, .invokevirtual 164, 3), (38, .aload_n 0, 1)] = true := by decide +kernel
theorem zr_196 : decode cX8_kth 18 = .ok (.isub, 1) ∧ decode cX8_kth 19 = .ok (.if_icmp .lt 6, 3) ∧ decode cX8_kth 22 = .ok (.bipush (-2), 2) ∧ decode cX8_kth 24 = .ok (.ireturn, 1) ∧ decode cX8_kth 25 = .ok (.aload_n 0, 1) ∧ decode cX8_kth 26 = .ok (.getfield 41, 3) ∧ decode cX8_kth 29 = .ok (.aload_n 0, 1) ∧ decode cX8_kth 30 = .ok (.getfield 9, 3) ∧ decode cX8_kth 33 = .ok (.iload_n 1, 1) ∧ decode cX8_kth 34 = .ok (.iload_n 2, 1) ∧ decode cX8_kth 35 = .ok (.invokevirtual 164, 3) ∧ decode cX8_kth 38 = .ok (.aload_n 0, 1) ∧ True := zj_of zk_196
abbrev dX8_kth_18 := zr_196.1
abbrev dX8_kth_19 := zr_196.2.1
abbrev dX8_kth_22 := zr_196.2.2.1
abbrev dX8_kth_24 := zr_196.2.2.2.1
abbrev dX8_kth_25 := zr_196.2.2.2.2.1
abbrev dX8_kth_26 := zr_196.2.2.2.2.2.1
abbrev dX8_kth_29 := zr_196.2.2.2.2.2.2.1
abbrev dX8_kth_30 := zr_196.2.2.2.2.2.2.2.1
abbrev dX8_kth_33 := zr_196.2.2.2.2.2.2.2.2.1
abbrev dX8_kth_34 := zr_196.2.2.2.2.2.2.2.2.2.1
abbrev dX8_kth_35 := zr_196.2.2.2.2.2.2.2.2.2.2.1
abbrev dX8_kth_38 := zr_196.2.2.2.2.2.2.2.2.2.2.2.1
set_option maxRecDepth 100000 in
theorem zk_197 : zck 39 (cX8_kth.data.toList.drop 39) [(39, .getfield 41, 3), (42, .iload_n 3, 1), (43, .invokevirtual 168, 3), (46, .istore 4, 2), (48, .aload_n 0, 1), (49, .aload_n 0, 1), (50, .getfield 41, 3), (53, .iload 4, 2), (55, .invokevirtual 172, 3), (58, .i2l, 1), (59, .aload_n 0, 1), (60, .iload 4, 2)] = true := by decide +kernel
theorem zr_197 : decode cX8_kth 39 = .ok (.getfield 41, 3) ∧ decode cX8_kth 42 = .ok (.iload_n 3, 1) ∧ decode cX8_kth 43 = .ok (.invokevirtual 168, 3) ∧ decode cX8_kth 46 = .ok (.istore 4, 2) ∧ decode cX8_kth 48 = .ok (.aload_n 0, 1) ∧ decode cX8_kth 49 = .ok (.aload_n 0, 1) ∧ decode cX8_kth 50 = .ok (.getfield 41, 3) ∧ decode cX8_kth 53 = .ok (.iload 4, 2) ∧ decode cX8_kth 55 = .ok (.invokevirtual 172, 3) ∧ decode cX8_kth 58 = .ok (.i2l, 1) ∧ decode cX8_kth 59 = .ok (.aload_n 0, 1) ∧ decode cX8_kth 60 = .ok (.iload 4, 2) ∧ True := zj_of zk_197
abbrev dX8_kth_39 := zr_197.1
abbrev dX8_kth_42 := zr_197.2.1
abbrev dX8_kth_43 := zr_197.2.2.1
abbrev dX8_kth_46 := zr_197.2.2.2.1
abbrev dX8_kth_48 := zr_197.2.2.2.2.1
abbrev dX8_kth_49 := zr_197.2.2.2.2.2.1
abbrev dX8_kth_50 := zr_197.2.2.2.2.2.2.1
abbrev dX8_kth_53 := zr_197.2.2.2.2.2.2.2.1
abbrev dX8_kth_55 := zr_197.2.2.2.2.2.2.2.2.1
abbrev dX8_kth_58 := zr_197.2.2.2.2.2.2.2.2.2.1
abbrev dX8_kth_59 := zr_197.2.2.2.2.2.2.2.2.2.2.1
abbrev dX8_kth_60 := zr_197.2.2.2.2.2.2.2.2.2.2.2.1
set_option maxRecDepth 100000 in
theorem zk_198 : zck 62 (cX8_kth.data.toList.drop 62) [(62, .iload_n 1, 1), (63, .invokevirtual 175, 3), (66, .i2l, 1), (67, .invokevirtual 135, 3), (70, .iload 4, 2), (72, .ireturn, 1)] = true := by decide +kernel
theorem zr_198 : decode cX8_kth 62 = .ok (.iload_n 1, 1) ∧ decode cX8_kth 63 = .ok (.invokevirtual 175, 3) ∧ decode cX8_kth 66 = .ok (.i2l, 1) ∧ decode cX8_kth 67 = .ok (.invokevirtual 135, 3) ∧ decode cX8_kth 70 = .ok (.iload 4, 2) ∧ decode cX8_kth 72 = .ok (.ireturn, 1) ∧ True := zj_of zk_198
abbrev dX8_kth_62 := zr_198.1
abbrev dX8_kth_63 := zr_198.2.1
abbrev dX8_kth_66 := zr_198.2.2.1
abbrev dX8_kth_67 := zr_198.2.2.2.1
abbrev dX8_kth_70 := zr_198.2.2.2.2.1
abbrev dX8_kth_72 := zr_198.2.2.2.2.2.1
set_option maxRecDepth 100000 in
theorem zk_199 : zck 0 (cX8_rank.data.toList.drop 0) [(0, .iload_n 1, 1), (1, .invokestatic 108, 3), (4, .ifCond .eq 15, 3), (7, .iload_n 2, 1), (8, .ifCond .lt 11, 3), (11, .iload_n 2, 1), (12, .aload_n 0, 1), (13, .getfield 13, 3), (16, .if_icmp .le 5, 3), (19, .iconst (-1), 1), (20, .ireturn, 1), (21, .aload_n 0, 1)] = true := by decide +kernel
theorem zr_199 : decode cX8_rank 0 = .ok (.iload_n 1, 1) ∧ decode cX8_rank 1 = .ok (.invokestatic 108, 3) ∧ decode cX8_rank 4 = .ok (.ifCond .eq 15, 3) ∧ decode cX8_rank 7 = .ok (.iload_n 2, 1) ∧ decode cX8_rank 8 = .ok (.ifCond .lt 11, 3) ∧ decode cX8_rank 11 = .ok (.iload_n 2, 1) ∧ decode cX8_rank 12 = .ok (.aload_n 0, 1) ∧ decode cX8_rank 13 = .ok (.getfield 13, 3) ∧ decode cX8_rank 16 = .ok (.if_icmp .le 5, 3) ∧ decode cX8_rank 19 = .ok (.iconst (-1), 1) ∧ decode cX8_rank 20 = .ok (.ireturn, 1) ∧ decode cX8_rank 21 = .ok (.aload_n 0, 1) ∧ True := zj_of zk_199
abbrev dX8_rank_0 := zr_199.1
abbrev dX8_rank_1 := zr_199.2.1
abbrev dX8_rank_4 := zr_199.2.2.1
abbrev dX8_rank_7 := zr_199.2.2.2.1
abbrev dX8_rank_8 := zr_199.2.2.2.2.1
abbrev dX8_rank_11 := zr_199.2.2.2.2.2.1
abbrev dX8_rank_12 := zr_199.2.2.2.2.2.2.1
abbrev dX8_rank_13 := zr_199.2.2.2.2.2.2.2.1
abbrev dX8_rank_16 := zr_199.2.2.2.2.2.2.2.2.1
abbrev dX8_rank_19 := zr_199.2.2.2.2.2.2.2.2.2.1
abbrev dX8_rank_20 := zr_199.2.2.2.2.2.2.2.2.2.2.1
abbrev dX8_rank_21 := zr_199.2.2.2.2.2.2.2.2.2.2.2.1
set_option maxRecDepth 100000 in
theorem zk_200 : zck 22 (cX8_rank.data.toList.drop 22) [(22, .iload_n 1, 1), (23, .iconst 0, 1), (24, .iload_n 2, 1), (25, .invokevirtual 178, 3), (28, .ireturn, 1)] = true := by decide +kernel
theorem zr_200 : decode cX8_rank 22 = .ok (.iload_n 1, 1) ∧ decode cX8_rank 23 = .ok (.iconst 0, 1) ∧ decode cX8_rank 24 = .ok (.iload_n 2, 1) ∧ decode cX8_rank 25 = .ok (.invokevirtual 178, 3) ∧ decode cX8_rank 28 = .ok (.ireturn, 1) ∧ True := zj_of zk_200
abbrev dX8_rank_22 := zr_200.1
abbrev dX8_rank_23 := zr_200.2.1
abbrev dX8_rank_24 := zr_200.2.2.1
abbrev dX8_rank_25 := zr_200.2.2.2.1
abbrev dX8_rank_28 := zr_200.2.2.2.2.1
set_option maxRecDepth 100000 in
theorem zk_201 : zck 0 (cX8_select.data.toList.drop 0) [(0, .iload_n 1, 1), (1, .invokestatic 108, 3), (4, .ifCond .eq 7, 3), (7, .iload_n 2, 1), (8, .ifCond .ge 5, 3), (11, .iconst (-1), 1), (12, .ireturn, 1), (13, .iconst 0, 1), (14, .istore_n 3, 1), (15, .iconst 0, 1), (16, .istore 4, 2), (18, .iload 4, 2)] = true := by decide +kernel
theorem zr_201 : decode cX8_select 0 = .ok (.iload_n 1, 1) ∧ decode cX8_select 1 = .ok (.invokestatic 108, 3) ∧ decode cX8_select 4 = .ok (.ifCond .eq 7, 3) ∧ decode cX8_select 7 = .ok (.iload_n 2, 1) ∧ decode cX8_select 8 = .ok (.ifCond .ge 5, 3) ∧ decode cX8_select 11 = .ok (.iconst (-1), 1) ∧ decode cX8_select 12 = .ok (.ireturn, 1) ∧ decode cX8_select 13 = .ok (.iconst 0, 1) ∧ decode cX8_select 14 = .ok (.istore_n 3, 1) ∧ decode cX8_select 15 = .ok (.iconst 0, 1) ∧ decode cX8_select 16 = .ok (.istore 4, 2) ∧ decode cX8_select 18 = .ok (.iload 4, 2) ∧ True := zj_of zk_201
abbrev dX8_select_0 := zr_201.1
abbrev dX8_select_1 := zr_201.2.1
abbrev dX8_select_4 := zr_201.2.2.1
abbrev dX8_select_7 := zr_201.2.2.2.1
abbrev dX8_select_8 := zr_201.2.2.2.2.1
abbrev dX8_select_11 := zr_201.2.2.2.2.2.1
abbrev dX8_select_12 := zr_201.2.2.2.2.2.2.1
abbrev dX8_select_13 := zr_201.2.2.2.2.2.2.2.1
abbrev dX8_select_14 := zr_201.2.2.2.2.2.2.2.2.1
abbrev dX8_select_15 := zr_201.2.2.2.2.2.2.2.2.2.1
abbrev dX8_select_16 := zr_201.2.2.2.2.2.2.2.2.2.2.1
abbrev dX8_select_18 := zr_201.2.2.2.2.2.2.2.2.2.2.2.1
set_option maxRecDepth 100000 in
theorem zk_202 : zck 20 (cX8_select.data.toList.drop 20) [(20, .aload_n 0, 1), (21, .getfield 13, 3), (24, .if_icmp .ge 31, 3), (27, .aload_n 0, 1), (28, .getfield 9, 3), (31, .iload 4, 2), (33, .iaload, 1), (34, .iload_n 1, 1), (35, .if_icmp .ne 14, 3), (38, .iload_n 3, 1), (39, .iload_n 2, 1), (40, .if_icmp .ne 6, 3)] = true := by decide +kernel
theorem zr_202 : decode cX8_select 20 = .ok (.aload_n 0, 1) ∧ decode cX8_select 21 = .ok (.getfield 13, 3) ∧ decode cX8_select 24 = .ok (.if_icmp .ge 31, 3) ∧ decode cX8_select 27 = .ok (.aload_n 0, 1) ∧ decode cX8_select 28 = .ok (.getfield 9, 3) ∧ decode cX8_select 31 = .ok (.iload 4, 2) ∧ decode cX8_select 33 = .ok (.iaload, 1) ∧ decode cX8_select 34 = .ok (.iload_n 1, 1) ∧ decode cX8_select 35 = .ok (.if_icmp .ne 14, 3) ∧ decode cX8_select 38 = .ok (.iload_n 3, 1) ∧ decode cX8_select 39 = .ok (.iload_n 2, 1) ∧ decode cX8_select 40 = .ok (.if_icmp .ne 6, 3) ∧ True := zj_of zk_202
abbrev dX8_select_20 := zr_202.1
abbrev dX8_select_21 := zr_202.2.1
abbrev dX8_select_24 := zr_202.2.2.1
abbrev dX8_select_27 := zr_202.2.2.2.1
abbrev dX8_select_28 := zr_202.2.2.2.2.1
abbrev dX8_select_31 := zr_202.2.2.2.2.2.1
abbrev dX8_select_33 := zr_202.2.2.2.2.2.2.1
abbrev dX8_select_34 := zr_202.2.2.2.2.2.2.2.1
abbrev dX8_select_35 := zr_202.2.2.2.2.2.2.2.2.1
abbrev dX8_select_38 := zr_202.2.2.2.2.2.2.2.2.2.1
abbrev dX8_select_39 := zr_202.2.2.2.2.2.2.2.2.2.2.1
abbrev dX8_select_40 := zr_202.2.2.2.2.2.2.2.2.2.2.2.1
set_option maxRecDepth 100000 in
theorem zk_203 : zck 43 (cX8_select.data.toList.drop 43) [(43, .iload 4, 2), (45, .ireturn, 1), (46, .iinc 3 1, 3), (49, .iinc 4 1, 3), (52, .goto (-34), 3), (55, .bipush (-2), 2), (57, .ireturn, 1)] = true := by decide +kernel
theorem zr_203 : decode cX8_select 43 = .ok (.iload 4, 2) ∧ decode cX8_select 45 = .ok (.ireturn, 1) ∧ decode cX8_select 46 = .ok (.iinc 3 1, 3) ∧ decode cX8_select 49 = .ok (.iinc 4 1, 3) ∧ decode cX8_select 52 = .ok (.goto (-34), 3) ∧ decode cX8_select 55 = .ok (.bipush (-2), 2) ∧ decode cX8_select 57 = .ok (.ireturn, 1) ∧ True := zj_of zk_203
abbrev dX8_select_43 := zr_203.1
abbrev dX8_select_45 := zr_203.2.1
abbrev dX8_select_46 := zr_203.2.2.1
abbrev dX8_select_49 := zr_203.2.2.2.1
abbrev dX8_select_52 := zr_203.2.2.2.2.1
abbrev dX8_select_55 := zr_203.2.2.2.2.2.1
abbrev dX8_select_57 := zr_203.2.2.2.2.2.2.1
set_option maxRecDepth 100000 in
theorem zk_204 : zck 0 (cX8_band.data.toList.drop 0) [(0, .aload_n 0, 1), (1, .iload_n 1, 1), (2, .iload_n 2, 1), (3, .invokevirtual 122, 3), (6, .ifCond .eq 24, 3), (9, .iload_n 3, 1), (10, .invokestatic 108, 3), (13, .ifCond .eq 17, 3), (16, .iload 4, 2), (18, .invokestatic 108, 3), (21, .ifCond .eq 9, 3), (24, .iload_n 3, 1)] = true := by decide +kernel
theorem zr_204 : decode cX8_band 0 = .ok (.aload_n 0, 1) ∧ decode cX8_band 1 = .ok (.iload_n 1, 1) ∧ decode cX8_band 2 = .ok (.iload_n 2, 1) ∧ decode cX8_band 3 = .ok (.invokevirtual 122, 3) ∧ decode cX8_band 6 = .ok (.ifCond .eq 24, 3) ∧ decode cX8_band 9 = .ok (.iload_n 3, 1) ∧ decode cX8_band 10 = .ok (.invokestatic 108, 3) ∧ decode cX8_band 13 = .ok (.ifCond .eq 17, 3) ∧ decode cX8_band 16 = .ok (.iload 4, 2) ∧ decode cX8_band 18 = .ok (.invokestatic 108, 3) ∧ decode cX8_band 21 = .ok (.ifCond .eq 9, 3) ∧ decode cX8_band 24 = .ok (.iload_n 3, 1) ∧ True := zj_of zk_204
abbrev dX8_band_0 := zr_204.1
abbrev dX8_band_1 := zr_204.2.1
abbrev dX8_band_2 := zr_204.2.2.1
abbrev dX8_band_3 := zr_204.2.2.2.1
abbrev dX8_band_6 := zr_204.2.2.2.2.1
abbrev dX8_band_9 := zr_204.2.2.2.2.2.1
abbrev dX8_band_10 := zr_204.2.2.2.2.2.2.1
abbrev dX8_band_13 := zr_204.2.2.2.2.2.2.2.1
abbrev dX8_band_16 := zr_204.2.2.2.2.2.2.2.2.1
abbrev dX8_band_18 := zr_204.2.2.2.2.2.2.2.2.2.1
abbrev dX8_band_21 := zr_204.2.2.2.2.2.2.2.2.2.2.1
abbrev dX8_band_24 := zr_204.2.2.2.2.2.2.2.2.2.2.2.1
set_option maxRecDepth 100000 in
theorem zk_205 : zck 25 (cX8_band.data.toList.drop 25) [(25, .iload 4, 2), (27, .if_icmp .le 5, 3), (30, .iconst (-1), 1), (31, .ireturn, 1), (32, .aload_n 0, 1), (33, .getfield 41, 3), (36, .aload_n 0, 1), (37, .getfield 9, 3), (40, .iload_n 1, 1), (41, .iload_n 2, 1), (42, .invokevirtual 164, 3), (45, .iconst 0, 1)] = true := by decide +kernel
theorem zr_205 : decode cX8_band 25 = .ok (.iload 4, 2) ∧ decode cX8_band 27 = .ok (.if_icmp .le 5, 3) ∧ decode cX8_band 30 = .ok (.iconst (-1), 1) ∧ decode cX8_band 31 = .ok (.ireturn, 1) ∧ decode cX8_band 32 = .ok (.aload_n 0, 1) ∧ decode cX8_band 33 = .ok (.getfield 41, 3) ∧ decode cX8_band 36 = .ok (.aload_n 0, 1) ∧ decode cX8_band 37 = .ok (.getfield 9, 3) ∧ decode cX8_band 40 = .ok (.iload_n 1, 1) ∧ decode cX8_band 41 = .ok (.iload_n 2, 1) ∧ decode cX8_band 42 = .ok (.invokevirtual 164, 3) ∧ decode cX8_band 45 = .ok (.iconst 0, 1) ∧ True := zj_of zk_205
abbrev dX8_band_25 := zr_205.1
abbrev dX8_band_27 := zr_205.2.1
abbrev dX8_band_30 := zr_205.2.2.1
abbrev dX8_band_31 := zr_205.2.2.2.1
abbrev dX8_band_32 := zr_205.2.2.2.2.1
abbrev dX8_band_33 := zr_205.2.2.2.2.2.1
abbrev dX8_band_36 := zr_205.2.2.2.2.2.2.1
abbrev dX8_band_37 := zr_205.2.2.2.2.2.2.2.1
abbrev dX8_band_40 := zr_205.2.2.2.2.2.2.2.2.1
abbrev dX8_band_41 := zr_205.2.2.2.2.2.2.2.2.2.1
abbrev dX8_band_42 := zr_205.2.2.2.2.2.2.2.2.2.2.1
abbrev dX8_band_45 := zr_205.2.2.2.2.2.2.2.2.2.2.2.1
set_option maxRecDepth 100000 in
theorem zk_206 : zck 46 (cX8_band.data.toList.drop 46) [(46, .istore 5, 2), (48, .iload_n 3, 1), (49, .istore 6, 2), (51, .iload 6, 2), (53, .iload 4, 2), (55, .if_icmp .gt 23, 3), (58, .iload 5, 2), (60, .aload_n 0, 1), (61, .getfield 41, 3), (64, .iload 6, 2), (66, .invokevirtual 172, 3), (69, .iadd, 1)] = true := by decide +kernel
theorem zr_206 : decode cX8_band 46 = .ok (.istore 5, 2) ∧ decode cX8_band 48 = .ok (.iload_n 3, 1) ∧ decode cX8_band 49 = .ok (.istore 6, 2) ∧ decode cX8_band 51 = .ok (.iload 6, 2) ∧ decode cX8_band 53 = .ok (.iload 4, 2) ∧ decode cX8_band 55 = .ok (.if_icmp .gt 23, 3) ∧ decode cX8_band 58 = .ok (.iload 5, 2) ∧ decode cX8_band 60 = .ok (.aload_n 0, 1) ∧ decode cX8_band 61 = .ok (.getfield 41, 3) ∧ decode cX8_band 64 = .ok (.iload 6, 2) ∧ decode cX8_band 66 = .ok (.invokevirtual 172, 3) ∧ decode cX8_band 69 = .ok (.iadd, 1) ∧ True := zj_of zk_206
abbrev dX8_band_46 := zr_206.1
abbrev dX8_band_48 := zr_206.2.1
abbrev dX8_band_49 := zr_206.2.2.1
abbrev dX8_band_51 := zr_206.2.2.2.1
abbrev dX8_band_53 := zr_206.2.2.2.2.1
abbrev dX8_band_55 := zr_206.2.2.2.2.2.1
abbrev dX8_band_58 := zr_206.2.2.2.2.2.2.1
abbrev dX8_band_60 := zr_206.2.2.2.2.2.2.2.1
abbrev dX8_band_61 := zr_206.2.2.2.2.2.2.2.2.1
abbrev dX8_band_64 := zr_206.2.2.2.2.2.2.2.2.2.1
abbrev dX8_band_66 := zr_206.2.2.2.2.2.2.2.2.2.2.1
abbrev dX8_band_69 := zr_206.2.2.2.2.2.2.2.2.2.2.2.1
set_option maxRecDepth 100000 in
theorem zk_207 : zck 70 (cX8_band.data.toList.drop 70) [(70, .istore 5, 2), (72, .iinc 6 1, 3), (75, .goto (-24), 3), (78, .aload_n 0, 1), (79, .aload_n 0, 1), (80, .getfield 41, 3), (83, .iload_n 3, 1), (84, .iload 4, 2), (86, .invokevirtual 182, 3), (89, .i2l, 1), (90, .invokevirtual 114, 3), (93, .iload 5, 2)] = true := by decide +kernel
theorem zr_207 : decode cX8_band 70 = .ok (.istore 5, 2) ∧ decode cX8_band 72 = .ok (.iinc 6 1, 3) ∧ decode cX8_band 75 = .ok (.goto (-24), 3) ∧ decode cX8_band 78 = .ok (.aload_n 0, 1) ∧ decode cX8_band 79 = .ok (.aload_n 0, 1) ∧ decode cX8_band 80 = .ok (.getfield 41, 3) ∧ decode cX8_band 83 = .ok (.iload_n 3, 1) ∧ decode cX8_band 84 = .ok (.iload 4, 2) ∧ decode cX8_band 86 = .ok (.invokevirtual 182, 3) ∧ decode cX8_band 89 = .ok (.i2l, 1) ∧ decode cX8_band 90 = .ok (.invokevirtual 114, 3) ∧ decode cX8_band 93 = .ok (.iload 5, 2) ∧ True := zj_of zk_207
abbrev dX8_band_70 := zr_207.1
abbrev dX8_band_72 := zr_207.2.1
abbrev dX8_band_75 := zr_207.2.2.1
abbrev dX8_band_78 := zr_207.2.2.2.1
abbrev dX8_band_79 := zr_207.2.2.2.2.1
abbrev dX8_band_80 := zr_207.2.2.2.2.2.1
abbrev dX8_band_83 := zr_207.2.2.2.2.2.2.1
abbrev dX8_band_84 := zr_207.2.2.2.2.2.2.2.1
abbrev dX8_band_86 := zr_207.2.2.2.2.2.2.2.2.1
abbrev dX8_band_89 := zr_207.2.2.2.2.2.2.2.2.2.1
abbrev dX8_band_90 := zr_207.2.2.2.2.2.2.2.2.2.2.1
abbrev dX8_band_93 := zr_207.2.2.2.2.2.2.2.2.2.2.2.1
set_option maxRecDepth 100000 in
theorem zk_208 : zck 95 (cX8_band.data.toList.drop 95) [(95, .ireturn, 1)] = true := by decide +kernel
theorem zr_208 : decode cX8_band 95 = .ok (.ireturn, 1) ∧ True := zj_of zk_208
abbrev dX8_band_95 := zr_208.1
set_option maxRecDepth 100000 in
theorem zk_209 : zck 0 (cX8_below.data.toList.drop 0) [(0, .aload_n 0, 1), (1, .iload_n 1, 1), (2, .iload_n 2, 1), (3, .invokevirtual 122, 3), (6, .ifCond .eq 15, 3), (9, .iload_n 3, 1), (10, .iconst 1, 1), (11, .if_icmp .lt 10, 3), (14, .iload_n 3, 1), (15, .sipush 256, 3), (18, .if_icmp .le 5, 3), (21, .iconst (-1), 1)] = true := by decide +kernel
theorem zr_209 : decode cX8_below 0 = .ok (.aload_n 0, 1) ∧ decode cX8_below 1 = .ok (.iload_n 1, 1) ∧ decode cX8_below 2 = .ok (.iload_n 2, 1) ∧ decode cX8_below 3 = .ok (.invokevirtual 122, 3) ∧ decode cX8_below 6 = .ok (.ifCond .eq 15, 3) ∧ decode cX8_below 9 = .ok (.iload_n 3, 1) ∧ decode cX8_below 10 = .ok (.iconst 1, 1) ∧ decode cX8_below 11 = .ok (.if_icmp .lt 10, 3) ∧ decode cX8_below 14 = .ok (.iload_n 3, 1) ∧ decode cX8_below 15 = .ok (.sipush 256, 3) ∧ decode cX8_below 18 = .ok (.if_icmp .le 5, 3) ∧ decode cX8_below 21 = .ok (.iconst (-1), 1) ∧ True := zj_of zk_209
abbrev dX8_below_0 := zr_209.1
abbrev dX8_below_1 := zr_209.2.1
abbrev dX8_below_2 := zr_209.2.2.1
abbrev dX8_below_3 := zr_209.2.2.2.1
abbrev dX8_below_6 := zr_209.2.2.2.2.1
abbrev dX8_below_9 := zr_209.2.2.2.2.2.1
abbrev dX8_below_10 := zr_209.2.2.2.2.2.2.1
abbrev dX8_below_11 := zr_209.2.2.2.2.2.2.2.1
abbrev dX8_below_14 := zr_209.2.2.2.2.2.2.2.2.1
abbrev dX8_below_15 := zr_209.2.2.2.2.2.2.2.2.2.1
abbrev dX8_below_18 := zr_209.2.2.2.2.2.2.2.2.2.2.1
abbrev dX8_below_21 := zr_209.2.2.2.2.2.2.2.2.2.2.2.1
set_option maxRecDepth 100000 in
theorem zk_210 : zck 22 (cX8_below.data.toList.drop 22) [(22, .ireturn, 1), (23, .aload_n 0, 1), (24, .getfield 41, 3), (27, .aload_n 0, 1), (28, .getfield 9, 3), (31, .iload_n 1, 1), (32, .iload_n 2, 1), (33, .invokevirtual 164, 3), (36, .iload_n 3, 1), (37, .iconst 1, 1), (38, .isub, 1), (39, .istore 4, 2)] = true := by decide +kernel
theorem zr_210 : decode cX8_below 22 = .ok (.ireturn, 1) ∧ decode cX8_below 23 = .ok (.aload_n 0, 1) ∧ decode cX8_below 24 = .ok (.getfield 41, 3) ∧ decode cX8_below 27 = .ok (.aload_n 0, 1) ∧ decode cX8_below 28 = .ok (.getfield 9, 3) ∧ decode cX8_below 31 = .ok (.iload_n 1, 1) ∧ decode cX8_below 32 = .ok (.iload_n 2, 1) ∧ decode cX8_below 33 = .ok (.invokevirtual 164, 3) ∧ decode cX8_below 36 = .ok (.iload_n 3, 1) ∧ decode cX8_below 37 = .ok (.iconst 1, 1) ∧ decode cX8_below 38 = .ok (.isub, 1) ∧ decode cX8_below 39 = .ok (.istore 4, 2) ∧ True := zj_of zk_210
abbrev dX8_below_22 := zr_210.1
abbrev dX8_below_23 := zr_210.2.1
abbrev dX8_below_24 := zr_210.2.2.1
abbrev dX8_below_27 := zr_210.2.2.2.1
abbrev dX8_below_28 := zr_210.2.2.2.2.1
abbrev dX8_below_31 := zr_210.2.2.2.2.2.1
abbrev dX8_below_32 := zr_210.2.2.2.2.2.2.1
abbrev dX8_below_33 := zr_210.2.2.2.2.2.2.2.1
abbrev dX8_below_36 := zr_210.2.2.2.2.2.2.2.2.1
abbrev dX8_below_37 := zr_210.2.2.2.2.2.2.2.2.2.1
abbrev dX8_below_38 := zr_210.2.2.2.2.2.2.2.2.2.2.1
abbrev dX8_below_39 := zr_210.2.2.2.2.2.2.2.2.2.2.2.1
set_option maxRecDepth 100000 in
theorem zk_211 : zck 41 (cX8_below.data.toList.drop 41) [(41, .iload 4, 2), (43, .ifCond .lt 38, 3), (46, .aload_n 0, 1), (47, .getfield 41, 3), (50, .iload 4, 2), (52, .invokevirtual 172, 3), (55, .ifCond .le 20, 3), (58, .aload_n 0, 1), (59, .aload_n 0, 1), (60, .getfield 41, 3), (63, .iload 4, 2), (65, .invokevirtual 172, 3)] = true := by decide +kernel
theorem zr_211 : decode cX8_below 41 = .ok (.iload 4, 2) ∧ decode cX8_below 43 = .ok (.ifCond .lt 38, 3) ∧ decode cX8_below 46 = .ok (.aload_n 0, 1) ∧ decode cX8_below 47 = .ok (.getfield 41, 3) ∧ decode cX8_below 50 = .ok (.iload 4, 2) ∧ decode cX8_below 52 = .ok (.invokevirtual 172, 3) ∧ decode cX8_below 55 = .ok (.ifCond .le 20, 3) ∧ decode cX8_below 58 = .ok (.aload_n 0, 1) ∧ decode cX8_below 59 = .ok (.aload_n 0, 1) ∧ decode cX8_below 60 = .ok (.getfield 41, 3) ∧ decode cX8_below 63 = .ok (.iload 4, 2) ∧ decode cX8_below 65 = .ok (.invokevirtual 172, 3) ∧ True := zj_of zk_211
abbrev dX8_below_41 := zr_211.1
abbrev dX8_below_43 := zr_211.2.1
abbrev dX8_below_46 := zr_211.2.2.1
abbrev dX8_below_47 := zr_211.2.2.2.1
abbrev dX8_below_50 := zr_211.2.2.2.2.1
abbrev dX8_below_52 := zr_211.2.2.2.2.2.1
abbrev dX8_below_55 := zr_211.2.2.2.2.2.2.1
abbrev dX8_below_58 := zr_211.2.2.2.2.2.2.2.1
abbrev dX8_below_59 := zr_211.2.2.2.2.2.2.2.2.1
abbrev dX8_below_60 := zr_211.2.2.2.2.2.2.2.2.2.1
abbrev dX8_below_63 := zr_211.2.2.2.2.2.2.2.2.2.2.1
abbrev dX8_below_65 := zr_211.2.2.2.2.2.2.2.2.2.2.2.1
set_option maxRecDepth 100000 in
theorem zk_212 : zck 68 (cX8_below.data.toList.drop 68) [(68, .i2l, 1), (69, .invokevirtual 114, 3), (72, .iload 4, 2), (74, .ireturn, 1), (75, .iinc 4 (-1), 3), (78, .goto (-37), 3), (81, .bipush (-2), 2), (83, .ireturn, 1)] = true := by decide +kernel
theorem zr_212 : decode cX8_below 68 = .ok (.i2l, 1) ∧ decode cX8_below 69 = .ok (.invokevirtual 114, 3) ∧ decode cX8_below 72 = .ok (.iload 4, 2) ∧ decode cX8_below 74 = .ok (.ireturn, 1) ∧ decode cX8_below 75 = .ok (.iinc 4 (-1), 3) ∧ decode cX8_below 78 = .ok (.goto (-37), 3) ∧ decode cX8_below 81 = .ok (.bipush (-2), 2) ∧ decode cX8_below 83 = .ok (.ireturn, 1) ∧ True := zj_of zk_212
abbrev dX8_below_68 := zr_212.1
abbrev dX8_below_69 := zr_212.2.1
abbrev dX8_below_72 := zr_212.2.2.1
abbrev dX8_below_74 := zr_212.2.2.2.1
abbrev dX8_below_75 := zr_212.2.2.2.2.1
abbrev dX8_below_78 := zr_212.2.2.2.2.2.1
abbrev dX8_below_81 := zr_212.2.2.2.2.2.2.1
abbrev dX8_below_83 := zr_212.2.2.2.2.2.2.2.1
set_option maxRecDepth 100000 in
theorem zk_213 : zck 0 (cX8_above.data.toList.drop 0) [(0, .aload_n 0, 1), (1, .iload_n 1, 1), (2, .iload_n 2, 1), (3, .invokevirtual 122, 3), (6, .ifCond .eq 15, 3), (9, .iload_n 3, 1), (10, .iconst (-1), 1), (11, .if_icmp .lt 10, 3), (14, .iload_n 3, 1), (15, .sipush 254, 3), (18, .if_icmp .le 5, 3), (21, .iconst (-1), 1)] = true := by decide +kernel
theorem zr_213 : decode cX8_above 0 = .ok (.aload_n 0, 1) ∧ decode cX8_above 1 = .ok (.iload_n 1, 1) ∧ decode cX8_above 2 = .ok (.iload_n 2, 1) ∧ decode cX8_above 3 = .ok (.invokevirtual 122, 3) ∧ decode cX8_above 6 = .ok (.ifCond .eq 15, 3) ∧ decode cX8_above 9 = .ok (.iload_n 3, 1) ∧ decode cX8_above 10 = .ok (.iconst (-1), 1) ∧ decode cX8_above 11 = .ok (.if_icmp .lt 10, 3) ∧ decode cX8_above 14 = .ok (.iload_n 3, 1) ∧ decode cX8_above 15 = .ok (.sipush 254, 3) ∧ decode cX8_above 18 = .ok (.if_icmp .le 5, 3) ∧ decode cX8_above 21 = .ok (.iconst (-1), 1) ∧ True := zj_of zk_213
abbrev dX8_above_0 := zr_213.1
abbrev dX8_above_1 := zr_213.2.1
abbrev dX8_above_2 := zr_213.2.2.1
abbrev dX8_above_3 := zr_213.2.2.2.1
abbrev dX8_above_6 := zr_213.2.2.2.2.1
abbrev dX8_above_9 := zr_213.2.2.2.2.2.1
abbrev dX8_above_10 := zr_213.2.2.2.2.2.2.1
abbrev dX8_above_11 := zr_213.2.2.2.2.2.2.2.1
abbrev dX8_above_14 := zr_213.2.2.2.2.2.2.2.2.1
abbrev dX8_above_15 := zr_213.2.2.2.2.2.2.2.2.2.1
abbrev dX8_above_18 := zr_213.2.2.2.2.2.2.2.2.2.2.1
abbrev dX8_above_21 := zr_213.2.2.2.2.2.2.2.2.2.2.2.1
set_option maxRecDepth 100000 in
theorem zk_214 : zck 22 (cX8_above.data.toList.drop 22) [(22, .ireturn, 1), (23, .aload_n 0, 1), (24, .getfield 41, 3), (27, .aload_n 0, 1), (28, .getfield 9, 3), (31, .iload_n 1, 1), (32, .iload_n 2, 1), (33, .invokevirtual 164, 3), (36, .iload_n 3, 1), (37, .iconst 1, 1), (38, .iadd, 1), (39, .istore 4, 2)] = true := by decide +kernel
theorem zr_214 : decode cX8_above 22 = .ok (.ireturn, 1) ∧ decode cX8_above 23 = .ok (.aload_n 0, 1) ∧ decode cX8_above 24 = .ok (.getfield 41, 3) ∧ decode cX8_above 27 = .ok (.aload_n 0, 1) ∧ decode cX8_above 28 = .ok (.getfield 9, 3) ∧ decode cX8_above 31 = .ok (.iload_n 1, 1) ∧ decode cX8_above 32 = .ok (.iload_n 2, 1) ∧ decode cX8_above 33 = .ok (.invokevirtual 164, 3) ∧ decode cX8_above 36 = .ok (.iload_n 3, 1) ∧ decode cX8_above 37 = .ok (.iconst 1, 1) ∧ decode cX8_above 38 = .ok (.iadd, 1) ∧ decode cX8_above 39 = .ok (.istore 4, 2) ∧ True := zj_of zk_214
abbrev dX8_above_22 := zr_214.1
abbrev dX8_above_23 := zr_214.2.1
abbrev dX8_above_24 := zr_214.2.2.1
abbrev dX8_above_27 := zr_214.2.2.2.1
abbrev dX8_above_28 := zr_214.2.2.2.2.1
abbrev dX8_above_31 := zr_214.2.2.2.2.2.1
abbrev dX8_above_32 := zr_214.2.2.2.2.2.2.1
abbrev dX8_above_33 := zr_214.2.2.2.2.2.2.2.1
abbrev dX8_above_36 := zr_214.2.2.2.2.2.2.2.2.1
abbrev dX8_above_37 := zr_214.2.2.2.2.2.2.2.2.2.1
abbrev dX8_above_38 := zr_214.2.2.2.2.2.2.2.2.2.2.1
abbrev dX8_above_39 := zr_214.2.2.2.2.2.2.2.2.2.2.2.1
set_option maxRecDepth 100000 in
theorem zk_215 : zck 41 (cX8_above.data.toList.drop 41) [(41, .iload 4, 2), (43, .sipush 255, 3), (46, .if_icmp .gt 38, 3), (49, .aload_n 0, 1), (50, .getfield 41, 3), (53, .iload 4, 2), (55, .invokevirtual 172, 3), (58, .ifCond .le 20, 3), (61, .aload_n 0, 1), (62, .aload_n 0, 1), (63, .getfield 41, 3), (66, .iload 4, 2)] = true := by decide +kernel
theorem zr_215 : decode cX8_above 41 = .ok (.iload 4, 2) ∧ decode cX8_above 43 = .ok (.sipush 255, 3) ∧ decode cX8_above 46 = .ok (.if_icmp .gt 38, 3) ∧ decode cX8_above 49 = .ok (.aload_n 0, 1) ∧ decode cX8_above 50 = .ok (.getfield 41, 3) ∧ decode cX8_above 53 = .ok (.iload 4, 2) ∧ decode cX8_above 55 = .ok (.invokevirtual 172, 3) ∧ decode cX8_above 58 = .ok (.ifCond .le 20, 3) ∧ decode cX8_above 61 = .ok (.aload_n 0, 1) ∧ decode cX8_above 62 = .ok (.aload_n 0, 1) ∧ decode cX8_above 63 = .ok (.getfield 41, 3) ∧ decode cX8_above 66 = .ok (.iload 4, 2) ∧ True := zj_of zk_215
abbrev dX8_above_41 := zr_215.1
abbrev dX8_above_43 := zr_215.2.1
abbrev dX8_above_46 := zr_215.2.2.1
abbrev dX8_above_49 := zr_215.2.2.2.1
abbrev dX8_above_50 := zr_215.2.2.2.2.1
abbrev dX8_above_53 := zr_215.2.2.2.2.2.1
abbrev dX8_above_55 := zr_215.2.2.2.2.2.2.1
abbrev dX8_above_58 := zr_215.2.2.2.2.2.2.2.1
abbrev dX8_above_61 := zr_215.2.2.2.2.2.2.2.2.1
abbrev dX8_above_62 := zr_215.2.2.2.2.2.2.2.2.2.1
abbrev dX8_above_63 := zr_215.2.2.2.2.2.2.2.2.2.2.1
abbrev dX8_above_66 := zr_215.2.2.2.2.2.2.2.2.2.2.2.1
set_option maxRecDepth 100000 in
theorem zk_216 : zck 68 (cX8_above.data.toList.drop 68) [(68, .invokevirtual 172, 3), (71, .i2l, 1), (72, .invokevirtual 114, 3), (75, .iload 4, 2), (77, .ireturn, 1), (78, .iinc 4 1, 3), (81, .goto (-40), 3), (84, .bipush (-2), 2), (86, .ireturn, 1)] = true := by decide +kernel
theorem zr_216 : decode cX8_above 68 = .ok (.invokevirtual 172, 3) ∧ decode cX8_above 71 = .ok (.i2l, 1) ∧ decode cX8_above 72 = .ok (.invokevirtual 114, 3) ∧ decode cX8_above 75 = .ok (.iload 4, 2) ∧ decode cX8_above 77 = .ok (.ireturn, 1) ∧ decode cX8_above 78 = .ok (.iinc 4 1, 3) ∧ decode cX8_above 81 = .ok (.goto (-40), 3) ∧ decode cX8_above 84 = .ok (.bipush (-2), 2) ∧ decode cX8_above 86 = .ok (.ireturn, 1) ∧ True := zj_of zk_216
abbrev dX8_above_68 := zr_216.1
abbrev dX8_above_71 := zr_216.2.1
abbrev dX8_above_72 := zr_216.2.2.1
abbrev dX8_above_75 := zr_216.2.2.2.1
abbrev dX8_above_77 := zr_216.2.2.2.2.1
abbrev dX8_above_78 := zr_216.2.2.2.2.2.1
abbrev dX8_above_81 := zr_216.2.2.2.2.2.2.1
abbrev dX8_above_84 := zr_216.2.2.2.2.2.2.2.1
abbrev dX8_above_86 := zr_216.2.2.2.2.2.2.2.2.1
set_option maxRecDepth 100000 in
theorem zk_217 : zck 0 (cX8_sums.data.toList.drop 0) [(0, .aload_n 0, 1), (1, .iload_n 1, 1), (2, .iload_n 2, 1), (3, .invokevirtual 122, 3), (6, .ifCond .eq 7, 3), (9, .iload_n 3, 1), (10, .ifCond .ge 5, 3), (13, .iconst (-1), 1), (14, .ireturn, 1), (15, .iload_n 3, 1), (16, .iload_n 2, 1), (17, .iload_n 1, 1)] = true := by decide +kernel
theorem zr_217 : decode cX8_sums 0 = .ok (.aload_n 0, 1) ∧ decode cX8_sums 1 = .ok (.iload_n 1, 1) ∧ decode cX8_sums 2 = .ok (.iload_n 2, 1) ∧ decode cX8_sums 3 = .ok (.invokevirtual 122, 3) ∧ decode cX8_sums 6 = .ok (.ifCond .eq 7, 3) ∧ decode cX8_sums 9 = .ok (.iload_n 3, 1) ∧ decode cX8_sums 10 = .ok (.ifCond .ge 5, 3) ∧ decode cX8_sums 13 = .ok (.iconst (-1), 1) ∧ decode cX8_sums 14 = .ok (.ireturn, 1) ∧ decode cX8_sums 15 = .ok (.iload_n 3, 1) ∧ decode cX8_sums 16 = .ok (.iload_n 2, 1) ∧ decode cX8_sums 17 = .ok (.iload_n 1, 1) ∧ True := zj_of zk_217
abbrev dX8_sums_0 := zr_217.1
abbrev dX8_sums_1 := zr_217.2.1
abbrev dX8_sums_2 := zr_217.2.2.1
abbrev dX8_sums_3 := zr_217.2.2.2.1
abbrev dX8_sums_6 := zr_217.2.2.2.2.1
abbrev dX8_sums_9 := zr_217.2.2.2.2.2.1
abbrev dX8_sums_10 := zr_217.2.2.2.2.2.2.1
abbrev dX8_sums_13 := zr_217.2.2.2.2.2.2.2.1
abbrev dX8_sums_14 := zr_217.2.2.2.2.2.2.2.2.1
abbrev dX8_sums_15 := zr_217.2.2.2.2.2.2.2.2.2.1
abbrev dX8_sums_16 := zr_217.2.2.2.2.2.2.2.2.2.2.1
abbrev dX8_sums_17 := zr_217.2.2.2.2.2.2.2.2.2.2.2.1
set_option maxRecDepth 100000 in
theorem zk_218 : zck 18 (cX8_sums.data.toList.drop 18) [(18, .isub, 1), (19, .if_icmp .le 6, 3), (22, .bipush (-2), 2), (24, .ireturn, 1), (25, .aload_n 0, 1), (26, .getfield 41, 3), (29, .aload_n 0, 1), (30, .getfield 9, 3), (33, .iload_n 1, 1), (34, .iload_n 2, 1), (35, .invokevirtual 164, 3), (38, .iconst 0, 1)] = true := by decide +kernel
theorem zr_218 : decode cX8_sums 18 = .ok (.isub, 1) ∧ decode cX8_sums 19 = .ok (.if_icmp .le 6, 3) ∧ decode cX8_sums 22 = .ok (.bipush (-2), 2) ∧ decode cX8_sums 24 = .ok (.ireturn, 1) ∧ decode cX8_sums 25 = .ok (.aload_n 0, 1) ∧ decode cX8_sums 26 = .ok (.getfield 41, 3) ∧ decode cX8_sums 29 = .ok (.aload_n 0, 1) ∧ decode cX8_sums 30 = .ok (.getfield 9, 3) ∧ decode cX8_sums 33 = .ok (.iload_n 1, 1) ∧ decode cX8_sums 34 = .ok (.iload_n 2, 1) ∧ decode cX8_sums 35 = .ok (.invokevirtual 164, 3) ∧ decode cX8_sums 38 = .ok (.iconst 0, 1) ∧ True := zj_of zk_218
abbrev dX8_sums_18 := zr_218.1
abbrev dX8_sums_19 := zr_218.2.1
abbrev dX8_sums_22 := zr_218.2.2.1
abbrev dX8_sums_24 := zr_218.2.2.2.1
abbrev dX8_sums_25 := zr_218.2.2.2.2.1
abbrev dX8_sums_26 := zr_218.2.2.2.2.2.1
abbrev dX8_sums_29 := zr_218.2.2.2.2.2.2.1
abbrev dX8_sums_30 := zr_218.2.2.2.2.2.2.2.1
abbrev dX8_sums_33 := zr_218.2.2.2.2.2.2.2.2.1
abbrev dX8_sums_34 := zr_218.2.2.2.2.2.2.2.2.2.1
abbrev dX8_sums_35 := zr_218.2.2.2.2.2.2.2.2.2.2.1
abbrev dX8_sums_38 := zr_218.2.2.2.2.2.2.2.2.2.2.2.1
set_option maxRecDepth 100000 in
theorem zk_219 : zck 39 (cX8_sums.data.toList.drop 39) [(39, .istore 4, 2), (41, .iconst 0, 1), (42, .istore 5, 2), (44, .iconst 0, 1), (45, .istore 6, 2), (47, .iload 6, 2), (49, .iload_n 3, 1), (50, .if_icmp .ge 43, 3), (53, .iload 4, 2), (55, .aload_n 0, 1), (56, .getfield 41, 3), (59, .iload 6, 2)] = true := by decide +kernel
theorem zr_219 : decode cX8_sums 39 = .ok (.istore 4, 2) ∧ decode cX8_sums 41 = .ok (.iconst 0, 1) ∧ decode cX8_sums 42 = .ok (.istore 5, 2) ∧ decode cX8_sums 44 = .ok (.iconst 0, 1) ∧ decode cX8_sums 45 = .ok (.istore 6, 2) ∧ decode cX8_sums 47 = .ok (.iload 6, 2) ∧ decode cX8_sums 49 = .ok (.iload_n 3, 1) ∧ decode cX8_sums 50 = .ok (.if_icmp .ge 43, 3) ∧ decode cX8_sums 53 = .ok (.iload 4, 2) ∧ decode cX8_sums 55 = .ok (.aload_n 0, 1) ∧ decode cX8_sums 56 = .ok (.getfield 41, 3) ∧ decode cX8_sums 59 = .ok (.iload 6, 2) ∧ True := zj_of zk_219
abbrev dX8_sums_39 := zr_219.1
abbrev dX8_sums_41 := zr_219.2.1
abbrev dX8_sums_42 := zr_219.2.2.1
abbrev dX8_sums_44 := zr_219.2.2.2.1
abbrev dX8_sums_45 := zr_219.2.2.2.2.1
abbrev dX8_sums_47 := zr_219.2.2.2.2.2.1
abbrev dX8_sums_49 := zr_219.2.2.2.2.2.2.1
abbrev dX8_sums_50 := zr_219.2.2.2.2.2.2.2.1
abbrev dX8_sums_53 := zr_219.2.2.2.2.2.2.2.2.1
abbrev dX8_sums_55 := zr_219.2.2.2.2.2.2.2.2.2.1
abbrev dX8_sums_56 := zr_219.2.2.2.2.2.2.2.2.2.2.1
abbrev dX8_sums_59 := zr_219.2.2.2.2.2.2.2.2.2.2.2.1
set_option maxRecDepth 100000 in
theorem zk_220 : zck 61 (cX8_sums.data.toList.drop 61) [(61, .invokevirtual 168, 3), (64, .iadd, 1), (65, .istore 4, 2), (67, .iload 5, 2), (69, .aload_n 0, 1), (70, .getfield 41, 3), (73, .iload_n 2, 1), (74, .iload_n 1, 1), (75, .isub, 1), (76, .iconst 1, 1), (77, .isub, 1), (78, .iload 6, 2)] = true := by decide +kernel
theorem zr_220 : decode cX8_sums 61 = .ok (.invokevirtual 168, 3) ∧ decode cX8_sums 64 = .ok (.iadd, 1) ∧ decode cX8_sums 65 = .ok (.istore 4, 2) ∧ decode cX8_sums 67 = .ok (.iload 5, 2) ∧ decode cX8_sums 69 = .ok (.aload_n 0, 1) ∧ decode cX8_sums 70 = .ok (.getfield 41, 3) ∧ decode cX8_sums 73 = .ok (.iload_n 2, 1) ∧ decode cX8_sums 74 = .ok (.iload_n 1, 1) ∧ decode cX8_sums 75 = .ok (.isub, 1) ∧ decode cX8_sums 76 = .ok (.iconst 1, 1) ∧ decode cX8_sums 77 = .ok (.isub, 1) ∧ decode cX8_sums 78 = .ok (.iload 6, 2) ∧ True := zj_of zk_220
abbrev dX8_sums_61 := zr_220.1
abbrev dX8_sums_64 := zr_220.2.1
abbrev dX8_sums_65 := zr_220.2.2.1
abbrev dX8_sums_67 := zr_220.2.2.2.1
abbrev dX8_sums_69 := zr_220.2.2.2.2.1
abbrev dX8_sums_70 := zr_220.2.2.2.2.2.1
abbrev dX8_sums_73 := zr_220.2.2.2.2.2.2.1
abbrev dX8_sums_74 := zr_220.2.2.2.2.2.2.2.1
abbrev dX8_sums_75 := zr_220.2.2.2.2.2.2.2.2.1
abbrev dX8_sums_76 := zr_220.2.2.2.2.2.2.2.2.2.1
abbrev dX8_sums_77 := zr_220.2.2.2.2.2.2.2.2.2.2.1
abbrev dX8_sums_78 := zr_220.2.2.2.2.2.2.2.2.2.2.2.1
set_option maxRecDepth 100000 in
theorem zk_221 : zck 80 (cX8_sums.data.toList.drop 80) [(80, .isub, 1), (81, .invokevirtual 168, 3), (84, .iadd, 1), (85, .istore 5, 2), (87, .iinc 6 1, 3), (90, .goto (-43), 3), (93, .aload_n 0, 1), (94, .iload 5, 2), (96, .i2l, 1), (97, .invokevirtual 114, 3), (100, .iload 4, 2), (102, .ireturn, 1)] = true := by decide +kernel
theorem zr_221 : decode cX8_sums 80 = .ok (.isub, 1) ∧ decode cX8_sums 81 = .ok (.invokevirtual 168, 3) ∧ decode cX8_sums 84 = .ok (.iadd, 1) ∧ decode cX8_sums 85 = .ok (.istore 5, 2) ∧ decode cX8_sums 87 = .ok (.iinc 6 1, 3) ∧ decode cX8_sums 90 = .ok (.goto (-43), 3) ∧ decode cX8_sums 93 = .ok (.aload_n 0, 1) ∧ decode cX8_sums 94 = .ok (.iload 5, 2) ∧ decode cX8_sums 96 = .ok (.i2l, 1) ∧ decode cX8_sums 97 = .ok (.invokevirtual 114, 3) ∧ decode cX8_sums 100 = .ok (.iload 4, 2) ∧ decode cX8_sums 102 = .ok (.ireturn, 1) ∧ True := zj_of zk_221
abbrev dX8_sums_80 := zr_221.1
abbrev dX8_sums_81 := zr_221.2.1
abbrev dX8_sums_84 := zr_221.2.2.1
abbrev dX8_sums_85 := zr_221.2.2.2.1
abbrev dX8_sums_87 := zr_221.2.2.2.2.1
abbrev dX8_sums_90 := zr_221.2.2.2.2.2.1
abbrev dX8_sums_93 := zr_221.2.2.2.2.2.2.1
abbrev dX8_sums_94 := zr_221.2.2.2.2.2.2.2.1
abbrev dX8_sums_96 := zr_221.2.2.2.2.2.2.2.2.1
abbrev dX8_sums_97 := zr_221.2.2.2.2.2.2.2.2.2.1
abbrev dX8_sums_100 := zr_221.2.2.2.2.2.2.2.2.2.2.1
abbrev dX8_sums_102 := zr_221.2.2.2.2.2.2.2.2.2.2.2.1
set_option maxRecDepth 100000 in
theorem zk_222 : zck 0 (cX8_often.data.toList.drop 0) [(0, .aload_n 0, 1), (1, .iload_n 1, 1), (2, .iload_n 2, 1), (3, .invokevirtual 122, 3), (6, .ifCond .eq 10, 3), (9, .iload_n 3, 1), (10, .invokestatic 185, 3), (13, .ifCond .ne 5, 3), (16, .iconst (-1), 1), (17, .ireturn, 1), (18, .aload_n 0, 1), (19, .getfield 41, 3)] = true := by decide +kernel
theorem zr_222 : decode cX8_often 0 = .ok (.aload_n 0, 1) ∧ decode cX8_often 1 = .ok (.iload_n 1, 1) ∧ decode cX8_often 2 = .ok (.iload_n 2, 1) ∧ decode cX8_often 3 = .ok (.invokevirtual 122, 3) ∧ decode cX8_often 6 = .ok (.ifCond .eq 10, 3) ∧ decode cX8_often 9 = .ok (.iload_n 3, 1) ∧ decode cX8_often 10 = .ok (.invokestatic 185, 3) ∧ decode cX8_often 13 = .ok (.ifCond .ne 5, 3) ∧ decode cX8_often 16 = .ok (.iconst (-1), 1) ∧ decode cX8_often 17 = .ok (.ireturn, 1) ∧ decode cX8_often 18 = .ok (.aload_n 0, 1) ∧ decode cX8_often 19 = .ok (.getfield 41, 3) ∧ True := zj_of zk_222
abbrev dX8_often_0 := zr_222.1
abbrev dX8_often_1 := zr_222.2.1
abbrev dX8_often_2 := zr_222.2.2.1
abbrev dX8_often_3 := zr_222.2.2.2.1
abbrev dX8_often_6 := zr_222.2.2.2.2.1
abbrev dX8_often_9 := zr_222.2.2.2.2.2.1
abbrev dX8_often_10 := zr_222.2.2.2.2.2.2.1
abbrev dX8_often_13 := zr_222.2.2.2.2.2.2.2.1
abbrev dX8_often_16 := zr_222.2.2.2.2.2.2.2.2.1
abbrev dX8_often_17 := zr_222.2.2.2.2.2.2.2.2.2.1
abbrev dX8_often_18 := zr_222.2.2.2.2.2.2.2.2.2.2.1
abbrev dX8_often_19 := zr_222.2.2.2.2.2.2.2.2.2.2.2.1
set_option maxRecDepth 100000 in
theorem zk_223 : zck 22 (cX8_often.data.toList.drop 22) [(22, .aload_n 0, 1), (23, .getfield 9, 3), (26, .iload_n 1, 1), (27, .iload_n 2, 1), (28, .invokevirtual 164, 3), (31, .aload_n 0, 1), (32, .aload_n 0, 1), (33, .getfield 41, 3), (36, .iload_n 3, 1), (37, .invokevirtual 188, 3), (40, .i2l, 1), (41, .invokevirtual 114, 3)] = true := by decide +kernel
theorem zr_223 : decode cX8_often 22 = .ok (.aload_n 0, 1) ∧ decode cX8_often 23 = .ok (.getfield 9, 3) ∧ decode cX8_often 26 = .ok (.iload_n 1, 1) ∧ decode cX8_often 27 = .ok (.iload_n 2, 1) ∧ decode cX8_often 28 = .ok (.invokevirtual 164, 3) ∧ decode cX8_often 31 = .ok (.aload_n 0, 1) ∧ decode cX8_often 32 = .ok (.aload_n 0, 1) ∧ decode cX8_often 33 = .ok (.getfield 41, 3) ∧ decode cX8_often 36 = .ok (.iload_n 3, 1) ∧ decode cX8_often 37 = .ok (.invokevirtual 188, 3) ∧ decode cX8_often 40 = .ok (.i2l, 1) ∧ decode cX8_often 41 = .ok (.invokevirtual 114, 3) ∧ True := zj_of zk_223
abbrev dX8_often_22 := zr_223.1
abbrev dX8_often_23 := zr_223.2.1
abbrev dX8_often_26 := zr_223.2.2.1
abbrev dX8_often_27 := zr_223.2.2.2.1
abbrev dX8_often_28 := zr_223.2.2.2.2.1
abbrev dX8_often_31 := zr_223.2.2.2.2.2.1
abbrev dX8_often_32 := zr_223.2.2.2.2.2.2.1
abbrev dX8_often_33 := zr_223.2.2.2.2.2.2.2.1
abbrev dX8_often_36 := zr_223.2.2.2.2.2.2.2.2.1
abbrev dX8_often_37 := zr_223.2.2.2.2.2.2.2.2.2.1
abbrev dX8_often_40 := zr_223.2.2.2.2.2.2.2.2.2.2.1
abbrev dX8_often_41 := zr_223.2.2.2.2.2.2.2.2.2.2.2.1
set_option maxRecDepth 100000 in
theorem zk_224 : zck 44 (cX8_often.data.toList.drop 44) [(44, .iconst 0, 1), (45, .istore 4, 2), (47, .iconst 0, 1), (48, .istore 5, 2), (50, .iload 5, 2), (52, .sipush 255, 3), (55, .if_icmp .gt 59, 3), (58, .aload_n 0, 1), (59, .getfield 41, 3), (62, .iload 5, 2), (64, .invokevirtual 172, 3), (67, .iload_n 3, 1)] = true := by decide +kernel
theorem zr_224 : decode cX8_often 44 = .ok (.iconst 0, 1) ∧ decode cX8_often 45 = .ok (.istore 4, 2) ∧ decode cX8_often 47 = .ok (.iconst 0, 1) ∧ decode cX8_often 48 = .ok (.istore 5, 2) ∧ decode cX8_often 50 = .ok (.iload 5, 2) ∧ decode cX8_often 52 = .ok (.sipush 255, 3) ∧ decode cX8_often 55 = .ok (.if_icmp .gt 59, 3) ∧ decode cX8_often 58 = .ok (.aload_n 0, 1) ∧ decode cX8_often 59 = .ok (.getfield 41, 3) ∧ decode cX8_often 62 = .ok (.iload 5, 2) ∧ decode cX8_often 64 = .ok (.invokevirtual 172, 3) ∧ decode cX8_often 67 = .ok (.iload_n 3, 1) ∧ True := zj_of zk_224
abbrev dX8_often_44 := zr_224.1
abbrev dX8_often_45 := zr_224.2.1
abbrev dX8_often_47 := zr_224.2.2.1
abbrev dX8_often_48 := zr_224.2.2.2.1
abbrev dX8_often_50 := zr_224.2.2.2.2.1
abbrev dX8_often_52 := zr_224.2.2.2.2.2.1
abbrev dX8_often_55 := zr_224.2.2.2.2.2.2.1
abbrev dX8_often_58 := zr_224.2.2.2.2.2.2.2.1
abbrev dX8_often_59 := zr_224.2.2.2.2.2.2.2.2.1
abbrev dX8_often_62 := zr_224.2.2.2.2.2.2.2.2.2.1
abbrev dX8_often_64 := zr_224.2.2.2.2.2.2.2.2.2.2.1
abbrev dX8_often_67 := zr_224.2.2.2.2.2.2.2.2.2.2.2.1
set_option maxRecDepth 100000 in
theorem zk_225 : zck 68 (cX8_often.data.toList.drop 68) [(68, .if_icmp .lt 40, 3), (71, .iload 4, 2), (73, .bipush 16, 2), (75, .if_icmp .ge 30, 3), (78, .aload_n 0, 1), (79, .getfield 34, 3), (82, .iload 5, 2), (84, .i2l, 1), (85, .invokevirtual 155, 3), (88, .aload_n 0, 1), (89, .getfield 34, 3), (92, .aload_n 0, 1)] = true := by decide +kernel
theorem zr_225 : decode cX8_often 68 = .ok (.if_icmp .lt 40, 3) ∧ decode cX8_often 71 = .ok (.iload 4, 2) ∧ decode cX8_often 73 = .ok (.bipush 16, 2) ∧ decode cX8_often 75 = .ok (.if_icmp .ge 30, 3) ∧ decode cX8_often 78 = .ok (.aload_n 0, 1) ∧ decode cX8_often 79 = .ok (.getfield 34, 3) ∧ decode cX8_often 82 = .ok (.iload 5, 2) ∧ decode cX8_often 84 = .ok (.i2l, 1) ∧ decode cX8_often 85 = .ok (.invokevirtual 155, 3) ∧ decode cX8_often 88 = .ok (.aload_n 0, 1) ∧ decode cX8_often 89 = .ok (.getfield 34, 3) ∧ decode cX8_often 92 = .ok (.aload_n 0, 1) ∧ True := zj_of zk_225
abbrev dX8_often_68 := zr_225.1
abbrev dX8_often_71 := zr_225.2.1
abbrev dX8_often_73 := zr_225.2.2.1
abbrev dX8_often_75 := zr_225.2.2.2.1
abbrev dX8_often_78 := zr_225.2.2.2.2.1
abbrev dX8_often_79 := zr_225.2.2.2.2.2.1
abbrev dX8_often_82 := zr_225.2.2.2.2.2.2.1
abbrev dX8_often_84 := zr_225.2.2.2.2.2.2.2.1
abbrev dX8_often_85 := zr_225.2.2.2.2.2.2.2.2.1
abbrev dX8_often_88 := zr_225.2.2.2.2.2.2.2.2.2.1
abbrev dX8_often_89 := zr_225.2.2.2.2.2.2.2.2.2.2.1
abbrev dX8_often_92 := zr_225.2.2.2.2.2.2.2.2.2.2.2.1
set_option maxRecDepth 100000 in
theorem zk_226 : zck 93 (cX8_often.data.toList.drop 93) [(93, .getfield 41, 3), (96, .iload 5, 2), (98, .invokevirtual 172, 3), (101, .i2l, 1), (102, .invokevirtual 155, 3), (105, .iinc 4 1, 3), (108, .iinc 5 1, 3), (111, .goto (-61), 3), (114, .iload 4, 2), (116, .ireturn, 1)] = true := by decide +kernel
theorem zr_226 : decode cX8_often 93 = .ok (.getfield 41, 3) ∧ decode cX8_often 96 = .ok (.iload 5, 2) ∧ decode cX8_often 98 = .ok (.invokevirtual 172, 3) ∧ decode cX8_often 101 = .ok (.i2l, 1) ∧ decode cX8_often 102 = .ok (.invokevirtual 155, 3) ∧ decode cX8_often 105 = .ok (.iinc 4 1, 3) ∧ decode cX8_often 108 = .ok (.iinc 5 1, 3) ∧ decode cX8_often 111 = .ok (.goto (-61), 3) ∧ decode cX8_often 114 = .ok (.iload 4, 2) ∧ decode cX8_often 116 = .ok (.ireturn, 1) ∧ True := zj_of zk_226
abbrev dX8_often_93 := zr_226.1
abbrev dX8_often_96 := zr_226.2.1
abbrev dX8_often_98 := zr_226.2.2.1
abbrev dX8_often_101 := zr_226.2.2.2.1
abbrev dX8_often_102 := zr_226.2.2.2.2.1
abbrev dX8_often_105 := zr_226.2.2.2.2.2.1
abbrev dX8_often_108 := zr_226.2.2.2.2.2.2.1
abbrev dX8_often_111 := zr_226.2.2.2.2.2.2.2.1
abbrev dX8_often_114 := zr_226.2.2.2.2.2.2.2.2.1
abbrev dX8_often_116 := zr_226.2.2.2.2.2.2.2.2.2.1
set_option maxRecDepth 100000 in
theorem zk_227 : zck 0 (cX8_mode.data.toList.drop 0) [(0, .aload_n 0, 1), (1, .iload_n 1, 1), (2, .iload_n 2, 1), (3, .invokevirtual 122, 3), (6, .ifCond .ne 5, 3), (9, .iconst (-1), 1), (10, .ireturn, 1), (11, .iload_n 1, 1), (12, .iload_n 2, 1), (13, .if_icmp .ne 6, 3), (16, .bipush (-2), 2), (18, .ireturn, 1)] = true := by decide +kernel
theorem zr_227 : decode cX8_mode 0 = .ok (.aload_n 0, 1) ∧ decode cX8_mode 1 = .ok (.iload_n 1, 1) ∧ decode cX8_mode 2 = .ok (.iload_n 2, 1) ∧ decode cX8_mode 3 = .ok (.invokevirtual 122, 3) ∧ decode cX8_mode 6 = .ok (.ifCond .ne 5, 3) ∧ decode cX8_mode 9 = .ok (.iconst (-1), 1) ∧ decode cX8_mode 10 = .ok (.ireturn, 1) ∧ decode cX8_mode 11 = .ok (.iload_n 1, 1) ∧ decode cX8_mode 12 = .ok (.iload_n 2, 1) ∧ decode cX8_mode 13 = .ok (.if_icmp .ne 6, 3) ∧ decode cX8_mode 16 = .ok (.bipush (-2), 2) ∧ decode cX8_mode 18 = .ok (.ireturn, 1) ∧ True := zj_of zk_227
abbrev dX8_mode_0 := zr_227.1
abbrev dX8_mode_1 := zr_227.2.1
abbrev dX8_mode_2 := zr_227.2.2.1
abbrev dX8_mode_3 := zr_227.2.2.2.1
abbrev dX8_mode_6 := zr_227.2.2.2.2.1
abbrev dX8_mode_9 := zr_227.2.2.2.2.2.1
abbrev dX8_mode_10 := zr_227.2.2.2.2.2.2.1
abbrev dX8_mode_11 := zr_227.2.2.2.2.2.2.2.1
abbrev dX8_mode_12 := zr_227.2.2.2.2.2.2.2.2.1
abbrev dX8_mode_13 := zr_227.2.2.2.2.2.2.2.2.2.1
abbrev dX8_mode_16 := zr_227.2.2.2.2.2.2.2.2.2.2.1
abbrev dX8_mode_18 := zr_227.2.2.2.2.2.2.2.2.2.2.2.1
set_option maxRecDepth 100000 in
theorem zk_228 : zck 19 (cX8_mode.data.toList.drop 19) [(19, .aload_n 0, 1), (20, .getfield 41, 3), (23, .aload_n 0, 1), (24, .getfield 9, 3), (27, .iload_n 1, 1), (28, .iload_n 2, 1), (29, .invokevirtual 164, 3), (32, .iconst 0, 1), (33, .istore_n 3, 1), (34, .iconst 1, 1), (35, .istore 4, 2), (37, .iload 4, 2)] = true := by decide +kernel
theorem zr_228 : decode cX8_mode 19 = .ok (.aload_n 0, 1) ∧ decode cX8_mode 20 = .ok (.getfield 41, 3) ∧ decode cX8_mode 23 = .ok (.aload_n 0, 1) ∧ decode cX8_mode 24 = .ok (.getfield 9, 3) ∧ decode cX8_mode 27 = .ok (.iload_n 1, 1) ∧ decode cX8_mode 28 = .ok (.iload_n 2, 1) ∧ decode cX8_mode 29 = .ok (.invokevirtual 164, 3) ∧ decode cX8_mode 32 = .ok (.iconst 0, 1) ∧ decode cX8_mode 33 = .ok (.istore_n 3, 1) ∧ decode cX8_mode 34 = .ok (.iconst 1, 1) ∧ decode cX8_mode 35 = .ok (.istore 4, 2) ∧ decode cX8_mode 37 = .ok (.iload 4, 2) ∧ True := zj_of zk_228
abbrev dX8_mode_19 := zr_228.1
abbrev dX8_mode_20 := zr_228.2.1
abbrev dX8_mode_23 := zr_228.2.2.1
abbrev dX8_mode_24 := zr_228.2.2.2.1
abbrev dX8_mode_27 := zr_228.2.2.2.2.1
abbrev dX8_mode_28 := zr_228.2.2.2.2.2.1
abbrev dX8_mode_29 := zr_228.2.2.2.2.2.2.1
abbrev dX8_mode_32 := zr_228.2.2.2.2.2.2.2.1
abbrev dX8_mode_33 := zr_228.2.2.2.2.2.2.2.2.1
abbrev dX8_mode_34 := zr_228.2.2.2.2.2.2.2.2.2.1
abbrev dX8_mode_35 := zr_228.2.2.2.2.2.2.2.2.2.2.1
abbrev dX8_mode_37 := zr_228.2.2.2.2.2.2.2.2.2.2.2.1
set_option maxRecDepth 100000 in
theorem zk_229 : zck 39 (cX8_mode.data.toList.drop 39) [(39, .sipush 255, 3), (42, .if_icmp .gt 32, 3), (45, .aload_n 0, 1), (46, .getfield 41, 3), (49, .iload 4, 2), (51, .invokevirtual 172, 3), (54, .aload_n 0, 1), (55, .getfield 41, 3), (58, .iload_n 3, 1), (59, .invokevirtual 172, 3), (62, .if_icmp .le 6, 3), (65, .iload 4, 2)] = true := by decide +kernel
theorem zr_229 : decode cX8_mode 39 = .ok (.sipush 255, 3) ∧ decode cX8_mode 42 = .ok (.if_icmp .gt 32, 3) ∧ decode cX8_mode 45 = .ok (.aload_n 0, 1) ∧ decode cX8_mode 46 = .ok (.getfield 41, 3) ∧ decode cX8_mode 49 = .ok (.iload 4, 2) ∧ decode cX8_mode 51 = .ok (.invokevirtual 172, 3) ∧ decode cX8_mode 54 = .ok (.aload_n 0, 1) ∧ decode cX8_mode 55 = .ok (.getfield 41, 3) ∧ decode cX8_mode 58 = .ok (.iload_n 3, 1) ∧ decode cX8_mode 59 = .ok (.invokevirtual 172, 3) ∧ decode cX8_mode 62 = .ok (.if_icmp .le 6, 3) ∧ decode cX8_mode 65 = .ok (.iload 4, 2) ∧ True := zj_of zk_229
abbrev dX8_mode_39 := zr_229.1
abbrev dX8_mode_42 := zr_229.2.1
abbrev dX8_mode_45 := zr_229.2.2.1
abbrev dX8_mode_46 := zr_229.2.2.2.1
abbrev dX8_mode_49 := zr_229.2.2.2.2.1
abbrev dX8_mode_51 := zr_229.2.2.2.2.2.1
abbrev dX8_mode_54 := zr_229.2.2.2.2.2.2.1
abbrev dX8_mode_55 := zr_229.2.2.2.2.2.2.2.1
abbrev dX8_mode_58 := zr_229.2.2.2.2.2.2.2.2.1
abbrev dX8_mode_59 := zr_229.2.2.2.2.2.2.2.2.2.1
abbrev dX8_mode_62 := zr_229.2.2.2.2.2.2.2.2.2.2.1
abbrev dX8_mode_65 := zr_229.2.2.2.2.2.2.2.2.2.2.2.1
set_option maxRecDepth 100000 in
theorem zk_230 : zck 67 (cX8_mode.data.toList.drop 67) [(67, .istore_n 3, 1), (68, .iinc 4 1, 3), (71, .goto (-34), 3), (74, .aload_n 0, 1), (75, .aload_n 0, 1), (76, .getfield 41, 3), (79, .iload_n 3, 1), (80, .invokevirtual 172, 3), (83, .i2l, 1), (84, .invokevirtual 114, 3), (87, .iload_n 3, 1), (88, .ireturn, 1)] = true := by decide +kernel
theorem zr_230 : decode cX8_mode 67 = .ok (.istore_n 3, 1) ∧ decode cX8_mode 68 = .ok (.iinc 4 1, 3) ∧ decode cX8_mode 71 = .ok (.goto (-34), 3) ∧ decode cX8_mode 74 = .ok (.aload_n 0, 1) ∧ decode cX8_mode 75 = .ok (.aload_n 0, 1) ∧ decode cX8_mode 76 = .ok (.getfield 41, 3) ∧ decode cX8_mode 79 = .ok (.iload_n 3, 1) ∧ decode cX8_mode 80 = .ok (.invokevirtual 172, 3) ∧ decode cX8_mode 83 = .ok (.i2l, 1) ∧ decode cX8_mode 84 = .ok (.invokevirtual 114, 3) ∧ decode cX8_mode 87 = .ok (.iload_n 3, 1) ∧ decode cX8_mode 88 = .ok (.ireturn, 1) ∧ True := zj_of zk_230
abbrev dX8_mode_67 := zr_230.1
abbrev dX8_mode_68 := zr_230.2.1
abbrev dX8_mode_71 := zr_230.2.2.1
abbrev dX8_mode_74 := zr_230.2.2.2.1
abbrev dX8_mode_75 := zr_230.2.2.2.2.1
abbrev dX8_mode_76 := zr_230.2.2.2.2.2.1
abbrev dX8_mode_79 := zr_230.2.2.2.2.2.2.1
abbrev dX8_mode_80 := zr_230.2.2.2.2.2.2.2.1
abbrev dX8_mode_83 := zr_230.2.2.2.2.2.2.2.2.1
abbrev dX8_mode_84 := zr_230.2.2.2.2.2.2.2.2.2.1
abbrev dX8_mode_87 := zr_230.2.2.2.2.2.2.2.2.2.2.1
abbrev dX8_mode_88 := zr_230.2.2.2.2.2.2.2.2.2.2.2.1
set_option maxRecDepth 100000 in
theorem zk_231 : zck 0 (cX8_across.data.toList.drop 0) [(0, .aload_n 0, 1), (1, .iload_n 1, 1), (2, .iload_n 2, 1), (3, .invokevirtual 122, 3), (6, .ifCond .eq 15, 3), (9, .iload_n 3, 1), (10, .invokestatic 108, 3), (13, .ifCond .eq 8, 3), (16, .iload 4, 2), (18, .ifCond .ge 5, 3), (21, .iconst (-1), 1), (22, .ireturn, 1)] = true := by decide +kernel
theorem zr_231 : decode cX8_across 0 = .ok (.aload_n 0, 1) ∧ decode cX8_across 1 = .ok (.iload_n 1, 1) ∧ decode cX8_across 2 = .ok (.iload_n 2, 1) ∧ decode cX8_across 3 = .ok (.invokevirtual 122, 3) ∧ decode cX8_across 6 = .ok (.ifCond .eq 15, 3) ∧ decode cX8_across 9 = .ok (.iload_n 3, 1) ∧ decode cX8_across 10 = .ok (.invokestatic 108, 3) ∧ decode cX8_across 13 = .ok (.ifCond .eq 8, 3) ∧ decode cX8_across 16 = .ok (.iload 4, 2) ∧ decode cX8_across 18 = .ok (.ifCond .ge 5, 3) ∧ decode cX8_across 21 = .ok (.iconst (-1), 1) ∧ decode cX8_across 22 = .ok (.ireturn, 1) ∧ True := zj_of zk_231
abbrev dX8_across_0 := zr_231.1
abbrev dX8_across_1 := zr_231.2.1
abbrev dX8_across_2 := zr_231.2.2.1
abbrev dX8_across_3 := zr_231.2.2.2.1
abbrev dX8_across_6 := zr_231.2.2.2.2.1
abbrev dX8_across_9 := zr_231.2.2.2.2.2.1
abbrev dX8_across_10 := zr_231.2.2.2.2.2.2.1
abbrev dX8_across_13 := zr_231.2.2.2.2.2.2.2.1
abbrev dX8_across_16 := zr_231.2.2.2.2.2.2.2.2.1
abbrev dX8_across_18 := zr_231.2.2.2.2.2.2.2.2.2.1
abbrev dX8_across_21 := zr_231.2.2.2.2.2.2.2.2.2.2.1
abbrev dX8_across_22 := zr_231.2.2.2.2.2.2.2.2.2.2.2.1
set_option maxRecDepth 100000 in
theorem zk_232 : zck 23 (cX8_across.data.toList.drop 23) [(23, .aload_n 0, 1), (24, .getfield 41, 3), (27, .aload_n 0, 1), (28, .getfield 9, 3), (31, .iload_n 1, 1), (32, .iload_n 2, 1), (33, .invokevirtual 164, 3), (36, .iconst 0, 1), (37, .istore 5, 2), (39, .iconst 0, 1), (40, .istore 6, 2), (42, .iload 6, 2)] = true := by decide +kernel
theorem zr_232 : decode cX8_across 23 = .ok (.aload_n 0, 1) ∧ decode cX8_across 24 = .ok (.getfield 41, 3) ∧ decode cX8_across 27 = .ok (.aload_n 0, 1) ∧ decode cX8_across 28 = .ok (.getfield 9, 3) ∧ decode cX8_across 31 = .ok (.iload_n 1, 1) ∧ decode cX8_across 32 = .ok (.iload_n 2, 1) ∧ decode cX8_across 33 = .ok (.invokevirtual 164, 3) ∧ decode cX8_across 36 = .ok (.iconst 0, 1) ∧ decode cX8_across 37 = .ok (.istore 5, 2) ∧ decode cX8_across 39 = .ok (.iconst 0, 1) ∧ decode cX8_across 40 = .ok (.istore 6, 2) ∧ decode cX8_across 42 = .ok (.iload 6, 2) ∧ True := zj_of zk_232
abbrev dX8_across_23 := zr_232.1
abbrev dX8_across_24 := zr_232.2.1
abbrev dX8_across_27 := zr_232.2.2.1
abbrev dX8_across_28 := zr_232.2.2.2.1
abbrev dX8_across_31 := zr_232.2.2.2.2.1
abbrev dX8_across_32 := zr_232.2.2.2.2.2.1
abbrev dX8_across_33 := zr_232.2.2.2.2.2.2.1
abbrev dX8_across_36 := zr_232.2.2.2.2.2.2.2.1
abbrev dX8_across_37 := zr_232.2.2.2.2.2.2.2.2.1
abbrev dX8_across_39 := zr_232.2.2.2.2.2.2.2.2.2.1
abbrev dX8_across_40 := zr_232.2.2.2.2.2.2.2.2.2.2.1
abbrev dX8_across_42 := zr_232.2.2.2.2.2.2.2.2.2.2.2.1
set_option maxRecDepth 100000 in
theorem zk_233 : zck 44 (cX8_across.data.toList.drop 44) [(44, .sipush 255, 3), (47, .if_icmp .gt 44, 3), (50, .iload 5, 2), (52, .aload_n 0, 1), (53, .getfield 41, 3), (56, .iload 6, 2), (58, .iload_n 3, 1), (59, .ixor, 1), (60, .invokevirtual 172, 3), (63, .iadd, 1), (64, .istore 5, 2), (66, .iload 4, 2)] = true := by decide +kernel
theorem zr_233 : decode cX8_across 44 = .ok (.sipush 255, 3) ∧ decode cX8_across 47 = .ok (.if_icmp .gt 44, 3) ∧ decode cX8_across 50 = .ok (.iload 5, 2) ∧ decode cX8_across 52 = .ok (.aload_n 0, 1) ∧ decode cX8_across 53 = .ok (.getfield 41, 3) ∧ decode cX8_across 56 = .ok (.iload 6, 2) ∧ decode cX8_across 58 = .ok (.iload_n 3, 1) ∧ decode cX8_across 59 = .ok (.ixor, 1) ∧ decode cX8_across 60 = .ok (.invokevirtual 172, 3) ∧ decode cX8_across 63 = .ok (.iadd, 1) ∧ decode cX8_across 64 = .ok (.istore 5, 2) ∧ decode cX8_across 66 = .ok (.iload 4, 2) ∧ True := zj_of zk_233
abbrev dX8_across_44 := zr_233.1
abbrev dX8_across_47 := zr_233.2.1
abbrev dX8_across_50 := zr_233.2.2.1
abbrev dX8_across_52 := zr_233.2.2.2.1
abbrev dX8_across_53 := zr_233.2.2.2.2.1
abbrev dX8_across_56 := zr_233.2.2.2.2.2.1
abbrev dX8_across_58 := zr_233.2.2.2.2.2.2.1
abbrev dX8_across_59 := zr_233.2.2.2.2.2.2.2.1
abbrev dX8_across_60 := zr_233.2.2.2.2.2.2.2.2.1
abbrev dX8_across_63 := zr_233.2.2.2.2.2.2.2.2.2.1
abbrev dX8_across_64 := zr_233.2.2.2.2.2.2.2.2.2.2.1
abbrev dX8_across_66 := zr_233.2.2.2.2.2.2.2.2.2.2.2.1
set_option maxRecDepth 100000 in
theorem zk_234 : zck 68 (cX8_across.data.toList.drop 68) [(68, .iload 5, 2), (70, .if_icmp .ge 15, 3), (73, .aload_n 0, 1), (74, .iload 6, 2), (76, .iload_n 3, 1), (77, .ixor, 1), (78, .i2l, 1), (79, .invokevirtual 114, 3), (82, .iload 6, 2), (84, .ireturn, 1), (85, .iinc 6 1, 3), (88, .goto (-46), 3)] = true := by decide +kernel
theorem zr_234 : decode cX8_across 68 = .ok (.iload 5, 2) ∧ decode cX8_across 70 = .ok (.if_icmp .ge 15, 3) ∧ decode cX8_across 73 = .ok (.aload_n 0, 1) ∧ decode cX8_across 74 = .ok (.iload 6, 2) ∧ decode cX8_across 76 = .ok (.iload_n 3, 1) ∧ decode cX8_across 77 = .ok (.ixor, 1) ∧ decode cX8_across 78 = .ok (.i2l, 1) ∧ decode cX8_across 79 = .ok (.invokevirtual 114, 3) ∧ decode cX8_across 82 = .ok (.iload 6, 2) ∧ decode cX8_across 84 = .ok (.ireturn, 1) ∧ decode cX8_across 85 = .ok (.iinc 6 1, 3) ∧ decode cX8_across 88 = .ok (.goto (-46), 3) ∧ True := zj_of zk_234
abbrev dX8_across_68 := zr_234.1
abbrev dX8_across_70 := zr_234.2.1
abbrev dX8_across_73 := zr_234.2.2.1
abbrev dX8_across_74 := zr_234.2.2.2.1
abbrev dX8_across_76 := zr_234.2.2.2.2.1
abbrev dX8_across_77 := zr_234.2.2.2.2.2.1
abbrev dX8_across_78 := zr_234.2.2.2.2.2.2.1
abbrev dX8_across_79 := zr_234.2.2.2.2.2.2.2.1
abbrev dX8_across_82 := zr_234.2.2.2.2.2.2.2.2.1
abbrev dX8_across_84 := zr_234.2.2.2.2.2.2.2.2.2.1
abbrev dX8_across_85 := zr_234.2.2.2.2.2.2.2.2.2.2.1
abbrev dX8_across_88 := zr_234.2.2.2.2.2.2.2.2.2.2.2.1
set_option maxRecDepth 100000 in
theorem zk_235 : zck 91 (cX8_across.data.toList.drop 91) [(91, .bipush (-2), 2), (93, .ireturn, 1)] = true := by decide +kernel
theorem zr_235 : decode cX8_across 91 = .ok (.bipush (-2), 2) ∧ decode cX8_across 93 = .ok (.ireturn, 1) ∧ True := zj_of zk_235
abbrev dX8_across_91 := zr_235.1
abbrev dX8_across_93 := zr_235.2.1
set_option maxRecDepth 100000 in
theorem zk_236 : zck 0 (cX8_turned.data.toList.drop 0) [(0, .aload_n 0, 1), (1, .iload_n 1, 1), (2, .iload_n 2, 1), (3, .invokevirtual 122, 3), (6, .ifCond .ne 5, 3), (9, .iconst (-1), 1), (10, .ireturn, 1), (11, .iconst 0, 1), (12, .istore_n 3, 1), (13, .iconst 0, 1), (14, .istore 4, 2), (16, .iload_n 1, 1)] = true := by decide +kernel
theorem zr_236 : decode cX8_turned 0 = .ok (.aload_n 0, 1) ∧ decode cX8_turned 1 = .ok (.iload_n 1, 1) ∧ decode cX8_turned 2 = .ok (.iload_n 2, 1) ∧ decode cX8_turned 3 = .ok (.invokevirtual 122, 3) ∧ decode cX8_turned 6 = .ok (.ifCond .ne 5, 3) ∧ decode cX8_turned 9 = .ok (.iconst (-1), 1) ∧ decode cX8_turned 10 = .ok (.ireturn, 1) ∧ decode cX8_turned 11 = .ok (.iconst 0, 1) ∧ decode cX8_turned 12 = .ok (.istore_n 3, 1) ∧ decode cX8_turned 13 = .ok (.iconst 0, 1) ∧ decode cX8_turned 14 = .ok (.istore 4, 2) ∧ decode cX8_turned 16 = .ok (.iload_n 1, 1) ∧ True := zj_of zk_236
abbrev dX8_turned_0 := zr_236.1
abbrev dX8_turned_1 := zr_236.2.1
abbrev dX8_turned_2 := zr_236.2.2.1
abbrev dX8_turned_3 := zr_236.2.2.2.1
abbrev dX8_turned_6 := zr_236.2.2.2.2.1
abbrev dX8_turned_9 := zr_236.2.2.2.2.2.1
abbrev dX8_turned_10 := zr_236.2.2.2.2.2.2.1
abbrev dX8_turned_11 := zr_236.2.2.2.2.2.2.2.1
abbrev dX8_turned_12 := zr_236.2.2.2.2.2.2.2.2.1
abbrev dX8_turned_13 := zr_236.2.2.2.2.2.2.2.2.2.1
abbrev dX8_turned_14 := zr_236.2.2.2.2.2.2.2.2.2.2.1
abbrev dX8_turned_16 := zr_236.2.2.2.2.2.2.2.2.2.2.2.1
set_option maxRecDepth 100000 in
theorem zk_237 : zck 17 (cX8_turned.data.toList.drop 17) [(17, .istore 5, 2), (19, .iload 5, 2), (21, .iload_n 2, 1), (22, .if_icmp .ge 70, 3), (25, .iload 5, 2), (27, .iconst 1, 1), (28, .iadd, 1), (29, .istore 6, 2), (31, .iload 6, 2), (33, .iload_n 2, 1), (34, .if_icmp .ge 52, 3), (37, .aload_n 0, 1)] = true := by decide +kernel
theorem zr_237 : decode cX8_turned 17 = .ok (.istore 5, 2) ∧ decode cX8_turned 19 = .ok (.iload 5, 2) ∧ decode cX8_turned 21 = .ok (.iload_n 2, 1) ∧ decode cX8_turned 22 = .ok (.if_icmp .ge 70, 3) ∧ decode cX8_turned 25 = .ok (.iload 5, 2) ∧ decode cX8_turned 27 = .ok (.iconst 1, 1) ∧ decode cX8_turned 28 = .ok (.iadd, 1) ∧ decode cX8_turned 29 = .ok (.istore 6, 2) ∧ decode cX8_turned 31 = .ok (.iload 6, 2) ∧ decode cX8_turned 33 = .ok (.iload_n 2, 1) ∧ decode cX8_turned 34 = .ok (.if_icmp .ge 52, 3) ∧ decode cX8_turned 37 = .ok (.aload_n 0, 1) ∧ True := zj_of zk_237
abbrev dX8_turned_17 := zr_237.1
abbrev dX8_turned_19 := zr_237.2.1
abbrev dX8_turned_21 := zr_237.2.2.1
abbrev dX8_turned_22 := zr_237.2.2.2.1
abbrev dX8_turned_25 := zr_237.2.2.2.2.1
abbrev dX8_turned_27 := zr_237.2.2.2.2.2.1
abbrev dX8_turned_28 := zr_237.2.2.2.2.2.2.1
abbrev dX8_turned_29 := zr_237.2.2.2.2.2.2.2.1
abbrev dX8_turned_31 := zr_237.2.2.2.2.2.2.2.2.1
abbrev dX8_turned_33 := zr_237.2.2.2.2.2.2.2.2.2.1
abbrev dX8_turned_34 := zr_237.2.2.2.2.2.2.2.2.2.2.1
abbrev dX8_turned_37 := zr_237.2.2.2.2.2.2.2.2.2.2.2.1
set_option maxRecDepth 100000 in
theorem zk_238 : zck 38 (cX8_turned.data.toList.drop 38) [(38, .getfield 9, 3), (41, .iload 5, 2), (43, .iaload, 1), (44, .aload_n 0, 1), (45, .getfield 9, 3), (48, .iload 6, 2), (50, .iaload, 1), (51, .if_icmp .le 9, 3), (54, .iinc 3 1, 3), (57, .goto 23, 3), (60, .aload_n 0, 1), (61, .getfield 9, 3)] = true := by decide +kernel
theorem zr_238 : decode cX8_turned 38 = .ok (.getfield 9, 3) ∧ decode cX8_turned 41 = .ok (.iload 5, 2) ∧ decode cX8_turned 43 = .ok (.iaload, 1) ∧ decode cX8_turned 44 = .ok (.aload_n 0, 1) ∧ decode cX8_turned 45 = .ok (.getfield 9, 3) ∧ decode cX8_turned 48 = .ok (.iload 6, 2) ∧ decode cX8_turned 50 = .ok (.iaload, 1) ∧ decode cX8_turned 51 = .ok (.if_icmp .le 9, 3) ∧ decode cX8_turned 54 = .ok (.iinc 3 1, 3) ∧ decode cX8_turned 57 = .ok (.goto 23, 3) ∧ decode cX8_turned 60 = .ok (.aload_n 0, 1) ∧ decode cX8_turned 61 = .ok (.getfield 9, 3) ∧ True := zj_of zk_238
abbrev dX8_turned_38 := zr_238.1
abbrev dX8_turned_41 := zr_238.2.1
abbrev dX8_turned_43 := zr_238.2.2.1
abbrev dX8_turned_44 := zr_238.2.2.2.1
abbrev dX8_turned_45 := zr_238.2.2.2.2.1
abbrev dX8_turned_48 := zr_238.2.2.2.2.2.1
abbrev dX8_turned_50 := zr_238.2.2.2.2.2.2.1
abbrev dX8_turned_51 := zr_238.2.2.2.2.2.2.2.1
abbrev dX8_turned_54 := zr_238.2.2.2.2.2.2.2.2.1
abbrev dX8_turned_57 := zr_238.2.2.2.2.2.2.2.2.2.1
abbrev dX8_turned_60 := zr_238.2.2.2.2.2.2.2.2.2.2.1
abbrev dX8_turned_61 := zr_238.2.2.2.2.2.2.2.2.2.2.2.1
set_option maxRecDepth 100000 in
theorem zk_239 : zck 64 (cX8_turned.data.toList.drop 64) [(64, .iload 5, 2), (66, .iaload, 1), (67, .aload_n 0, 1), (68, .getfield 9, 3), (71, .iload 6, 2), (73, .iaload, 1), (74, .if_icmp .ne 6, 3), (77, .iinc 4 1, 3), (80, .iinc 6 1, 3), (83, .goto (-52), 3), (86, .iinc 5 1, 3), (89, .goto (-70), 3)] = true := by decide +kernel
theorem zr_239 : decode cX8_turned 64 = .ok (.iload 5, 2) ∧ decode cX8_turned 66 = .ok (.iaload, 1) ∧ decode cX8_turned 67 = .ok (.aload_n 0, 1) ∧ decode cX8_turned 68 = .ok (.getfield 9, 3) ∧ decode cX8_turned 71 = .ok (.iload 6, 2) ∧ decode cX8_turned 73 = .ok (.iaload, 1) ∧ decode cX8_turned 74 = .ok (.if_icmp .ne 6, 3) ∧ decode cX8_turned 77 = .ok (.iinc 4 1, 3) ∧ decode cX8_turned 80 = .ok (.iinc 6 1, 3) ∧ decode cX8_turned 83 = .ok (.goto (-52), 3) ∧ decode cX8_turned 86 = .ok (.iinc 5 1, 3) ∧ decode cX8_turned 89 = .ok (.goto (-70), 3) ∧ True := zj_of zk_239
abbrev dX8_turned_64 := zr_239.1
abbrev dX8_turned_66 := zr_239.2.1
abbrev dX8_turned_67 := zr_239.2.2.1
abbrev dX8_turned_68 := zr_239.2.2.2.1
abbrev dX8_turned_71 := zr_239.2.2.2.2.1
abbrev dX8_turned_73 := zr_239.2.2.2.2.2.1
abbrev dX8_turned_74 := zr_239.2.2.2.2.2.2.1
abbrev dX8_turned_77 := zr_239.2.2.2.2.2.2.2.1
abbrev dX8_turned_80 := zr_239.2.2.2.2.2.2.2.2.1
abbrev dX8_turned_83 := zr_239.2.2.2.2.2.2.2.2.2.1
abbrev dX8_turned_86 := zr_239.2.2.2.2.2.2.2.2.2.2.1
abbrev dX8_turned_89 := zr_239.2.2.2.2.2.2.2.2.2.2.2.1
set_option maxRecDepth 100000 in
theorem zk_240 : zck 92 (cX8_turned.data.toList.drop 92) [(92, .aload_n 0, 1), (93, .iload 4, 2), (95, .i2l, 1), (96, .invokevirtual 114, 3), (99, .iload_n 3, 1), (100, .ireturn, 1)] = true := by decide +kernel
theorem zr_240 : decode cX8_turned 92 = .ok (.aload_n 0, 1) ∧ decode cX8_turned 93 = .ok (.iload 4, 2) ∧ decode cX8_turned 95 = .ok (.i2l, 1) ∧ decode cX8_turned 96 = .ok (.invokevirtual 114, 3) ∧ decode cX8_turned 99 = .ok (.iload_n 3, 1) ∧ decode cX8_turned 100 = .ok (.ireturn, 1) ∧ True := zj_of zk_240
abbrev dX8_turned_92 := zr_240.1
abbrev dX8_turned_93 := zr_240.2.1
abbrev dX8_turned_95 := zr_240.2.2.1
abbrev dX8_turned_96 := zr_240.2.2.2.1
abbrev dX8_turned_99 := zr_240.2.2.2.2.1
abbrev dX8_turned_100 := zr_240.2.2.2.2.2.1
set_option maxRecDepth 100000 in
theorem zk_241 : zck 0 (cX8_spread.data.toList.drop 0) [(0, .aload_n 0, 1), (1, .iload_n 1, 1), (2, .iload_n 2, 1), (3, .invokevirtual 122, 3), (6, .ifCond .eq 13, 3), (9, .iload_n 3, 1), (10, .iconst 1, 1), (11, .if_icmp .lt 8, 3), (14, .iload_n 3, 1), (15, .iconst 4, 1), (16, .if_icmp .le 5, 3), (19, .iconst (-1), 1)] = true := by decide +kernel
theorem zr_241 : decode cX8_spread 0 = .ok (.aload_n 0, 1) ∧ decode cX8_spread 1 = .ok (.iload_n 1, 1) ∧ decode cX8_spread 2 = .ok (.iload_n 2, 1) ∧ decode cX8_spread 3 = .ok (.invokevirtual 122, 3) ∧ decode cX8_spread 6 = .ok (.ifCond .eq 13, 3) ∧ decode cX8_spread 9 = .ok (.iload_n 3, 1) ∧ decode cX8_spread 10 = .ok (.iconst 1, 1) ∧ decode cX8_spread 11 = .ok (.if_icmp .lt 8, 3) ∧ decode cX8_spread 14 = .ok (.iload_n 3, 1) ∧ decode cX8_spread 15 = .ok (.iconst 4, 1) ∧ decode cX8_spread 16 = .ok (.if_icmp .le 5, 3) ∧ decode cX8_spread 19 = .ok (.iconst (-1), 1) ∧ True := zj_of zk_241
abbrev dX8_spread_0 := zr_241.1
abbrev dX8_spread_1 := zr_241.2.1
abbrev dX8_spread_2 := zr_241.2.2.1
abbrev dX8_spread_3 := zr_241.2.2.2.1
abbrev dX8_spread_6 := zr_241.2.2.2.2.1
abbrev dX8_spread_9 := zr_241.2.2.2.2.2.1
abbrev dX8_spread_10 := zr_241.2.2.2.2.2.2.1
abbrev dX8_spread_11 := zr_241.2.2.2.2.2.2.2.1
abbrev dX8_spread_14 := zr_241.2.2.2.2.2.2.2.2.1
abbrev dX8_spread_15 := zr_241.2.2.2.2.2.2.2.2.2.1
abbrev dX8_spread_16 := zr_241.2.2.2.2.2.2.2.2.2.2.1
abbrev dX8_spread_19 := zr_241.2.2.2.2.2.2.2.2.2.2.2.1
set_option maxRecDepth 100000 in
theorem zk_242 : zck 20 (cX8_spread.data.toList.drop 20) [(20, .ireturn, 1), (21, .aload_n 0, 1), (22, .getfield 41, 3), (25, .aload_n 0, 1), (26, .getfield 9, 3), (29, .iload_n 1, 1), (30, .iload_n 2, 1), (31, .invokevirtual 164, 3), (34, .iconst 0, 1), (35, .istore 4, 2), (37, .aload_n 0, 1), (38, .getfield 34, 3)] = true := by decide +kernel
theorem zr_242 : decode cX8_spread 20 = .ok (.ireturn, 1) ∧ decode cX8_spread 21 = .ok (.aload_n 0, 1) ∧ decode cX8_spread 22 = .ok (.getfield 41, 3) ∧ decode cX8_spread 25 = .ok (.aload_n 0, 1) ∧ decode cX8_spread 26 = .ok (.getfield 9, 3) ∧ decode cX8_spread 29 = .ok (.iload_n 1, 1) ∧ decode cX8_spread 30 = .ok (.iload_n 2, 1) ∧ decode cX8_spread 31 = .ok (.invokevirtual 164, 3) ∧ decode cX8_spread 34 = .ok (.iconst 0, 1) ∧ decode cX8_spread 35 = .ok (.istore 4, 2) ∧ decode cX8_spread 37 = .ok (.aload_n 0, 1) ∧ decode cX8_spread 38 = .ok (.getfield 34, 3) ∧ True := zj_of zk_242
abbrev dX8_spread_20 := zr_242.1
abbrev dX8_spread_21 := zr_242.2.1
abbrev dX8_spread_22 := zr_242.2.2.1
abbrev dX8_spread_25 := zr_242.2.2.2.1
abbrev dX8_spread_26 := zr_242.2.2.2.2.1
abbrev dX8_spread_29 := zr_242.2.2.2.2.2.1
abbrev dX8_spread_30 := zr_242.2.2.2.2.2.2.1
abbrev dX8_spread_31 := zr_242.2.2.2.2.2.2.2.1
abbrev dX8_spread_34 := zr_242.2.2.2.2.2.2.2.2.1
abbrev dX8_spread_35 := zr_242.2.2.2.2.2.2.2.2.2.1
abbrev dX8_spread_37 := zr_242.2.2.2.2.2.2.2.2.2.2.1
abbrev dX8_spread_38 := zr_242.2.2.2.2.2.2.2.2.2.2.2.1
set_option maxRecDepth 100000 in
theorem zk_243 : zck 41 (cX8_spread.data.toList.drop 41) [(41, .invokevirtual 152, 3), (44, .iconst 0, 1), (45, .istore 5, 2), (47, .iload 5, 2), (49, .iconst 1, 1), (50, .iload_n 3, 1), (51, .ishl, 1), (52, .if_icmp .ge 39, 3), (55, .aload_n 0, 1), (56, .getfield 41, 3), (59, .iload_n 3, 1), (60, .iload 5, 2)] = true := by decide +kernel
theorem zr_243 : decode cX8_spread 41 = .ok (.invokevirtual 152, 3) ∧ decode cX8_spread 44 = .ok (.iconst 0, 1) ∧ decode cX8_spread 45 = .ok (.istore 5, 2) ∧ decode cX8_spread 47 = .ok (.iload 5, 2) ∧ decode cX8_spread 49 = .ok (.iconst 1, 1) ∧ decode cX8_spread 50 = .ok (.iload_n 3, 1) ∧ decode cX8_spread 51 = .ok (.ishl, 1) ∧ decode cX8_spread 52 = .ok (.if_icmp .ge 39, 3) ∧ decode cX8_spread 55 = .ok (.aload_n 0, 1) ∧ decode cX8_spread 56 = .ok (.getfield 41, 3) ∧ decode cX8_spread 59 = .ok (.iload_n 3, 1) ∧ decode cX8_spread 60 = .ok (.iload 5, 2) ∧ True := zj_of zk_243
abbrev dX8_spread_41 := zr_243.1
abbrev dX8_spread_44 := zr_243.2.1
abbrev dX8_spread_45 := zr_243.2.2.1
abbrev dX8_spread_47 := zr_243.2.2.2.1
abbrev dX8_spread_49 := zr_243.2.2.2.2.1
abbrev dX8_spread_50 := zr_243.2.2.2.2.2.1
abbrev dX8_spread_51 := zr_243.2.2.2.2.2.2.1
abbrev dX8_spread_52 := zr_243.2.2.2.2.2.2.2.1
abbrev dX8_spread_55 := zr_243.2.2.2.2.2.2.2.2.1
abbrev dX8_spread_56 := zr_243.2.2.2.2.2.2.2.2.2.1
abbrev dX8_spread_59 := zr_243.2.2.2.2.2.2.2.2.2.2.1
abbrev dX8_spread_60 := zr_243.2.2.2.2.2.2.2.2.2.2.2.1
set_option maxRecDepth 100000 in
theorem zk_244 : zck 62 (cX8_spread.data.toList.drop 62) [(62, .invokevirtual 191, 3), (65, .istore 6, 2), (67, .aload_n 0, 1), (68, .getfield 34, 3), (71, .iload 6, 2), (73, .i2l, 1), (74, .invokevirtual 155, 3), (77, .iload 6, 2), (79, .ifCond .le 6, 3), (82, .iinc 4 1, 3), (85, .iinc 5 1, 3), (88, .goto (-41), 3)] = true := by decide +kernel
theorem zr_244 : decode cX8_spread 62 = .ok (.invokevirtual 191, 3) ∧ decode cX8_spread 65 = .ok (.istore 6, 2) ∧ decode cX8_spread 67 = .ok (.aload_n 0, 1) ∧ decode cX8_spread 68 = .ok (.getfield 34, 3) ∧ decode cX8_spread 71 = .ok (.iload 6, 2) ∧ decode cX8_spread 73 = .ok (.i2l, 1) ∧ decode cX8_spread 74 = .ok (.invokevirtual 155, 3) ∧ decode cX8_spread 77 = .ok (.iload 6, 2) ∧ decode cX8_spread 79 = .ok (.ifCond .le 6, 3) ∧ decode cX8_spread 82 = .ok (.iinc 4 1, 3) ∧ decode cX8_spread 85 = .ok (.iinc 5 1, 3) ∧ decode cX8_spread 88 = .ok (.goto (-41), 3) ∧ True := zj_of zk_244
abbrev dX8_spread_62 := zr_244.1
abbrev dX8_spread_65 := zr_244.2.1
abbrev dX8_spread_67 := zr_244.2.2.1
abbrev dX8_spread_68 := zr_244.2.2.2.1
abbrev dX8_spread_71 := zr_244.2.2.2.2.1
abbrev dX8_spread_73 := zr_244.2.2.2.2.2.1
abbrev dX8_spread_74 := zr_244.2.2.2.2.2.2.1
abbrev dX8_spread_77 := zr_244.2.2.2.2.2.2.2.1
abbrev dX8_spread_79 := zr_244.2.2.2.2.2.2.2.2.1
abbrev dX8_spread_82 := zr_244.2.2.2.2.2.2.2.2.2.1
abbrev dX8_spread_85 := zr_244.2.2.2.2.2.2.2.2.2.2.1
abbrev dX8_spread_88 := zr_244.2.2.2.2.2.2.2.2.2.2.2.1
set_option maxRecDepth 100000 in
theorem zk_245 : zck 91 (cX8_spread.data.toList.drop 91) [(91, .iload 4, 2), (93, .ireturn, 1)] = true := by decide +kernel
theorem zr_245 : decode cX8_spread 91 = .ok (.iload 4, 2) ∧ decode cX8_spread 93 = .ok (.ireturn, 1) ∧ True := zj_of zk_245
abbrev dX8_spread_91 := zr_245.1
abbrev dX8_spread_93 := zr_245.2.1
set_option maxRecDepth 100000 in
theorem zk_246 : zck 0 (cX8_nearest.data.toList.drop 0) [(0, .aload_n 0, 1), (1, .iload_n 1, 1), (2, .iload_n 2, 1), (3, .invokevirtual 122, 3), (6, .ifCond .ne 5, 3), (9, .iconst (-1), 1), (10, .ireturn, 1), (11, .iload_n 2, 1), (12, .iload_n 1, 1), (13, .isub, 1), (14, .iconst 2, 1)] = true := by decide +kernel
theorem zr_246 : decode cX8_nearest 0 = .ok (.aload_n 0, 1) ∧ decode cX8_nearest 1 = .ok (.iload_n 1, 1) ∧ decode cX8_nearest 2 = .ok (.iload_n 2, 1) ∧ decode cX8_nearest 3 = .ok (.invokevirtual 122, 3) ∧ decode cX8_nearest 6 = .ok (.ifCond .ne 5, 3) ∧ decode cX8_nearest 9 = .ok (.iconst (-1), 1) ∧ decode cX8_nearest 10 = .ok (.ireturn, 1) ∧ decode cX8_nearest 11 = .ok (.iload_n 2, 1) ∧ decode cX8_nearest 12 = .ok (.iload_n 1, 1) ∧ decode cX8_nearest 13 = .ok (.isub, 1) ∧ decode cX8_nearest 14 = .ok (.iconst 2, 1) ∧ True := zj_of zk_246
abbrev dX8_nearest_0 := zr_246.1
abbrev dX8_nearest_1 := zr_246.2.1
abbrev dX8_nearest_2 := zr_246.2.2.1
abbrev dX8_nearest_3 := zr_246.2.2.2.1
abbrev dX8_nearest_6 := zr_246.2.2.2.2.1
abbrev dX8_nearest_9 := zr_246.2.2.2.2.2.1
abbrev dX8_nearest_10 := zr_246.2.2.2.2.2.2.1
abbrev dX8_nearest_11 := zr_246.2.2.2.2.2.2.2.1
abbrev dX8_nearest_12 := zr_246.2.2.2.2.2.2.2.2.1
abbrev dX8_nearest_13 := zr_246.2.2.2.2.2.2.2.2.2.1
abbrev dX8_nearest_14 := zr_246.2.2.2.2.2.2.2.2.2.2.1
