theorem db_of {cc : ByteArray} {L : List (Nat × Instr × Nat)} (h : L.all (fun r => decide (decode cc r.1 = .ok r.2)) = true) {pc n : Nat} {i : Instr} (k : Nat) (hk : L[k]? = some (pc, i, n)) : decode cc pc = .ok (i, n) := of_decide_eq_true (List.all_eq_true.mp h (pc, i, n) (List.mem_of_getElem? hk))
set_option maxRecDepth 100000 in
theorem db_0 : ([(0, .aload_n 0, 1), (1, .invokespecial 3, 3), (4, .aload_n 0, 1), (5, .bipush 64, 2), (7, .newarray .int, 2), (9, .putfield 9, 3), (12, .aload_n 0, 1), (13, .bipush 64, 2), (15, .newarray .long, 2), (17, .putfield 15, 3), (20, .aload_n 0, 1), (21, .iconst 0, 1), (22, .putfield 19, 3), (25, .return_, 1)] : List (Nat × Instr × Nat)).all (fun r => decide (decode cX0_init r.1 = .ok r.2)) = true := by decide +kernel
theorem dX0_init_0 : decode cX0_init 0 = .ok (.aload_n 0, 1) := db_of db_0 0 rfl
theorem dX0_init_1 : decode cX0_init 1 = .ok (.invokespecial 3, 3) := db_of db_0 1 rfl
theorem dX0_init_4 : decode cX0_init 4 = .ok (.aload_n 0, 1) := db_of db_0 2 rfl
theorem dX0_init_5 : decode cX0_init 5 = .ok (.bipush 64, 2) := db_of db_0 3 rfl
theorem dX0_init_7 : decode cX0_init 7 = .ok (.newarray .int, 2) := db_of db_0 4 rfl
theorem dX0_init_9 : decode cX0_init 9 = .ok (.putfield 9, 3) := db_of db_0 5 rfl
theorem dX0_init_12 : decode cX0_init 12 = .ok (.aload_n 0, 1) := db_of db_0 6 rfl
theorem dX0_init_13 : decode cX0_init 13 = .ok (.bipush 64, 2) := db_of db_0 7 rfl
theorem dX0_init_15 : decode cX0_init 15 = .ok (.newarray .long, 2) := db_of db_0 8 rfl
theorem dX0_init_17 : decode cX0_init 17 = .ok (.putfield 15, 3) := db_of db_0 9 rfl
theorem dX0_init_20 : decode cX0_init 20 = .ok (.aload_n 0, 1) := db_of db_0 10 rfl
theorem dX0_init_21 : decode cX0_init 21 = .ok (.iconst 0, 1) := db_of db_0 11 rfl
theorem dX0_init_22 : decode cX0_init 22 = .ok (.putfield 19, 3) := db_of db_0 12 rfl
theorem dX0_init_25 : decode cX0_init 25 = .ok (.return_, 1) := db_of db_0 13 rfl
set_option maxRecDepth 100000 in
theorem db_1 : ([(0, .aload_n 0, 1), (1, .iconst 0, 1), (2, .putfield 19, 3), (5, .iload_n 2, 1), (6, .istore 4, 2), (8, .iload 4, 2), (10, .iload_n 3, 1), (11, .if_icmp .ge 78, 3), (14, .aload_n 0, 1), (15, .getfield 9, 3), (18, .iload 4, 2), (20, .iconst 1, 1), (21, .iastore, 1), (22, .aload_n 0, 1), (23, .getfield 15, 3), (26, .iload 4, 2), (28, .lconst 1, 1), (29, .lastore, 1), (30, .iload_n 2, 1), (31, .istore 5, 2), (33, .iload 5, 2), (35, .iload 4, 2), (37, .if_icmp .ge 28, 3), (40, .aload_n 1, 1), (41, .iload 5, 2), (43, .iaload, 1), (44, .aload_n 1, 1), (45, .iload 4, 2), (47, .iaload, 1), (48, .if_icmp .ge 11, 3), (51, .aload_n 0, 1), (52, .iload 5, 2), (54, .iload 4, 2), (56, .invokevirtual 23, 3), (59, .iinc 5 1, 3), (62, .goto (-29), 3), (65, .aload_n 0, 1), (66, .aload_n 0, 1), (67, .getfield 19, 3), (70, .aload_n 0, 1), (71, .getfield 9, 3), (74, .iload 4, 2), (76, .iaload, 1), (77, .invokestatic 27, 3), (80, .putfield 19, 3), (83, .iinc 4 1, 3), (86, .goto (-78), 3), (89, .return_, 1)] : List (Nat × Instr × Nat)).all (fun r => decide (decode cX0_take r.1 = .ok r.2)) = true := by decide +kernel
theorem dX0_take_0 : decode cX0_take 0 = .ok (.aload_n 0, 1) := db_of db_1 0 rfl
theorem dX0_take_1 : decode cX0_take 1 = .ok (.iconst 0, 1) := db_of db_1 1 rfl
theorem dX0_take_2 : decode cX0_take 2 = .ok (.putfield 19, 3) := db_of db_1 2 rfl
theorem dX0_take_5 : decode cX0_take 5 = .ok (.iload_n 2, 1) := db_of db_1 3 rfl
theorem dX0_take_6 : decode cX0_take 6 = .ok (.istore 4, 2) := db_of db_1 4 rfl
theorem dX0_take_8 : decode cX0_take 8 = .ok (.iload 4, 2) := db_of db_1 5 rfl
theorem dX0_take_10 : decode cX0_take 10 = .ok (.iload_n 3, 1) := db_of db_1 6 rfl
theorem dX0_take_11 : decode cX0_take 11 = .ok (.if_icmp .ge 78, 3) := db_of db_1 7 rfl
theorem dX0_take_14 : decode cX0_take 14 = .ok (.aload_n 0, 1) := db_of db_1 8 rfl
theorem dX0_take_15 : decode cX0_take 15 = .ok (.getfield 9, 3) := db_of db_1 9 rfl
theorem dX0_take_18 : decode cX0_take 18 = .ok (.iload 4, 2) := db_of db_1 10 rfl
theorem dX0_take_20 : decode cX0_take 20 = .ok (.iconst 1, 1) := db_of db_1 11 rfl
theorem dX0_take_21 : decode cX0_take 21 = .ok (.iastore, 1) := db_of db_1 12 rfl
theorem dX0_take_22 : decode cX0_take 22 = .ok (.aload_n 0, 1) := db_of db_1 13 rfl
theorem dX0_take_23 : decode cX0_take 23 = .ok (.getfield 15, 3) := db_of db_1 14 rfl
theorem dX0_take_26 : decode cX0_take 26 = .ok (.iload 4, 2) := db_of db_1 15 rfl
theorem dX0_take_28 : decode cX0_take 28 = .ok (.lconst 1, 1) := db_of db_1 16 rfl
theorem dX0_take_29 : decode cX0_take 29 = .ok (.lastore, 1) := db_of db_1 17 rfl
theorem dX0_take_30 : decode cX0_take 30 = .ok (.iload_n 2, 1) := db_of db_1 18 rfl
theorem dX0_take_31 : decode cX0_take 31 = .ok (.istore 5, 2) := db_of db_1 19 rfl
theorem dX0_take_33 : decode cX0_take 33 = .ok (.iload 5, 2) := db_of db_1 20 rfl
theorem dX0_take_35 : decode cX0_take 35 = .ok (.iload 4, 2) := db_of db_1 21 rfl
theorem dX0_take_37 : decode cX0_take 37 = .ok (.if_icmp .ge 28, 3) := db_of db_1 22 rfl
theorem dX0_take_40 : decode cX0_take 40 = .ok (.aload_n 1, 1) := db_of db_1 23 rfl
theorem dX0_take_41 : decode cX0_take 41 = .ok (.iload 5, 2) := db_of db_1 24 rfl
theorem dX0_take_43 : decode cX0_take 43 = .ok (.iaload, 1) := db_of db_1 25 rfl
theorem dX0_take_44 : decode cX0_take 44 = .ok (.aload_n 1, 1) := db_of db_1 26 rfl
theorem dX0_take_45 : decode cX0_take 45 = .ok (.iload 4, 2) := db_of db_1 27 rfl
theorem dX0_take_47 : decode cX0_take 47 = .ok (.iaload, 1) := db_of db_1 28 rfl
theorem dX0_take_48 : decode cX0_take 48 = .ok (.if_icmp .ge 11, 3) := db_of db_1 29 rfl
theorem dX0_take_51 : decode cX0_take 51 = .ok (.aload_n 0, 1) := db_of db_1 30 rfl
theorem dX0_take_52 : decode cX0_take 52 = .ok (.iload 5, 2) := db_of db_1 31 rfl
theorem dX0_take_54 : decode cX0_take 54 = .ok (.iload 4, 2) := db_of db_1 32 rfl
theorem dX0_take_56 : decode cX0_take 56 = .ok (.invokevirtual 23, 3) := db_of db_1 33 rfl
theorem dX0_take_59 : decode cX0_take 59 = .ok (.iinc 5 1, 3) := db_of db_1 34 rfl
theorem dX0_take_62 : decode cX0_take 62 = .ok (.goto (-29), 3) := db_of db_1 35 rfl
theorem dX0_take_65 : decode cX0_take 65 = .ok (.aload_n 0, 1) := db_of db_1 36 rfl
theorem dX0_take_66 : decode cX0_take 66 = .ok (.aload_n 0, 1) := db_of db_1 37 rfl
theorem dX0_take_67 : decode cX0_take 67 = .ok (.getfield 19, 3) := db_of db_1 38 rfl
theorem dX0_take_70 : decode cX0_take 70 = .ok (.aload_n 0, 1) := db_of db_1 39 rfl
theorem dX0_take_71 : decode cX0_take 71 = .ok (.getfield 9, 3) := db_of db_1 40 rfl
theorem dX0_take_74 : decode cX0_take 74 = .ok (.iload 4, 2) := db_of db_1 41 rfl
theorem dX0_take_76 : decode cX0_take 76 = .ok (.iaload, 1) := db_of db_1 42 rfl
theorem dX0_take_77 : decode cX0_take 77 = .ok (.invokestatic 27, 3) := db_of db_1 43 rfl
theorem dX0_take_80 : decode cX0_take 80 = .ok (.putfield 19, 3) := db_of db_1 44 rfl
theorem dX0_take_83 : decode cX0_take 83 = .ok (.iinc 4 1, 3) := db_of db_1 45 rfl
theorem dX0_take_86 : decode cX0_take 86 = .ok (.goto (-78), 3) := db_of db_1 46 rfl
theorem dX0_take_89 : decode cX0_take 89 = .ok (.return_, 1) := db_of db_1 47 rfl
set_option maxRecDepth 100000 in
theorem db_2 : ([(0, .aload_n 0, 1), (1, .getfield 9, 3), (4, .iload_n 1, 1), (5, .iaload, 1), (6, .iconst 1, 1), (7, .iadd, 1), (8, .istore_n 3, 1), (9, .iload_n 3, 1), (10, .aload_n 0, 1), (11, .getfield 9, 3), (14, .iload_n 2, 1), (15, .iaload, 1), (16, .if_icmp .le 25, 3), (19, .aload_n 0, 1), (20, .getfield 9, 3), (23, .iload_n 2, 1), (24, .iload_n 3, 1), (25, .iastore, 1), (26, .aload_n 0, 1), (27, .getfield 15, 3), (30, .iload_n 2, 1), (31, .aload_n 0, 1), (32, .getfield 15, 3), (35, .iload_n 1, 1), (36, .laload, 1), (37, .lastore, 1), (38, .goto 28, 3), (41, .iload_n 3, 1), (42, .aload_n 0, 1), (43, .getfield 9, 3), (46, .iload_n 2, 1), (47, .iaload, 1), (48, .if_icmp .ne 18, 3), (51, .aload_n 0, 1), (52, .getfield 15, 3), (55, .iload_n 2, 1), (56, .dup2, 1), (57, .laload, 1), (58, .aload_n 0, 1), (59, .getfield 15, 3), (62, .iload_n 1, 1), (63, .laload, 1), (64, .ladd, 1), (65, .lastore, 1), (66, .return_, 1)] : List (Nat × Instr × Nat)).all (fun r => decide (decode cX0_goOn r.1 = .ok r.2)) = true := by decide +kernel
theorem dX0_goOn_0 : decode cX0_goOn 0 = .ok (.aload_n 0, 1) := db_of db_2 0 rfl
theorem dX0_goOn_1 : decode cX0_goOn 1 = .ok (.getfield 9, 3) := db_of db_2 1 rfl
theorem dX0_goOn_4 : decode cX0_goOn 4 = .ok (.iload_n 1, 1) := db_of db_2 2 rfl
theorem dX0_goOn_5 : decode cX0_goOn 5 = .ok (.iaload, 1) := db_of db_2 3 rfl
theorem dX0_goOn_6 : decode cX0_goOn 6 = .ok (.iconst 1, 1) := db_of db_2 4 rfl
theorem dX0_goOn_7 : decode cX0_goOn 7 = .ok (.iadd, 1) := db_of db_2 5 rfl
theorem dX0_goOn_8 : decode cX0_goOn 8 = .ok (.istore_n 3, 1) := db_of db_2 6 rfl
theorem dX0_goOn_9 : decode cX0_goOn 9 = .ok (.iload_n 3, 1) := db_of db_2 7 rfl
theorem dX0_goOn_10 : decode cX0_goOn 10 = .ok (.aload_n 0, 1) := db_of db_2 8 rfl
theorem dX0_goOn_11 : decode cX0_goOn 11 = .ok (.getfield 9, 3) := db_of db_2 9 rfl
theorem dX0_goOn_14 : decode cX0_goOn 14 = .ok (.iload_n 2, 1) := db_of db_2 10 rfl
theorem dX0_goOn_15 : decode cX0_goOn 15 = .ok (.iaload, 1) := db_of db_2 11 rfl
theorem dX0_goOn_16 : decode cX0_goOn 16 = .ok (.if_icmp .le 25, 3) := db_of db_2 12 rfl
theorem dX0_goOn_19 : decode cX0_goOn 19 = .ok (.aload_n 0, 1) := db_of db_2 13 rfl
theorem dX0_goOn_20 : decode cX0_goOn 20 = .ok (.getfield 9, 3) := db_of db_2 14 rfl
theorem dX0_goOn_23 : decode cX0_goOn 23 = .ok (.iload_n 2, 1) := db_of db_2 15 rfl
theorem dX0_goOn_24 : decode cX0_goOn 24 = .ok (.iload_n 3, 1) := db_of db_2 16 rfl
theorem dX0_goOn_25 : decode cX0_goOn 25 = .ok (.iastore, 1) := db_of db_2 17 rfl
theorem dX0_goOn_26 : decode cX0_goOn 26 = .ok (.aload_n 0, 1) := db_of db_2 18 rfl
theorem dX0_goOn_27 : decode cX0_goOn 27 = .ok (.getfield 15, 3) := db_of db_2 19 rfl
theorem dX0_goOn_30 : decode cX0_goOn 30 = .ok (.iload_n 2, 1) := db_of db_2 20 rfl
theorem dX0_goOn_31 : decode cX0_goOn 31 = .ok (.aload_n 0, 1) := db_of db_2 21 rfl
theorem dX0_goOn_32 : decode cX0_goOn 32 = .ok (.getfield 15, 3) := db_of db_2 22 rfl
theorem dX0_goOn_35 : decode cX0_goOn 35 = .ok (.iload_n 1, 1) := db_of db_2 23 rfl
theorem dX0_goOn_36 : decode cX0_goOn 36 = .ok (.laload, 1) := db_of db_2 24 rfl
theorem dX0_goOn_37 : decode cX0_goOn 37 = .ok (.lastore, 1) := db_of db_2 25 rfl
theorem dX0_goOn_38 : decode cX0_goOn 38 = .ok (.goto 28, 3) := db_of db_2 26 rfl
theorem dX0_goOn_41 : decode cX0_goOn 41 = .ok (.iload_n 3, 1) := db_of db_2 27 rfl
theorem dX0_goOn_42 : decode cX0_goOn 42 = .ok (.aload_n 0, 1) := db_of db_2 28 rfl
theorem dX0_goOn_43 : decode cX0_goOn 43 = .ok (.getfield 9, 3) := db_of db_2 29 rfl
theorem dX0_goOn_46 : decode cX0_goOn 46 = .ok (.iload_n 2, 1) := db_of db_2 30 rfl
theorem dX0_goOn_47 : decode cX0_goOn 47 = .ok (.iaload, 1) := db_of db_2 31 rfl
theorem dX0_goOn_48 : decode cX0_goOn 48 = .ok (.if_icmp .ne 18, 3) := db_of db_2 32 rfl
theorem dX0_goOn_51 : decode cX0_goOn 51 = .ok (.aload_n 0, 1) := db_of db_2 33 rfl
theorem dX0_goOn_52 : decode cX0_goOn 52 = .ok (.getfield 15, 3) := db_of db_2 34 rfl
theorem dX0_goOn_55 : decode cX0_goOn 55 = .ok (.iload_n 2, 1) := db_of db_2 35 rfl
theorem dX0_goOn_56 : decode cX0_goOn 56 = .ok (.dup2, 1) := db_of db_2 36 rfl
theorem dX0_goOn_57 : decode cX0_goOn 57 = .ok (.laload, 1) := db_of db_2 37 rfl
theorem dX0_goOn_58 : decode cX0_goOn 58 = .ok (.aload_n 0, 1) := db_of db_2 38 rfl
theorem dX0_goOn_59 : decode cX0_goOn 59 = .ok (.getfield 15, 3) := db_of db_2 39 rfl
theorem dX0_goOn_62 : decode cX0_goOn 62 = .ok (.iload_n 1, 1) := db_of db_2 40 rfl
theorem dX0_goOn_63 : decode cX0_goOn 63 = .ok (.laload, 1) := db_of db_2 41 rfl
theorem dX0_goOn_64 : decode cX0_goOn 64 = .ok (.ladd, 1) := db_of db_2 42 rfl
theorem dX0_goOn_65 : decode cX0_goOn 65 = .ok (.lastore, 1) := db_of db_2 43 rfl
theorem dX0_goOn_66 : decode cX0_goOn 66 = .ok (.return_, 1) := db_of db_2 44 rfl
set_option maxRecDepth 100000 in
theorem db_3 : ([(0, .iconst (-1), 1), (1, .istore 4, 2), (3, .iload_n 2, 1), (4, .istore 5, 2), (6, .iload 5, 2), (8, .iload_n 3, 1), (9, .if_icmp .ge 44, 3), (12, .aload_n 0, 1), (13, .getfield 9, 3), (16, .iload 5, 2), (18, .iaload, 1), (19, .aload_n 0, 1), (20, .getfield 19, 3), (23, .if_icmp .ne 24, 3), (26, .iload 4, 2), (28, .iconst (-1), 1), (29, .if_icmp .eq 12, 3), (32, .aload_n 1, 1), (33, .iload 5, 2), (35, .iaload, 1), (36, .iload 4, 2), (38, .if_icmp .ge 9, 3), (41, .aload_n 1, 1), (42, .iload 5, 2), (44, .iaload, 1), (45, .istore 4, 2), (47, .iinc 5 1, 3), (50, .goto (-44), 3), (53, .iload 4, 2), (55, .ireturn, 1)] : List (Nat × Instr × Nat)).all (fun r => decide (decode cX0_leastEnd r.1 = .ok r.2)) = true := by decide +kernel
theorem dX0_leastEnd_0 : decode cX0_leastEnd 0 = .ok (.iconst (-1), 1) := db_of db_3 0 rfl
theorem dX0_leastEnd_1 : decode cX0_leastEnd 1 = .ok (.istore 4, 2) := db_of db_3 1 rfl
theorem dX0_leastEnd_3 : decode cX0_leastEnd 3 = .ok (.iload_n 2, 1) := db_of db_3 2 rfl
theorem dX0_leastEnd_4 : decode cX0_leastEnd 4 = .ok (.istore 5, 2) := db_of db_3 3 rfl
theorem dX0_leastEnd_6 : decode cX0_leastEnd 6 = .ok (.iload 5, 2) := db_of db_3 4 rfl
theorem dX0_leastEnd_8 : decode cX0_leastEnd 8 = .ok (.iload_n 3, 1) := db_of db_3 5 rfl
theorem dX0_leastEnd_9 : decode cX0_leastEnd 9 = .ok (.if_icmp .ge 44, 3) := db_of db_3 6 rfl
theorem dX0_leastEnd_12 : decode cX0_leastEnd 12 = .ok (.aload_n 0, 1) := db_of db_3 7 rfl
theorem dX0_leastEnd_13 : decode cX0_leastEnd 13 = .ok (.getfield 9, 3) := db_of db_3 8 rfl
theorem dX0_leastEnd_16 : decode cX0_leastEnd 16 = .ok (.iload 5, 2) := db_of db_3 9 rfl
theorem dX0_leastEnd_18 : decode cX0_leastEnd 18 = .ok (.iaload, 1) := db_of db_3 10 rfl
theorem dX0_leastEnd_19 : decode cX0_leastEnd 19 = .ok (.aload_n 0, 1) := db_of db_3 11 rfl
theorem dX0_leastEnd_20 : decode cX0_leastEnd 20 = .ok (.getfield 19, 3) := db_of db_3 12 rfl
theorem dX0_leastEnd_23 : decode cX0_leastEnd 23 = .ok (.if_icmp .ne 24, 3) := db_of db_3 13 rfl
theorem dX0_leastEnd_26 : decode cX0_leastEnd 26 = .ok (.iload 4, 2) := db_of db_3 14 rfl
theorem dX0_leastEnd_28 : decode cX0_leastEnd 28 = .ok (.iconst (-1), 1) := db_of db_3 15 rfl
theorem dX0_leastEnd_29 : decode cX0_leastEnd 29 = .ok (.if_icmp .eq 12, 3) := db_of db_3 16 rfl
theorem dX0_leastEnd_32 : decode cX0_leastEnd 32 = .ok (.aload_n 1, 1) := db_of db_3 17 rfl
theorem dX0_leastEnd_33 : decode cX0_leastEnd 33 = .ok (.iload 5, 2) := db_of db_3 18 rfl
theorem dX0_leastEnd_35 : decode cX0_leastEnd 35 = .ok (.iaload, 1) := db_of db_3 19 rfl
theorem dX0_leastEnd_36 : decode cX0_leastEnd 36 = .ok (.iload 4, 2) := db_of db_3 20 rfl
theorem dX0_leastEnd_38 : decode cX0_leastEnd 38 = .ok (.if_icmp .ge 9, 3) := db_of db_3 21 rfl
theorem dX0_leastEnd_41 : decode cX0_leastEnd 41 = .ok (.aload_n 1, 1) := db_of db_3 22 rfl
theorem dX0_leastEnd_42 : decode cX0_leastEnd 42 = .ok (.iload 5, 2) := db_of db_3 23 rfl
theorem dX0_leastEnd_44 : decode cX0_leastEnd 44 = .ok (.iaload, 1) := db_of db_3 24 rfl
theorem dX0_leastEnd_45 : decode cX0_leastEnd 45 = .ok (.istore 4, 2) := db_of db_3 25 rfl
theorem dX0_leastEnd_47 : decode cX0_leastEnd 47 = .ok (.iinc 5 1, 3) := db_of db_3 26 rfl
theorem dX0_leastEnd_50 : decode cX0_leastEnd 50 = .ok (.goto (-44), 3) := db_of db_3 27 rfl
theorem dX0_leastEnd_53 : decode cX0_leastEnd 53 = .ok (.iload 4, 2) := db_of db_3 28 rfl
theorem dX0_leastEnd_55 : decode cX0_leastEnd 55 = .ok (.ireturn, 1) := db_of db_3 29 rfl
set_option maxRecDepth 100000 in
theorem db_4 : ([(0, .lconst 0, 1), (1, .lstore_n 3, 1), (2, .iload_n 1, 1), (3, .istore 5, 2), (5, .iload 5, 2), (7, .iload_n 2, 1), (8, .if_icmp .ge 33, 3), (11, .aload_n 0, 1), (12, .getfield 9, 3), (15, .iload 5, 2), (17, .iaload, 1), (18, .aload_n 0, 1), (19, .getfield 19, 3), (22, .if_icmp .ne 13, 3), (25, .lload_n 3, 1), (26, .aload_n 0, 1), (27, .getfield 15, 3), (30, .iload 5, 2), (32, .laload, 1), (33, .ladd, 1), (34, .lstore_n 3, 1), (35, .iinc 5 1, 3), (38, .goto (-33), 3), (41, .lload_n 3, 1), (42, .lreturn, 1)] : List (Nat × Instr × Nat)).all (fun r => decide (decode cX0_waysToLongest r.1 = .ok r.2)) = true := by decide +kernel
theorem dX0_waysToLongest_0 : decode cX0_waysToLongest 0 = .ok (.lconst 0, 1) := db_of db_4 0 rfl
theorem dX0_waysToLongest_1 : decode cX0_waysToLongest 1 = .ok (.lstore_n 3, 1) := db_of db_4 1 rfl
theorem dX0_waysToLongest_2 : decode cX0_waysToLongest 2 = .ok (.iload_n 1, 1) := db_of db_4 2 rfl
theorem dX0_waysToLongest_3 : decode cX0_waysToLongest 3 = .ok (.istore 5, 2) := db_of db_4 3 rfl
theorem dX0_waysToLongest_5 : decode cX0_waysToLongest 5 = .ok (.iload 5, 2) := db_of db_4 4 rfl
theorem dX0_waysToLongest_7 : decode cX0_waysToLongest 7 = .ok (.iload_n 2, 1) := db_of db_4 5 rfl
theorem dX0_waysToLongest_8 : decode cX0_waysToLongest 8 = .ok (.if_icmp .ge 33, 3) := db_of db_4 6 rfl
theorem dX0_waysToLongest_11 : decode cX0_waysToLongest 11 = .ok (.aload_n 0, 1) := db_of db_4 7 rfl
theorem dX0_waysToLongest_12 : decode cX0_waysToLongest 12 = .ok (.getfield 9, 3) := db_of db_4 8 rfl
theorem dX0_waysToLongest_15 : decode cX0_waysToLongest 15 = .ok (.iload 5, 2) := db_of db_4 9 rfl
theorem dX0_waysToLongest_17 : decode cX0_waysToLongest 17 = .ok (.iaload, 1) := db_of db_4 10 rfl
theorem dX0_waysToLongest_18 : decode cX0_waysToLongest 18 = .ok (.aload_n 0, 1) := db_of db_4 11 rfl
theorem dX0_waysToLongest_19 : decode cX0_waysToLongest 19 = .ok (.getfield 19, 3) := db_of db_4 12 rfl
theorem dX0_waysToLongest_22 : decode cX0_waysToLongest 22 = .ok (.if_icmp .ne 13, 3) := db_of db_4 13 rfl
theorem dX0_waysToLongest_25 : decode cX0_waysToLongest 25 = .ok (.lload_n 3, 1) := db_of db_4 14 rfl
theorem dX0_waysToLongest_26 : decode cX0_waysToLongest 26 = .ok (.aload_n 0, 1) := db_of db_4 15 rfl
theorem dX0_waysToLongest_27 : decode cX0_waysToLongest 27 = .ok (.getfield 15, 3) := db_of db_4 16 rfl
theorem dX0_waysToLongest_30 : decode cX0_waysToLongest 30 = .ok (.iload 5, 2) := db_of db_4 17 rfl
theorem dX0_waysToLongest_32 : decode cX0_waysToLongest 32 = .ok (.laload, 1) := db_of db_4 18 rfl
theorem dX0_waysToLongest_33 : decode cX0_waysToLongest 33 = .ok (.ladd, 1) := db_of db_4 19 rfl
theorem dX0_waysToLongest_34 : decode cX0_waysToLongest 34 = .ok (.lstore_n 3, 1) := db_of db_4 20 rfl
theorem dX0_waysToLongest_35 : decode cX0_waysToLongest 35 = .ok (.iinc 5 1, 3) := db_of db_4 21 rfl
theorem dX0_waysToLongest_38 : decode cX0_waysToLongest 38 = .ok (.goto (-33), 3) := db_of db_4 22 rfl
theorem dX0_waysToLongest_41 : decode cX0_waysToLongest 41 = .ok (.lload_n 3, 1) := db_of db_4 23 rfl
theorem dX0_waysToLongest_42 : decode cX0_waysToLongest 42 = .ok (.lreturn, 1) := db_of db_4 24 rfl
set_option maxRecDepth 100000 in
theorem db_5 : ([(0, .aload_n 0, 1), (1, .invokespecial 3, 3), (4, .aload_n 0, 1), (5, .bipush 8, 2), (7, .newarray .long, 2), (9, .putfield 9, 3), (12, .aload_n 0, 1), (13, .bipush 64, 2), (15, .newarray .int, 2), (17, .putfield 15, 3), (20, .aload_n 0, 1), (21, .bipush 64, 2), (23, .newarray .int, 2), (25, .putfield 19, 3), (28, .aload_n 0, 1), (29, .iconst 0, 1), (30, .putfield 22, 3), (33, .return_, 1)] : List (Nat × Instr × Nat)).all (fun r => decide (decode cX1_init r.1 = .ok r.2)) = true := by decide +kernel
theorem dX1_init_0 : decode cX1_init 0 = .ok (.aload_n 0, 1) := db_of db_5 0 rfl
theorem dX1_init_1 : decode cX1_init 1 = .ok (.invokespecial 3, 3) := db_of db_5 1 rfl
theorem dX1_init_4 : decode cX1_init 4 = .ok (.aload_n 0, 1) := db_of db_5 2 rfl
theorem dX1_init_5 : decode cX1_init 5 = .ok (.bipush 8, 2) := db_of db_5 3 rfl
theorem dX1_init_7 : decode cX1_init 7 = .ok (.newarray .long, 2) := db_of db_5 4 rfl
theorem dX1_init_9 : decode cX1_init 9 = .ok (.putfield 9, 3) := db_of db_5 5 rfl
theorem dX1_init_12 : decode cX1_init 12 = .ok (.aload_n 0, 1) := db_of db_5 6 rfl
theorem dX1_init_13 : decode cX1_init 13 = .ok (.bipush 64, 2) := db_of db_5 7 rfl
theorem dX1_init_15 : decode cX1_init 15 = .ok (.newarray .int, 2) := db_of db_5 8 rfl
theorem dX1_init_17 : decode cX1_init 17 = .ok (.putfield 15, 3) := db_of db_5 9 rfl
theorem dX1_init_20 : decode cX1_init 20 = .ok (.aload_n 0, 1) := db_of db_5 10 rfl
theorem dX1_init_21 : decode cX1_init 21 = .ok (.bipush 64, 2) := db_of db_5 11 rfl
theorem dX1_init_23 : decode cX1_init 23 = .ok (.newarray .int, 2) := db_of db_5 12 rfl
theorem dX1_init_25 : decode cX1_init 25 = .ok (.putfield 19, 3) := db_of db_5 13 rfl
theorem dX1_init_28 : decode cX1_init 28 = .ok (.aload_n 0, 1) := db_of db_5 14 rfl
theorem dX1_init_29 : decode cX1_init 29 = .ok (.iconst 0, 1) := db_of db_5 15 rfl
theorem dX1_init_30 : decode cX1_init 30 = .ok (.putfield 22, 3) := db_of db_5 16 rfl
theorem dX1_init_33 : decode cX1_init 33 = .ok (.return_, 1) := db_of db_5 17 rfl
set_option maxRecDepth 100000 in
theorem db_6 : ([(0, .aload_n 0, 1), (1, .iload_n 2, 1), (2, .putfield 22, 3), (5, .iconst 0, 1), (6, .istore_n 3, 1), (7, .aload_n 0, 1), (8, .invokevirtual 26, 3), (11, .iconst 0, 1), (12, .istore 4, 2), (14, .iload 4, 2), (16, .bipush 8, 2), (18, .if_icmp .ge 52, 3), (21, .aload_n 0, 1), (22, .aload_n 1, 1), (23, .bipush 7, 2), (25, .iload 4, 2), (27, .isub, 1), (28, .invokevirtual 29, 3), (31, .lstore 5, 2), (33, .iload_n 3, 1), (34, .lload 5, 2), (36, .aload_n 0, 1), (37, .getfield 9, 3), (40, .iload 4, 2), (42, .laload, 1), (43, .lxor, 1), (44, .invokestatic 33, 3), (47, .iadd, 1), (48, .istore_n 3, 1), (49, .aload_n 0, 1), (50, .getfield 9, 3), (53, .iload 4, 2), (55, .lload 5, 2), (57, .lastore, 1), (58, .aload_n 0, 1), (59, .lload 5, 2), (61, .invokevirtual 39, 3), (64, .iinc 4 1, 3), (67, .goto (-53), 3), (70, .iload_n 3, 1), (71, .ireturn, 1)] : List (Nat × Instr × Nat)).all (fun r => decide (decode cX1_remake r.1 = .ok r.2)) = true := by decide +kernel
theorem dX1_remake_0 : decode cX1_remake 0 = .ok (.aload_n 0, 1) := db_of db_6 0 rfl
theorem dX1_remake_1 : decode cX1_remake 1 = .ok (.iload_n 2, 1) := db_of db_6 1 rfl
theorem dX1_remake_2 : decode cX1_remake 2 = .ok (.putfield 22, 3) := db_of db_6 2 rfl
theorem dX1_remake_5 : decode cX1_remake 5 = .ok (.iconst 0, 1) := db_of db_6 3 rfl
theorem dX1_remake_6 : decode cX1_remake 6 = .ok (.istore_n 3, 1) := db_of db_6 4 rfl
theorem dX1_remake_7 : decode cX1_remake 7 = .ok (.aload_n 0, 1) := db_of db_6 5 rfl
theorem dX1_remake_8 : decode cX1_remake 8 = .ok (.invokevirtual 26, 3) := db_of db_6 6 rfl
theorem dX1_remake_11 : decode cX1_remake 11 = .ok (.iconst 0, 1) := db_of db_6 7 rfl
theorem dX1_remake_12 : decode cX1_remake 12 = .ok (.istore 4, 2) := db_of db_6 8 rfl
theorem dX1_remake_14 : decode cX1_remake 14 = .ok (.iload 4, 2) := db_of db_6 9 rfl
theorem dX1_remake_16 : decode cX1_remake 16 = .ok (.bipush 8, 2) := db_of db_6 10 rfl
theorem dX1_remake_18 : decode cX1_remake 18 = .ok (.if_icmp .ge 52, 3) := db_of db_6 11 rfl
theorem dX1_remake_21 : decode cX1_remake 21 = .ok (.aload_n 0, 1) := db_of db_6 12 rfl
theorem dX1_remake_22 : decode cX1_remake 22 = .ok (.aload_n 1, 1) := db_of db_6 13 rfl
theorem dX1_remake_23 : decode cX1_remake 23 = .ok (.bipush 7, 2) := db_of db_6 14 rfl
theorem dX1_remake_25 : decode cX1_remake 25 = .ok (.iload 4, 2) := db_of db_6 15 rfl
theorem dX1_remake_27 : decode cX1_remake 27 = .ok (.isub, 1) := db_of db_6 16 rfl
theorem dX1_remake_28 : decode cX1_remake 28 = .ok (.invokevirtual 29, 3) := db_of db_6 17 rfl
theorem dX1_remake_31 : decode cX1_remake 31 = .ok (.lstore 5, 2) := db_of db_6 18 rfl
theorem dX1_remake_33 : decode cX1_remake 33 = .ok (.iload_n 3, 1) := db_of db_6 19 rfl
theorem dX1_remake_34 : decode cX1_remake 34 = .ok (.lload 5, 2) := db_of db_6 20 rfl
theorem dX1_remake_36 : decode cX1_remake 36 = .ok (.aload_n 0, 1) := db_of db_6 21 rfl
theorem dX1_remake_37 : decode cX1_remake 37 = .ok (.getfield 9, 3) := db_of db_6 22 rfl
theorem dX1_remake_40 : decode cX1_remake 40 = .ok (.iload 4, 2) := db_of db_6 23 rfl
theorem dX1_remake_42 : decode cX1_remake 42 = .ok (.laload, 1) := db_of db_6 24 rfl
theorem dX1_remake_43 : decode cX1_remake 43 = .ok (.lxor, 1) := db_of db_6 25 rfl
theorem dX1_remake_44 : decode cX1_remake 44 = .ok (.invokestatic 33, 3) := db_of db_6 26 rfl
theorem dX1_remake_47 : decode cX1_remake 47 = .ok (.iadd, 1) := db_of db_6 27 rfl
theorem dX1_remake_48 : decode cX1_remake 48 = .ok (.istore_n 3, 1) := db_of db_6 28 rfl
theorem dX1_remake_49 : decode cX1_remake 49 = .ok (.aload_n 0, 1) := db_of db_6 29 rfl
theorem dX1_remake_50 : decode cX1_remake 50 = .ok (.getfield 9, 3) := db_of db_6 30 rfl
theorem dX1_remake_53 : decode cX1_remake 53 = .ok (.iload 4, 2) := db_of db_6 31 rfl
theorem dX1_remake_55 : decode cX1_remake 55 = .ok (.lload 5, 2) := db_of db_6 32 rfl
theorem dX1_remake_57 : decode cX1_remake 57 = .ok (.lastore, 1) := db_of db_6 33 rfl
theorem dX1_remake_58 : decode cX1_remake 58 = .ok (.aload_n 0, 1) := db_of db_6 34 rfl
theorem dX1_remake_59 : decode cX1_remake 59 = .ok (.lload 5, 2) := db_of db_6 35 rfl
theorem dX1_remake_61 : decode cX1_remake 61 = .ok (.invokevirtual 39, 3) := db_of db_6 36 rfl
theorem dX1_remake_64 : decode cX1_remake 64 = .ok (.iinc 4 1, 3) := db_of db_6 37 rfl
theorem dX1_remake_67 : decode cX1_remake 67 = .ok (.goto (-53), 3) := db_of db_6 38 rfl
theorem dX1_remake_70 : decode cX1_remake 70 = .ok (.iload_n 3, 1) := db_of db_6 39 rfl
theorem dX1_remake_71 : decode cX1_remake 71 = .ok (.ireturn, 1) := db_of db_6 40 rfl
set_option maxRecDepth 100000 in
theorem db_7 : ([(0, .aload_n 0, 1), (1, .invokevirtual 26, 3), (4, .iconst 0, 1), (5, .istore_n 3, 1), (6, .iload_n 3, 1), (7, .iload_n 1, 1), (8, .if_icmp .ge 25, 3), (11, .iload_n 3, 1), (12, .bipush 8, 2), (14, .if_icmp .ge 19, 3), (17, .aload_n 0, 1), (18, .aload_n 0, 1), (19, .getfield 9, 3), (22, .iload_n 3, 1), (23, .laload, 1), (24, .invokevirtual 39, 3), (27, .iinc 3 1, 3), (30, .goto (-24), 3), (33, .aload_n 0, 1), (34, .getfield 15, 3), (37, .iload_n 2, 1), (38, .iaload, 1), (39, .ireturn, 1)] : List (Nat × Instr × Nat)).all (fun r => decide (decode cX1_placeAt r.1 = .ok r.2)) = true := by decide +kernel
theorem dX1_placeAt_0 : decode cX1_placeAt 0 = .ok (.aload_n 0, 1) := db_of db_7 0 rfl
theorem dX1_placeAt_1 : decode cX1_placeAt 1 = .ok (.invokevirtual 26, 3) := db_of db_7 1 rfl
theorem dX1_placeAt_4 : decode cX1_placeAt 4 = .ok (.iconst 0, 1) := db_of db_7 2 rfl
theorem dX1_placeAt_5 : decode cX1_placeAt 5 = .ok (.istore_n 3, 1) := db_of db_7 3 rfl
theorem dX1_placeAt_6 : decode cX1_placeAt 6 = .ok (.iload_n 3, 1) := db_of db_7 4 rfl
theorem dX1_placeAt_7 : decode cX1_placeAt 7 = .ok (.iload_n 1, 1) := db_of db_7 5 rfl
theorem dX1_placeAt_8 : decode cX1_placeAt 8 = .ok (.if_icmp .ge 25, 3) := db_of db_7 6 rfl
theorem dX1_placeAt_11 : decode cX1_placeAt 11 = .ok (.iload_n 3, 1) := db_of db_7 7 rfl
theorem dX1_placeAt_12 : decode cX1_placeAt 12 = .ok (.bipush 8, 2) := db_of db_7 8 rfl
theorem dX1_placeAt_14 : decode cX1_placeAt 14 = .ok (.if_icmp .ge 19, 3) := db_of db_7 9 rfl
theorem dX1_placeAt_17 : decode cX1_placeAt 17 = .ok (.aload_n 0, 1) := db_of db_7 10 rfl
theorem dX1_placeAt_18 : decode cX1_placeAt 18 = .ok (.aload_n 0, 1) := db_of db_7 11 rfl
theorem dX1_placeAt_19 : decode cX1_placeAt 19 = .ok (.getfield 9, 3) := db_of db_7 12 rfl
theorem dX1_placeAt_22 : decode cX1_placeAt 22 = .ok (.iload_n 3, 1) := db_of db_7 13 rfl
theorem dX1_placeAt_23 : decode cX1_placeAt 23 = .ok (.laload, 1) := db_of db_7 14 rfl
theorem dX1_placeAt_24 : decode cX1_placeAt 24 = .ok (.invokevirtual 39, 3) := db_of db_7 15 rfl
theorem dX1_placeAt_27 : decode cX1_placeAt 27 = .ok (.iinc 3 1, 3) := db_of db_7 16 rfl
theorem dX1_placeAt_30 : decode cX1_placeAt 30 = .ok (.goto (-24), 3) := db_of db_7 17 rfl
theorem dX1_placeAt_33 : decode cX1_placeAt 33 = .ok (.aload_n 0, 1) := db_of db_7 18 rfl
theorem dX1_placeAt_34 : decode cX1_placeAt 34 = .ok (.getfield 15, 3) := db_of db_7 19 rfl
theorem dX1_placeAt_37 : decode cX1_placeAt 37 = .ok (.iload_n 2, 1) := db_of db_7 20 rfl
theorem dX1_placeAt_38 : decode cX1_placeAt 38 = .ok (.iaload, 1) := db_of db_7 21 rfl
theorem dX1_placeAt_39 : decode cX1_placeAt 39 = .ok (.ireturn, 1) := db_of db_7 22 rfl
set_option maxRecDepth 100000 in
theorem db_8 : ([(0, .iconst 0, 1), (1, .istore_n 1, 1), (2, .iload_n 1, 1), (3, .aload_n 0, 1), (4, .getfield 22, 3), (7, .if_icmp .ge 16, 3), (10, .aload_n 0, 1), (11, .getfield 15, 3), (14, .iload_n 1, 1), (15, .iload_n 1, 1), (16, .iastore, 1), (17, .iinc 1 1, 3), (20, .goto (-18), 3), (23, .return_, 1)] : List (Nat × Instr × Nat)).all (fun r => decide (decode cX1_startOrder r.1 = .ok r.2)) = true := by decide +kernel
theorem dX1_startOrder_0 : decode cX1_startOrder 0 = .ok (.iconst 0, 1) := db_of db_8 0 rfl
theorem dX1_startOrder_1 : decode cX1_startOrder 1 = .ok (.istore_n 1, 1) := db_of db_8 1 rfl
theorem dX1_startOrder_2 : decode cX1_startOrder 2 = .ok (.iload_n 1, 1) := db_of db_8 2 rfl
theorem dX1_startOrder_3 : decode cX1_startOrder 3 = .ok (.aload_n 0, 1) := db_of db_8 3 rfl
theorem dX1_startOrder_4 : decode cX1_startOrder 4 = .ok (.getfield 22, 3) := db_of db_8 4 rfl
theorem dX1_startOrder_7 : decode cX1_startOrder 7 = .ok (.if_icmp .ge 16, 3) := db_of db_8 5 rfl
theorem dX1_startOrder_10 : decode cX1_startOrder 10 = .ok (.aload_n 0, 1) := db_of db_8 6 rfl
theorem dX1_startOrder_11 : decode cX1_startOrder 11 = .ok (.getfield 15, 3) := db_of db_8 7 rfl
theorem dX1_startOrder_14 : decode cX1_startOrder 14 = .ok (.iload_n 1, 1) := db_of db_8 8 rfl
theorem dX1_startOrder_15 : decode cX1_startOrder 15 = .ok (.iload_n 1, 1) := db_of db_8 9 rfl
theorem dX1_startOrder_16 : decode cX1_startOrder 16 = .ok (.iastore, 1) := db_of db_8 10 rfl
theorem dX1_startOrder_17 : decode cX1_startOrder 17 = .ok (.iinc 1 1, 3) := db_of db_8 11 rfl
theorem dX1_startOrder_20 : decode cX1_startOrder 20 = .ok (.goto (-18), 3) := db_of db_8 12 rfl
theorem dX1_startOrder_23 : decode cX1_startOrder 23 = .ok (.return_, 1) := db_of db_8 13 rfl
set_option maxRecDepth 100000 in
theorem db_9 : ([(0, .lconst 0, 1), (1, .lstore_n 3, 1), (2, .iconst 0, 1), (3, .istore 5, 2), (5, .iload 5, 2), (7, .aload_n 0, 1), (8, .getfield 22, 3), (11, .if_icmp .ge 29, 3), (14, .lload_n 3, 1), (15, .aload_n 1, 1), (16, .aload_n 0, 1), (17, .getfield 15, 3), (20, .iload 5, 2), (22, .iaload, 1), (23, .iaload, 1), (24, .iload_n 2, 1), (25, .ishr, 1), (26, .iconst 1, 1), (27, .iand, 1), (28, .i2l, 1), (29, .iload 5, 2), (31, .lshl, 1), (32, .lor, 1), (33, .lstore_n 3, 1), (34, .iinc 5 1, 3), (37, .goto (-32), 3), (40, .lload_n 3, 1), (41, .lreturn, 1)] : List (Nat × Instr × Nat)).all (fun r => decide (decode cX1_bitsInOrder r.1 = .ok r.2)) = true := by decide +kernel
theorem dX1_bitsInOrder_0 : decode cX1_bitsInOrder 0 = .ok (.lconst 0, 1) := db_of db_9 0 rfl
theorem dX1_bitsInOrder_1 : decode cX1_bitsInOrder 1 = .ok (.lstore_n 3, 1) := db_of db_9 1 rfl
theorem dX1_bitsInOrder_2 : decode cX1_bitsInOrder 2 = .ok (.iconst 0, 1) := db_of db_9 2 rfl
theorem dX1_bitsInOrder_3 : decode cX1_bitsInOrder 3 = .ok (.istore 5, 2) := db_of db_9 3 rfl
theorem dX1_bitsInOrder_5 : decode cX1_bitsInOrder 5 = .ok (.iload 5, 2) := db_of db_9 4 rfl
theorem dX1_bitsInOrder_7 : decode cX1_bitsInOrder 7 = .ok (.aload_n 0, 1) := db_of db_9 5 rfl
theorem dX1_bitsInOrder_8 : decode cX1_bitsInOrder 8 = .ok (.getfield 22, 3) := db_of db_9 6 rfl
theorem dX1_bitsInOrder_11 : decode cX1_bitsInOrder 11 = .ok (.if_icmp .ge 29, 3) := db_of db_9 7 rfl
theorem dX1_bitsInOrder_14 : decode cX1_bitsInOrder 14 = .ok (.lload_n 3, 1) := db_of db_9 8 rfl
theorem dX1_bitsInOrder_15 : decode cX1_bitsInOrder 15 = .ok (.aload_n 1, 1) := db_of db_9 9 rfl
theorem dX1_bitsInOrder_16 : decode cX1_bitsInOrder 16 = .ok (.aload_n 0, 1) := db_of db_9 10 rfl
theorem dX1_bitsInOrder_17 : decode cX1_bitsInOrder 17 = .ok (.getfield 15, 3) := db_of db_9 11 rfl
theorem dX1_bitsInOrder_20 : decode cX1_bitsInOrder 20 = .ok (.iload 5, 2) := db_of db_9 12 rfl
theorem dX1_bitsInOrder_22 : decode cX1_bitsInOrder 22 = .ok (.iaload, 1) := db_of db_9 13 rfl
theorem dX1_bitsInOrder_23 : decode cX1_bitsInOrder 23 = .ok (.iaload, 1) := db_of db_9 14 rfl
theorem dX1_bitsInOrder_24 : decode cX1_bitsInOrder 24 = .ok (.iload_n 2, 1) := db_of db_9 15 rfl
theorem dX1_bitsInOrder_25 : decode cX1_bitsInOrder 25 = .ok (.ishr, 1) := db_of db_9 16 rfl
theorem dX1_bitsInOrder_26 : decode cX1_bitsInOrder 26 = .ok (.iconst 1, 1) := db_of db_9 17 rfl
theorem dX1_bitsInOrder_27 : decode cX1_bitsInOrder 27 = .ok (.iand, 1) := db_of db_9 18 rfl
theorem dX1_bitsInOrder_28 : decode cX1_bitsInOrder 28 = .ok (.i2l, 1) := db_of db_9 19 rfl
theorem dX1_bitsInOrder_29 : decode cX1_bitsInOrder 29 = .ok (.iload 5, 2) := db_of db_9 20 rfl
theorem dX1_bitsInOrder_31 : decode cX1_bitsInOrder 31 = .ok (.lshl, 1) := db_of db_9 21 rfl
theorem dX1_bitsInOrder_32 : decode cX1_bitsInOrder 32 = .ok (.lor, 1) := db_of db_9 22 rfl
theorem dX1_bitsInOrder_33 : decode cX1_bitsInOrder 33 = .ok (.lstore_n 3, 1) := db_of db_9 23 rfl
theorem dX1_bitsInOrder_34 : decode cX1_bitsInOrder 34 = .ok (.iinc 5 1, 3) := db_of db_9 24 rfl
theorem dX1_bitsInOrder_37 : decode cX1_bitsInOrder 37 = .ok (.goto (-32), 3) := db_of db_9 25 rfl
theorem dX1_bitsInOrder_40 : decode cX1_bitsInOrder 40 = .ok (.lload_n 3, 1) := db_of db_9 26 rfl
theorem dX1_bitsInOrder_41 : decode cX1_bitsInOrder 41 = .ok (.lreturn, 1) := db_of db_9 27 rfl
set_option maxRecDepth 100000 in
theorem db_10 : ([(0, .iconst 0, 1), (1, .istore_n 3, 1), (2, .iconst 0, 1), (3, .istore 4, 2), (5, .iconst 0, 1), (6, .istore 5, 2), (8, .iload 5, 2), (10, .aload_n 0, 1), (11, .getfield 22, 3), (14, .if_icmp .ge 54, 3), (17, .lload_n 1, 1), (18, .iload 5, 2), (20, .invokestatic 43, 3), (23, .ifCond .ne 22, 3), (26, .aload_n 0, 1), (27, .getfield 15, 3), (30, .iload_n 3, 1), (31, .aload_n 0, 1), (32, .getfield 15, 3), (35, .iload 5, 2), (37, .iaload, 1), (38, .iastore, 1), (39, .iinc 3 1, 3), (42, .goto 20, 3), (45, .aload_n 0, 1), (46, .getfield 19, 3), (49, .iload 4, 2), (51, .aload_n 0, 1), (52, .getfield 15, 3), (55, .iload 5, 2), (57, .iaload, 1), (58, .iastore, 1), (59, .iinc 4 1, 3), (62, .iinc 5 1, 3), (65, .goto (-57), 3), (68, .aload_n 0, 1), (69, .getfield 19, 3), (72, .iconst 0, 1), (73, .aload_n 0, 1), (74, .getfield 15, 3), (77, .iload_n 3, 1), (78, .iload 4, 2), (80, .invokestatic 47, 3), (83, .return_, 1)] : List (Nat × Instr × Nat)).all (fun r => decide (decode cX1_part r.1 = .ok r.2)) = true := by decide +kernel
theorem dX1_part_0 : decode cX1_part 0 = .ok (.iconst 0, 1) := db_of db_10 0 rfl
theorem dX1_part_1 : decode cX1_part 1 = .ok (.istore_n 3, 1) := db_of db_10 1 rfl
theorem dX1_part_2 : decode cX1_part 2 = .ok (.iconst 0, 1) := db_of db_10 2 rfl
theorem dX1_part_3 : decode cX1_part 3 = .ok (.istore 4, 2) := db_of db_10 3 rfl
theorem dX1_part_5 : decode cX1_part 5 = .ok (.iconst 0, 1) := db_of db_10 4 rfl
theorem dX1_part_6 : decode cX1_part 6 = .ok (.istore 5, 2) := db_of db_10 5 rfl
theorem dX1_part_8 : decode cX1_part 8 = .ok (.iload 5, 2) := db_of db_10 6 rfl
theorem dX1_part_10 : decode cX1_part 10 = .ok (.aload_n 0, 1) := db_of db_10 7 rfl
theorem dX1_part_11 : decode cX1_part 11 = .ok (.getfield 22, 3) := db_of db_10 8 rfl
theorem dX1_part_14 : decode cX1_part 14 = .ok (.if_icmp .ge 54, 3) := db_of db_10 9 rfl
theorem dX1_part_17 : decode cX1_part 17 = .ok (.lload_n 1, 1) := db_of db_10 10 rfl
theorem dX1_part_18 : decode cX1_part 18 = .ok (.iload 5, 2) := db_of db_10 11 rfl
theorem dX1_part_20 : decode cX1_part 20 = .ok (.invokestatic 43, 3) := db_of db_10 12 rfl
theorem dX1_part_23 : decode cX1_part 23 = .ok (.ifCond .ne 22, 3) := db_of db_10 13 rfl
theorem dX1_part_26 : decode cX1_part 26 = .ok (.aload_n 0, 1) := db_of db_10 14 rfl
theorem dX1_part_27 : decode cX1_part 27 = .ok (.getfield 15, 3) := db_of db_10 15 rfl
theorem dX1_part_30 : decode cX1_part 30 = .ok (.iload_n 3, 1) := db_of db_10 16 rfl
theorem dX1_part_31 : decode cX1_part 31 = .ok (.aload_n 0, 1) := db_of db_10 17 rfl
theorem dX1_part_32 : decode cX1_part 32 = .ok (.getfield 15, 3) := db_of db_10 18 rfl
theorem dX1_part_35 : decode cX1_part 35 = .ok (.iload 5, 2) := db_of db_10 19 rfl
theorem dX1_part_37 : decode cX1_part 37 = .ok (.iaload, 1) := db_of db_10 20 rfl
theorem dX1_part_38 : decode cX1_part 38 = .ok (.iastore, 1) := db_of db_10 21 rfl
theorem dX1_part_39 : decode cX1_part 39 = .ok (.iinc 3 1, 3) := db_of db_10 22 rfl
theorem dX1_part_42 : decode cX1_part 42 = .ok (.goto 20, 3) := db_of db_10 23 rfl
theorem dX1_part_45 : decode cX1_part 45 = .ok (.aload_n 0, 1) := db_of db_10 24 rfl
theorem dX1_part_46 : decode cX1_part 46 = .ok (.getfield 19, 3) := db_of db_10 25 rfl
theorem dX1_part_49 : decode cX1_part 49 = .ok (.iload 4, 2) := db_of db_10 26 rfl
theorem dX1_part_51 : decode cX1_part 51 = .ok (.aload_n 0, 1) := db_of db_10 27 rfl
theorem dX1_part_52 : decode cX1_part 52 = .ok (.getfield 15, 3) := db_of db_10 28 rfl
theorem dX1_part_55 : decode cX1_part 55 = .ok (.iload 5, 2) := db_of db_10 29 rfl
theorem dX1_part_57 : decode cX1_part 57 = .ok (.iaload, 1) := db_of db_10 30 rfl
theorem dX1_part_58 : decode cX1_part 58 = .ok (.iastore, 1) := db_of db_10 31 rfl
theorem dX1_part_59 : decode cX1_part 59 = .ok (.iinc 4 1, 3) := db_of db_10 32 rfl
theorem dX1_part_62 : decode cX1_part 62 = .ok (.iinc 5 1, 3) := db_of db_10 33 rfl
theorem dX1_part_65 : decode cX1_part 65 = .ok (.goto (-57), 3) := db_of db_10 34 rfl
theorem dX1_part_68 : decode cX1_part 68 = .ok (.aload_n 0, 1) := db_of db_10 35 rfl
theorem dX1_part_69 : decode cX1_part 69 = .ok (.getfield 19, 3) := db_of db_10 36 rfl
theorem dX1_part_72 : decode cX1_part 72 = .ok (.iconst 0, 1) := db_of db_10 37 rfl
theorem dX1_part_73 : decode cX1_part 73 = .ok (.aload_n 0, 1) := db_of db_10 38 rfl
theorem dX1_part_74 : decode cX1_part 74 = .ok (.getfield 15, 3) := db_of db_10 39 rfl
theorem dX1_part_77 : decode cX1_part 77 = .ok (.iload_n 3, 1) := db_of db_10 40 rfl
theorem dX1_part_78 : decode cX1_part 78 = .ok (.iload 4, 2) := db_of db_10 41 rfl
theorem dX1_part_80 : decode cX1_part 80 = .ok (.invokestatic 47, 3) := db_of db_10 42 rfl
theorem dX1_part_83 : decode cX1_part 83 = .ok (.return_, 1) := db_of db_10 43 rfl
set_option maxRecDepth 100000 in
theorem db_11 : ([(0, .aload_n 0, 1), (1, .invokespecial 3, 3), (4, .aload_n 0, 1), (5, .bipush 8, 2), (7, .bipush 64, 2), (9, .multianewarray 9 2, 4), (13, .putfield 11, 3), (16, .aload_n 0, 1), (17, .bipush 64, 2), (19, .newarray .long, 2), (21, .putfield 16, 3), (24, .aload_n 0, 1), (25, .bipush 8, 2), (27, .newarray .int, 2), (29, .putfield 20, 3), (32, .aload_n 0, 1), (33, .bipush 8, 2), (35, .newarray .int, 2), (37, .putfield 24, 3), (40, .aload_n 0, 1), (41, .bipush 8, 2), (43, .newarray .int, 2), (45, .putfield 27, 3), (48, .aload_n 0, 1), (49, .iconst 0, 1), (50, .putfield 30, 3), (53, .aload_n 0, 1), (54, .iconst 0, 1), (55, .putfield 34, 3), (58, .aload_n 0, 1), (59, .iconst 0, 1), (60, .putfield 37, 3), (63, .aload_n 0, 1), (64, .iconst 0, 1), (65, .putfield 40, 3), (68, .return_, 1)] : List (Nat × Instr × Nat)).all (fun r => decide (decode cX2_init r.1 = .ok r.2)) = true := by decide +kernel
theorem dX2_init_0 : decode cX2_init 0 = .ok (.aload_n 0, 1) := db_of db_11 0 rfl
theorem dX2_init_1 : decode cX2_init 1 = .ok (.invokespecial 3, 3) := db_of db_11 1 rfl
theorem dX2_init_4 : decode cX2_init 4 = .ok (.aload_n 0, 1) := db_of db_11 2 rfl
theorem dX2_init_5 : decode cX2_init 5 = .ok (.bipush 8, 2) := db_of db_11 3 rfl
theorem dX2_init_7 : decode cX2_init 7 = .ok (.bipush 64, 2) := db_of db_11 4 rfl
theorem dX2_init_9 : decode cX2_init 9 = .ok (.multianewarray 9 2, 4) := db_of db_11 5 rfl
theorem dX2_init_13 : decode cX2_init 13 = .ok (.putfield 11, 3) := db_of db_11 6 rfl
theorem dX2_init_16 : decode cX2_init 16 = .ok (.aload_n 0, 1) := db_of db_11 7 rfl
theorem dX2_init_17 : decode cX2_init 17 = .ok (.bipush 64, 2) := db_of db_11 8 rfl
theorem dX2_init_19 : decode cX2_init 19 = .ok (.newarray .long, 2) := db_of db_11 9 rfl
theorem dX2_init_21 : decode cX2_init 21 = .ok (.putfield 16, 3) := db_of db_11 10 rfl
theorem dX2_init_24 : decode cX2_init 24 = .ok (.aload_n 0, 1) := db_of db_11 11 rfl
theorem dX2_init_25 : decode cX2_init 25 = .ok (.bipush 8, 2) := db_of db_11 12 rfl
theorem dX2_init_27 : decode cX2_init 27 = .ok (.newarray .int, 2) := db_of db_11 13 rfl
theorem dX2_init_29 : decode cX2_init 29 = .ok (.putfield 20, 3) := db_of db_11 14 rfl
theorem dX2_init_32 : decode cX2_init 32 = .ok (.aload_n 0, 1) := db_of db_11 15 rfl
theorem dX2_init_33 : decode cX2_init 33 = .ok (.bipush 8, 2) := db_of db_11 16 rfl
theorem dX2_init_35 : decode cX2_init 35 = .ok (.newarray .int, 2) := db_of db_11 17 rfl
theorem dX2_init_37 : decode cX2_init 37 = .ok (.putfield 24, 3) := db_of db_11 18 rfl
theorem dX2_init_40 : decode cX2_init 40 = .ok (.aload_n 0, 1) := db_of db_11 19 rfl
theorem dX2_init_41 : decode cX2_init 41 = .ok (.bipush 8, 2) := db_of db_11 20 rfl
theorem dX2_init_43 : decode cX2_init 43 = .ok (.newarray .int, 2) := db_of db_11 21 rfl
theorem dX2_init_45 : decode cX2_init 45 = .ok (.putfield 27, 3) := db_of db_11 22 rfl
theorem dX2_init_48 : decode cX2_init 48 = .ok (.aload_n 0, 1) := db_of db_11 23 rfl
theorem dX2_init_49 : decode cX2_init 49 = .ok (.iconst 0, 1) := db_of db_11 24 rfl
theorem dX2_init_50 : decode cX2_init 50 = .ok (.putfield 30, 3) := db_of db_11 25 rfl
theorem dX2_init_53 : decode cX2_init 53 = .ok (.aload_n 0, 1) := db_of db_11 26 rfl
theorem dX2_init_54 : decode cX2_init 54 = .ok (.iconst 0, 1) := db_of db_11 27 rfl
theorem dX2_init_55 : decode cX2_init 55 = .ok (.putfield 34, 3) := db_of db_11 28 rfl
theorem dX2_init_58 : decode cX2_init 58 = .ok (.aload_n 0, 1) := db_of db_11 29 rfl
theorem dX2_init_59 : decode cX2_init 59 = .ok (.iconst 0, 1) := db_of db_11 30 rfl
theorem dX2_init_60 : decode cX2_init 60 = .ok (.putfield 37, 3) := db_of db_11 31 rfl
theorem dX2_init_63 : decode cX2_init 63 = .ok (.aload_n 0, 1) := db_of db_11 32 rfl
theorem dX2_init_64 : decode cX2_init 64 = .ok (.iconst 0, 1) := db_of db_11 33 rfl
theorem dX2_init_65 : decode cX2_init 65 = .ok (.putfield 40, 3) := db_of db_11 34 rfl
theorem dX2_init_68 : decode cX2_init 68 = .ok (.return_, 1) := db_of db_11 35 rfl
set_option maxRecDepth 100000 in
theorem db_12 : ([(0, .aload_n 0, 1), (1, .iconst 0, 1), (2, .putfield 40, 3), (5, .return_, 1)] : List (Nat × Instr × Nat)).all (fun r => decide (decode cX2_forget r.1 = .ok r.2)) = true := by decide +kernel
theorem dX2_forget_0 : decode cX2_forget 0 = .ok (.aload_n 0, 1) := db_of db_12 0 rfl
theorem dX2_forget_1 : decode cX2_forget 1 = .ok (.iconst 0, 1) := db_of db_12 1 rfl
theorem dX2_forget_2 : decode cX2_forget 2 = .ok (.putfield 40, 3) := db_of db_12 2 rfl
theorem dX2_forget_5 : decode cX2_forget 5 = .ok (.return_, 1) := db_of db_12 3 rfl
set_option maxRecDepth 100000 in
theorem db_13 : ([(0, .aload_n 0, 1), (1, .getfield 40, 3), (4, .ifCond .ne 84, 3), (7, .aload_n 0, 1), (8, .iload_n 2, 1), (9, .putfield 30, 3), (12, .aload_n 0, 1), (13, .aload_n 1, 1), (14, .invokevirtual 44, 3), (17, .istore_n 3, 1), (18, .aload_n 0, 1), (19, .iload_n 3, 1), (20, .invokestatic 48, 3), (23, .putfield 34, 3), (26, .aload_n 0, 1), (27, .aload_n 0, 1), (28, .getfield 34, 3), (31, .ifCond .ne 7, 3), (34, .iconst 0, 1), (35, .goto 6, 3), (38, .sipush 513, 3), (41, .putfield 37, 3), (44, .aload_n 0, 1), (45, .iconst 0, 1), (46, .iload_n 3, 1), (47, .iconst 0, 1), (48, .invokevirtual 54, 3), (51, .aload_n 0, 1), (52, .iload_n 3, 1), (53, .invokevirtual 58, 3), (56, .aload_n 0, 1), (57, .dup, 1), (58, .getfield 37, 3), (61, .aload_n 0, 1), (62, .getfield 30, 3), (65, .ifCond .ne 7, 3), (68, .iconst 0, 1), (69, .goto 10, 3), (72, .bipush 8, 2), (74, .aload_n 0, 1), (75, .getfield 34, 3), (78, .isub, 1), (79, .iadd, 1), (80, .putfield 37, 3), (83, .aload_n 0, 1), (84, .iconst 1, 1), (85, .putfield 40, 3), (88, .aload_n 0, 1), (89, .getfield 37, 3), (92, .ireturn, 1)] : List (Nat × Instr × Nat)).all (fun r => decide (decode cX2_search r.1 = .ok r.2)) = true := by decide +kernel
theorem dX2_search_0 : decode cX2_search 0 = .ok (.aload_n 0, 1) := db_of db_13 0 rfl
theorem dX2_search_1 : decode cX2_search 1 = .ok (.getfield 40, 3) := db_of db_13 1 rfl
theorem dX2_search_4 : decode cX2_search 4 = .ok (.ifCond .ne 84, 3) := db_of db_13 2 rfl
theorem dX2_search_7 : decode cX2_search 7 = .ok (.aload_n 0, 1) := db_of db_13 3 rfl
theorem dX2_search_8 : decode cX2_search 8 = .ok (.iload_n 2, 1) := db_of db_13 4 rfl
theorem dX2_search_9 : decode cX2_search 9 = .ok (.putfield 30, 3) := db_of db_13 5 rfl
theorem dX2_search_12 : decode cX2_search 12 = .ok (.aload_n 0, 1) := db_of db_13 6 rfl
theorem dX2_search_13 : decode cX2_search 13 = .ok (.aload_n 1, 1) := db_of db_13 7 rfl
theorem dX2_search_14 : decode cX2_search 14 = .ok (.invokevirtual 44, 3) := db_of db_13 8 rfl
theorem dX2_search_17 : decode cX2_search 17 = .ok (.istore_n 3, 1) := db_of db_13 9 rfl
theorem dX2_search_18 : decode cX2_search 18 = .ok (.aload_n 0, 1) := db_of db_13 10 rfl
theorem dX2_search_19 : decode cX2_search 19 = .ok (.iload_n 3, 1) := db_of db_13 11 rfl
theorem dX2_search_20 : decode cX2_search 20 = .ok (.invokestatic 48, 3) := db_of db_13 12 rfl
theorem dX2_search_23 : decode cX2_search 23 = .ok (.putfield 34, 3) := db_of db_13 13 rfl
theorem dX2_search_26 : decode cX2_search 26 = .ok (.aload_n 0, 1) := db_of db_13 14 rfl
theorem dX2_search_27 : decode cX2_search 27 = .ok (.aload_n 0, 1) := db_of db_13 15 rfl
theorem dX2_search_28 : decode cX2_search 28 = .ok (.getfield 34, 3) := db_of db_13 16 rfl
theorem dX2_search_31 : decode cX2_search 31 = .ok (.ifCond .ne 7, 3) := db_of db_13 17 rfl
theorem dX2_search_34 : decode cX2_search 34 = .ok (.iconst 0, 1) := db_of db_13 18 rfl
theorem dX2_search_35 : decode cX2_search 35 = .ok (.goto 6, 3) := db_of db_13 19 rfl
theorem dX2_search_38 : decode cX2_search 38 = .ok (.sipush 513, 3) := db_of db_13 20 rfl
theorem dX2_search_41 : decode cX2_search 41 = .ok (.putfield 37, 3) := db_of db_13 21 rfl
theorem dX2_search_44 : decode cX2_search 44 = .ok (.aload_n 0, 1) := db_of db_13 22 rfl
theorem dX2_search_45 : decode cX2_search 45 = .ok (.iconst 0, 1) := db_of db_13 23 rfl
theorem dX2_search_46 : decode cX2_search 46 = .ok (.iload_n 3, 1) := db_of db_13 24 rfl
theorem dX2_search_47 : decode cX2_search 47 = .ok (.iconst 0, 1) := db_of db_13 25 rfl
theorem dX2_search_48 : decode cX2_search 48 = .ok (.invokevirtual 54, 3) := db_of db_13 26 rfl
theorem dX2_search_51 : decode cX2_search 51 = .ok (.aload_n 0, 1) := db_of db_13 27 rfl
theorem dX2_search_52 : decode cX2_search 52 = .ok (.iload_n 3, 1) := db_of db_13 28 rfl
theorem dX2_search_53 : decode cX2_search 53 = .ok (.invokevirtual 58, 3) := db_of db_13 29 rfl
theorem dX2_search_56 : decode cX2_search 56 = .ok (.aload_n 0, 1) := db_of db_13 30 rfl
theorem dX2_search_57 : decode cX2_search 57 = .ok (.dup, 1) := db_of db_13 31 rfl
theorem dX2_search_58 : decode cX2_search 58 = .ok (.getfield 37, 3) := db_of db_13 32 rfl
theorem dX2_search_61 : decode cX2_search 61 = .ok (.aload_n 0, 1) := db_of db_13 33 rfl
theorem dX2_search_62 : decode cX2_search 62 = .ok (.getfield 30, 3) := db_of db_13 34 rfl
theorem dX2_search_65 : decode cX2_search 65 = .ok (.ifCond .ne 7, 3) := db_of db_13 35 rfl
theorem dX2_search_68 : decode cX2_search 68 = .ok (.iconst 0, 1) := db_of db_13 36 rfl
theorem dX2_search_69 : decode cX2_search 69 = .ok (.goto 10, 3) := db_of db_13 37 rfl
theorem dX2_search_72 : decode cX2_search 72 = .ok (.bipush 8, 2) := db_of db_13 38 rfl
theorem dX2_search_74 : decode cX2_search 74 = .ok (.aload_n 0, 1) := db_of db_13 39 rfl
theorem dX2_search_75 : decode cX2_search 75 = .ok (.getfield 34, 3) := db_of db_13 40 rfl
theorem dX2_search_78 : decode cX2_search 78 = .ok (.isub, 1) := db_of db_13 41 rfl
theorem dX2_search_79 : decode cX2_search 79 = .ok (.iadd, 1) := db_of db_13 42 rfl
theorem dX2_search_80 : decode cX2_search 80 = .ok (.putfield 37, 3) := db_of db_13 43 rfl
theorem dX2_search_83 : decode cX2_search 83 = .ok (.aload_n 0, 1) := db_of db_13 44 rfl
theorem dX2_search_84 : decode cX2_search 84 = .ok (.iconst 1, 1) := db_of db_13 45 rfl
theorem dX2_search_85 : decode cX2_search 85 = .ok (.putfield 40, 3) := db_of db_13 46 rfl
theorem dX2_search_88 : decode cX2_search 88 = .ok (.aload_n 0, 1) := db_of db_13 47 rfl
theorem dX2_search_89 : decode cX2_search 89 = .ok (.getfield 37, 3) := db_of db_13 48 rfl
theorem dX2_search_92 : decode cX2_search 92 = .ok (.ireturn, 1) := db_of db_13 49 rfl
set_option maxRecDepth 100000 in
theorem db_14 : ([(0, .iconst 0, 1), (1, .istore_n 2, 1), (2, .iconst 0, 1), (3, .istore_n 3, 1), (4, .iload_n 3, 1), (5, .aload_n 0, 1), (6, .getfield 30, 3), (9, .if_icmp .ge 33, 3), (12, .aload_n 0, 1), (13, .getfield 11, 3), (16, .iconst 0, 1), (17, .aaload, 1), (18, .iload_n 3, 1), (19, .aload_n 1, 1), (20, .iload_n 3, 1), (21, .iaload, 1), (22, .invokestatic 62, 3), (25, .lastore, 1), (26, .iload_n 2, 1), (27, .aload_n 1, 1), (28, .iload_n 3, 1), (29, .iaload, 1), (30, .aload_n 1, 1), (31, .iconst 0, 1), (32, .iaload, 1), (33, .ixor, 1), (34, .ior, 1), (35, .istore_n 2, 1), (36, .iinc 3 1, 3), (39, .goto (-35), 3), (42, .iload_n 2, 1), (43, .ireturn, 1)] : List (Nat × Instr × Nat)).all (fun r => decide (decode cX2_takeLine r.1 = .ok r.2)) = true := by decide +kernel
theorem dX2_takeLine_0 : decode cX2_takeLine 0 = .ok (.iconst 0, 1) := db_of db_14 0 rfl
theorem dX2_takeLine_1 : decode cX2_takeLine 1 = .ok (.istore_n 2, 1) := db_of db_14 1 rfl
theorem dX2_takeLine_2 : decode cX2_takeLine 2 = .ok (.iconst 0, 1) := db_of db_14 2 rfl
theorem dX2_takeLine_3 : decode cX2_takeLine 3 = .ok (.istore_n 3, 1) := db_of db_14 3 rfl
theorem dX2_takeLine_4 : decode cX2_takeLine 4 = .ok (.iload_n 3, 1) := db_of db_14 4 rfl
theorem dX2_takeLine_5 : decode cX2_takeLine 5 = .ok (.aload_n 0, 1) := db_of db_14 5 rfl
theorem dX2_takeLine_6 : decode cX2_takeLine 6 = .ok (.getfield 30, 3) := db_of db_14 6 rfl
theorem dX2_takeLine_9 : decode cX2_takeLine 9 = .ok (.if_icmp .ge 33, 3) := db_of db_14 7 rfl
theorem dX2_takeLine_12 : decode cX2_takeLine 12 = .ok (.aload_n 0, 1) := db_of db_14 8 rfl
theorem dX2_takeLine_13 : decode cX2_takeLine 13 = .ok (.getfield 11, 3) := db_of db_14 9 rfl
theorem dX2_takeLine_16 : decode cX2_takeLine 16 = .ok (.iconst 0, 1) := db_of db_14 10 rfl
theorem dX2_takeLine_17 : decode cX2_takeLine 17 = .ok (.aaload, 1) := db_of db_14 11 rfl
theorem dX2_takeLine_18 : decode cX2_takeLine 18 = .ok (.iload_n 3, 1) := db_of db_14 12 rfl
theorem dX2_takeLine_19 : decode cX2_takeLine 19 = .ok (.aload_n 1, 1) := db_of db_14 13 rfl
theorem dX2_takeLine_20 : decode cX2_takeLine 20 = .ok (.iload_n 3, 1) := db_of db_14 14 rfl
theorem dX2_takeLine_21 : decode cX2_takeLine 21 = .ok (.iaload, 1) := db_of db_14 15 rfl
theorem dX2_takeLine_22 : decode cX2_takeLine 22 = .ok (.invokestatic 62, 3) := db_of db_14 16 rfl
theorem dX2_takeLine_25 : decode cX2_takeLine 25 = .ok (.lastore, 1) := db_of db_14 17 rfl
theorem dX2_takeLine_26 : decode cX2_takeLine 26 = .ok (.iload_n 2, 1) := db_of db_14 18 rfl
theorem dX2_takeLine_27 : decode cX2_takeLine 27 = .ok (.aload_n 1, 1) := db_of db_14 19 rfl
theorem dX2_takeLine_28 : decode cX2_takeLine 28 = .ok (.iload_n 3, 1) := db_of db_14 20 rfl
theorem dX2_takeLine_29 : decode cX2_takeLine 29 = .ok (.iaload, 1) := db_of db_14 21 rfl
theorem dX2_takeLine_30 : decode cX2_takeLine 30 = .ok (.aload_n 1, 1) := db_of db_14 22 rfl
theorem dX2_takeLine_31 : decode cX2_takeLine 31 = .ok (.iconst 0, 1) := db_of db_14 23 rfl
theorem dX2_takeLine_32 : decode cX2_takeLine 32 = .ok (.iaload, 1) := db_of db_14 24 rfl
theorem dX2_takeLine_33 : decode cX2_takeLine 33 = .ok (.ixor, 1) := db_of db_14 25 rfl
theorem dX2_takeLine_34 : decode cX2_takeLine 34 = .ok (.ior, 1) := db_of db_14 26 rfl
theorem dX2_takeLine_35 : decode cX2_takeLine 35 = .ok (.istore_n 2, 1) := db_of db_14 27 rfl
theorem dX2_takeLine_36 : decode cX2_takeLine 36 = .ok (.iinc 3 1, 3) := db_of db_14 28 rfl
theorem dX2_takeLine_39 : decode cX2_takeLine 39 = .ok (.goto (-35), 3) := db_of db_14 29 rfl
theorem dX2_takeLine_42 : decode cX2_takeLine 42 = .ok (.iload_n 2, 1) := db_of db_14 30 rfl
theorem dX2_takeLine_43 : decode cX2_takeLine 43 = .ok (.ireturn, 1) := db_of db_14 31 rfl
set_option maxRecDepth 100000 in
theorem db_15 : ([(0, .lconst 0, 1), (1, .lstore_n 1, 1), (2, .iconst 0, 1), (3, .istore_n 3, 1), (4, .iload_n 3, 1), (5, .bipush 8, 2), (7, .if_icmp .ge 23, 3), (10, .lload_n 1, 1), (11, .iload_n 0, 1), (12, .iload_n 3, 1), (13, .ishr, 1), (14, .iconst 1, 1), (15, .iand, 1), (16, .i2l, 1), (17, .bipush 8, 2), (19, .iload_n 3, 1), (20, .imul, 1), (21, .lshl, 1), (22, .lor, 1), (23, .lstore_n 1, 1), (24, .iinc 3 1, 3), (27, .goto (-23), 3), (30, .lload_n 1, 1), (31, .lreturn, 1)] : List (Nat × Instr × Nat)).all (fun r => decide (decode cX2_lanesOf r.1 = .ok r.2)) = true := by decide +kernel
theorem dX2_lanesOf_0 : decode cX2_lanesOf 0 = .ok (.lconst 0, 1) := db_of db_15 0 rfl
theorem dX2_lanesOf_1 : decode cX2_lanesOf 1 = .ok (.lstore_n 1, 1) := db_of db_15 1 rfl
theorem dX2_lanesOf_2 : decode cX2_lanesOf 2 = .ok (.iconst 0, 1) := db_of db_15 2 rfl
theorem dX2_lanesOf_3 : decode cX2_lanesOf 3 = .ok (.istore_n 3, 1) := db_of db_15 3 rfl
theorem dX2_lanesOf_4 : decode cX2_lanesOf 4 = .ok (.iload_n 3, 1) := db_of db_15 4 rfl
theorem dX2_lanesOf_5 : decode cX2_lanesOf 5 = .ok (.bipush 8, 2) := db_of db_15 5 rfl
theorem dX2_lanesOf_7 : decode cX2_lanesOf 7 = .ok (.if_icmp .ge 23, 3) := db_of db_15 6 rfl
theorem dX2_lanesOf_10 : decode cX2_lanesOf 10 = .ok (.lload_n 1, 1) := db_of db_15 7 rfl
theorem dX2_lanesOf_11 : decode cX2_lanesOf 11 = .ok (.iload_n 0, 1) := db_of db_15 8 rfl
theorem dX2_lanesOf_12 : decode cX2_lanesOf 12 = .ok (.iload_n 3, 1) := db_of db_15 9 rfl
theorem dX2_lanesOf_13 : decode cX2_lanesOf 13 = .ok (.ishr, 1) := db_of db_15 10 rfl
theorem dX2_lanesOf_14 : decode cX2_lanesOf 14 = .ok (.iconst 1, 1) := db_of db_15 11 rfl
theorem dX2_lanesOf_15 : decode cX2_lanesOf 15 = .ok (.iand, 1) := db_of db_15 12 rfl
theorem dX2_lanesOf_16 : decode cX2_lanesOf 16 = .ok (.i2l, 1) := db_of db_15 13 rfl
theorem dX2_lanesOf_17 : decode cX2_lanesOf 17 = .ok (.bipush 8, 2) := db_of db_15 14 rfl
theorem dX2_lanesOf_19 : decode cX2_lanesOf 19 = .ok (.iload_n 3, 1) := db_of db_15 15 rfl
theorem dX2_lanesOf_20 : decode cX2_lanesOf 20 = .ok (.imul, 1) := db_of db_15 16 rfl
theorem dX2_lanesOf_21 : decode cX2_lanesOf 21 = .ok (.lshl, 1) := db_of db_15 17 rfl
theorem dX2_lanesOf_22 : decode cX2_lanesOf 22 = .ok (.lor, 1) := db_of db_15 18 rfl
theorem dX2_lanesOf_23 : decode cX2_lanesOf 23 = .ok (.lstore_n 1, 1) := db_of db_15 19 rfl
theorem dX2_lanesOf_24 : decode cX2_lanesOf 24 = .ok (.iinc 3 1, 3) := db_of db_15 20 rfl
theorem dX2_lanesOf_27 : decode cX2_lanesOf 27 = .ok (.goto (-23), 3) := db_of db_15 21 rfl
theorem dX2_lanesOf_30 : decode cX2_lanesOf 30 = .ok (.lload_n 1, 1) := db_of db_15 22 rfl
theorem dX2_lanesOf_31 : decode cX2_lanesOf 31 = .ok (.lreturn, 1) := db_of db_15 23 rfl
set_option maxRecDepth 100000 in
theorem db_16 : ([(0, .iload_n 1, 1), (1, .aload_n 0, 1), (2, .getfield 34, 3), (5, .if_icmp .ge 9, 3), (8, .iload_n 1, 1), (9, .bipush 8, 2), (11, .if_icmp .lt 4, 3), (14, .return_, 1), (15, .aload_n 0, 1), (16, .aload_n 0, 1), (17, .getfield 11, 3), (20, .iload_n 1, 1), (21, .aaload, 1), (22, .invokevirtual 66, 3), (25, .lstore 4, 2), (27, .iconst 2, 1), (28, .aload_n 0, 1), (29, .getfield 34, 3), (32, .iconst 1, 1), (33, .isub, 1), (34, .iload_n 1, 1), (35, .isub, 1), (36, .imul, 1), (37, .istore 6, 2), (39, .bipush 7, 2), (41, .istore 7, 2), (43, .iload 7, 2), (45, .ifCond .lt 72, 3), (48, .iload_n 3, 1), (49, .iconst 1, 1), (50, .iadd, 1), (51, .lload 4, 2), (53, .bipush 8, 2), (55, .iload 7, 2), (57, .imul, 1), (58, .lushr, 1), (59, .ldc2_w 70, 3), (62, .land, 1), (63, .l2i, 1), (64, .iadd, 1), (65, .istore 8, 2), (67, .iload_n 2, 1), (68, .iload 7, 2), (70, .ishr, 1), (71, .iconst 1, 1), (72, .iand, 1), (73, .ifCond .eq 38, 3), (76, .iload 8, 2), (78, .iload 6, 2), (80, .iadd, 1)] : List (Nat × Instr × Nat)).all (fun r => decide (decode cX2_tryBits r.1 = .ok r.2)) = true := by decide +kernel
theorem dX2_tryBits_0 : decode cX2_tryBits 0 = .ok (.iload_n 1, 1) := db_of db_16 0 rfl
theorem dX2_tryBits_1 : decode cX2_tryBits 1 = .ok (.aload_n 0, 1) := db_of db_16 1 rfl
theorem dX2_tryBits_2 : decode cX2_tryBits 2 = .ok (.getfield 34, 3) := db_of db_16 2 rfl
theorem dX2_tryBits_5 : decode cX2_tryBits 5 = .ok (.if_icmp .ge 9, 3) := db_of db_16 3 rfl
theorem dX2_tryBits_8 : decode cX2_tryBits 8 = .ok (.iload_n 1, 1) := db_of db_16 4 rfl
theorem dX2_tryBits_9 : decode cX2_tryBits 9 = .ok (.bipush 8, 2) := db_of db_16 5 rfl
theorem dX2_tryBits_11 : decode cX2_tryBits 11 = .ok (.if_icmp .lt 4, 3) := db_of db_16 6 rfl
theorem dX2_tryBits_14 : decode cX2_tryBits 14 = .ok (.return_, 1) := db_of db_16 7 rfl
theorem dX2_tryBits_15 : decode cX2_tryBits 15 = .ok (.aload_n 0, 1) := db_of db_16 8 rfl
theorem dX2_tryBits_16 : decode cX2_tryBits 16 = .ok (.aload_n 0, 1) := db_of db_16 9 rfl
theorem dX2_tryBits_17 : decode cX2_tryBits 17 = .ok (.getfield 11, 3) := db_of db_16 10 rfl
theorem dX2_tryBits_20 : decode cX2_tryBits 20 = .ok (.iload_n 1, 1) := db_of db_16 11 rfl
theorem dX2_tryBits_21 : decode cX2_tryBits 21 = .ok (.aaload, 1) := db_of db_16 12 rfl
theorem dX2_tryBits_22 : decode cX2_tryBits 22 = .ok (.invokevirtual 66, 3) := db_of db_16 13 rfl
theorem dX2_tryBits_25 : decode cX2_tryBits 25 = .ok (.lstore 4, 2) := db_of db_16 14 rfl
theorem dX2_tryBits_27 : decode cX2_tryBits 27 = .ok (.iconst 2, 1) := db_of db_16 15 rfl
theorem dX2_tryBits_28 : decode cX2_tryBits 28 = .ok (.aload_n 0, 1) := db_of db_16 16 rfl
theorem dX2_tryBits_29 : decode cX2_tryBits 29 = .ok (.getfield 34, 3) := db_of db_16 17 rfl
theorem dX2_tryBits_32 : decode cX2_tryBits 32 = .ok (.iconst 1, 1) := db_of db_16 18 rfl
theorem dX2_tryBits_33 : decode cX2_tryBits 33 = .ok (.isub, 1) := db_of db_16 19 rfl
theorem dX2_tryBits_34 : decode cX2_tryBits 34 = .ok (.iload_n 1, 1) := db_of db_16 20 rfl
theorem dX2_tryBits_35 : decode cX2_tryBits 35 = .ok (.isub, 1) := db_of db_16 21 rfl
theorem dX2_tryBits_36 : decode cX2_tryBits 36 = .ok (.imul, 1) := db_of db_16 22 rfl
theorem dX2_tryBits_37 : decode cX2_tryBits 37 = .ok (.istore 6, 2) := db_of db_16 23 rfl
theorem dX2_tryBits_39 : decode cX2_tryBits 39 = .ok (.bipush 7, 2) := db_of db_16 24 rfl
theorem dX2_tryBits_41 : decode cX2_tryBits 41 = .ok (.istore 7, 2) := db_of db_16 25 rfl
theorem dX2_tryBits_43 : decode cX2_tryBits 43 = .ok (.iload 7, 2) := db_of db_16 26 rfl
theorem dX2_tryBits_45 : decode cX2_tryBits 45 = .ok (.ifCond .lt 72, 3) := db_of db_16 27 rfl
theorem dX2_tryBits_48 : decode cX2_tryBits 48 = .ok (.iload_n 3, 1) := db_of db_16 28 rfl
theorem dX2_tryBits_49 : decode cX2_tryBits 49 = .ok (.iconst 1, 1) := db_of db_16 29 rfl
theorem dX2_tryBits_50 : decode cX2_tryBits 50 = .ok (.iadd, 1) := db_of db_16 30 rfl
theorem dX2_tryBits_51 : decode cX2_tryBits 51 = .ok (.lload 4, 2) := db_of db_16 31 rfl
theorem dX2_tryBits_53 : decode cX2_tryBits 53 = .ok (.bipush 8, 2) := db_of db_16 32 rfl
theorem dX2_tryBits_55 : decode cX2_tryBits 55 = .ok (.iload 7, 2) := db_of db_16 33 rfl
theorem dX2_tryBits_57 : decode cX2_tryBits 57 = .ok (.imul, 1) := db_of db_16 34 rfl
theorem dX2_tryBits_58 : decode cX2_tryBits 58 = .ok (.lushr, 1) := db_of db_16 35 rfl
theorem dX2_tryBits_59 : decode cX2_tryBits 59 = .ok (.ldc2_w 70, 3) := db_of db_16 36 rfl
theorem dX2_tryBits_62 : decode cX2_tryBits 62 = .ok (.land, 1) := db_of db_16 37 rfl
theorem dX2_tryBits_63 : decode cX2_tryBits 63 = .ok (.l2i, 1) := db_of db_16 38 rfl
theorem dX2_tryBits_64 : decode cX2_tryBits 64 = .ok (.iadd, 1) := db_of db_16 39 rfl
theorem dX2_tryBits_65 : decode cX2_tryBits 65 = .ok (.istore 8, 2) := db_of db_16 40 rfl
theorem dX2_tryBits_67 : decode cX2_tryBits 67 = .ok (.iload_n 2, 1) := db_of db_16 41 rfl
theorem dX2_tryBits_68 : decode cX2_tryBits 68 = .ok (.iload 7, 2) := db_of db_16 42 rfl
theorem dX2_tryBits_70 : decode cX2_tryBits 70 = .ok (.ishr, 1) := db_of db_16 43 rfl
theorem dX2_tryBits_71 : decode cX2_tryBits 71 = .ok (.iconst 1, 1) := db_of db_16 44 rfl
theorem dX2_tryBits_72 : decode cX2_tryBits 72 = .ok (.iand, 1) := db_of db_16 45 rfl
theorem dX2_tryBits_73 : decode cX2_tryBits 73 = .ok (.ifCond .eq 38, 3) := db_of db_16 46 rfl
theorem dX2_tryBits_76 : decode cX2_tryBits 76 = .ok (.iload 8, 2) := db_of db_16 47 rfl
theorem dX2_tryBits_78 : decode cX2_tryBits 78 = .ok (.iload 6, 2) := db_of db_16 48 rfl
theorem dX2_tryBits_80 : decode cX2_tryBits 80 = .ok (.iadd, 1) := db_of db_16 49 rfl
set_option maxRecDepth 100000 in
theorem db_17 : ([(81, .aload_n 0, 1), (82, .getfield 37, 3), (85, .if_icmp .ge 26, 3), (88, .aload_n 0, 1), (89, .getfield 20, 3), (92, .iload_n 1, 1), (93, .iload 7, 2), (95, .iastore, 1), (96, .aload_n 0, 1), (97, .iload_n 1, 1), (98, .iload_n 2, 1), (99, .iconst 1, 1), (100, .iload 7, 2), (102, .ishl, 1), (103, .iconst (-1), 1), (104, .ixor, 1), (105, .iand, 1), (106, .iload 8, 2), (108, .invokevirtual 72, 3), (111, .iinc 7 (-1), 3), (114, .goto (-71), 3), (117, .return_, 1)] : List (Nat × Instr × Nat)).all (fun r => decide (decode cX2_tryBits r.1 = .ok r.2)) = true := by decide +kernel
theorem dX2_tryBits_81 : decode cX2_tryBits 81 = .ok (.aload_n 0, 1) := db_of db_17 0 rfl
theorem dX2_tryBits_82 : decode cX2_tryBits 82 = .ok (.getfield 37, 3) := db_of db_17 1 rfl
theorem dX2_tryBits_85 : decode cX2_tryBits 85 = .ok (.if_icmp .ge 26, 3) := db_of db_17 2 rfl
theorem dX2_tryBits_88 : decode cX2_tryBits 88 = .ok (.aload_n 0, 1) := db_of db_17 3 rfl
theorem dX2_tryBits_89 : decode cX2_tryBits 89 = .ok (.getfield 20, 3) := db_of db_17 4 rfl
theorem dX2_tryBits_92 : decode cX2_tryBits 92 = .ok (.iload_n 1, 1) := db_of db_17 5 rfl
theorem dX2_tryBits_93 : decode cX2_tryBits 93 = .ok (.iload 7, 2) := db_of db_17 6 rfl
theorem dX2_tryBits_95 : decode cX2_tryBits 95 = .ok (.iastore, 1) := db_of db_17 7 rfl
theorem dX2_tryBits_96 : decode cX2_tryBits 96 = .ok (.aload_n 0, 1) := db_of db_17 8 rfl
theorem dX2_tryBits_97 : decode cX2_tryBits 97 = .ok (.iload_n 1, 1) := db_of db_17 9 rfl
theorem dX2_tryBits_98 : decode cX2_tryBits 98 = .ok (.iload_n 2, 1) := db_of db_17 10 rfl
theorem dX2_tryBits_99 : decode cX2_tryBits 99 = .ok (.iconst 1, 1) := db_of db_17 11 rfl
theorem dX2_tryBits_100 : decode cX2_tryBits 100 = .ok (.iload 7, 2) := db_of db_17 12 rfl
theorem dX2_tryBits_102 : decode cX2_tryBits 102 = .ok (.ishl, 1) := db_of db_17 13 rfl
theorem dX2_tryBits_103 : decode cX2_tryBits 103 = .ok (.iconst (-1), 1) := db_of db_17 14 rfl
theorem dX2_tryBits_104 : decode cX2_tryBits 104 = .ok (.ixor, 1) := db_of db_17 15 rfl
theorem dX2_tryBits_105 : decode cX2_tryBits 105 = .ok (.iand, 1) := db_of db_17 16 rfl
theorem dX2_tryBits_106 : decode cX2_tryBits 106 = .ok (.iload 8, 2) := db_of db_17 17 rfl
theorem dX2_tryBits_108 : decode cX2_tryBits 108 = .ok (.invokevirtual 72, 3) := db_of db_17 18 rfl
theorem dX2_tryBits_111 : decode cX2_tryBits 111 = .ok (.iinc 7 (-1), 3) := db_of db_17 19 rfl
theorem dX2_tryBits_114 : decode cX2_tryBits 114 = .ok (.goto (-71), 3) := db_of db_17 20 rfl
theorem dX2_tryBits_117 : decode cX2_tryBits 117 = .ok (.return_, 1) := db_of db_17 21 rfl
set_option maxRecDepth 100000 in
theorem db_18 : ([(0, .iload_n 2, 1), (1, .ifCond .ne 28, 3), (4, .aload_n 0, 1), (5, .iload_n 3, 1), (6, .putfield 37, 3), (9, .aload_n 0, 1), (10, .getfield 20, 3), (13, .iconst 0, 1), (14, .aload_n 0, 1), (15, .getfield 24, 3), (18, .iconst 0, 1), (19, .aload_n 0, 1), (20, .getfield 34, 3), (23, .invokestatic 75, 3), (26, .goto 44, 3), (29, .iload_n 1, 1), (30, .iconst 1, 1), (31, .iadd, 1), (32, .bipush 8, 2), (34, .if_icmp .ge 36, 3), (37, .aload_n 0, 1), (38, .aload_n 0, 1), (39, .getfield 11, 3), (42, .iload_n 1, 1), (43, .aaload, 1), (44, .aload_n 0, 1), (45, .getfield 11, 3), (48, .iload_n 1, 1), (49, .iconst 1, 1), (50, .iadd, 1), (51, .aaload, 1), (52, .aload_n 0, 1), (53, .getfield 20, 3), (56, .iload_n 1, 1), (57, .iaload, 1), (58, .invokevirtual 81, 3), (61, .aload_n 0, 1), (62, .iload_n 1, 1), (63, .iconst 1, 1), (64, .iadd, 1), (65, .iload_n 2, 1), (66, .iload_n 3, 1), (67, .invokevirtual 54, 3), (70, .return_, 1)] : List (Nat × Instr × Nat)).all (fun r => decide (decode cX2_takeBit r.1 = .ok r.2)) = true := by decide +kernel
theorem dX2_takeBit_0 : decode cX2_takeBit 0 = .ok (.iload_n 2, 1) := db_of db_18 0 rfl
theorem dX2_takeBit_1 : decode cX2_takeBit 1 = .ok (.ifCond .ne 28, 3) := db_of db_18 1 rfl
theorem dX2_takeBit_4 : decode cX2_takeBit 4 = .ok (.aload_n 0, 1) := db_of db_18 2 rfl
theorem dX2_takeBit_5 : decode cX2_takeBit 5 = .ok (.iload_n 3, 1) := db_of db_18 3 rfl
theorem dX2_takeBit_6 : decode cX2_takeBit 6 = .ok (.putfield 37, 3) := db_of db_18 4 rfl
theorem dX2_takeBit_9 : decode cX2_takeBit 9 = .ok (.aload_n 0, 1) := db_of db_18 5 rfl
theorem dX2_takeBit_10 : decode cX2_takeBit 10 = .ok (.getfield 20, 3) := db_of db_18 6 rfl
theorem dX2_takeBit_13 : decode cX2_takeBit 13 = .ok (.iconst 0, 1) := db_of db_18 7 rfl
theorem dX2_takeBit_14 : decode cX2_takeBit 14 = .ok (.aload_n 0, 1) := db_of db_18 8 rfl
theorem dX2_takeBit_15 : decode cX2_takeBit 15 = .ok (.getfield 24, 3) := db_of db_18 9 rfl
theorem dX2_takeBit_18 : decode cX2_takeBit 18 = .ok (.iconst 0, 1) := db_of db_18 10 rfl
theorem dX2_takeBit_19 : decode cX2_takeBit 19 = .ok (.aload_n 0, 1) := db_of db_18 11 rfl
theorem dX2_takeBit_20 : decode cX2_takeBit 20 = .ok (.getfield 34, 3) := db_of db_18 12 rfl
theorem dX2_takeBit_23 : decode cX2_takeBit 23 = .ok (.invokestatic 75, 3) := db_of db_18 13 rfl
theorem dX2_takeBit_26 : decode cX2_takeBit 26 = .ok (.goto 44, 3) := db_of db_18 14 rfl
theorem dX2_takeBit_29 : decode cX2_takeBit 29 = .ok (.iload_n 1, 1) := db_of db_18 15 rfl
theorem dX2_takeBit_30 : decode cX2_takeBit 30 = .ok (.iconst 1, 1) := db_of db_18 16 rfl
theorem dX2_takeBit_31 : decode cX2_takeBit 31 = .ok (.iadd, 1) := db_of db_18 17 rfl
theorem dX2_takeBit_32 : decode cX2_takeBit 32 = .ok (.bipush 8, 2) := db_of db_18 18 rfl
theorem dX2_takeBit_34 : decode cX2_takeBit 34 = .ok (.if_icmp .ge 36, 3) := db_of db_18 19 rfl
theorem dX2_takeBit_37 : decode cX2_takeBit 37 = .ok (.aload_n 0, 1) := db_of db_18 20 rfl
theorem dX2_takeBit_38 : decode cX2_takeBit 38 = .ok (.aload_n 0, 1) := db_of db_18 21 rfl
theorem dX2_takeBit_39 : decode cX2_takeBit 39 = .ok (.getfield 11, 3) := db_of db_18 22 rfl
theorem dX2_takeBit_42 : decode cX2_takeBit 42 = .ok (.iload_n 1, 1) := db_of db_18 23 rfl
theorem dX2_takeBit_43 : decode cX2_takeBit 43 = .ok (.aaload, 1) := db_of db_18 24 rfl
theorem dX2_takeBit_44 : decode cX2_takeBit 44 = .ok (.aload_n 0, 1) := db_of db_18 25 rfl
theorem dX2_takeBit_45 : decode cX2_takeBit 45 = .ok (.getfield 11, 3) := db_of db_18 26 rfl
theorem dX2_takeBit_48 : decode cX2_takeBit 48 = .ok (.iload_n 1, 1) := db_of db_18 27 rfl
theorem dX2_takeBit_49 : decode cX2_takeBit 49 = .ok (.iconst 1, 1) := db_of db_18 28 rfl
theorem dX2_takeBit_50 : decode cX2_takeBit 50 = .ok (.iadd, 1) := db_of db_18 29 rfl
theorem dX2_takeBit_51 : decode cX2_takeBit 51 = .ok (.aaload, 1) := db_of db_18 30 rfl
theorem dX2_takeBit_52 : decode cX2_takeBit 52 = .ok (.aload_n 0, 1) := db_of db_18 31 rfl
theorem dX2_takeBit_53 : decode cX2_takeBit 53 = .ok (.getfield 20, 3) := db_of db_18 32 rfl
theorem dX2_takeBit_56 : decode cX2_takeBit 56 = .ok (.iload_n 1, 1) := db_of db_18 33 rfl
theorem dX2_takeBit_57 : decode cX2_takeBit 57 = .ok (.iaload, 1) := db_of db_18 34 rfl
theorem dX2_takeBit_58 : decode cX2_takeBit 58 = .ok (.invokevirtual 81, 3) := db_of db_18 35 rfl
theorem dX2_takeBit_61 : decode cX2_takeBit 61 = .ok (.aload_n 0, 1) := db_of db_18 36 rfl
theorem dX2_takeBit_62 : decode cX2_takeBit 62 = .ok (.iload_n 1, 1) := db_of db_18 37 rfl
theorem dX2_takeBit_63 : decode cX2_takeBit 63 = .ok (.iconst 1, 1) := db_of db_18 38 rfl
theorem dX2_takeBit_64 : decode cX2_takeBit 64 = .ok (.iadd, 1) := db_of db_18 39 rfl
theorem dX2_takeBit_65 : decode cX2_takeBit 65 = .ok (.iload_n 2, 1) := db_of db_18 40 rfl
theorem dX2_takeBit_66 : decode cX2_takeBit 66 = .ok (.iload_n 3, 1) := db_of db_18 41 rfl
theorem dX2_takeBit_67 : decode cX2_takeBit 67 = .ok (.invokevirtual 54, 3) := db_of db_18 42 rfl
theorem dX2_takeBit_70 : decode cX2_takeBit 70 = .ok (.return_, 1) := db_of db_18 43 rfl
set_option maxRecDepth 100000 in
theorem db_19 : ([(0, .lconst 0, 1), (1, .lstore_n 2, 1), (2, .iconst 1, 1), (3, .istore 4, 2), (5, .iload 4, 2), (7, .aload_n 0, 1), (8, .getfield 30, 3), (11, .if_icmp .ge 23, 3), (14, .lload_n 2, 1), (15, .aload_n 1, 1), (16, .iload 4, 2), (18, .laload, 1), (19, .aload_n 1, 1), (20, .iload 4, 2), (22, .iconst 1, 1), (23, .isub, 1), (24, .laload, 1), (25, .lxor, 1), (26, .ladd, 1), (27, .lstore_n 2, 1), (28, .iinc 4 1, 3), (31, .goto (-26), 3), (34, .lload_n 2, 1), (35, .lreturn, 1)] : List (Nat × Instr × Nat)).all (fun r => decide (decode cX2_changesOf r.1 = .ok r.2)) = true := by decide +kernel
theorem dX2_changesOf_0 : decode cX2_changesOf 0 = .ok (.lconst 0, 1) := db_of db_19 0 rfl
theorem dX2_changesOf_1 : decode cX2_changesOf 1 = .ok (.lstore_n 2, 1) := db_of db_19 1 rfl
theorem dX2_changesOf_2 : decode cX2_changesOf 2 = .ok (.iconst 1, 1) := db_of db_19 2 rfl
theorem dX2_changesOf_3 : decode cX2_changesOf 3 = .ok (.istore 4, 2) := db_of db_19 3 rfl
theorem dX2_changesOf_5 : decode cX2_changesOf 5 = .ok (.iload 4, 2) := db_of db_19 4 rfl
theorem dX2_changesOf_7 : decode cX2_changesOf 7 = .ok (.aload_n 0, 1) := db_of db_19 5 rfl
theorem dX2_changesOf_8 : decode cX2_changesOf 8 = .ok (.getfield 30, 3) := db_of db_19 6 rfl
theorem dX2_changesOf_11 : decode cX2_changesOf 11 = .ok (.if_icmp .ge 23, 3) := db_of db_19 7 rfl
theorem dX2_changesOf_14 : decode cX2_changesOf 14 = .ok (.lload_n 2, 1) := db_of db_19 8 rfl
theorem dX2_changesOf_15 : decode cX2_changesOf 15 = .ok (.aload_n 1, 1) := db_of db_19 9 rfl
theorem dX2_changesOf_16 : decode cX2_changesOf 16 = .ok (.iload 4, 2) := db_of db_19 10 rfl
theorem dX2_changesOf_18 : decode cX2_changesOf 18 = .ok (.laload, 1) := db_of db_19 11 rfl
theorem dX2_changesOf_19 : decode cX2_changesOf 19 = .ok (.aload_n 1, 1) := db_of db_19 12 rfl
theorem dX2_changesOf_20 : decode cX2_changesOf 20 = .ok (.iload 4, 2) := db_of db_19 13 rfl
theorem dX2_changesOf_22 : decode cX2_changesOf 22 = .ok (.iconst 1, 1) := db_of db_19 14 rfl
theorem dX2_changesOf_23 : decode cX2_changesOf 23 = .ok (.isub, 1) := db_of db_19 15 rfl
theorem dX2_changesOf_24 : decode cX2_changesOf 24 = .ok (.laload, 1) := db_of db_19 16 rfl
theorem dX2_changesOf_25 : decode cX2_changesOf 25 = .ok (.lxor, 1) := db_of db_19 17 rfl
theorem dX2_changesOf_26 : decode cX2_changesOf 26 = .ok (.ladd, 1) := db_of db_19 18 rfl
theorem dX2_changesOf_27 : decode cX2_changesOf 27 = .ok (.lstore_n 2, 1) := db_of db_19 19 rfl
theorem dX2_changesOf_28 : decode cX2_changesOf 28 = .ok (.iinc 4 1, 3) := db_of db_19 20 rfl
theorem dX2_changesOf_31 : decode cX2_changesOf 31 = .ok (.goto (-26), 3) := db_of db_19 21 rfl
theorem dX2_changesOf_34 : decode cX2_changesOf 34 = .ok (.lload_n 2, 1) := db_of db_19 22 rfl
theorem dX2_changesOf_35 : decode cX2_changesOf 35 = .ok (.lreturn, 1) := db_of db_19 23 rfl
set_option maxRecDepth 100000 in
theorem db_20 : ([(0, .lconst 1, 1), (1, .bipush 8, 2), (3, .iload_n 3, 1), (4, .imul, 1), (5, .lshl, 1), (6, .lstore 4, 2), (8, .iconst 0, 1), (9, .istore 6, 2), (11, .iconst 0, 1), (12, .istore 7, 2), (14, .iconst 0, 1), (15, .istore 8, 2), (17, .iload 8, 2), (19, .aload_n 0, 1), (20, .getfield 30, 3), (23, .if_icmp .ge 49, 3), (26, .aload_n 1, 1), (27, .iload 8, 2), (29, .laload, 1), (30, .lload 4, 2), (32, .land, 1), (33, .lconst 0, 1), (34, .lcmp, 1), (35, .ifCond .ne 17, 3), (38, .aload_n 2, 1), (39, .iload 6, 2), (41, .aload_n 1, 1), (42, .iload 8, 2), (44, .laload, 1), (45, .lastore, 1), (46, .iinc 6 1, 3), (49, .goto 17, 3), (52, .aload_n 0, 1), (53, .getfield 16, 3), (56, .iload 7, 2), (58, .aload_n 1, 1), (59, .iload 8, 2), (61, .laload, 1), (62, .lastore, 1), (63, .iinc 7 1, 3), (66, .iinc 8 1, 3), (69, .goto (-52), 3), (72, .aload_n 0, 1), (73, .getfield 16, 3), (76, .iconst 0, 1), (77, .aload_n 2, 1), (78, .iload 6, 2), (80, .iload 7, 2), (82, .invokestatic 75, 3), (85, .return_, 1)] : List (Nat × Instr × Nat)).all (fun r => decide (decode cX2_part r.1 = .ok r.2)) = true := by decide +kernel
theorem dX2_part_0 : decode cX2_part 0 = .ok (.lconst 1, 1) := db_of db_20 0 rfl
theorem dX2_part_1 : decode cX2_part 1 = .ok (.bipush 8, 2) := db_of db_20 1 rfl
theorem dX2_part_3 : decode cX2_part 3 = .ok (.iload_n 3, 1) := db_of db_20 2 rfl
theorem dX2_part_4 : decode cX2_part 4 = .ok (.imul, 1) := db_of db_20 3 rfl
theorem dX2_part_5 : decode cX2_part 5 = .ok (.lshl, 1) := db_of db_20 4 rfl
theorem dX2_part_6 : decode cX2_part 6 = .ok (.lstore 4, 2) := db_of db_20 5 rfl
theorem dX2_part_8 : decode cX2_part 8 = .ok (.iconst 0, 1) := db_of db_20 6 rfl
theorem dX2_part_9 : decode cX2_part 9 = .ok (.istore 6, 2) := db_of db_20 7 rfl
theorem dX2_part_11 : decode cX2_part 11 = .ok (.iconst 0, 1) := db_of db_20 8 rfl
theorem dX2_part_12 : decode cX2_part 12 = .ok (.istore 7, 2) := db_of db_20 9 rfl
theorem dX2_part_14 : decode cX2_part 14 = .ok (.iconst 0, 1) := db_of db_20 10 rfl
theorem dX2_part_15 : decode cX2_part 15 = .ok (.istore 8, 2) := db_of db_20 11 rfl
theorem dX2_part_17 : decode cX2_part 17 = .ok (.iload 8, 2) := db_of db_20 12 rfl
theorem dX2_part_19 : decode cX2_part 19 = .ok (.aload_n 0, 1) := db_of db_20 13 rfl
theorem dX2_part_20 : decode cX2_part 20 = .ok (.getfield 30, 3) := db_of db_20 14 rfl
theorem dX2_part_23 : decode cX2_part 23 = .ok (.if_icmp .ge 49, 3) := db_of db_20 15 rfl
theorem dX2_part_26 : decode cX2_part 26 = .ok (.aload_n 1, 1) := db_of db_20 16 rfl
theorem dX2_part_27 : decode cX2_part 27 = .ok (.iload 8, 2) := db_of db_20 17 rfl
theorem dX2_part_29 : decode cX2_part 29 = .ok (.laload, 1) := db_of db_20 18 rfl
theorem dX2_part_30 : decode cX2_part 30 = .ok (.lload 4, 2) := db_of db_20 19 rfl
theorem dX2_part_32 : decode cX2_part 32 = .ok (.land, 1) := db_of db_20 20 rfl
theorem dX2_part_33 : decode cX2_part 33 = .ok (.lconst 0, 1) := db_of db_20 21 rfl
theorem dX2_part_34 : decode cX2_part 34 = .ok (.lcmp, 1) := db_of db_20 22 rfl
theorem dX2_part_35 : decode cX2_part 35 = .ok (.ifCond .ne 17, 3) := db_of db_20 23 rfl
theorem dX2_part_38 : decode cX2_part 38 = .ok (.aload_n 2, 1) := db_of db_20 24 rfl
theorem dX2_part_39 : decode cX2_part 39 = .ok (.iload 6, 2) := db_of db_20 25 rfl
theorem dX2_part_41 : decode cX2_part 41 = .ok (.aload_n 1, 1) := db_of db_20 26 rfl
theorem dX2_part_42 : decode cX2_part 42 = .ok (.iload 8, 2) := db_of db_20 27 rfl
theorem dX2_part_44 : decode cX2_part 44 = .ok (.laload, 1) := db_of db_20 28 rfl
theorem dX2_part_45 : decode cX2_part 45 = .ok (.lastore, 1) := db_of db_20 29 rfl
theorem dX2_part_46 : decode cX2_part 46 = .ok (.iinc 6 1, 3) := db_of db_20 30 rfl
theorem dX2_part_49 : decode cX2_part 49 = .ok (.goto 17, 3) := db_of db_20 31 rfl
theorem dX2_part_52 : decode cX2_part 52 = .ok (.aload_n 0, 1) := db_of db_20 32 rfl
theorem dX2_part_53 : decode cX2_part 53 = .ok (.getfield 16, 3) := db_of db_20 33 rfl
theorem dX2_part_56 : decode cX2_part 56 = .ok (.iload 7, 2) := db_of db_20 34 rfl
theorem dX2_part_58 : decode cX2_part 58 = .ok (.aload_n 1, 1) := db_of db_20 35 rfl
theorem dX2_part_59 : decode cX2_part 59 = .ok (.iload 8, 2) := db_of db_20 36 rfl
theorem dX2_part_61 : decode cX2_part 61 = .ok (.laload, 1) := db_of db_20 37 rfl
theorem dX2_part_62 : decode cX2_part 62 = .ok (.lastore, 1) := db_of db_20 38 rfl
theorem dX2_part_63 : decode cX2_part 63 = .ok (.iinc 7 1, 3) := db_of db_20 39 rfl
theorem dX2_part_66 : decode cX2_part 66 = .ok (.iinc 8 1, 3) := db_of db_20 40 rfl
theorem dX2_part_69 : decode cX2_part 69 = .ok (.goto (-52), 3) := db_of db_20 41 rfl
theorem dX2_part_72 : decode cX2_part 72 = .ok (.aload_n 0, 1) := db_of db_20 42 rfl
theorem dX2_part_73 : decode cX2_part 73 = .ok (.getfield 16, 3) := db_of db_20 43 rfl
theorem dX2_part_76 : decode cX2_part 76 = .ok (.iconst 0, 1) := db_of db_20 44 rfl
theorem dX2_part_77 : decode cX2_part 77 = .ok (.aload_n 2, 1) := db_of db_20 45 rfl
theorem dX2_part_78 : decode cX2_part 78 = .ok (.iload 6, 2) := db_of db_20 46 rfl
theorem dX2_part_80 : decode cX2_part 80 = .ok (.iload 7, 2) := db_of db_20 47 rfl
theorem dX2_part_82 : decode cX2_part 82 = .ok (.invokestatic 75, 3) := db_of db_20 48 rfl
theorem dX2_part_85 : decode cX2_part 85 = .ok (.return_, 1) := db_of db_20 49 rfl
set_option maxRecDepth 100000 in
theorem db_21 : ([(0, .iconst 0, 1), (1, .istore_n 2, 1), (2, .iconst 0, 1), (3, .istore_n 3, 1), (4, .bipush 7, 2), (6, .istore 4, 2), (8, .iload 4, 2), (10, .ifCond .lt 69, 3), (13, .iload_n 1, 1), (14, .iload 4, 2), (16, .ishr, 1), (17, .iconst 1, 1), (18, .iand, 1), (19, .ifCond .ne 54, 3), (22, .iload_n 3, 1), (23, .aload_n 0, 1), (24, .getfield 34, 3), (27, .if_icmp .ge 35, 3), (30, .aload_n 0, 1), (31, .getfield 24, 3), (34, .iload_n 3, 1), (35, .iaload, 1), (36, .iload 4, 2), (38, .if_icmp .le 24, 3), (41, .aload_n 0, 1), (42, .getfield 27, 3), (45, .iload_n 2, 1), (46, .aload_n 0, 1), (47, .getfield 24, 3), (50, .iload_n 3, 1), (51, .iaload, 1), (52, .iastore, 1), (53, .iinc 2 1, 3), (56, .iinc 3 1, 3), (59, .goto (-37), 3), (62, .aload_n 0, 1), (63, .getfield 27, 3), (66, .iload_n 2, 1), (67, .iload 4, 2), (69, .iastore, 1), (70, .iinc 2 1, 3), (73, .iinc 4 (-1), 3), (76, .goto (-68), 3), (79, .aload_n 0, 1), (80, .getfield 24, 3), (83, .iload_n 3, 1), (84, .aload_n 0, 1), (85, .getfield 27, 3), (88, .iload_n 2, 1), (89, .aload_n 0, 1)] : List (Nat × Instr × Nat)).all (fun r => decide (decode cX2_fillOrder r.1 = .ok r.2)) = true := by decide +kernel
theorem dX2_fillOrder_0 : decode cX2_fillOrder 0 = .ok (.iconst 0, 1) := db_of db_21 0 rfl
theorem dX2_fillOrder_1 : decode cX2_fillOrder 1 = .ok (.istore_n 2, 1) := db_of db_21 1 rfl
theorem dX2_fillOrder_2 : decode cX2_fillOrder 2 = .ok (.iconst 0, 1) := db_of db_21 2 rfl
theorem dX2_fillOrder_3 : decode cX2_fillOrder 3 = .ok (.istore_n 3, 1) := db_of db_21 3 rfl
theorem dX2_fillOrder_4 : decode cX2_fillOrder 4 = .ok (.bipush 7, 2) := db_of db_21 4 rfl
theorem dX2_fillOrder_6 : decode cX2_fillOrder 6 = .ok (.istore 4, 2) := db_of db_21 5 rfl
theorem dX2_fillOrder_8 : decode cX2_fillOrder 8 = .ok (.iload 4, 2) := db_of db_21 6 rfl
theorem dX2_fillOrder_10 : decode cX2_fillOrder 10 = .ok (.ifCond .lt 69, 3) := db_of db_21 7 rfl
theorem dX2_fillOrder_13 : decode cX2_fillOrder 13 = .ok (.iload_n 1, 1) := db_of db_21 8 rfl
theorem dX2_fillOrder_14 : decode cX2_fillOrder 14 = .ok (.iload 4, 2) := db_of db_21 9 rfl
theorem dX2_fillOrder_16 : decode cX2_fillOrder 16 = .ok (.ishr, 1) := db_of db_21 10 rfl
theorem dX2_fillOrder_17 : decode cX2_fillOrder 17 = .ok (.iconst 1, 1) := db_of db_21 11 rfl
theorem dX2_fillOrder_18 : decode cX2_fillOrder 18 = .ok (.iand, 1) := db_of db_21 12 rfl
theorem dX2_fillOrder_19 : decode cX2_fillOrder 19 = .ok (.ifCond .ne 54, 3) := db_of db_21 13 rfl
theorem dX2_fillOrder_22 : decode cX2_fillOrder 22 = .ok (.iload_n 3, 1) := db_of db_21 14 rfl
theorem dX2_fillOrder_23 : decode cX2_fillOrder 23 = .ok (.aload_n 0, 1) := db_of db_21 15 rfl
theorem dX2_fillOrder_24 : decode cX2_fillOrder 24 = .ok (.getfield 34, 3) := db_of db_21 16 rfl
theorem dX2_fillOrder_27 : decode cX2_fillOrder 27 = .ok (.if_icmp .ge 35, 3) := db_of db_21 17 rfl
theorem dX2_fillOrder_30 : decode cX2_fillOrder 30 = .ok (.aload_n 0, 1) := db_of db_21 18 rfl
theorem dX2_fillOrder_31 : decode cX2_fillOrder 31 = .ok (.getfield 24, 3) := db_of db_21 19 rfl
theorem dX2_fillOrder_34 : decode cX2_fillOrder 34 = .ok (.iload_n 3, 1) := db_of db_21 20 rfl
theorem dX2_fillOrder_35 : decode cX2_fillOrder 35 = .ok (.iaload, 1) := db_of db_21 21 rfl
theorem dX2_fillOrder_36 : decode cX2_fillOrder 36 = .ok (.iload 4, 2) := db_of db_21 22 rfl
theorem dX2_fillOrder_38 : decode cX2_fillOrder 38 = .ok (.if_icmp .le 24, 3) := db_of db_21 23 rfl
theorem dX2_fillOrder_41 : decode cX2_fillOrder 41 = .ok (.aload_n 0, 1) := db_of db_21 24 rfl
theorem dX2_fillOrder_42 : decode cX2_fillOrder 42 = .ok (.getfield 27, 3) := db_of db_21 25 rfl
theorem dX2_fillOrder_45 : decode cX2_fillOrder 45 = .ok (.iload_n 2, 1) := db_of db_21 26 rfl
theorem dX2_fillOrder_46 : decode cX2_fillOrder 46 = .ok (.aload_n 0, 1) := db_of db_21 27 rfl
theorem dX2_fillOrder_47 : decode cX2_fillOrder 47 = .ok (.getfield 24, 3) := db_of db_21 28 rfl
theorem dX2_fillOrder_50 : decode cX2_fillOrder 50 = .ok (.iload_n 3, 1) := db_of db_21 29 rfl
theorem dX2_fillOrder_51 : decode cX2_fillOrder 51 = .ok (.iaload, 1) := db_of db_21 30 rfl
theorem dX2_fillOrder_52 : decode cX2_fillOrder 52 = .ok (.iastore, 1) := db_of db_21 31 rfl
theorem dX2_fillOrder_53 : decode cX2_fillOrder 53 = .ok (.iinc 2 1, 3) := db_of db_21 32 rfl
theorem dX2_fillOrder_56 : decode cX2_fillOrder 56 = .ok (.iinc 3 1, 3) := db_of db_21 33 rfl
theorem dX2_fillOrder_59 : decode cX2_fillOrder 59 = .ok (.goto (-37), 3) := db_of db_21 34 rfl
theorem dX2_fillOrder_62 : decode cX2_fillOrder 62 = .ok (.aload_n 0, 1) := db_of db_21 35 rfl
theorem dX2_fillOrder_63 : decode cX2_fillOrder 63 = .ok (.getfield 27, 3) := db_of db_21 36 rfl
theorem dX2_fillOrder_66 : decode cX2_fillOrder 66 = .ok (.iload_n 2, 1) := db_of db_21 37 rfl
theorem dX2_fillOrder_67 : decode cX2_fillOrder 67 = .ok (.iload 4, 2) := db_of db_21 38 rfl
theorem dX2_fillOrder_69 : decode cX2_fillOrder 69 = .ok (.iastore, 1) := db_of db_21 39 rfl
theorem dX2_fillOrder_70 : decode cX2_fillOrder 70 = .ok (.iinc 2 1, 3) := db_of db_21 40 rfl
theorem dX2_fillOrder_73 : decode cX2_fillOrder 73 = .ok (.iinc 4 (-1), 3) := db_of db_21 41 rfl
theorem dX2_fillOrder_76 : decode cX2_fillOrder 76 = .ok (.goto (-68), 3) := db_of db_21 42 rfl
theorem dX2_fillOrder_79 : decode cX2_fillOrder 79 = .ok (.aload_n 0, 1) := db_of db_21 43 rfl
theorem dX2_fillOrder_80 : decode cX2_fillOrder 80 = .ok (.getfield 24, 3) := db_of db_21 44 rfl
theorem dX2_fillOrder_83 : decode cX2_fillOrder 83 = .ok (.iload_n 3, 1) := db_of db_21 45 rfl
theorem dX2_fillOrder_84 : decode cX2_fillOrder 84 = .ok (.aload_n 0, 1) := db_of db_21 46 rfl
theorem dX2_fillOrder_85 : decode cX2_fillOrder 85 = .ok (.getfield 27, 3) := db_of db_21 47 rfl
theorem dX2_fillOrder_88 : decode cX2_fillOrder 88 = .ok (.iload_n 2, 1) := db_of db_21 48 rfl
theorem dX2_fillOrder_89 : decode cX2_fillOrder 89 = .ok (.aload_n 0, 1) := db_of db_21 49 rfl
set_option maxRecDepth 100000 in
theorem db_22 : ([(90, .getfield 34, 3), (93, .iload_n 3, 1), (94, .isub, 1), (95, .invokestatic 75, 3), (98, .return_, 1)] : List (Nat × Instr × Nat)).all (fun r => decide (decode cX2_fillOrder r.1 = .ok r.2)) = true := by decide +kernel
theorem dX2_fillOrder_90 : decode cX2_fillOrder 90 = .ok (.getfield 34, 3) := db_of db_22 0 rfl
theorem dX2_fillOrder_93 : decode cX2_fillOrder 93 = .ok (.iload_n 3, 1) := db_of db_22 1 rfl
theorem dX2_fillOrder_94 : decode cX2_fillOrder 94 = .ok (.isub, 1) := db_of db_22 2 rfl
theorem dX2_fillOrder_95 : decode cX2_fillOrder 95 = .ok (.invokestatic 75, 3) := db_of db_22 3 rfl
theorem dX2_fillOrder_98 : decode cX2_fillOrder 98 = .ok (.return_, 1) := db_of db_22 4 rfl
set_option maxRecDepth 100000 in
theorem db_23 : ([(0, .aload_n 0, 1), (1, .invokespecial 3, 3), (4, .aload_n 0, 1), (5, .bipush 64, 2), (7, .newarray .int, 2), (9, .putfield 9, 3), (12, .aload_n 0, 1), (13, .iconst 0, 1), (14, .putfield 15, 3), (17, .aload_n 0, 1), (18, .iconst 0, 1), (19, .putfield 19, 3), (22, .return_, 1)] : List (Nat × Instr × Nat)).all (fun r => decide (decode cX3_init r.1 = .ok r.2)) = true := by decide +kernel
theorem dX3_init_0 : decode cX3_init 0 = .ok (.aload_n 0, 1) := db_of db_23 0 rfl
theorem dX3_init_1 : decode cX3_init 1 = .ok (.invokespecial 3, 3) := db_of db_23 1 rfl
theorem dX3_init_4 : decode cX3_init 4 = .ok (.aload_n 0, 1) := db_of db_23 2 rfl
theorem dX3_init_5 : decode cX3_init 5 = .ok (.bipush 64, 2) := db_of db_23 3 rfl
theorem dX3_init_7 : decode cX3_init 7 = .ok (.newarray .int, 2) := db_of db_23 4 rfl
theorem dX3_init_9 : decode cX3_init 9 = .ok (.putfield 9, 3) := db_of db_23 5 rfl
theorem dX3_init_12 : decode cX3_init 12 = .ok (.aload_n 0, 1) := db_of db_23 6 rfl
theorem dX3_init_13 : decode cX3_init 13 = .ok (.iconst 0, 1) := db_of db_23 7 rfl
theorem dX3_init_14 : decode cX3_init 14 = .ok (.putfield 15, 3) := db_of db_23 8 rfl
theorem dX3_init_17 : decode cX3_init 17 = .ok (.aload_n 0, 1) := db_of db_23 9 rfl
theorem dX3_init_18 : decode cX3_init 18 = .ok (.iconst 0, 1) := db_of db_23 10 rfl
theorem dX3_init_19 : decode cX3_init 19 = .ok (.putfield 19, 3) := db_of db_23 11 rfl
theorem dX3_init_22 : decode cX3_init 22 = .ok (.return_, 1) := db_of db_23 12 rfl
set_option maxRecDepth 100000 in
theorem db_24 : ([(0, .aload_n 0, 1), (1, .iconst 0, 1), (2, .putfield 15, 3), (5, .aload_n 0, 1), (6, .iconst 0, 1), (7, .putfield 19, 3), (10, .aload_n 1, 1), (11, .getfield 22, 3), (14, .ifCond .ne 5, 3), (17, .iconst (-1), 1), (18, .ireturn, 1), (19, .iconst 0, 1), (20, .istore_n 2, 1), (21, .iload_n 2, 1), (22, .bipush 100, 2), (24, .if_icmp .ge 63, 3), (27, .aload_n 0, 1), (28, .aload_n 1, 1), (29, .invokevirtual 25, 3), (32, .istore_n 3, 1), (33, .iload_n 3, 1), (34, .iconst (-1), 1), (35, .if_icmp .eq 5, 3), (38, .iload_n 3, 1), (39, .ireturn, 1), (40, .aload_n 0, 1), (41, .getfield 19, 3), (44, .aload_n 1, 1), (45, .getfield 22, 3), (48, .if_icmp .lt 5, 3), (51, .iconst (-1), 1), (52, .ireturn, 1), (53, .aload_n 1, 1), (54, .aload_n 0, 1), (55, .getfield 19, 3), (58, .invokevirtual 29, 3), (61, .bipush 44, 2), (63, .if_icmp .eq 8, 3), (66, .aload_n 0, 1), (67, .getfield 19, 3), (70, .ireturn, 1), (71, .aload_n 0, 1), (72, .dup, 1), (73, .getfield 19, 3), (76, .iconst 1, 1), (77, .iadd, 1), (78, .putfield 19, 3), (81, .iinc 2 1, 3), (84, .goto (-63), 3), (87, .aload_n 0, 1)] : List (Nat × Instr × Nat)).all (fun r => decide (decode cX3_read r.1 = .ok r.2)) = true := by decide +kernel
theorem dX3_read_0 : decode cX3_read 0 = .ok (.aload_n 0, 1) := db_of db_24 0 rfl
theorem dX3_read_1 : decode cX3_read 1 = .ok (.iconst 0, 1) := db_of db_24 1 rfl
theorem dX3_read_2 : decode cX3_read 2 = .ok (.putfield 15, 3) := db_of db_24 2 rfl
theorem dX3_read_5 : decode cX3_read 5 = .ok (.aload_n 0, 1) := db_of db_24 3 rfl
theorem dX3_read_6 : decode cX3_read 6 = .ok (.iconst 0, 1) := db_of db_24 4 rfl
theorem dX3_read_7 : decode cX3_read 7 = .ok (.putfield 19, 3) := db_of db_24 5 rfl
theorem dX3_read_10 : decode cX3_read 10 = .ok (.aload_n 1, 1) := db_of db_24 6 rfl
theorem dX3_read_11 : decode cX3_read 11 = .ok (.getfield 22, 3) := db_of db_24 7 rfl
theorem dX3_read_14 : decode cX3_read 14 = .ok (.ifCond .ne 5, 3) := db_of db_24 8 rfl
theorem dX3_read_17 : decode cX3_read 17 = .ok (.iconst (-1), 1) := db_of db_24 9 rfl
theorem dX3_read_18 : decode cX3_read 18 = .ok (.ireturn, 1) := db_of db_24 10 rfl
theorem dX3_read_19 : decode cX3_read 19 = .ok (.iconst 0, 1) := db_of db_24 11 rfl
theorem dX3_read_20 : decode cX3_read 20 = .ok (.istore_n 2, 1) := db_of db_24 12 rfl
theorem dX3_read_21 : decode cX3_read 21 = .ok (.iload_n 2, 1) := db_of db_24 13 rfl
theorem dX3_read_22 : decode cX3_read 22 = .ok (.bipush 100, 2) := db_of db_24 14 rfl
theorem dX3_read_24 : decode cX3_read 24 = .ok (.if_icmp .ge 63, 3) := db_of db_24 15 rfl
theorem dX3_read_27 : decode cX3_read 27 = .ok (.aload_n 0, 1) := db_of db_24 16 rfl
theorem dX3_read_28 : decode cX3_read 28 = .ok (.aload_n 1, 1) := db_of db_24 17 rfl
theorem dX3_read_29 : decode cX3_read 29 = .ok (.invokevirtual 25, 3) := db_of db_24 18 rfl
theorem dX3_read_32 : decode cX3_read 32 = .ok (.istore_n 3, 1) := db_of db_24 19 rfl
theorem dX3_read_33 : decode cX3_read 33 = .ok (.iload_n 3, 1) := db_of db_24 20 rfl
theorem dX3_read_34 : decode cX3_read 34 = .ok (.iconst (-1), 1) := db_of db_24 21 rfl
theorem dX3_read_35 : decode cX3_read 35 = .ok (.if_icmp .eq 5, 3) := db_of db_24 22 rfl
theorem dX3_read_38 : decode cX3_read 38 = .ok (.iload_n 3, 1) := db_of db_24 23 rfl
theorem dX3_read_39 : decode cX3_read 39 = .ok (.ireturn, 1) := db_of db_24 24 rfl
theorem dX3_read_40 : decode cX3_read 40 = .ok (.aload_n 0, 1) := db_of db_24 25 rfl
theorem dX3_read_41 : decode cX3_read 41 = .ok (.getfield 19, 3) := db_of db_24 26 rfl
theorem dX3_read_44 : decode cX3_read 44 = .ok (.aload_n 1, 1) := db_of db_24 27 rfl
theorem dX3_read_45 : decode cX3_read 45 = .ok (.getfield 22, 3) := db_of db_24 28 rfl
theorem dX3_read_48 : decode cX3_read 48 = .ok (.if_icmp .lt 5, 3) := db_of db_24 29 rfl
theorem dX3_read_51 : decode cX3_read 51 = .ok (.iconst (-1), 1) := db_of db_24 30 rfl
theorem dX3_read_52 : decode cX3_read 52 = .ok (.ireturn, 1) := db_of db_24 31 rfl
theorem dX3_read_53 : decode cX3_read 53 = .ok (.aload_n 1, 1) := db_of db_24 32 rfl
theorem dX3_read_54 : decode cX3_read 54 = .ok (.aload_n 0, 1) := db_of db_24 33 rfl
theorem dX3_read_55 : decode cX3_read 55 = .ok (.getfield 19, 3) := db_of db_24 34 rfl
theorem dX3_read_58 : decode cX3_read 58 = .ok (.invokevirtual 29, 3) := db_of db_24 35 rfl
theorem dX3_read_61 : decode cX3_read 61 = .ok (.bipush 44, 2) := db_of db_24 36 rfl
theorem dX3_read_63 : decode cX3_read 63 = .ok (.if_icmp .eq 8, 3) := db_of db_24 37 rfl
theorem dX3_read_66 : decode cX3_read 66 = .ok (.aload_n 0, 1) := db_of db_24 38 rfl
theorem dX3_read_67 : decode cX3_read 67 = .ok (.getfield 19, 3) := db_of db_24 39 rfl
theorem dX3_read_70 : decode cX3_read 70 = .ok (.ireturn, 1) := db_of db_24 40 rfl
theorem dX3_read_71 : decode cX3_read 71 = .ok (.aload_n 0, 1) := db_of db_24 41 rfl
theorem dX3_read_72 : decode cX3_read 72 = .ok (.dup, 1) := db_of db_24 42 rfl
theorem dX3_read_73 : decode cX3_read 73 = .ok (.getfield 19, 3) := db_of db_24 43 rfl
theorem dX3_read_76 : decode cX3_read 76 = .ok (.iconst 1, 1) := db_of db_24 44 rfl
theorem dX3_read_77 : decode cX3_read 77 = .ok (.iadd, 1) := db_of db_24 45 rfl
theorem dX3_read_78 : decode cX3_read 78 = .ok (.putfield 19, 3) := db_of db_24 46 rfl
theorem dX3_read_81 : decode cX3_read 81 = .ok (.iinc 2 1, 3) := db_of db_24 47 rfl
theorem dX3_read_84 : decode cX3_read 84 = .ok (.goto (-63), 3) := db_of db_24 48 rfl
theorem dX3_read_87 : decode cX3_read 87 = .ok (.aload_n 0, 1) := db_of db_24 49 rfl
set_option maxRecDepth 100000 in
theorem db_25 : ([(88, .getfield 19, 3), (91, .ireturn, 1)] : List (Nat × Instr × Nat)).all (fun r => decide (decode cX3_read r.1 = .ok r.2)) = true := by decide +kernel
theorem dX3_read_88 : decode cX3_read 88 = .ok (.getfield 19, 3) := db_of db_25 0 rfl
theorem dX3_read_91 : decode cX3_read 91 = .ok (.ireturn, 1) := db_of db_25 1 rfl
set_option maxRecDepth 100000 in
theorem db_26 : ([(0, .aload_n 0, 1), (1, .getfield 19, 3), (4, .istore_n 2, 1), (5, .aload_n 0, 1), (6, .aload_n 1, 1), (7, .iconst 3, 1), (8, .iconst 0, 1), (9, .sipush 255, 3), (12, .invokevirtual 32, 3), (15, .istore_n 3, 1), (16, .iload_n 3, 1), (17, .ifCond .ge 8, 3), (20, .aload_n 0, 1), (21, .getfield 19, 3), (24, .ireturn, 1), (25, .iconst 1, 1), (26, .istore 4, 2), (28, .aload_n 1, 1), (29, .aload_n 0, 1), (30, .getfield 19, 3), (33, .invokevirtual 29, 3), (36, .bipush 120, 2), (38, .if_icmp .ne 34, 3), (41, .aload_n 0, 1), (42, .dup, 1), (43, .getfield 19, 3), (46, .iconst 1, 1), (47, .iadd, 1), (48, .putfield 19, 3), (51, .aload_n 0, 1), (52, .aload_n 1, 1), (53, .iconst 2, 1), (54, .iconst 1, 1), (55, .bipush 64, 2), (57, .invokevirtual 32, 3), (60, .istore 4, 2), (62, .iload 4, 2), (64, .ifCond .ge 8, 3), (67, .aload_n 0, 1), (68, .getfield 19, 3), (71, .ireturn, 1), (72, .aload_n 0, 1), (73, .getfield 15, 3), (76, .iload 4, 2), (78, .iadd, 1), (79, .bipush 64, 2), (81, .if_icmp .le 5, 3), (84, .iload_n 2, 1), (85, .ireturn, 1), (86, .iconst 0, 1)] : List (Nat × Instr × Nat)).all (fun r => decide (decode cX3_readPart r.1 = .ok r.2)) = true := by decide +kernel
theorem dX3_readPart_0 : decode cX3_readPart 0 = .ok (.aload_n 0, 1) := db_of db_26 0 rfl
theorem dX3_readPart_1 : decode cX3_readPart 1 = .ok (.getfield 19, 3) := db_of db_26 1 rfl
theorem dX3_readPart_4 : decode cX3_readPart 4 = .ok (.istore_n 2, 1) := db_of db_26 2 rfl
theorem dX3_readPart_5 : decode cX3_readPart 5 = .ok (.aload_n 0, 1) := db_of db_26 3 rfl
theorem dX3_readPart_6 : decode cX3_readPart 6 = .ok (.aload_n 1, 1) := db_of db_26 4 rfl
theorem dX3_readPart_7 : decode cX3_readPart 7 = .ok (.iconst 3, 1) := db_of db_26 5 rfl
theorem dX3_readPart_8 : decode cX3_readPart 8 = .ok (.iconst 0, 1) := db_of db_26 6 rfl
theorem dX3_readPart_9 : decode cX3_readPart 9 = .ok (.sipush 255, 3) := db_of db_26 7 rfl
theorem dX3_readPart_12 : decode cX3_readPart 12 = .ok (.invokevirtual 32, 3) := db_of db_26 8 rfl
theorem dX3_readPart_15 : decode cX3_readPart 15 = .ok (.istore_n 3, 1) := db_of db_26 9 rfl
theorem dX3_readPart_16 : decode cX3_readPart 16 = .ok (.iload_n 3, 1) := db_of db_26 10 rfl
theorem dX3_readPart_17 : decode cX3_readPart 17 = .ok (.ifCond .ge 8, 3) := db_of db_26 11 rfl
theorem dX3_readPart_20 : decode cX3_readPart 20 = .ok (.aload_n 0, 1) := db_of db_26 12 rfl
theorem dX3_readPart_21 : decode cX3_readPart 21 = .ok (.getfield 19, 3) := db_of db_26 13 rfl
theorem dX3_readPart_24 : decode cX3_readPart 24 = .ok (.ireturn, 1) := db_of db_26 14 rfl
theorem dX3_readPart_25 : decode cX3_readPart 25 = .ok (.iconst 1, 1) := db_of db_26 15 rfl
theorem dX3_readPart_26 : decode cX3_readPart 26 = .ok (.istore 4, 2) := db_of db_26 16 rfl
theorem dX3_readPart_28 : decode cX3_readPart 28 = .ok (.aload_n 1, 1) := db_of db_26 17 rfl
theorem dX3_readPart_29 : decode cX3_readPart 29 = .ok (.aload_n 0, 1) := db_of db_26 18 rfl
theorem dX3_readPart_30 : decode cX3_readPart 30 = .ok (.getfield 19, 3) := db_of db_26 19 rfl
theorem dX3_readPart_33 : decode cX3_readPart 33 = .ok (.invokevirtual 29, 3) := db_of db_26 20 rfl
theorem dX3_readPart_36 : decode cX3_readPart 36 = .ok (.bipush 120, 2) := db_of db_26 21 rfl
theorem dX3_readPart_38 : decode cX3_readPart 38 = .ok (.if_icmp .ne 34, 3) := db_of db_26 22 rfl
theorem dX3_readPart_41 : decode cX3_readPart 41 = .ok (.aload_n 0, 1) := db_of db_26 23 rfl
theorem dX3_readPart_42 : decode cX3_readPart 42 = .ok (.dup, 1) := db_of db_26 24 rfl
theorem dX3_readPart_43 : decode cX3_readPart 43 = .ok (.getfield 19, 3) := db_of db_26 25 rfl
theorem dX3_readPart_46 : decode cX3_readPart 46 = .ok (.iconst 1, 1) := db_of db_26 26 rfl
theorem dX3_readPart_47 : decode cX3_readPart 47 = .ok (.iadd, 1) := db_of db_26 27 rfl
theorem dX3_readPart_48 : decode cX3_readPart 48 = .ok (.putfield 19, 3) := db_of db_26 28 rfl
theorem dX3_readPart_51 : decode cX3_readPart 51 = .ok (.aload_n 0, 1) := db_of db_26 29 rfl
theorem dX3_readPart_52 : decode cX3_readPart 52 = .ok (.aload_n 1, 1) := db_of db_26 30 rfl
theorem dX3_readPart_53 : decode cX3_readPart 53 = .ok (.iconst 2, 1) := db_of db_26 31 rfl
theorem dX3_readPart_54 : decode cX3_readPart 54 = .ok (.iconst 1, 1) := db_of db_26 32 rfl
theorem dX3_readPart_55 : decode cX3_readPart 55 = .ok (.bipush 64, 2) := db_of db_26 33 rfl
theorem dX3_readPart_57 : decode cX3_readPart 57 = .ok (.invokevirtual 32, 3) := db_of db_26 34 rfl
theorem dX3_readPart_60 : decode cX3_readPart 60 = .ok (.istore 4, 2) := db_of db_26 35 rfl
theorem dX3_readPart_62 : decode cX3_readPart 62 = .ok (.iload 4, 2) := db_of db_26 36 rfl
theorem dX3_readPart_64 : decode cX3_readPart 64 = .ok (.ifCond .ge 8, 3) := db_of db_26 37 rfl
theorem dX3_readPart_67 : decode cX3_readPart 67 = .ok (.aload_n 0, 1) := db_of db_26 38 rfl
theorem dX3_readPart_68 : decode cX3_readPart 68 = .ok (.getfield 19, 3) := db_of db_26 39 rfl
theorem dX3_readPart_71 : decode cX3_readPart 71 = .ok (.ireturn, 1) := db_of db_26 40 rfl
theorem dX3_readPart_72 : decode cX3_readPart 72 = .ok (.aload_n 0, 1) := db_of db_26 41 rfl
theorem dX3_readPart_73 : decode cX3_readPart 73 = .ok (.getfield 15, 3) := db_of db_26 42 rfl
theorem dX3_readPart_76 : decode cX3_readPart 76 = .ok (.iload 4, 2) := db_of db_26 43 rfl
theorem dX3_readPart_78 : decode cX3_readPart 78 = .ok (.iadd, 1) := db_of db_26 44 rfl
theorem dX3_readPart_79 : decode cX3_readPart 79 = .ok (.bipush 64, 2) := db_of db_26 45 rfl
theorem dX3_readPart_81 : decode cX3_readPart 81 = .ok (.if_icmp .le 5, 3) := db_of db_26 46 rfl
theorem dX3_readPart_84 : decode cX3_readPart 84 = .ok (.iload_n 2, 1) := db_of db_26 47 rfl
theorem dX3_readPart_85 : decode cX3_readPart 85 = .ok (.ireturn, 1) := db_of db_26 48 rfl
theorem dX3_readPart_86 : decode cX3_readPart 86 = .ok (.iconst 0, 1) := db_of db_26 49 rfl
set_option maxRecDepth 100000 in
theorem db_27 : ([(87, .istore 5, 2), (89, .iload 5, 2), (91, .iload 4, 2), (93, .if_icmp .ge 29, 3), (96, .aload_n 0, 1), (97, .getfield 9, 3), (100, .aload_n 0, 1), (101, .getfield 15, 3), (104, .iload_n 3, 1), (105, .iastore, 1), (106, .aload_n 0, 1), (107, .dup, 1), (108, .getfield 15, 3), (111, .iconst 1, 1), (112, .iadd, 1), (113, .putfield 15, 3), (116, .iinc 5 1, 3), (119, .goto (-30), 3), (122, .iconst (-1), 1), (123, .ireturn, 1)] : List (Nat × Instr × Nat)).all (fun r => decide (decode cX3_readPart r.1 = .ok r.2)) = true := by decide +kernel
theorem dX3_readPart_87 : decode cX3_readPart 87 = .ok (.istore 5, 2) := db_of db_27 0 rfl
theorem dX3_readPart_89 : decode cX3_readPart 89 = .ok (.iload 5, 2) := db_of db_27 1 rfl
theorem dX3_readPart_91 : decode cX3_readPart 91 = .ok (.iload 4, 2) := db_of db_27 2 rfl
theorem dX3_readPart_93 : decode cX3_readPart 93 = .ok (.if_icmp .ge 29, 3) := db_of db_27 3 rfl
theorem dX3_readPart_96 : decode cX3_readPart 96 = .ok (.aload_n 0, 1) := db_of db_27 4 rfl
theorem dX3_readPart_97 : decode cX3_readPart 97 = .ok (.getfield 9, 3) := db_of db_27 5 rfl
theorem dX3_readPart_100 : decode cX3_readPart 100 = .ok (.aload_n 0, 1) := db_of db_27 6 rfl
theorem dX3_readPart_101 : decode cX3_readPart 101 = .ok (.getfield 15, 3) := db_of db_27 7 rfl
theorem dX3_readPart_104 : decode cX3_readPart 104 = .ok (.iload_n 3, 1) := db_of db_27 8 rfl
theorem dX3_readPart_105 : decode cX3_readPart 105 = .ok (.iastore, 1) := db_of db_27 9 rfl
theorem dX3_readPart_106 : decode cX3_readPart 106 = .ok (.aload_n 0, 1) := db_of db_27 10 rfl
theorem dX3_readPart_107 : decode cX3_readPart 107 = .ok (.dup, 1) := db_of db_27 11 rfl
theorem dX3_readPart_108 : decode cX3_readPart 108 = .ok (.getfield 15, 3) := db_of db_27 12 rfl
theorem dX3_readPart_111 : decode cX3_readPart 111 = .ok (.iconst 1, 1) := db_of db_27 13 rfl
theorem dX3_readPart_112 : decode cX3_readPart 112 = .ok (.iadd, 1) := db_of db_27 14 rfl
theorem dX3_readPart_113 : decode cX3_readPart 113 = .ok (.putfield 15, 3) := db_of db_27 15 rfl
theorem dX3_readPart_116 : decode cX3_readPart 116 = .ok (.iinc 5 1, 3) := db_of db_27 16 rfl
theorem dX3_readPart_119 : decode cX3_readPart 119 = .ok (.goto (-30), 3) := db_of db_27 17 rfl
theorem dX3_readPart_122 : decode cX3_readPart 122 = .ok (.iconst (-1), 1) := db_of db_27 18 rfl
theorem dX3_readPart_123 : decode cX3_readPart 123 = .ok (.ireturn, 1) := db_of db_27 19 rfl
set_option maxRecDepth 100000 in
theorem db_28 : ([(0, .iconst 0, 1), (1, .istore 5, 2), (3, .iconst 0, 1), (4, .istore 6, 2), (6, .iload 6, 2), (8, .iload_n 2, 1), (9, .if_icmp .ge 52, 3), (12, .aload_n 1, 1), (13, .aload_n 0, 1), (14, .getfield 19, 3), (17, .invokevirtual 29, 3), (20, .invokestatic 36, 3), (23, .ifCond .eq 38, 3), (26, .iload 5, 2), (28, .bipush 10, 2), (30, .imul, 1), (31, .aload_n 1, 1), (32, .aload_n 0, 1), (33, .getfield 19, 3), (36, .invokevirtual 29, 3), (39, .iadd, 1), (40, .bipush 48, 2), (42, .isub, 1), (43, .istore 5, 2), (45, .aload_n 0, 1), (46, .dup, 1), (47, .getfield 19, 3), (50, .iconst 1, 1), (51, .iadd, 1), (52, .putfield 19, 3), (55, .iinc 6 1, 3), (58, .goto (-52), 3), (61, .iload 6, 2), (63, .ifCond .ne 5, 3), (66, .iconst (-1), 1), (67, .ireturn, 1), (68, .iload 5, 2), (70, .iload_n 3, 1), (71, .if_icmp .lt 10, 3), (74, .iload 5, 2), (76, .iload 4, 2), (78, .if_icmp .le 15, 3), (81, .aload_n 0, 1), (82, .dup, 1), (83, .getfield 19, 3), (86, .iconst 1, 1), (87, .isub, 1), (88, .putfield 19, 3), (91, .iconst (-1), 1), (92, .ireturn, 1)] : List (Nat × Instr × Nat)).all (fun r => decide (decode cX3_readDigits r.1 = .ok r.2)) = true := by decide +kernel
theorem dX3_readDigits_0 : decode cX3_readDigits 0 = .ok (.iconst 0, 1) := db_of db_28 0 rfl
theorem dX3_readDigits_1 : decode cX3_readDigits 1 = .ok (.istore 5, 2) := db_of db_28 1 rfl
theorem dX3_readDigits_3 : decode cX3_readDigits 3 = .ok (.iconst 0, 1) := db_of db_28 2 rfl
theorem dX3_readDigits_4 : decode cX3_readDigits 4 = .ok (.istore 6, 2) := db_of db_28 3 rfl
theorem dX3_readDigits_6 : decode cX3_readDigits 6 = .ok (.iload 6, 2) := db_of db_28 4 rfl
theorem dX3_readDigits_8 : decode cX3_readDigits 8 = .ok (.iload_n 2, 1) := db_of db_28 5 rfl
theorem dX3_readDigits_9 : decode cX3_readDigits 9 = .ok (.if_icmp .ge 52, 3) := db_of db_28 6 rfl
theorem dX3_readDigits_12 : decode cX3_readDigits 12 = .ok (.aload_n 1, 1) := db_of db_28 7 rfl
theorem dX3_readDigits_13 : decode cX3_readDigits 13 = .ok (.aload_n 0, 1) := db_of db_28 8 rfl
theorem dX3_readDigits_14 : decode cX3_readDigits 14 = .ok (.getfield 19, 3) := db_of db_28 9 rfl
theorem dX3_readDigits_17 : decode cX3_readDigits 17 = .ok (.invokevirtual 29, 3) := db_of db_28 10 rfl
theorem dX3_readDigits_20 : decode cX3_readDigits 20 = .ok (.invokestatic 36, 3) := db_of db_28 11 rfl
theorem dX3_readDigits_23 : decode cX3_readDigits 23 = .ok (.ifCond .eq 38, 3) := db_of db_28 12 rfl
theorem dX3_readDigits_26 : decode cX3_readDigits 26 = .ok (.iload 5, 2) := db_of db_28 13 rfl
theorem dX3_readDigits_28 : decode cX3_readDigits 28 = .ok (.bipush 10, 2) := db_of db_28 14 rfl
theorem dX3_readDigits_30 : decode cX3_readDigits 30 = .ok (.imul, 1) := db_of db_28 15 rfl
theorem dX3_readDigits_31 : decode cX3_readDigits 31 = .ok (.aload_n 1, 1) := db_of db_28 16 rfl
theorem dX3_readDigits_32 : decode cX3_readDigits 32 = .ok (.aload_n 0, 1) := db_of db_28 17 rfl
theorem dX3_readDigits_33 : decode cX3_readDigits 33 = .ok (.getfield 19, 3) := db_of db_28 18 rfl
theorem dX3_readDigits_36 : decode cX3_readDigits 36 = .ok (.invokevirtual 29, 3) := db_of db_28 19 rfl
theorem dX3_readDigits_39 : decode cX3_readDigits 39 = .ok (.iadd, 1) := db_of db_28 20 rfl
theorem dX3_readDigits_40 : decode cX3_readDigits 40 = .ok (.bipush 48, 2) := db_of db_28 21 rfl
theorem dX3_readDigits_42 : decode cX3_readDigits 42 = .ok (.isub, 1) := db_of db_28 22 rfl
theorem dX3_readDigits_43 : decode cX3_readDigits 43 = .ok (.istore 5, 2) := db_of db_28 23 rfl
theorem dX3_readDigits_45 : decode cX3_readDigits 45 = .ok (.aload_n 0, 1) := db_of db_28 24 rfl
theorem dX3_readDigits_46 : decode cX3_readDigits 46 = .ok (.dup, 1) := db_of db_28 25 rfl
theorem dX3_readDigits_47 : decode cX3_readDigits 47 = .ok (.getfield 19, 3) := db_of db_28 26 rfl
theorem dX3_readDigits_50 : decode cX3_readDigits 50 = .ok (.iconst 1, 1) := db_of db_28 27 rfl
theorem dX3_readDigits_51 : decode cX3_readDigits 51 = .ok (.iadd, 1) := db_of db_28 28 rfl
theorem dX3_readDigits_52 : decode cX3_readDigits 52 = .ok (.putfield 19, 3) := db_of db_28 29 rfl
theorem dX3_readDigits_55 : decode cX3_readDigits 55 = .ok (.iinc 6 1, 3) := db_of db_28 30 rfl
theorem dX3_readDigits_58 : decode cX3_readDigits 58 = .ok (.goto (-52), 3) := db_of db_28 31 rfl
theorem dX3_readDigits_61 : decode cX3_readDigits 61 = .ok (.iload 6, 2) := db_of db_28 32 rfl
theorem dX3_readDigits_63 : decode cX3_readDigits 63 = .ok (.ifCond .ne 5, 3) := db_of db_28 33 rfl
theorem dX3_readDigits_66 : decode cX3_readDigits 66 = .ok (.iconst (-1), 1) := db_of db_28 34 rfl
theorem dX3_readDigits_67 : decode cX3_readDigits 67 = .ok (.ireturn, 1) := db_of db_28 35 rfl
theorem dX3_readDigits_68 : decode cX3_readDigits 68 = .ok (.iload 5, 2) := db_of db_28 36 rfl
theorem dX3_readDigits_70 : decode cX3_readDigits 70 = .ok (.iload_n 3, 1) := db_of db_28 37 rfl
theorem dX3_readDigits_71 : decode cX3_readDigits 71 = .ok (.if_icmp .lt 10, 3) := db_of db_28 38 rfl
theorem dX3_readDigits_74 : decode cX3_readDigits 74 = .ok (.iload 5, 2) := db_of db_28 39 rfl
theorem dX3_readDigits_76 : decode cX3_readDigits 76 = .ok (.iload 4, 2) := db_of db_28 40 rfl
theorem dX3_readDigits_78 : decode cX3_readDigits 78 = .ok (.if_icmp .le 15, 3) := db_of db_28 41 rfl
theorem dX3_readDigits_81 : decode cX3_readDigits 81 = .ok (.aload_n 0, 1) := db_of db_28 42 rfl
theorem dX3_readDigits_82 : decode cX3_readDigits 82 = .ok (.dup, 1) := db_of db_28 43 rfl
theorem dX3_readDigits_83 : decode cX3_readDigits 83 = .ok (.getfield 19, 3) := db_of db_28 44 rfl
theorem dX3_readDigits_86 : decode cX3_readDigits 86 = .ok (.iconst 1, 1) := db_of db_28 45 rfl
theorem dX3_readDigits_87 : decode cX3_readDigits 87 = .ok (.isub, 1) := db_of db_28 46 rfl
theorem dX3_readDigits_88 : decode cX3_readDigits 88 = .ok (.putfield 19, 3) := db_of db_28 47 rfl
theorem dX3_readDigits_91 : decode cX3_readDigits 91 = .ok (.iconst (-1), 1) := db_of db_28 48 rfl
theorem dX3_readDigits_92 : decode cX3_readDigits 92 = .ok (.ireturn, 1) := db_of db_28 49 rfl
set_option maxRecDepth 100000 in
theorem db_29 : ([(93, .aload_n 1, 1), (94, .aload_n 0, 1), (95, .getfield 19, 3), (98, .invokevirtual 29, 3), (101, .invokestatic 36, 3), (104, .ifCond .eq 7, 3), (107, .iconst (-1), 1), (108, .goto 5, 3), (111, .iload 5, 2), (113, .ireturn, 1)] : List (Nat × Instr × Nat)).all (fun r => decide (decode cX3_readDigits r.1 = .ok r.2)) = true := by decide +kernel
theorem dX3_readDigits_93 : decode cX3_readDigits 93 = .ok (.aload_n 1, 1) := db_of db_29 0 rfl
theorem dX3_readDigits_94 : decode cX3_readDigits 94 = .ok (.aload_n 0, 1) := db_of db_29 1 rfl
theorem dX3_readDigits_95 : decode cX3_readDigits 95 = .ok (.getfield 19, 3) := db_of db_29 2 rfl
theorem dX3_readDigits_98 : decode cX3_readDigits 98 = .ok (.invokevirtual 29, 3) := db_of db_29 3 rfl
theorem dX3_readDigits_101 : decode cX3_readDigits 101 = .ok (.invokestatic 36, 3) := db_of db_29 4 rfl
theorem dX3_readDigits_104 : decode cX3_readDigits 104 = .ok (.ifCond .eq 7, 3) := db_of db_29 5 rfl
theorem dX3_readDigits_107 : decode cX3_readDigits 107 = .ok (.iconst (-1), 1) := db_of db_29 6 rfl
theorem dX3_readDigits_108 : decode cX3_readDigits 108 = .ok (.goto 5, 3) := db_of db_29 7 rfl
theorem dX3_readDigits_111 : decode cX3_readDigits 111 = .ok (.iload 5, 2) := db_of db_29 8 rfl
theorem dX3_readDigits_113 : decode cX3_readDigits 113 = .ok (.ireturn, 1) := db_of db_29 9 rfl
set_option maxRecDepth 100000 in
theorem db_30 : ([(0, .iload_n 0, 1), (1, .bipush 48, 2), (3, .if_icmp .lt 13, 3), (6, .iload_n 0, 1), (7, .bipush 57, 2), (9, .if_icmp .gt 7, 3), (12, .iconst 1, 1), (13, .goto 4, 3), (16, .iconst 0, 1), (17, .ireturn, 1)] : List (Nat × Instr × Nat)).all (fun r => decide (decode cX3_isDigit r.1 = .ok r.2)) = true := by decide +kernel
theorem dX3_isDigit_0 : decode cX3_isDigit 0 = .ok (.iload_n 0, 1) := db_of db_30 0 rfl
theorem dX3_isDigit_1 : decode cX3_isDigit 1 = .ok (.bipush 48, 2) := db_of db_30 1 rfl
theorem dX3_isDigit_3 : decode cX3_isDigit 3 = .ok (.if_icmp .lt 13, 3) := db_of db_30 2 rfl
theorem dX3_isDigit_6 : decode cX3_isDigit 6 = .ok (.iload_n 0, 1) := db_of db_30 3 rfl
theorem dX3_isDigit_7 : decode cX3_isDigit 7 = .ok (.bipush 57, 2) := db_of db_30 4 rfl
theorem dX3_isDigit_9 : decode cX3_isDigit 9 = .ok (.if_icmp .gt 7, 3) := db_of db_30 5 rfl
theorem dX3_isDigit_12 : decode cX3_isDigit 12 = .ok (.iconst 1, 1) := db_of db_30 6 rfl
theorem dX3_isDigit_13 : decode cX3_isDigit 13 = .ok (.goto 4, 3) := db_of db_30 7 rfl
theorem dX3_isDigit_16 : decode cX3_isDigit 16 = .ok (.iconst 0, 1) := db_of db_30 8 rfl
theorem dX3_isDigit_17 : decode cX3_isDigit 17 = .ok (.ireturn, 1) := db_of db_30 9 rfl
set_option maxRecDepth 100000 in
theorem db_31 : ([(0, .aload_n 0, 1), (1, .invokespecial 3, 3), (4, .aload_n 0, 1), (5, .bipush 8, 2), (7, .newarray .long, 2), (9, .putfield 9, 3), (12, .aload_n 0, 1), (13, .iconst 0, 1), (14, .putfield 15, 3), (17, .return_, 1)] : List (Nat × Instr × Nat)).all (fun r => decide (decode cX4_init r.1 = .ok r.2)) = true := by decide +kernel
theorem dX4_init_0 : decode cX4_init 0 = .ok (.aload_n 0, 1) := db_of db_31 0 rfl
theorem dX4_init_1 : decode cX4_init 1 = .ok (.invokespecial 3, 3) := db_of db_31 1 rfl
theorem dX4_init_4 : decode cX4_init 4 = .ok (.aload_n 0, 1) := db_of db_31 2 rfl
theorem dX4_init_5 : decode cX4_init 5 = .ok (.bipush 8, 2) := db_of db_31 3 rfl
theorem dX4_init_7 : decode cX4_init 7 = .ok (.newarray .long, 2) := db_of db_31 4 rfl
theorem dX4_init_9 : decode cX4_init 9 = .ok (.putfield 9, 3) := db_of db_31 5 rfl
theorem dX4_init_12 : decode cX4_init 12 = .ok (.aload_n 0, 1) := db_of db_31 6 rfl
theorem dX4_init_13 : decode cX4_init 13 = .ok (.iconst 0, 1) := db_of db_31 7 rfl
theorem dX4_init_14 : decode cX4_init 14 = .ok (.putfield 15, 3) := db_of db_31 8 rfl
theorem dX4_init_17 : decode cX4_init 17 = .ok (.return_, 1) := db_of db_31 9 rfl
set_option maxRecDepth 100000 in
theorem db_32 : ([(0, .iconst 0, 1), (1, .istore_n 2, 1), (2, .iconst 0, 1), (3, .istore_n 3, 1), (4, .iload_n 3, 1), (5, .bipush 8, 2), (7, .if_icmp .ge 84, 3), (10, .aload_n 0, 1), (11, .aload_n 1, 1), (12, .iload_n 2, 1), (13, .iload_n 3, 1), (14, .iload_n 3, 1), (15, .ifCond .ne 8, 3), (18, .bipush 11, 2), (20, .goto 7, 3), (23, .aload_n 0, 1), (24, .getfield 15, 3), (27, .invokevirtual 19, 3), (30, .istore 4, 2), (32, .iload_n 2, 1), (33, .iload 4, 2), (35, .iadd, 1), (36, .istore_n 2, 1), (37, .iload_n 3, 1), (38, .ifCond .ne 9, 3), (41, .aload_n 0, 1), (42, .iload 4, 2), (44, .putfield 15, 3), (47, .iload_n 3, 1), (48, .bipush 7, 2), (50, .if_icmp .ne 7, 3), (53, .iconst (-1), 1), (54, .goto 5, 3), (57, .bipush 47, 2), (59, .istore 5, 2), (61, .iload 4, 2), (63, .aload_n 0, 1), (64, .getfield 15, 3), (67, .if_icmp .lt 13, 3), (70, .aload_n 1, 1), (71, .iload_n 2, 1), (72, .invokevirtual 25, 3), (75, .iload 5, 2), (77, .if_icmp .eq 5, 3), (80, .iload_n 2, 1), (81, .ireturn, 1), (82, .iinc 2 1, 3), (85, .iinc 3 1, 3), (88, .goto (-84), 3), (91, .iconst (-1), 1)] : List (Nat × Instr × Nat)).all (fun r => decide (decode cX4_read r.1 = .ok r.2)) = true := by decide +kernel
theorem dX4_read_0 : decode cX4_read 0 = .ok (.iconst 0, 1) := db_of db_32 0 rfl
theorem dX4_read_1 : decode cX4_read 1 = .ok (.istore_n 2, 1) := db_of db_32 1 rfl
theorem dX4_read_2 : decode cX4_read 2 = .ok (.iconst 0, 1) := db_of db_32 2 rfl
theorem dX4_read_3 : decode cX4_read 3 = .ok (.istore_n 3, 1) := db_of db_32 3 rfl
theorem dX4_read_4 : decode cX4_read 4 = .ok (.iload_n 3, 1) := db_of db_32 4 rfl
theorem dX4_read_5 : decode cX4_read 5 = .ok (.bipush 8, 2) := db_of db_32 5 rfl
theorem dX4_read_7 : decode cX4_read 7 = .ok (.if_icmp .ge 84, 3) := db_of db_32 6 rfl
theorem dX4_read_10 : decode cX4_read 10 = .ok (.aload_n 0, 1) := db_of db_32 7 rfl
theorem dX4_read_11 : decode cX4_read 11 = .ok (.aload_n 1, 1) := db_of db_32 8 rfl
theorem dX4_read_12 : decode cX4_read 12 = .ok (.iload_n 2, 1) := db_of db_32 9 rfl
theorem dX4_read_13 : decode cX4_read 13 = .ok (.iload_n 3, 1) := db_of db_32 10 rfl
theorem dX4_read_14 : decode cX4_read 14 = .ok (.iload_n 3, 1) := db_of db_32 11 rfl
theorem dX4_read_15 : decode cX4_read 15 = .ok (.ifCond .ne 8, 3) := db_of db_32 12 rfl
theorem dX4_read_18 : decode cX4_read 18 = .ok (.bipush 11, 2) := db_of db_32 13 rfl
theorem dX4_read_20 : decode cX4_read 20 = .ok (.goto 7, 3) := db_of db_32 14 rfl
theorem dX4_read_23 : decode cX4_read 23 = .ok (.aload_n 0, 1) := db_of db_32 15 rfl
theorem dX4_read_24 : decode cX4_read 24 = .ok (.getfield 15, 3) := db_of db_32 16 rfl
theorem dX4_read_27 : decode cX4_read 27 = .ok (.invokevirtual 19, 3) := db_of db_32 17 rfl
theorem dX4_read_30 : decode cX4_read 30 = .ok (.istore 4, 2) := db_of db_32 18 rfl
theorem dX4_read_32 : decode cX4_read 32 = .ok (.iload_n 2, 1) := db_of db_32 19 rfl
theorem dX4_read_33 : decode cX4_read 33 = .ok (.iload 4, 2) := db_of db_32 20 rfl
theorem dX4_read_35 : decode cX4_read 35 = .ok (.iadd, 1) := db_of db_32 21 rfl
theorem dX4_read_36 : decode cX4_read 36 = .ok (.istore_n 2, 1) := db_of db_32 22 rfl
theorem dX4_read_37 : decode cX4_read 37 = .ok (.iload_n 3, 1) := db_of db_32 23 rfl
theorem dX4_read_38 : decode cX4_read 38 = .ok (.ifCond .ne 9, 3) := db_of db_32 24 rfl
theorem dX4_read_41 : decode cX4_read 41 = .ok (.aload_n 0, 1) := db_of db_32 25 rfl
theorem dX4_read_42 : decode cX4_read 42 = .ok (.iload 4, 2) := db_of db_32 26 rfl
theorem dX4_read_44 : decode cX4_read 44 = .ok (.putfield 15, 3) := db_of db_32 27 rfl
theorem dX4_read_47 : decode cX4_read 47 = .ok (.iload_n 3, 1) := db_of db_32 28 rfl
theorem dX4_read_48 : decode cX4_read 48 = .ok (.bipush 7, 2) := db_of db_32 29 rfl
theorem dX4_read_50 : decode cX4_read 50 = .ok (.if_icmp .ne 7, 3) := db_of db_32 30 rfl
theorem dX4_read_53 : decode cX4_read 53 = .ok (.iconst (-1), 1) := db_of db_32 31 rfl
theorem dX4_read_54 : decode cX4_read 54 = .ok (.goto 5, 3) := db_of db_32 32 rfl
theorem dX4_read_57 : decode cX4_read 57 = .ok (.bipush 47, 2) := db_of db_32 33 rfl
theorem dX4_read_59 : decode cX4_read 59 = .ok (.istore 5, 2) := db_of db_32 34 rfl
theorem dX4_read_61 : decode cX4_read 61 = .ok (.iload 4, 2) := db_of db_32 35 rfl
theorem dX4_read_63 : decode cX4_read 63 = .ok (.aload_n 0, 1) := db_of db_32 36 rfl
theorem dX4_read_64 : decode cX4_read 64 = .ok (.getfield 15, 3) := db_of db_32 37 rfl
theorem dX4_read_67 : decode cX4_read 67 = .ok (.if_icmp .lt 13, 3) := db_of db_32 38 rfl
theorem dX4_read_70 : decode cX4_read 70 = .ok (.aload_n 1, 1) := db_of db_32 39 rfl
theorem dX4_read_71 : decode cX4_read 71 = .ok (.iload_n 2, 1) := db_of db_32 40 rfl
theorem dX4_read_72 : decode cX4_read 72 = .ok (.invokevirtual 25, 3) := db_of db_32 41 rfl
theorem dX4_read_75 : decode cX4_read 75 = .ok (.iload 5, 2) := db_of db_32 42 rfl
theorem dX4_read_77 : decode cX4_read 77 = .ok (.if_icmp .eq 5, 3) := db_of db_32 43 rfl
theorem dX4_read_80 : decode cX4_read 80 = .ok (.iload_n 2, 1) := db_of db_32 44 rfl
theorem dX4_read_81 : decode cX4_read 81 = .ok (.ireturn, 1) := db_of db_32 45 rfl
theorem dX4_read_82 : decode cX4_read 82 = .ok (.iinc 2 1, 3) := db_of db_32 46 rfl
theorem dX4_read_85 : decode cX4_read 85 = .ok (.iinc 3 1, 3) := db_of db_32 47 rfl
theorem dX4_read_88 : decode cX4_read 88 = .ok (.goto (-84), 3) := db_of db_32 48 rfl
theorem dX4_read_91 : decode cX4_read 91 = .ok (.iconst (-1), 1) := db_of db_32 49 rfl
set_option maxRecDepth 100000 in
theorem db_33 : ([(92, .ireturn, 1)] : List (Nat × Instr × Nat)).all (fun r => decide (decode cX4_read r.1 = .ok r.2)) = true := by decide +kernel
theorem dX4_read_92 : decode cX4_read 92 = .ok (.ireturn, 1) := db_of db_33 0 rfl
set_option maxRecDepth 100000 in
theorem db_34 : ([(0, .aload_n 0, 1), (1, .getfield 9, 3), (4, .iload_n 3, 1), (5, .lconst 0, 1), (6, .lastore, 1), (7, .iconst 0, 1), (8, .istore 5, 2), (10, .iload 5, 2), (12, .iload 4, 2), (14, .if_icmp .ge 47, 3), (17, .aload_n 1, 1), (18, .iload_n 2, 1), (19, .iload 5, 2), (21, .iadd, 1), (22, .invokevirtual 25, 3), (25, .invokestatic 29, 3), (28, .ifCond .eq 33, 3), (31, .aload_n 0, 1), (32, .getfield 9, 3), (35, .iload_n 3, 1), (36, .dup2, 1), (37, .laload, 1), (38, .aload_n 1, 1), (39, .iload_n 2, 1), (40, .iload 5, 2), (42, .iadd, 1), (43, .invokevirtual 25, 3), (46, .bipush 48, 2), (48, .isub, 1), (49, .i2l, 1), (50, .iload 5, 2), (52, .lshl, 1), (53, .lor, 1), (54, .lastore, 1), (55, .iinc 5 1, 3), (58, .goto (-48), 3), (61, .iload 5, 2), (63, .ireturn, 1)] : List (Nat × Instr × Nat)).all (fun r => decide (decode cX4_readBits r.1 = .ok r.2)) = true := by decide +kernel
theorem dX4_readBits_0 : decode cX4_readBits 0 = .ok (.aload_n 0, 1) := db_of db_34 0 rfl
theorem dX4_readBits_1 : decode cX4_readBits 1 = .ok (.getfield 9, 3) := db_of db_34 1 rfl
theorem dX4_readBits_4 : decode cX4_readBits 4 = .ok (.iload_n 3, 1) := db_of db_34 2 rfl
theorem dX4_readBits_5 : decode cX4_readBits 5 = .ok (.lconst 0, 1) := db_of db_34 3 rfl
theorem dX4_readBits_6 : decode cX4_readBits 6 = .ok (.lastore, 1) := db_of db_34 4 rfl
theorem dX4_readBits_7 : decode cX4_readBits 7 = .ok (.iconst 0, 1) := db_of db_34 5 rfl
theorem dX4_readBits_8 : decode cX4_readBits 8 = .ok (.istore 5, 2) := db_of db_34 6 rfl
theorem dX4_readBits_10 : decode cX4_readBits 10 = .ok (.iload 5, 2) := db_of db_34 7 rfl
theorem dX4_readBits_12 : decode cX4_readBits 12 = .ok (.iload 4, 2) := db_of db_34 8 rfl
theorem dX4_readBits_14 : decode cX4_readBits 14 = .ok (.if_icmp .ge 47, 3) := db_of db_34 9 rfl
theorem dX4_readBits_17 : decode cX4_readBits 17 = .ok (.aload_n 1, 1) := db_of db_34 10 rfl
theorem dX4_readBits_18 : decode cX4_readBits 18 = .ok (.iload_n 2, 1) := db_of db_34 11 rfl
theorem dX4_readBits_19 : decode cX4_readBits 19 = .ok (.iload 5, 2) := db_of db_34 12 rfl
theorem dX4_readBits_21 : decode cX4_readBits 21 = .ok (.iadd, 1) := db_of db_34 13 rfl
theorem dX4_readBits_22 : decode cX4_readBits 22 = .ok (.invokevirtual 25, 3) := db_of db_34 14 rfl
theorem dX4_readBits_25 : decode cX4_readBits 25 = .ok (.invokestatic 29, 3) := db_of db_34 15 rfl
theorem dX4_readBits_28 : decode cX4_readBits 28 = .ok (.ifCond .eq 33, 3) := db_of db_34 16 rfl
theorem dX4_readBits_31 : decode cX4_readBits 31 = .ok (.aload_n 0, 1) := db_of db_34 17 rfl
theorem dX4_readBits_32 : decode cX4_readBits 32 = .ok (.getfield 9, 3) := db_of db_34 18 rfl
theorem dX4_readBits_35 : decode cX4_readBits 35 = .ok (.iload_n 3, 1) := db_of db_34 19 rfl
theorem dX4_readBits_36 : decode cX4_readBits 36 = .ok (.dup2, 1) := db_of db_34 20 rfl
theorem dX4_readBits_37 : decode cX4_readBits 37 = .ok (.laload, 1) := db_of db_34 21 rfl
theorem dX4_readBits_38 : decode cX4_readBits 38 = .ok (.aload_n 1, 1) := db_of db_34 22 rfl
theorem dX4_readBits_39 : decode cX4_readBits 39 = .ok (.iload_n 2, 1) := db_of db_34 23 rfl
theorem dX4_readBits_40 : decode cX4_readBits 40 = .ok (.iload 5, 2) := db_of db_34 24 rfl
theorem dX4_readBits_42 : decode cX4_readBits 42 = .ok (.iadd, 1) := db_of db_34 25 rfl
theorem dX4_readBits_43 : decode cX4_readBits 43 = .ok (.invokevirtual 25, 3) := db_of db_34 26 rfl
theorem dX4_readBits_46 : decode cX4_readBits 46 = .ok (.bipush 48, 2) := db_of db_34 27 rfl
theorem dX4_readBits_48 : decode cX4_readBits 48 = .ok (.isub, 1) := db_of db_34 28 rfl
theorem dX4_readBits_49 : decode cX4_readBits 49 = .ok (.i2l, 1) := db_of db_34 29 rfl
theorem dX4_readBits_50 : decode cX4_readBits 50 = .ok (.iload 5, 2) := db_of db_34 30 rfl
theorem dX4_readBits_52 : decode cX4_readBits 52 = .ok (.lshl, 1) := db_of db_34 31 rfl
theorem dX4_readBits_53 : decode cX4_readBits 53 = .ok (.lor, 1) := db_of db_34 32 rfl
theorem dX4_readBits_54 : decode cX4_readBits 54 = .ok (.lastore, 1) := db_of db_34 33 rfl
theorem dX4_readBits_55 : decode cX4_readBits 55 = .ok (.iinc 5 1, 3) := db_of db_34 34 rfl
theorem dX4_readBits_58 : decode cX4_readBits 58 = .ok (.goto (-48), 3) := db_of db_34 35 rfl
theorem dX4_readBits_61 : decode cX4_readBits 61 = .ok (.iload 5, 2) := db_of db_34 36 rfl
theorem dX4_readBits_63 : decode cX4_readBits 63 = .ok (.ireturn, 1) := db_of db_34 37 rfl
set_option maxRecDepth 100000 in
theorem db_35 : ([(0, .iload_n 0, 1), (1, .bipush 48, 2), (3, .if_icmp .eq 9, 3), (6, .iload_n 0, 1), (7, .bipush 49, 2), (9, .if_icmp .ne 7, 3), (12, .iconst 1, 1), (13, .goto 4, 3), (16, .iconst 0, 1), (17, .ireturn, 1)] : List (Nat × Instr × Nat)).all (fun r => decide (decode cX4_isBit r.1 = .ok r.2)) = true := by decide +kernel
theorem dX4_isBit_0 : decode cX4_isBit 0 = .ok (.iload_n 0, 1) := db_of db_35 0 rfl
theorem dX4_isBit_1 : decode cX4_isBit 1 = .ok (.bipush 48, 2) := db_of db_35 1 rfl
theorem dX4_isBit_3 : decode cX4_isBit 3 = .ok (.if_icmp .eq 9, 3) := db_of db_35 2 rfl
theorem dX4_isBit_6 : decode cX4_isBit 6 = .ok (.iload_n 0, 1) := db_of db_35 3 rfl
theorem dX4_isBit_7 : decode cX4_isBit 7 = .ok (.bipush 49, 2) := db_of db_35 4 rfl
theorem dX4_isBit_9 : decode cX4_isBit 9 = .ok (.if_icmp .ne 7, 3) := db_of db_35 5 rfl
theorem dX4_isBit_12 : decode cX4_isBit 12 = .ok (.iconst 1, 1) := db_of db_35 6 rfl
theorem dX4_isBit_13 : decode cX4_isBit 13 = .ok (.goto 4, 3) := db_of db_35 7 rfl
theorem dX4_isBit_16 : decode cX4_isBit 16 = .ok (.iconst 0, 1) := db_of db_35 8 rfl
theorem dX4_isBit_17 : decode cX4_isBit 17 = .ok (.ireturn, 1) := db_of db_35 9 rfl
set_option maxRecDepth 100000 in
theorem db_36 : ([(0, .aload_n 0, 1), (1, .invokespecial 1, 3), (4, .aload_n 0, 1), (5, .bipush 100, 2), (7, .newarray .int, 2), (9, .putfield 9, 3), (12, .aload_n 0, 1), (13, .iconst 0, 1), (14, .putfield 13, 3), (17, .return_, 1)] : List (Nat × Instr × Nat)).all (fun r => decide (decode cX5_init r.1 = .ok r.2)) = true := by decide +kernel
theorem dX5_init_0 : decode cX5_init 0 = .ok (.aload_n 0, 1) := db_of db_36 0 rfl
theorem dX5_init_1 : decode cX5_init 1 = .ok (.invokespecial 1, 3) := db_of db_36 1 rfl
theorem dX5_init_4 : decode cX5_init 4 = .ok (.aload_n 0, 1) := db_of db_36 2 rfl
theorem dX5_init_5 : decode cX5_init 5 = .ok (.bipush 100, 2) := db_of db_36 3 rfl
theorem dX5_init_7 : decode cX5_init 7 = .ok (.newarray .int, 2) := db_of db_36 4 rfl
theorem dX5_init_9 : decode cX5_init 9 = .ok (.putfield 9, 3) := db_of db_36 5 rfl
theorem dX5_init_12 : decode cX5_init 12 = .ok (.aload_n 0, 1) := db_of db_36 6 rfl
theorem dX5_init_13 : decode cX5_init 13 = .ok (.iconst 0, 1) := db_of db_36 7 rfl
theorem dX5_init_14 : decode cX5_init 14 = .ok (.putfield 13, 3) := db_of db_36 8 rfl
theorem dX5_init_17 : decode cX5_init 17 = .ok (.return_, 1) := db_of db_36 9 rfl
set_option maxRecDepth 100000 in
theorem db_37 : ([(0, .aload_n 0, 1), (1, .getfield 13, 3), (4, .iconst 4, 1), (5, .iadd, 1), (6, .bipush 100, 2), (8, .if_icmp .le 5, 3), (11, .iconst 0, 1), (12, .ireturn, 1), (13, .iconst 3, 1), (14, .istore_n 2, 1), (15, .iload_n 2, 1), (16, .ifCond .lt 38, 3), (19, .aload_n 0, 1), (20, .getfield 9, 3), (23, .aload_n 0, 1), (24, .getfield 13, 3), (27, .iload_n 1, 1), (28, .bipush 8, 2), (30, .iload_n 2, 1), (31, .imul, 1), (32, .iushr, 1), (33, .sipush 255, 3), (36, .iand, 1), (37, .iastore, 1), (38, .aload_n 0, 1), (39, .dup, 1), (40, .getfield 13, 3), (43, .iconst 1, 1), (44, .iadd, 1), (45, .putfield 13, 3), (48, .iinc 2 (-1), 3), (51, .goto (-36), 3), (54, .iconst 1, 1), (55, .ireturn, 1)] : List (Nat × Instr × Nat)).all (fun r => decide (decode cX5_add r.1 = .ok r.2)) = true := by decide +kernel
theorem dX5_add_0 : decode cX5_add 0 = .ok (.aload_n 0, 1) := db_of db_37 0 rfl
theorem dX5_add_1 : decode cX5_add 1 = .ok (.getfield 13, 3) := db_of db_37 1 rfl
theorem dX5_add_4 : decode cX5_add 4 = .ok (.iconst 4, 1) := db_of db_37 2 rfl
theorem dX5_add_5 : decode cX5_add 5 = .ok (.iadd, 1) := db_of db_37 3 rfl
theorem dX5_add_6 : decode cX5_add 6 = .ok (.bipush 100, 2) := db_of db_37 4 rfl
theorem dX5_add_8 : decode cX5_add 8 = .ok (.if_icmp .le 5, 3) := db_of db_37 5 rfl
theorem dX5_add_11 : decode cX5_add 11 = .ok (.iconst 0, 1) := db_of db_37 6 rfl
theorem dX5_add_12 : decode cX5_add 12 = .ok (.ireturn, 1) := db_of db_37 7 rfl
theorem dX5_add_13 : decode cX5_add 13 = .ok (.iconst 3, 1) := db_of db_37 8 rfl
theorem dX5_add_14 : decode cX5_add 14 = .ok (.istore_n 2, 1) := db_of db_37 9 rfl
theorem dX5_add_15 : decode cX5_add 15 = .ok (.iload_n 2, 1) := db_of db_37 10 rfl
theorem dX5_add_16 : decode cX5_add 16 = .ok (.ifCond .lt 38, 3) := db_of db_37 11 rfl
theorem dX5_add_19 : decode cX5_add 19 = .ok (.aload_n 0, 1) := db_of db_37 12 rfl
theorem dX5_add_20 : decode cX5_add 20 = .ok (.getfield 9, 3) := db_of db_37 13 rfl
theorem dX5_add_23 : decode cX5_add 23 = .ok (.aload_n 0, 1) := db_of db_37 14 rfl
theorem dX5_add_24 : decode cX5_add 24 = .ok (.getfield 13, 3) := db_of db_37 15 rfl
theorem dX5_add_27 : decode cX5_add 27 = .ok (.iload_n 1, 1) := db_of db_37 16 rfl
theorem dX5_add_28 : decode cX5_add 28 = .ok (.bipush 8, 2) := db_of db_37 17 rfl
theorem dX5_add_30 : decode cX5_add 30 = .ok (.iload_n 2, 1) := db_of db_37 18 rfl
theorem dX5_add_31 : decode cX5_add 31 = .ok (.imul, 1) := db_of db_37 19 rfl
theorem dX5_add_32 : decode cX5_add 32 = .ok (.iushr, 1) := db_of db_37 20 rfl
theorem dX5_add_33 : decode cX5_add 33 = .ok (.sipush 255, 3) := db_of db_37 21 rfl
theorem dX5_add_36 : decode cX5_add 36 = .ok (.iand, 1) := db_of db_37 22 rfl
theorem dX5_add_37 : decode cX5_add 37 = .ok (.iastore, 1) := db_of db_37 23 rfl
theorem dX5_add_38 : decode cX5_add 38 = .ok (.aload_n 0, 1) := db_of db_37 24 rfl
theorem dX5_add_39 : decode cX5_add 39 = .ok (.dup, 1) := db_of db_37 25 rfl
theorem dX5_add_40 : decode cX5_add 40 = .ok (.getfield 13, 3) := db_of db_37 26 rfl
theorem dX5_add_43 : decode cX5_add 43 = .ok (.iconst 1, 1) := db_of db_37 27 rfl
theorem dX5_add_44 : decode cX5_add 44 = .ok (.iadd, 1) := db_of db_37 28 rfl
theorem dX5_add_45 : decode cX5_add 45 = .ok (.putfield 13, 3) := db_of db_37 29 rfl
theorem dX5_add_48 : decode cX5_add 48 = .ok (.iinc 2 (-1), 3) := db_of db_37 30 rfl
theorem dX5_add_51 : decode cX5_add 51 = .ok (.goto (-36), 3) := db_of db_37 31 rfl
theorem dX5_add_54 : decode cX5_add 54 = .ok (.iconst 1, 1) := db_of db_37 32 rfl
theorem dX5_add_55 : decode cX5_add 55 = .ok (.ireturn, 1) := db_of db_37 33 rfl
set_option maxRecDepth 100000 in
theorem db_38 : ([(0, .iload_n 1, 1), (1, .ifCond .lt 11, 3), (4, .iload_n 1, 1), (5, .aload_n 0, 1), (6, .getfield 13, 3), (9, .if_icmp .le 5, 3), (12, .iconst 0, 1), (13, .ireturn, 1), (14, .aload_n 0, 1), (15, .iload_n 1, 1), (16, .putfield 13, 3), (19, .iconst 1, 1), (20, .ireturn, 1)] : List (Nat × Instr × Nat)).all (fun r => decide (decode cX5_keep r.1 = .ok r.2)) = true := by decide +kernel
theorem dX5_keep_0 : decode cX5_keep 0 = .ok (.iload_n 1, 1) := db_of db_38 0 rfl
theorem dX5_keep_1 : decode cX5_keep 1 = .ok (.ifCond .lt 11, 3) := db_of db_38 1 rfl
theorem dX5_keep_4 : decode cX5_keep 4 = .ok (.iload_n 1, 1) := db_of db_38 2 rfl
theorem dX5_keep_5 : decode cX5_keep 5 = .ok (.aload_n 0, 1) := db_of db_38 3 rfl
theorem dX5_keep_6 : decode cX5_keep 6 = .ok (.getfield 13, 3) := db_of db_38 4 rfl
theorem dX5_keep_9 : decode cX5_keep 9 = .ok (.if_icmp .le 5, 3) := db_of db_38 5 rfl
theorem dX5_keep_12 : decode cX5_keep 12 = .ok (.iconst 0, 1) := db_of db_38 6 rfl
theorem dX5_keep_13 : decode cX5_keep 13 = .ok (.ireturn, 1) := db_of db_38 7 rfl
theorem dX5_keep_14 : decode cX5_keep 14 = .ok (.aload_n 0, 1) := db_of db_38 8 rfl
theorem dX5_keep_15 : decode cX5_keep 15 = .ok (.iload_n 1, 1) := db_of db_38 9 rfl
theorem dX5_keep_16 : decode cX5_keep 16 = .ok (.putfield 13, 3) := db_of db_38 10 rfl
theorem dX5_keep_19 : decode cX5_keep 19 = .ok (.iconst 1, 1) := db_of db_38 11 rfl
theorem dX5_keep_20 : decode cX5_keep 20 = .ok (.ireturn, 1) := db_of db_38 12 rfl
set_option maxRecDepth 100000 in
theorem db_39 : ([(0, .iload_n 1, 1), (1, .ifCond .lt 20, 3), (4, .iload_n 1, 1), (5, .aload_n 0, 1), (6, .getfield 13, 3), (9, .if_icmp .ge 12, 3), (12, .aload_n 0, 1), (13, .getfield 9, 3), (16, .iload_n 1, 1), (17, .iaload, 1), (18, .goto 4, 3), (21, .iconst (-1), 1), (22, .ireturn, 1)] : List (Nat × Instr × Nat)).all (fun r => decide (decode cX5_at r.1 = .ok r.2)) = true := by decide +kernel
theorem dX5_at_0 : decode cX5_at 0 = .ok (.iload_n 1, 1) := db_of db_39 0 rfl
theorem dX5_at_1 : decode cX5_at 1 = .ok (.ifCond .lt 20, 3) := db_of db_39 1 rfl
theorem dX5_at_4 : decode cX5_at 4 = .ok (.iload_n 1, 1) := db_of db_39 2 rfl
theorem dX5_at_5 : decode cX5_at 5 = .ok (.aload_n 0, 1) := db_of db_39 3 rfl
theorem dX5_at_6 : decode cX5_at 6 = .ok (.getfield 13, 3) := db_of db_39 4 rfl
theorem dX5_at_9 : decode cX5_at 9 = .ok (.if_icmp .ge 12, 3) := db_of db_39 5 rfl
theorem dX5_at_12 : decode cX5_at 12 = .ok (.aload_n 0, 1) := db_of db_39 6 rfl
theorem dX5_at_13 : decode cX5_at 13 = .ok (.getfield 9, 3) := db_of db_39 7 rfl
theorem dX5_at_16 : decode cX5_at 16 = .ok (.iload_n 1, 1) := db_of db_39 8 rfl
theorem dX5_at_17 : decode cX5_at 17 = .ok (.iaload, 1) := db_of db_39 9 rfl
theorem dX5_at_18 : decode cX5_at 18 = .ok (.goto 4, 3) := db_of db_39 10 rfl
theorem dX5_at_21 : decode cX5_at 21 = .ok (.iconst (-1), 1) := db_of db_39 11 rfl
theorem dX5_at_22 : decode cX5_at 22 = .ok (.ireturn, 1) := db_of db_39 12 rfl
set_option maxRecDepth 100000 in
theorem db_40 : ([(0, .aload_n 0, 1), (1, .invokespecial 3, 3), (4, .aload_n 0, 1), (5, .sipush 512, 3), (8, .newarray .int, 2), (10, .putfield 9, 3), (13, .aload_n 0, 1), (14, .bipush 64, 2), (16, .newarray .int, 2), (18, .putfield 15, 3), (21, .aload_n 0, 1), (22, .iconst 0, 1), (23, .putfield 18, 3), (26, .return_, 1)] : List (Nat × Instr × Nat)).all (fun r => decide (decode cX6_init r.1 = .ok r.2)) = true := by decide +kernel
theorem dX6_init_0 : decode cX6_init 0 = .ok (.aload_n 0, 1) := db_of db_40 0 rfl
theorem dX6_init_1 : decode cX6_init 1 = .ok (.invokespecial 3, 3) := db_of db_40 1 rfl
theorem dX6_init_4 : decode cX6_init 4 = .ok (.aload_n 0, 1) := db_of db_40 2 rfl
theorem dX6_init_5 : decode cX6_init 5 = .ok (.sipush 512, 3) := db_of db_40 3 rfl
theorem dX6_init_8 : decode cX6_init 8 = .ok (.newarray .int, 2) := db_of db_40 4 rfl
theorem dX6_init_10 : decode cX6_init 10 = .ok (.putfield 9, 3) := db_of db_40 5 rfl
theorem dX6_init_13 : decode cX6_init 13 = .ok (.aload_n 0, 1) := db_of db_40 6 rfl
theorem dX6_init_14 : decode cX6_init 14 = .ok (.bipush 64, 2) := db_of db_40 7 rfl
theorem dX6_init_16 : decode cX6_init 16 = .ok (.newarray .int, 2) := db_of db_40 8 rfl
theorem dX6_init_18 : decode cX6_init 18 = .ok (.putfield 15, 3) := db_of db_40 9 rfl
theorem dX6_init_21 : decode cX6_init 21 = .ok (.aload_n 0, 1) := db_of db_40 10 rfl
theorem dX6_init_22 : decode cX6_init 22 = .ok (.iconst 0, 1) := db_of db_40 11 rfl
theorem dX6_init_23 : decode cX6_init 23 = .ok (.putfield 18, 3) := db_of db_40 12 rfl
theorem dX6_init_26 : decode cX6_init 26 = .ok (.return_, 1) := db_of db_40 13 rfl
set_option maxRecDepth 100000 in
theorem db_41 : ([(0, .aload_n 0, 1), (1, .getfield 9, 3), (4, .iconst 0, 1), (5, .invokestatic 22, 3), (8, .iload_n 2, 1), (9, .istore 4, 2), (11, .iload 4, 2), (13, .iload_n 3, 1), (14, .if_icmp .ge 49, 3), (17, .iconst 0, 1), (18, .istore 5, 2), (20, .iload 5, 2), (22, .bipush 8, 2), (24, .if_icmp .gt 33, 3), (27, .aload_n 0, 1), (28, .getfield 9, 3), (31, .iconst 1, 1), (32, .iload 5, 2), (34, .ishl, 1), (35, .aload_n 1, 1), (36, .iload 4, 2), (38, .iaload, 1), (39, .bipush 8, 2), (41, .iload 5, 2), (43, .isub, 1), (44, .ishr, 1), (45, .iadd, 1), (46, .dup2, 1), (47, .iaload, 1), (48, .iconst 1, 1), (49, .iadd, 1), (50, .iastore, 1), (51, .iinc 5 1, 3), (54, .goto (-34), 3), (57, .iinc 4 1, 3), (60, .goto (-49), 3), (63, .aload_n 0, 1), (64, .invokevirtual 28, 3), (67, .return_, 1)] : List (Nat × Instr × Nat)).all (fun r => decide (decode cX6_take r.1 = .ok r.2)) = true := by decide +kernel
theorem dX6_take_0 : decode cX6_take 0 = .ok (.aload_n 0, 1) := db_of db_41 0 rfl
theorem dX6_take_1 : decode cX6_take 1 = .ok (.getfield 9, 3) := db_of db_41 1 rfl
theorem dX6_take_4 : decode cX6_take 4 = .ok (.iconst 0, 1) := db_of db_41 2 rfl
theorem dX6_take_5 : decode cX6_take 5 = .ok (.invokestatic 22, 3) := db_of db_41 3 rfl
theorem dX6_take_8 : decode cX6_take 8 = .ok (.iload_n 2, 1) := db_of db_41 4 rfl
theorem dX6_take_9 : decode cX6_take 9 = .ok (.istore 4, 2) := db_of db_41 5 rfl
theorem dX6_take_11 : decode cX6_take 11 = .ok (.iload 4, 2) := db_of db_41 6 rfl
theorem dX6_take_13 : decode cX6_take 13 = .ok (.iload_n 3, 1) := db_of db_41 7 rfl
theorem dX6_take_14 : decode cX6_take 14 = .ok (.if_icmp .ge 49, 3) := db_of db_41 8 rfl
theorem dX6_take_17 : decode cX6_take 17 = .ok (.iconst 0, 1) := db_of db_41 9 rfl
theorem dX6_take_18 : decode cX6_take 18 = .ok (.istore 5, 2) := db_of db_41 10 rfl
theorem dX6_take_20 : decode cX6_take 20 = .ok (.iload 5, 2) := db_of db_41 11 rfl
theorem dX6_take_22 : decode cX6_take 22 = .ok (.bipush 8, 2) := db_of db_41 12 rfl
theorem dX6_take_24 : decode cX6_take 24 = .ok (.if_icmp .gt 33, 3) := db_of db_41 13 rfl
theorem dX6_take_27 : decode cX6_take 27 = .ok (.aload_n 0, 1) := db_of db_41 14 rfl
theorem dX6_take_28 : decode cX6_take 28 = .ok (.getfield 9, 3) := db_of db_41 15 rfl
theorem dX6_take_31 : decode cX6_take 31 = .ok (.iconst 1, 1) := db_of db_41 16 rfl
theorem dX6_take_32 : decode cX6_take 32 = .ok (.iload 5, 2) := db_of db_41 17 rfl
theorem dX6_take_34 : decode cX6_take 34 = .ok (.ishl, 1) := db_of db_41 18 rfl
theorem dX6_take_35 : decode cX6_take 35 = .ok (.aload_n 1, 1) := db_of db_41 19 rfl
theorem dX6_take_36 : decode cX6_take 36 = .ok (.iload 4, 2) := db_of db_41 20 rfl
theorem dX6_take_38 : decode cX6_take 38 = .ok (.iaload, 1) := db_of db_41 21 rfl
theorem dX6_take_39 : decode cX6_take 39 = .ok (.bipush 8, 2) := db_of db_41 22 rfl
theorem dX6_take_41 : decode cX6_take 41 = .ok (.iload 5, 2) := db_of db_41 23 rfl
theorem dX6_take_43 : decode cX6_take 43 = .ok (.isub, 1) := db_of db_41 24 rfl
theorem dX6_take_44 : decode cX6_take 44 = .ok (.ishr, 1) := db_of db_41 25 rfl
theorem dX6_take_45 : decode cX6_take 45 = .ok (.iadd, 1) := db_of db_41 26 rfl
theorem dX6_take_46 : decode cX6_take 46 = .ok (.dup2, 1) := db_of db_41 27 rfl
theorem dX6_take_47 : decode cX6_take 47 = .ok (.iaload, 1) := db_of db_41 28 rfl
theorem dX6_take_48 : decode cX6_take 48 = .ok (.iconst 1, 1) := db_of db_41 29 rfl
theorem dX6_take_49 : decode cX6_take 49 = .ok (.iadd, 1) := db_of db_41 30 rfl
theorem dX6_take_50 : decode cX6_take 50 = .ok (.iastore, 1) := db_of db_41 31 rfl
theorem dX6_take_51 : decode cX6_take 51 = .ok (.iinc 5 1, 3) := db_of db_41 32 rfl
theorem dX6_take_54 : decode cX6_take 54 = .ok (.goto (-34), 3) := db_of db_41 33 rfl
theorem dX6_take_57 : decode cX6_take 57 = .ok (.iinc 4 1, 3) := db_of db_41 34 rfl
theorem dX6_take_60 : decode cX6_take 60 = .ok (.goto (-49), 3) := db_of db_41 35 rfl
theorem dX6_take_63 : decode cX6_take 63 = .ok (.aload_n 0, 1) := db_of db_41 36 rfl
theorem dX6_take_64 : decode cX6_take 64 = .ok (.invokevirtual 28, 3) := db_of db_41 37 rfl
theorem dX6_take_67 : decode cX6_take 67 = .ok (.return_, 1) := db_of db_41 38 rfl
set_option maxRecDepth 100000 in
theorem db_42 : ([(0, .aload_n 0, 1), (1, .iconst 0, 1), (2, .putfield 18, 3), (5, .iconst 0, 1), (6, .istore_n 1, 1), (7, .iload_n 1, 1), (8, .sipush 255, 3), (11, .if_icmp .gt 60, 3), (14, .aload_n 0, 1), (15, .iload_n 1, 1), (16, .invokevirtual 31, 3), (19, .istore_n 2, 1), (20, .iconst 0, 1), (21, .istore_n 3, 1), (22, .iload_n 3, 1), (23, .iload_n 2, 1), (24, .if_icmp .ge 41, 3), (27, .aload_n 0, 1), (28, .getfield 18, 3), (31, .aload_n 0, 1), (32, .getfield 15, 3), (35, .arraylength, 1), (36, .if_icmp .ge 29, 3), (39, .aload_n 0, 1), (40, .getfield 15, 3), (43, .aload_n 0, 1), (44, .getfield 18, 3), (47, .iload_n 1, 1), (48, .iastore, 1), (49, .aload_n 0, 1), (50, .dup, 1), (51, .getfield 18, 3), (54, .iconst 1, 1), (55, .iadd, 1), (56, .putfield 18, 3), (59, .iinc 3 1, 3), (62, .goto (-40), 3), (65, .iinc 1 1, 3), (68, .goto (-61), 3), (71, .return_, 1)] : List (Nat × Instr × Nat)).all (fun r => decide (decode cX6_sort r.1 = .ok r.2)) = true := by decide +kernel
theorem dX6_sort_0 : decode cX6_sort 0 = .ok (.aload_n 0, 1) := db_of db_42 0 rfl
theorem dX6_sort_1 : decode cX6_sort 1 = .ok (.iconst 0, 1) := db_of db_42 1 rfl
theorem dX6_sort_2 : decode cX6_sort 2 = .ok (.putfield 18, 3) := db_of db_42 2 rfl
theorem dX6_sort_5 : decode cX6_sort 5 = .ok (.iconst 0, 1) := db_of db_42 3 rfl
theorem dX6_sort_6 : decode cX6_sort 6 = .ok (.istore_n 1, 1) := db_of db_42 4 rfl
theorem dX6_sort_7 : decode cX6_sort 7 = .ok (.iload_n 1, 1) := db_of db_42 5 rfl
theorem dX6_sort_8 : decode cX6_sort 8 = .ok (.sipush 255, 3) := db_of db_42 6 rfl
theorem dX6_sort_11 : decode cX6_sort 11 = .ok (.if_icmp .gt 60, 3) := db_of db_42 7 rfl
theorem dX6_sort_14 : decode cX6_sort 14 = .ok (.aload_n 0, 1) := db_of db_42 8 rfl
theorem dX6_sort_15 : decode cX6_sort 15 = .ok (.iload_n 1, 1) := db_of db_42 9 rfl
theorem dX6_sort_16 : decode cX6_sort 16 = .ok (.invokevirtual 31, 3) := db_of db_42 10 rfl
theorem dX6_sort_19 : decode cX6_sort 19 = .ok (.istore_n 2, 1) := db_of db_42 11 rfl
theorem dX6_sort_20 : decode cX6_sort 20 = .ok (.iconst 0, 1) := db_of db_42 12 rfl
theorem dX6_sort_21 : decode cX6_sort 21 = .ok (.istore_n 3, 1) := db_of db_42 13 rfl
theorem dX6_sort_22 : decode cX6_sort 22 = .ok (.iload_n 3, 1) := db_of db_42 14 rfl
theorem dX6_sort_23 : decode cX6_sort 23 = .ok (.iload_n 2, 1) := db_of db_42 15 rfl
theorem dX6_sort_24 : decode cX6_sort 24 = .ok (.if_icmp .ge 41, 3) := db_of db_42 16 rfl
theorem dX6_sort_27 : decode cX6_sort 27 = .ok (.aload_n 0, 1) := db_of db_42 17 rfl
theorem dX6_sort_28 : decode cX6_sort 28 = .ok (.getfield 18, 3) := db_of db_42 18 rfl
theorem dX6_sort_31 : decode cX6_sort 31 = .ok (.aload_n 0, 1) := db_of db_42 19 rfl
theorem dX6_sort_32 : decode cX6_sort 32 = .ok (.getfield 15, 3) := db_of db_42 20 rfl
theorem dX6_sort_35 : decode cX6_sort 35 = .ok (.arraylength, 1) := db_of db_42 21 rfl
theorem dX6_sort_36 : decode cX6_sort 36 = .ok (.if_icmp .ge 29, 3) := db_of db_42 22 rfl
theorem dX6_sort_39 : decode cX6_sort 39 = .ok (.aload_n 0, 1) := db_of db_42 23 rfl
theorem dX6_sort_40 : decode cX6_sort 40 = .ok (.getfield 15, 3) := db_of db_42 24 rfl
theorem dX6_sort_43 : decode cX6_sort 43 = .ok (.aload_n 0, 1) := db_of db_42 25 rfl
theorem dX6_sort_44 : decode cX6_sort 44 = .ok (.getfield 18, 3) := db_of db_42 26 rfl
theorem dX6_sort_47 : decode cX6_sort 47 = .ok (.iload_n 1, 1) := db_of db_42 27 rfl
theorem dX6_sort_48 : decode cX6_sort 48 = .ok (.iastore, 1) := db_of db_42 28 rfl
theorem dX6_sort_49 : decode cX6_sort 49 = .ok (.aload_n 0, 1) := db_of db_42 29 rfl
theorem dX6_sort_50 : decode cX6_sort 50 = .ok (.dup, 1) := db_of db_42 30 rfl
theorem dX6_sort_51 : decode cX6_sort 51 = .ok (.getfield 18, 3) := db_of db_42 31 rfl
theorem dX6_sort_54 : decode cX6_sort 54 = .ok (.iconst 1, 1) := db_of db_42 32 rfl
theorem dX6_sort_55 : decode cX6_sort 55 = .ok (.iadd, 1) := db_of db_42 33 rfl
theorem dX6_sort_56 : decode cX6_sort 56 = .ok (.putfield 18, 3) := db_of db_42 34 rfl
theorem dX6_sort_59 : decode cX6_sort 59 = .ok (.iinc 3 1, 3) := db_of db_42 35 rfl
theorem dX6_sort_62 : decode cX6_sort 62 = .ok (.goto (-40), 3) := db_of db_42 36 rfl
theorem dX6_sort_65 : decode cX6_sort 65 = .ok (.iinc 1 1, 3) := db_of db_42 37 rfl
theorem dX6_sort_68 : decode cX6_sort 68 = .ok (.goto (-61), 3) := db_of db_42 38 rfl
theorem dX6_sort_71 : decode cX6_sort 71 = .ok (.return_, 1) := db_of db_42 39 rfl
set_option maxRecDepth 100000 in
theorem db_43 : ([(0, .aload_n 0, 1), (1, .bipush 8, 2), (3, .iload_n 1, 1), (4, .invokevirtual 35, 3), (7, .ireturn, 1)] : List (Nat × Instr × Nat)).all (fun r => decide (decode cX6_timesOf r.1 = .ok r.2)) = true := by decide +kernel
theorem dX6_timesOf_0 : decode cX6_timesOf 0 = .ok (.aload_n 0, 1) := db_of db_43 0 rfl
theorem dX6_timesOf_1 : decode cX6_timesOf 1 = .ok (.bipush 8, 2) := db_of db_43 1 rfl
theorem dX6_timesOf_3 : decode cX6_timesOf 3 = .ok (.iload_n 1, 1) := db_of db_43 2 rfl
theorem dX6_timesOf_4 : decode cX6_timesOf 4 = .ok (.invokevirtual 35, 3) := db_of db_43 3 rfl
theorem dX6_timesOf_7 : decode cX6_timesOf 7 = .ok (.ireturn, 1) := db_of db_43 4 rfl
set_option maxRecDepth 100000 in
theorem db_44 : ([(0, .iload_n 1, 1), (1, .ifCond .lt 20, 3), (4, .iload_n 1, 1), (5, .bipush 8, 2), (7, .if_icmp .gt 14, 3), (10, .iload_n 2, 1), (11, .ifCond .lt 10, 3), (14, .iload_n 2, 1), (15, .iconst 1, 1), (16, .iload_n 1, 1), (17, .ishl, 1), (18, .if_icmp .lt 5, 3), (21, .iconst 0, 1), (22, .ireturn, 1), (23, .aload_n 0, 1), (24, .getfield 9, 3), (27, .iconst 1, 1), (28, .iload_n 1, 1), (29, .ishl, 1), (30, .iload_n 2, 1), (31, .iadd, 1), (32, .iaload, 1), (33, .ireturn, 1)] : List (Nat × Instr × Nat)).all (fun r => decide (decode cX6_inNode r.1 = .ok r.2)) = true := by decide +kernel
theorem dX6_inNode_0 : decode cX6_inNode 0 = .ok (.iload_n 1, 1) := db_of db_44 0 rfl
theorem dX6_inNode_1 : decode cX6_inNode 1 = .ok (.ifCond .lt 20, 3) := db_of db_44 1 rfl
theorem dX6_inNode_4 : decode cX6_inNode 4 = .ok (.iload_n 1, 1) := db_of db_44 2 rfl
theorem dX6_inNode_5 : decode cX6_inNode 5 = .ok (.bipush 8, 2) := db_of db_44 3 rfl
theorem dX6_inNode_7 : decode cX6_inNode 7 = .ok (.if_icmp .gt 14, 3) := db_of db_44 4 rfl
theorem dX6_inNode_10 : decode cX6_inNode 10 = .ok (.iload_n 2, 1) := db_of db_44 5 rfl
theorem dX6_inNode_11 : decode cX6_inNode 11 = .ok (.ifCond .lt 10, 3) := db_of db_44 6 rfl
theorem dX6_inNode_14 : decode cX6_inNode 14 = .ok (.iload_n 2, 1) := db_of db_44 7 rfl
theorem dX6_inNode_15 : decode cX6_inNode 15 = .ok (.iconst 1, 1) := db_of db_44 8 rfl
theorem dX6_inNode_16 : decode cX6_inNode 16 = .ok (.iload_n 1, 1) := db_of db_44 9 rfl
theorem dX6_inNode_17 : decode cX6_inNode 17 = .ok (.ishl, 1) := db_of db_44 10 rfl
theorem dX6_inNode_18 : decode cX6_inNode 18 = .ok (.if_icmp .lt 5, 3) := db_of db_44 11 rfl
theorem dX6_inNode_21 : decode cX6_inNode 21 = .ok (.iconst 0, 1) := db_of db_44 12 rfl
theorem dX6_inNode_22 : decode cX6_inNode 22 = .ok (.ireturn, 1) := db_of db_44 13 rfl
theorem dX6_inNode_23 : decode cX6_inNode 23 = .ok (.aload_n 0, 1) := db_of db_44 14 rfl
theorem dX6_inNode_24 : decode cX6_inNode 24 = .ok (.getfield 9, 3) := db_of db_44 15 rfl
theorem dX6_inNode_27 : decode cX6_inNode 27 = .ok (.iconst 1, 1) := db_of db_44 16 rfl
theorem dX6_inNode_28 : decode cX6_inNode 28 = .ok (.iload_n 1, 1) := db_of db_44 17 rfl
theorem dX6_inNode_29 : decode cX6_inNode 29 = .ok (.ishl, 1) := db_of db_44 18 rfl
theorem dX6_inNode_30 : decode cX6_inNode 30 = .ok (.iload_n 2, 1) := db_of db_44 19 rfl
theorem dX6_inNode_31 : decode cX6_inNode 31 = .ok (.iadd, 1) := db_of db_44 20 rfl
theorem dX6_inNode_32 : decode cX6_inNode 32 = .ok (.iaload, 1) := db_of db_44 21 rfl
theorem dX6_inNode_33 : decode cX6_inNode 33 = .ok (.ireturn, 1) := db_of db_44 22 rfl
set_option maxRecDepth 100000 in
theorem db_45 : ([(0, .iload_n 1, 1), (1, .ifCond .lt 20, 3), (4, .iload_n 1, 1), (5, .aload_n 0, 1), (6, .getfield 18, 3), (9, .if_icmp .ge 12, 3), (12, .aload_n 0, 1), (13, .getfield 15, 3), (16, .iload_n 1, 1), (17, .iaload, 1), (18, .goto 4, 3), (21, .iconst (-1), 1), (22, .ireturn, 1)] : List (Nat × Instr × Nat)).all (fun r => decide (decode cX6_sortedAt r.1 = .ok r.2)) = true := by decide +kernel
theorem dX6_sortedAt_0 : decode cX6_sortedAt 0 = .ok (.iload_n 1, 1) := db_of db_45 0 rfl
theorem dX6_sortedAt_1 : decode cX6_sortedAt 1 = .ok (.ifCond .lt 20, 3) := db_of db_45 1 rfl
theorem dX6_sortedAt_4 : decode cX6_sortedAt 4 = .ok (.iload_n 1, 1) := db_of db_45 2 rfl
theorem dX6_sortedAt_5 : decode cX6_sortedAt 5 = .ok (.aload_n 0, 1) := db_of db_45 3 rfl
theorem dX6_sortedAt_6 : decode cX6_sortedAt 6 = .ok (.getfield 18, 3) := db_of db_45 4 rfl
theorem dX6_sortedAt_9 : decode cX6_sortedAt 9 = .ok (.if_icmp .ge 12, 3) := db_of db_45 5 rfl
theorem dX6_sortedAt_12 : decode cX6_sortedAt 12 = .ok (.aload_n 0, 1) := db_of db_45 6 rfl
theorem dX6_sortedAt_13 : decode cX6_sortedAt 13 = .ok (.getfield 15, 3) := db_of db_45 7 rfl
theorem dX6_sortedAt_16 : decode cX6_sortedAt 16 = .ok (.iload_n 1, 1) := db_of db_45 8 rfl
theorem dX6_sortedAt_17 : decode cX6_sortedAt 17 = .ok (.iaload, 1) := db_of db_45 9 rfl
theorem dX6_sortedAt_18 : decode cX6_sortedAt 18 = .ok (.goto 4, 3) := db_of db_45 10 rfl
theorem dX6_sortedAt_21 : decode cX6_sortedAt 21 = .ok (.iconst (-1), 1) := db_of db_45 11 rfl
theorem dX6_sortedAt_22 : decode cX6_sortedAt 22 = .ok (.ireturn, 1) := db_of db_45 12 rfl
set_option maxRecDepth 100000 in
theorem db_46 : ([(0, .iconst 0, 1), (1, .istore_n 2, 1), (2, .iconst 1, 1), (3, .istore_n 3, 1), (4, .iload_n 3, 1), (5, .aload_n 0, 1), (6, .getfield 9, 3), (9, .arraylength, 1), (10, .if_icmp .ge 22, 3), (13, .aload_n 0, 1), (14, .getfield 9, 3), (17, .iload_n 3, 1), (18, .iaload, 1), (19, .iload_n 1, 1), (20, .if_icmp .lt 6, 3), (23, .iinc 2 1, 3), (26, .iinc 3 1, 3), (29, .goto (-25), 3), (32, .iload_n 2, 1), (33, .ireturn, 1)] : List (Nat × Instr × Nat)).all (fun r => decide (decode cX6_nodesWith r.1 = .ok r.2)) = true := by decide +kernel
theorem dX6_nodesWith_0 : decode cX6_nodesWith 0 = .ok (.iconst 0, 1) := db_of db_46 0 rfl
theorem dX6_nodesWith_1 : decode cX6_nodesWith 1 = .ok (.istore_n 2, 1) := db_of db_46 1 rfl
theorem dX6_nodesWith_2 : decode cX6_nodesWith 2 = .ok (.iconst 1, 1) := db_of db_46 2 rfl
theorem dX6_nodesWith_3 : decode cX6_nodesWith 3 = .ok (.istore_n 3, 1) := db_of db_46 3 rfl
theorem dX6_nodesWith_4 : decode cX6_nodesWith 4 = .ok (.iload_n 3, 1) := db_of db_46 4 rfl
theorem dX6_nodesWith_5 : decode cX6_nodesWith 5 = .ok (.aload_n 0, 1) := db_of db_46 5 rfl
theorem dX6_nodesWith_6 : decode cX6_nodesWith 6 = .ok (.getfield 9, 3) := db_of db_46 6 rfl
theorem dX6_nodesWith_9 : decode cX6_nodesWith 9 = .ok (.arraylength, 1) := db_of db_46 7 rfl
theorem dX6_nodesWith_10 : decode cX6_nodesWith 10 = .ok (.if_icmp .ge 22, 3) := db_of db_46 8 rfl
theorem dX6_nodesWith_13 : decode cX6_nodesWith 13 = .ok (.aload_n 0, 1) := db_of db_46 9 rfl
theorem dX6_nodesWith_14 : decode cX6_nodesWith 14 = .ok (.getfield 9, 3) := db_of db_46 10 rfl
theorem dX6_nodesWith_17 : decode cX6_nodesWith 17 = .ok (.iload_n 3, 1) := db_of db_46 11 rfl
theorem dX6_nodesWith_18 : decode cX6_nodesWith 18 = .ok (.iaload, 1) := db_of db_46 12 rfl
theorem dX6_nodesWith_19 : decode cX6_nodesWith 19 = .ok (.iload_n 1, 1) := db_of db_46 13 rfl
theorem dX6_nodesWith_20 : decode cX6_nodesWith 20 = .ok (.if_icmp .lt 6, 3) := db_of db_46 14 rfl
theorem dX6_nodesWith_23 : decode cX6_nodesWith 23 = .ok (.iinc 2 1, 3) := db_of db_46 15 rfl
theorem dX6_nodesWith_26 : decode cX6_nodesWith 26 = .ok (.iinc 3 1, 3) := db_of db_46 16 rfl
theorem dX6_nodesWith_29 : decode cX6_nodesWith 29 = .ok (.goto (-25), 3) := db_of db_46 17 rfl
theorem dX6_nodesWith_32 : decode cX6_nodesWith 32 = .ok (.iload_n 2, 1) := db_of db_46 18 rfl
theorem dX6_nodesWith_33 : decode cX6_nodesWith 33 = .ok (.ireturn, 1) := db_of db_46 19 rfl
set_option maxRecDepth 100000 in
theorem db_47 : ([(0, .iconst 0, 1), (1, .istore_n 2, 1), (2, .iconst 1, 1), (3, .istore_n 3, 1), (4, .iload_n 3, 1), (5, .aload_n 0, 1), (6, .getfield 9, 3), (9, .arraylength, 1), (10, .if_icmp .ge 30, 3), (13, .aload_n 0, 1), (14, .getfield 9, 3), (17, .iload_n 3, 1), (18, .iaload, 1), (19, .ifCond .le 15, 3), (22, .aload_n 1, 1), (23, .getfield 9, 3), (26, .iload_n 3, 1), (27, .iaload, 1), (28, .ifCond .le 6, 3), (31, .iinc 2 1, 3), (34, .iinc 3 1, 3), (37, .goto (-33), 3), (40, .iload_n 2, 1), (41, .ireturn, 1)] : List (Nat × Instr × Nat)).all (fun r => decide (decode cX6_nodesSharedWith r.1 = .ok r.2)) = true := by decide +kernel
theorem dX6_nodesSharedWith_0 : decode cX6_nodesSharedWith 0 = .ok (.iconst 0, 1) := db_of db_47 0 rfl
theorem dX6_nodesSharedWith_1 : decode cX6_nodesSharedWith 1 = .ok (.istore_n 2, 1) := db_of db_47 1 rfl
theorem dX6_nodesSharedWith_2 : decode cX6_nodesSharedWith 2 = .ok (.iconst 1, 1) := db_of db_47 2 rfl
theorem dX6_nodesSharedWith_3 : decode cX6_nodesSharedWith 3 = .ok (.istore_n 3, 1) := db_of db_47 3 rfl
theorem dX6_nodesSharedWith_4 : decode cX6_nodesSharedWith 4 = .ok (.iload_n 3, 1) := db_of db_47 4 rfl
theorem dX6_nodesSharedWith_5 : decode cX6_nodesSharedWith 5 = .ok (.aload_n 0, 1) := db_of db_47 5 rfl
theorem dX6_nodesSharedWith_6 : decode cX6_nodesSharedWith 6 = .ok (.getfield 9, 3) := db_of db_47 6 rfl
theorem dX6_nodesSharedWith_9 : decode cX6_nodesSharedWith 9 = .ok (.arraylength, 1) := db_of db_47 7 rfl
theorem dX6_nodesSharedWith_10 : decode cX6_nodesSharedWith 10 = .ok (.if_icmp .ge 30, 3) := db_of db_47 8 rfl
theorem dX6_nodesSharedWith_13 : decode cX6_nodesSharedWith 13 = .ok (.aload_n 0, 1) := db_of db_47 9 rfl
theorem dX6_nodesSharedWith_14 : decode cX6_nodesSharedWith 14 = .ok (.getfield 9, 3) := db_of db_47 10 rfl
theorem dX6_nodesSharedWith_17 : decode cX6_nodesSharedWith 17 = .ok (.iload_n 3, 1) := db_of db_47 11 rfl
theorem dX6_nodesSharedWith_18 : decode cX6_nodesSharedWith 18 = .ok (.iaload, 1) := db_of db_47 12 rfl
theorem dX6_nodesSharedWith_19 : decode cX6_nodesSharedWith 19 = .ok (.ifCond .le 15, 3) := db_of db_47 13 rfl
theorem dX6_nodesSharedWith_22 : decode cX6_nodesSharedWith 22 = .ok (.aload_n 1, 1) := db_of db_47 14 rfl
theorem dX6_nodesSharedWith_23 : decode cX6_nodesSharedWith 23 = .ok (.getfield 9, 3) := db_of db_47 15 rfl
theorem dX6_nodesSharedWith_26 : decode cX6_nodesSharedWith 26 = .ok (.iload_n 3, 1) := db_of db_47 16 rfl
theorem dX6_nodesSharedWith_27 : decode cX6_nodesSharedWith 27 = .ok (.iaload, 1) := db_of db_47 17 rfl
theorem dX6_nodesSharedWith_28 : decode cX6_nodesSharedWith 28 = .ok (.ifCond .le 6, 3) := db_of db_47 18 rfl
theorem dX6_nodesSharedWith_31 : decode cX6_nodesSharedWith 31 = .ok (.iinc 2 1, 3) := db_of db_47 19 rfl
theorem dX6_nodesSharedWith_34 : decode cX6_nodesSharedWith 34 = .ok (.iinc 3 1, 3) := db_of db_47 20 rfl
theorem dX6_nodesSharedWith_37 : decode cX6_nodesSharedWith 37 = .ok (.goto (-33), 3) := db_of db_47 21 rfl
theorem dX6_nodesSharedWith_40 : decode cX6_nodesSharedWith 40 = .ok (.iload_n 2, 1) := db_of db_47 22 rfl
theorem dX6_nodesSharedWith_41 : decode cX6_nodesSharedWith 41 = .ok (.ireturn, 1) := db_of db_47 23 rfl
set_option maxRecDepth 100000 in
theorem db_48 : ([(0, .iconst 0, 1), (1, .istore_n 3, 1), (2, .iconst 0, 1), (3, .istore 4, 2), (5, .iload 4, 2), (7, .bipush 8, 2), (9, .if_icmp .gt 84, 3), (12, .bipush 8, 2), (14, .iload 4, 2), (16, .isub, 1), (17, .istore 5, 2), (19, .iload_n 1, 1), (20, .iload 5, 2), (22, .ishr, 1), (23, .istore 6, 2), (25, .iload 6, 2), (27, .iload_n 2, 1), (28, .iload 5, 2), (30, .ishr, 1), (31, .if_icmp .gt 56, 3), (34, .iload 4, 2), (36, .ifCond .eq 19, 3), (39, .iload 6, 2), (41, .iconst 1, 1), (42, .ishr, 1), (43, .iload 5, 2), (45, .iconst 1, 1), (46, .iadd, 1), (47, .iload_n 1, 1), (48, .iload_n 2, 1), (49, .invokestatic 39, 3), (52, .ifCond .ne 7, 3), (55, .iconst 1, 1), (56, .goto 4, 3), (59, .iconst 0, 1), (60, .istore 7, 2), (62, .iload 7, 2), (64, .ifCond .eq 17, 3), (67, .aload_n 0, 1), (68, .iload 4, 2), (70, .iload 6, 2), (72, .invokevirtual 35, 3), (75, .ifCond .le 6, 3), (78, .iinc 3 1, 3), (81, .iinc 6 1, 3), (84, .goto (-59), 3), (87, .iinc 4 1, 3), (90, .goto (-85), 3), (93, .iload_n 3, 1), (94, .ireturn, 1)] : List (Nat × Instr × Nat)).all (fun r => decide (decode cX6_visitsOfBand r.1 = .ok r.2)) = true := by decide +kernel
theorem dX6_visitsOfBand_0 : decode cX6_visitsOfBand 0 = .ok (.iconst 0, 1) := db_of db_48 0 rfl
theorem dX6_visitsOfBand_1 : decode cX6_visitsOfBand 1 = .ok (.istore_n 3, 1) := db_of db_48 1 rfl
theorem dX6_visitsOfBand_2 : decode cX6_visitsOfBand 2 = .ok (.iconst 0, 1) := db_of db_48 2 rfl
theorem dX6_visitsOfBand_3 : decode cX6_visitsOfBand 3 = .ok (.istore 4, 2) := db_of db_48 3 rfl
theorem dX6_visitsOfBand_5 : decode cX6_visitsOfBand 5 = .ok (.iload 4, 2) := db_of db_48 4 rfl
theorem dX6_visitsOfBand_7 : decode cX6_visitsOfBand 7 = .ok (.bipush 8, 2) := db_of db_48 5 rfl
theorem dX6_visitsOfBand_9 : decode cX6_visitsOfBand 9 = .ok (.if_icmp .gt 84, 3) := db_of db_48 6 rfl
theorem dX6_visitsOfBand_12 : decode cX6_visitsOfBand 12 = .ok (.bipush 8, 2) := db_of db_48 7 rfl
theorem dX6_visitsOfBand_14 : decode cX6_visitsOfBand 14 = .ok (.iload 4, 2) := db_of db_48 8 rfl
theorem dX6_visitsOfBand_16 : decode cX6_visitsOfBand 16 = .ok (.isub, 1) := db_of db_48 9 rfl
theorem dX6_visitsOfBand_17 : decode cX6_visitsOfBand 17 = .ok (.istore 5, 2) := db_of db_48 10 rfl
theorem dX6_visitsOfBand_19 : decode cX6_visitsOfBand 19 = .ok (.iload_n 1, 1) := db_of db_48 11 rfl
theorem dX6_visitsOfBand_20 : decode cX6_visitsOfBand 20 = .ok (.iload 5, 2) := db_of db_48 12 rfl
theorem dX6_visitsOfBand_22 : decode cX6_visitsOfBand 22 = .ok (.ishr, 1) := db_of db_48 13 rfl
theorem dX6_visitsOfBand_23 : decode cX6_visitsOfBand 23 = .ok (.istore 6, 2) := db_of db_48 14 rfl
theorem dX6_visitsOfBand_25 : decode cX6_visitsOfBand 25 = .ok (.iload 6, 2) := db_of db_48 15 rfl
theorem dX6_visitsOfBand_27 : decode cX6_visitsOfBand 27 = .ok (.iload_n 2, 1) := db_of db_48 16 rfl
theorem dX6_visitsOfBand_28 : decode cX6_visitsOfBand 28 = .ok (.iload 5, 2) := db_of db_48 17 rfl
theorem dX6_visitsOfBand_30 : decode cX6_visitsOfBand 30 = .ok (.ishr, 1) := db_of db_48 18 rfl
theorem dX6_visitsOfBand_31 : decode cX6_visitsOfBand 31 = .ok (.if_icmp .gt 56, 3) := db_of db_48 19 rfl
theorem dX6_visitsOfBand_34 : decode cX6_visitsOfBand 34 = .ok (.iload 4, 2) := db_of db_48 20 rfl
theorem dX6_visitsOfBand_36 : decode cX6_visitsOfBand 36 = .ok (.ifCond .eq 19, 3) := db_of db_48 21 rfl
theorem dX6_visitsOfBand_39 : decode cX6_visitsOfBand 39 = .ok (.iload 6, 2) := db_of db_48 22 rfl
theorem dX6_visitsOfBand_41 : decode cX6_visitsOfBand 41 = .ok (.iconst 1, 1) := db_of db_48 23 rfl
theorem dX6_visitsOfBand_42 : decode cX6_visitsOfBand 42 = .ok (.ishr, 1) := db_of db_48 24 rfl
theorem dX6_visitsOfBand_43 : decode cX6_visitsOfBand 43 = .ok (.iload 5, 2) := db_of db_48 25 rfl
theorem dX6_visitsOfBand_45 : decode cX6_visitsOfBand 45 = .ok (.iconst 1, 1) := db_of db_48 26 rfl
theorem dX6_visitsOfBand_46 : decode cX6_visitsOfBand 46 = .ok (.iadd, 1) := db_of db_48 27 rfl
theorem dX6_visitsOfBand_47 : decode cX6_visitsOfBand 47 = .ok (.iload_n 1, 1) := db_of db_48 28 rfl
theorem dX6_visitsOfBand_48 : decode cX6_visitsOfBand 48 = .ok (.iload_n 2, 1) := db_of db_48 29 rfl
theorem dX6_visitsOfBand_49 : decode cX6_visitsOfBand 49 = .ok (.invokestatic 39, 3) := db_of db_48 30 rfl
theorem dX6_visitsOfBand_52 : decode cX6_visitsOfBand 52 = .ok (.ifCond .ne 7, 3) := db_of db_48 31 rfl
theorem dX6_visitsOfBand_55 : decode cX6_visitsOfBand 55 = .ok (.iconst 1, 1) := db_of db_48 32 rfl
theorem dX6_visitsOfBand_56 : decode cX6_visitsOfBand 56 = .ok (.goto 4, 3) := db_of db_48 33 rfl
theorem dX6_visitsOfBand_59 : decode cX6_visitsOfBand 59 = .ok (.iconst 0, 1) := db_of db_48 34 rfl
theorem dX6_visitsOfBand_60 : decode cX6_visitsOfBand 60 = .ok (.istore 7, 2) := db_of db_48 35 rfl
theorem dX6_visitsOfBand_62 : decode cX6_visitsOfBand 62 = .ok (.iload 7, 2) := db_of db_48 36 rfl
theorem dX6_visitsOfBand_64 : decode cX6_visitsOfBand 64 = .ok (.ifCond .eq 17, 3) := db_of db_48 37 rfl
theorem dX6_visitsOfBand_67 : decode cX6_visitsOfBand 67 = .ok (.aload_n 0, 1) := db_of db_48 38 rfl
theorem dX6_visitsOfBand_68 : decode cX6_visitsOfBand 68 = .ok (.iload 4, 2) := db_of db_48 39 rfl
theorem dX6_visitsOfBand_70 : decode cX6_visitsOfBand 70 = .ok (.iload 6, 2) := db_of db_48 40 rfl
theorem dX6_visitsOfBand_72 : decode cX6_visitsOfBand 72 = .ok (.invokevirtual 35, 3) := db_of db_48 41 rfl
theorem dX6_visitsOfBand_75 : decode cX6_visitsOfBand 75 = .ok (.ifCond .le 6, 3) := db_of db_48 42 rfl
theorem dX6_visitsOfBand_78 : decode cX6_visitsOfBand 78 = .ok (.iinc 3 1, 3) := db_of db_48 43 rfl
theorem dX6_visitsOfBand_81 : decode cX6_visitsOfBand 81 = .ok (.iinc 6 1, 3) := db_of db_48 44 rfl
theorem dX6_visitsOfBand_84 : decode cX6_visitsOfBand 84 = .ok (.goto (-59), 3) := db_of db_48 45 rfl
theorem dX6_visitsOfBand_87 : decode cX6_visitsOfBand 87 = .ok (.iinc 4 1, 3) := db_of db_48 46 rfl
theorem dX6_visitsOfBand_90 : decode cX6_visitsOfBand 90 = .ok (.goto (-85), 3) := db_of db_48 47 rfl
theorem dX6_visitsOfBand_93 : decode cX6_visitsOfBand 93 = .ok (.iload_n 3, 1) := db_of db_48 48 rfl
theorem dX6_visitsOfBand_94 : decode cX6_visitsOfBand 94 = .ok (.ireturn, 1) := db_of db_48 49 rfl
set_option maxRecDepth 100000 in
theorem db_49 : ([(0, .iload_n 0, 1), (1, .iload_n 1, 1), (2, .ishl, 1), (3, .iload_n 2, 1), (4, .if_icmp .lt 18, 3), (7, .iload_n 0, 1), (8, .iconst 1, 1), (9, .iadd, 1), (10, .iload_n 1, 1), (11, .ishl, 1), (12, .iconst 1, 1), (13, .isub, 1), (14, .iload_n 3, 1), (15, .if_icmp .gt 7, 3), (18, .iconst 1, 1), (19, .goto 4, 3), (22, .iconst 0, 1), (23, .ireturn, 1)] : List (Nat × Instr × Nat)).all (fun r => decide (decode cX6_isWithin r.1 = .ok r.2)) = true := by decide +kernel
theorem dX6_isWithin_0 : decode cX6_isWithin 0 = .ok (.iload_n 0, 1) := db_of db_49 0 rfl
theorem dX6_isWithin_1 : decode cX6_isWithin 1 = .ok (.iload_n 1, 1) := db_of db_49 1 rfl
theorem dX6_isWithin_2 : decode cX6_isWithin 2 = .ok (.ishl, 1) := db_of db_49 2 rfl
theorem dX6_isWithin_3 : decode cX6_isWithin 3 = .ok (.iload_n 2, 1) := db_of db_49 3 rfl
theorem dX6_isWithin_4 : decode cX6_isWithin 4 = .ok (.if_icmp .lt 18, 3) := db_of db_49 4 rfl
theorem dX6_isWithin_7 : decode cX6_isWithin 7 = .ok (.iload_n 0, 1) := db_of db_49 5 rfl
theorem dX6_isWithin_8 : decode cX6_isWithin 8 = .ok (.iconst 1, 1) := db_of db_49 6 rfl
theorem dX6_isWithin_9 : decode cX6_isWithin 9 = .ok (.iadd, 1) := db_of db_49 7 rfl
theorem dX6_isWithin_10 : decode cX6_isWithin 10 = .ok (.iload_n 1, 1) := db_of db_49 8 rfl
theorem dX6_isWithin_11 : decode cX6_isWithin 11 = .ok (.ishl, 1) := db_of db_49 9 rfl
theorem dX6_isWithin_12 : decode cX6_isWithin 12 = .ok (.iconst 1, 1) := db_of db_49 10 rfl
theorem dX6_isWithin_13 : decode cX6_isWithin 13 = .ok (.isub, 1) := db_of db_49 11 rfl
theorem dX6_isWithin_14 : decode cX6_isWithin 14 = .ok (.iload_n 3, 1) := db_of db_49 12 rfl
theorem dX6_isWithin_15 : decode cX6_isWithin 15 = .ok (.if_icmp .gt 7, 3) := db_of db_49 13 rfl
theorem dX6_isWithin_18 : decode cX6_isWithin 18 = .ok (.iconst 1, 1) := db_of db_49 14 rfl
theorem dX6_isWithin_19 : decode cX6_isWithin 19 = .ok (.goto 4, 3) := db_of db_49 15 rfl
theorem dX6_isWithin_22 : decode cX6_isWithin 22 = .ok (.iconst 0, 1) := db_of db_49 16 rfl
theorem dX6_isWithin_23 : decode cX6_isWithin 23 = .ok (.ireturn, 1) := db_of db_49 17 rfl
set_option maxRecDepth 100000 in
theorem db_50 : ([(0, .aload_n 0, 1), (1, .invokespecial 1, 3), (4, .aload_n 0, 1), (5, .bipush 64, 2), (7, .newarray .long, 2), (9, .putfield 7, 3), (12, .aload_n 0, 1), (13, .iconst 0, 1), (14, .putfield 13, 3), (17, .return_, 1)] : List (Nat × Instr × Nat)).all (fun r => decide (decode cX7_init r.1 = .ok r.2)) = true := by decide +kernel
theorem dX7_init_0 : decode cX7_init 0 = .ok (.aload_n 0, 1) := db_of db_50 0 rfl
theorem dX7_init_1 : decode cX7_init 1 = .ok (.invokespecial 1, 3) := db_of db_50 1 rfl
theorem dX7_init_4 : decode cX7_init 4 = .ok (.aload_n 0, 1) := db_of db_50 2 rfl
theorem dX7_init_5 : decode cX7_init 5 = .ok (.bipush 64, 2) := db_of db_50 3 rfl
theorem dX7_init_7 : decode cX7_init 7 = .ok (.newarray .long, 2) := db_of db_50 4 rfl
theorem dX7_init_9 : decode cX7_init 9 = .ok (.putfield 7, 3) := db_of db_50 5 rfl
theorem dX7_init_12 : decode cX7_init 12 = .ok (.aload_n 0, 1) := db_of db_50 6 rfl
theorem dX7_init_13 : decode cX7_init 13 = .ok (.iconst 0, 1) := db_of db_50 7 rfl
theorem dX7_init_14 : decode cX7_init 14 = .ok (.putfield 13, 3) := db_of db_50 8 rfl
theorem dX7_init_17 : decode cX7_init 17 = .ok (.return_, 1) := db_of db_50 9 rfl
set_option maxRecDepth 100000 in
theorem db_51 : ([(0, .aload_n 0, 1), (1, .iconst 0, 1), (2, .putfield 13, 3), (5, .return_, 1)] : List (Nat × Instr × Nat)).all (fun r => decide (decode cX7_begin r.1 = .ok r.2)) = true := by decide +kernel
theorem dX7_begin_0 : decode cX7_begin 0 = .ok (.aload_n 0, 1) := db_of db_51 0 rfl
theorem dX7_begin_1 : decode cX7_begin 1 = .ok (.iconst 0, 1) := db_of db_51 1 rfl
theorem dX7_begin_2 : decode cX7_begin 2 = .ok (.putfield 13, 3) := db_of db_51 2 rfl
theorem dX7_begin_5 : decode cX7_begin 5 = .ok (.return_, 1) := db_of db_51 3 rfl
set_option maxRecDepth 100000 in
theorem db_52 : ([(0, .aload_n 0, 1), (1, .getfield 13, 3), (4, .aload_n 0, 1), (5, .getfield 7, 3), (8, .arraylength, 1), (9, .if_icmp .ge 23, 3), (12, .aload_n 0, 1), (13, .getfield 7, 3), (16, .aload_n 0, 1), (17, .getfield 13, 3), (20, .lload_n 1, 1), (21, .lastore, 1), (22, .aload_n 0, 1), (23, .dup, 1), (24, .getfield 13, 3), (27, .iconst 1, 1), (28, .iadd, 1), (29, .putfield 13, 3), (32, .return_, 1)] : List (Nat × Instr × Nat)).all (fun r => decide (decode cX7_add r.1 = .ok r.2)) = true := by decide +kernel
theorem dX7_add_0 : decode cX7_add 0 = .ok (.aload_n 0, 1) := db_of db_52 0 rfl
theorem dX7_add_1 : decode cX7_add 1 = .ok (.getfield 13, 3) := db_of db_52 1 rfl
theorem dX7_add_4 : decode cX7_add 4 = .ok (.aload_n 0, 1) := db_of db_52 2 rfl
theorem dX7_add_5 : decode cX7_add 5 = .ok (.getfield 7, 3) := db_of db_52 3 rfl
theorem dX7_add_8 : decode cX7_add 8 = .ok (.arraylength, 1) := db_of db_52 4 rfl
theorem dX7_add_9 : decode cX7_add 9 = .ok (.if_icmp .ge 23, 3) := db_of db_52 5 rfl
theorem dX7_add_12 : decode cX7_add 12 = .ok (.aload_n 0, 1) := db_of db_52 6 rfl
theorem dX7_add_13 : decode cX7_add 13 = .ok (.getfield 7, 3) := db_of db_52 7 rfl
theorem dX7_add_16 : decode cX7_add 16 = .ok (.aload_n 0, 1) := db_of db_52 8 rfl
theorem dX7_add_17 : decode cX7_add 17 = .ok (.getfield 13, 3) := db_of db_52 9 rfl
theorem dX7_add_20 : decode cX7_add 20 = .ok (.lload_n 1, 1) := db_of db_52 10 rfl
theorem dX7_add_21 : decode cX7_add 21 = .ok (.lastore, 1) := db_of db_52 11 rfl
theorem dX7_add_22 : decode cX7_add 22 = .ok (.aload_n 0, 1) := db_of db_52 12 rfl
theorem dX7_add_23 : decode cX7_add 23 = .ok (.dup, 1) := db_of db_52 13 rfl
theorem dX7_add_24 : decode cX7_add 24 = .ok (.getfield 13, 3) := db_of db_52 14 rfl
theorem dX7_add_27 : decode cX7_add 27 = .ok (.iconst 1, 1) := db_of db_52 15 rfl
theorem dX7_add_28 : decode cX7_add 28 = .ok (.iadd, 1) := db_of db_52 16 rfl
theorem dX7_add_29 : decode cX7_add 29 = .ok (.putfield 13, 3) := db_of db_52 17 rfl
theorem dX7_add_32 : decode cX7_add 32 = .ok (.return_, 1) := db_of db_52 18 rfl
set_option maxRecDepth 100000 in
theorem db_53 : ([(0, .aload_n 0, 1), (1, .invokespecial 1, 3), (4, .aload_n 0, 1), (5, .bipush 64, 2), (7, .newarray .int, 2), (9, .putfield 9, 3), (12, .aload_n 0, 1), (13, .iconst 0, 1), (14, .putfield 13, 3), (17, .aload_n 0, 1), (18, .new 17, 3), (21, .dup, 1), (22, .invokespecial 19, 3), (25, .putfield 20, 3), (28, .aload_n 0, 1), (29, .new 24, 3), (32, .dup, 1), (33, .invokespecial 26, 3), (36, .putfield 27, 3), (39, .aload_n 0, 1), (40, .new 31, 3), (43, .dup, 1), (44, .invokespecial 33, 3), (47, .putfield 34, 3), (50, .aload_n 0, 1), (51, .new 38, 3), (54, .dup, 1), (55, .invokespecial 40, 3), (58, .putfield 41, 3), (61, .aload_n 0, 1), (62, .new 38, 3), (65, .dup, 1), (66, .invokespecial 40, 3), (69, .putfield 45, 3), (72, .aload_n 0, 1), (73, .new 48, 3), (76, .dup, 1), (77, .invokespecial 50, 3), (80, .putfield 51, 3), (83, .aload_n 0, 1), (84, .new 55, 3), (87, .dup, 1), (88, .invokespecial 57, 3), (91, .putfield 58, 3), (94, .aload_n 0, 1), (95, .new 62, 3), (98, .dup, 1), (99, .invokespecial 64, 3), (102, .putfield 65, 3), (105, .aload_n 0, 1)] : List (Nat × Instr × Nat)).all (fun r => decide (decode cX8_init r.1 = .ok r.2)) = true := by decide +kernel
theorem dX8_init_0 : decode cX8_init 0 = .ok (.aload_n 0, 1) := db_of db_53 0 rfl
theorem dX8_init_1 : decode cX8_init 1 = .ok (.invokespecial 1, 3) := db_of db_53 1 rfl
theorem dX8_init_4 : decode cX8_init 4 = .ok (.aload_n 0, 1) := db_of db_53 2 rfl
theorem dX8_init_5 : decode cX8_init 5 = .ok (.bipush 64, 2) := db_of db_53 3 rfl
theorem dX8_init_7 : decode cX8_init 7 = .ok (.newarray .int, 2) := db_of db_53 4 rfl
theorem dX8_init_9 : decode cX8_init 9 = .ok (.putfield 9, 3) := db_of db_53 5 rfl
theorem dX8_init_12 : decode cX8_init 12 = .ok (.aload_n 0, 1) := db_of db_53 6 rfl
theorem dX8_init_13 : decode cX8_init 13 = .ok (.iconst 0, 1) := db_of db_53 7 rfl
theorem dX8_init_14 : decode cX8_init 14 = .ok (.putfield 13, 3) := db_of db_53 8 rfl
theorem dX8_init_17 : decode cX8_init 17 = .ok (.aload_n 0, 1) := db_of db_53 9 rfl
theorem dX8_init_18 : decode cX8_init 18 = .ok (.new 17, 3) := db_of db_53 10 rfl
theorem dX8_init_21 : decode cX8_init 21 = .ok (.dup, 1) := db_of db_53 11 rfl
theorem dX8_init_22 : decode cX8_init 22 = .ok (.invokespecial 19, 3) := db_of db_53 12 rfl
theorem dX8_init_25 : decode cX8_init 25 = .ok (.putfield 20, 3) := db_of db_53 13 rfl
theorem dX8_init_28 : decode cX8_init 28 = .ok (.aload_n 0, 1) := db_of db_53 14 rfl
theorem dX8_init_29 : decode cX8_init 29 = .ok (.new 24, 3) := db_of db_53 15 rfl
theorem dX8_init_32 : decode cX8_init 32 = .ok (.dup, 1) := db_of db_53 16 rfl
theorem dX8_init_33 : decode cX8_init 33 = .ok (.invokespecial 26, 3) := db_of db_53 17 rfl
theorem dX8_init_36 : decode cX8_init 36 = .ok (.putfield 27, 3) := db_of db_53 18 rfl
theorem dX8_init_39 : decode cX8_init 39 = .ok (.aload_n 0, 1) := db_of db_53 19 rfl
theorem dX8_init_40 : decode cX8_init 40 = .ok (.new 31, 3) := db_of db_53 20 rfl
theorem dX8_init_43 : decode cX8_init 43 = .ok (.dup, 1) := db_of db_53 21 rfl
theorem dX8_init_44 : decode cX8_init 44 = .ok (.invokespecial 33, 3) := db_of db_53 22 rfl
theorem dX8_init_47 : decode cX8_init 47 = .ok (.putfield 34, 3) := db_of db_53 23 rfl
theorem dX8_init_50 : decode cX8_init 50 = .ok (.aload_n 0, 1) := db_of db_53 24 rfl
theorem dX8_init_51 : decode cX8_init 51 = .ok (.new 38, 3) := db_of db_53 25 rfl
theorem dX8_init_54 : decode cX8_init 54 = .ok (.dup, 1) := db_of db_53 26 rfl
theorem dX8_init_55 : decode cX8_init 55 = .ok (.invokespecial 40, 3) := db_of db_53 27 rfl
theorem dX8_init_58 : decode cX8_init 58 = .ok (.putfield 41, 3) := db_of db_53 28 rfl
theorem dX8_init_61 : decode cX8_init 61 = .ok (.aload_n 0, 1) := db_of db_53 29 rfl
theorem dX8_init_62 : decode cX8_init 62 = .ok (.new 38, 3) := db_of db_53 30 rfl
theorem dX8_init_65 : decode cX8_init 65 = .ok (.dup, 1) := db_of db_53 31 rfl
theorem dX8_init_66 : decode cX8_init 66 = .ok (.invokespecial 40, 3) := db_of db_53 32 rfl
theorem dX8_init_69 : decode cX8_init 69 = .ok (.putfield 45, 3) := db_of db_53 33 rfl
theorem dX8_init_72 : decode cX8_init 72 = .ok (.aload_n 0, 1) := db_of db_53 34 rfl
theorem dX8_init_73 : decode cX8_init 73 = .ok (.new 48, 3) := db_of db_53 35 rfl
theorem dX8_init_76 : decode cX8_init 76 = .ok (.dup, 1) := db_of db_53 36 rfl
theorem dX8_init_77 : decode cX8_init 77 = .ok (.invokespecial 50, 3) := db_of db_53 37 rfl
theorem dX8_init_80 : decode cX8_init 80 = .ok (.putfield 51, 3) := db_of db_53 38 rfl
theorem dX8_init_83 : decode cX8_init 83 = .ok (.aload_n 0, 1) := db_of db_53 39 rfl
theorem dX8_init_84 : decode cX8_init 84 = .ok (.new 55, 3) := db_of db_53 40 rfl
theorem dX8_init_87 : decode cX8_init 87 = .ok (.dup, 1) := db_of db_53 41 rfl
theorem dX8_init_88 : decode cX8_init 88 = .ok (.invokespecial 57, 3) := db_of db_53 42 rfl
theorem dX8_init_91 : decode cX8_init 91 = .ok (.putfield 58, 3) := db_of db_53 43 rfl
theorem dX8_init_94 : decode cX8_init 94 = .ok (.aload_n 0, 1) := db_of db_53 44 rfl
theorem dX8_init_95 : decode cX8_init 95 = .ok (.new 62, 3) := db_of db_53 45 rfl
theorem dX8_init_98 : decode cX8_init 98 = .ok (.dup, 1) := db_of db_53 46 rfl
theorem dX8_init_99 : decode cX8_init 99 = .ok (.invokespecial 64, 3) := db_of db_53 47 rfl
theorem dX8_init_102 : decode cX8_init 102 = .ok (.putfield 65, 3) := db_of db_53 48 rfl
theorem dX8_init_105 : decode cX8_init 105 = .ok (.aload_n 0, 1) := db_of db_53 49 rfl
set_option maxRecDepth 100000 in
theorem db_54 : ([(106, .new 69, 3), (109, .dup, 1), (110, .invokespecial 71, 3), (113, .putfield 72, 3), (116, .return_, 1)] : List (Nat × Instr × Nat)).all (fun r => decide (decode cX8_init r.1 = .ok r.2)) = true := by decide +kernel
theorem dX8_init_106 : decode cX8_init 106 = .ok (.new 69, 3) := db_of db_54 0 rfl
theorem dX8_init_109 : decode cX8_init 109 = .ok (.dup, 1) := db_of db_54 1 rfl
theorem dX8_init_110 : decode cX8_init 110 = .ok (.invokespecial 71, 3) := db_of db_54 2 rfl
theorem dX8_init_113 : decode cX8_init 113 = .ok (.putfield 72, 3) := db_of db_54 3 rfl
theorem dX8_init_116 : decode cX8_init 116 = .ok (.return_, 1) := db_of db_54 4 rfl
set_option maxRecDepth 100000 in
theorem db_55 : ([(0, .aload_n 0, 1), (1, .getfield 51, 3), (4, .aload_n 0, 1), (5, .getfield 27, 3), (8, .invokevirtual 76, 3), (11, .istore_n 1, 1), (12, .aload_n 0, 1), (13, .getfield 27, 3), (16, .iconst 0, 1), (17, .invokevirtual 80, 3), (20, .pop, 1), (21, .iload_n 1, 1), (22, .iconst (-1), 1), (23, .if_icmp .eq 7, 3), (26, .iconst (-1), 1), (27, .iload_n 1, 1), (28, .isub, 1), (29, .ireturn, 1), (30, .aload_n 0, 1), (31, .aload_n 0, 1), (32, .getfield 51, 3), (35, .getfield 84, 3), (38, .putfield 13, 3), (41, .aload_n 0, 1), (42, .getfield 51, 3), (45, .getfield 85, 3), (48, .iconst 0, 1), (49, .aload_n 0, 1), (50, .getfield 9, 3), (53, .iconst 0, 1), (54, .aload_n 0, 1), (55, .getfield 13, 3), (58, .invokestatic 86, 3), (61, .aload_n 0, 1), (62, .invokevirtual 92, 3), (65, .pop, 1), (66, .aload_n 0, 1), (67, .getfield 13, 3), (70, .ireturn, 1)] : List (Nat × Instr × Nat)).all (fun r => decide (decode cX8_column r.1 = .ok r.2)) = true := by decide +kernel
theorem dX8_column_0 : decode cX8_column 0 = .ok (.aload_n 0, 1) := db_of db_55 0 rfl
theorem dX8_column_1 : decode cX8_column 1 = .ok (.getfield 51, 3) := db_of db_55 1 rfl
theorem dX8_column_4 : decode cX8_column 4 = .ok (.aload_n 0, 1) := db_of db_55 2 rfl
theorem dX8_column_5 : decode cX8_column 5 = .ok (.getfield 27, 3) := db_of db_55 3 rfl
theorem dX8_column_8 : decode cX8_column 8 = .ok (.invokevirtual 76, 3) := db_of db_55 4 rfl
theorem dX8_column_11 : decode cX8_column 11 = .ok (.istore_n 1, 1) := db_of db_55 5 rfl
theorem dX8_column_12 : decode cX8_column 12 = .ok (.aload_n 0, 1) := db_of db_55 6 rfl
theorem dX8_column_13 : decode cX8_column 13 = .ok (.getfield 27, 3) := db_of db_55 7 rfl
theorem dX8_column_16 : decode cX8_column 16 = .ok (.iconst 0, 1) := db_of db_55 8 rfl
theorem dX8_column_17 : decode cX8_column 17 = .ok (.invokevirtual 80, 3) := db_of db_55 9 rfl
theorem dX8_column_20 : decode cX8_column 20 = .ok (.pop, 1) := db_of db_55 10 rfl
theorem dX8_column_21 : decode cX8_column 21 = .ok (.iload_n 1, 1) := db_of db_55 11 rfl
theorem dX8_column_22 : decode cX8_column 22 = .ok (.iconst (-1), 1) := db_of db_55 12 rfl
theorem dX8_column_23 : decode cX8_column 23 = .ok (.if_icmp .eq 7, 3) := db_of db_55 13 rfl
theorem dX8_column_26 : decode cX8_column 26 = .ok (.iconst (-1), 1) := db_of db_55 14 rfl
theorem dX8_column_27 : decode cX8_column 27 = .ok (.iload_n 1, 1) := db_of db_55 15 rfl
theorem dX8_column_28 : decode cX8_column 28 = .ok (.isub, 1) := db_of db_55 16 rfl
theorem dX8_column_29 : decode cX8_column 29 = .ok (.ireturn, 1) := db_of db_55 17 rfl
theorem dX8_column_30 : decode cX8_column 30 = .ok (.aload_n 0, 1) := db_of db_55 18 rfl
theorem dX8_column_31 : decode cX8_column 31 = .ok (.aload_n 0, 1) := db_of db_55 19 rfl
theorem dX8_column_32 : decode cX8_column 32 = .ok (.getfield 51, 3) := db_of db_55 20 rfl
theorem dX8_column_35 : decode cX8_column 35 = .ok (.getfield 84, 3) := db_of db_55 21 rfl
theorem dX8_column_38 : decode cX8_column 38 = .ok (.putfield 13, 3) := db_of db_55 22 rfl
theorem dX8_column_41 : decode cX8_column 41 = .ok (.aload_n 0, 1) := db_of db_55 23 rfl
theorem dX8_column_42 : decode cX8_column 42 = .ok (.getfield 51, 3) := db_of db_55 24 rfl
theorem dX8_column_45 : decode cX8_column 45 = .ok (.getfield 85, 3) := db_of db_55 25 rfl
theorem dX8_column_48 : decode cX8_column 48 = .ok (.iconst 0, 1) := db_of db_55 26 rfl
theorem dX8_column_49 : decode cX8_column 49 = .ok (.aload_n 0, 1) := db_of db_55 27 rfl
theorem dX8_column_50 : decode cX8_column 50 = .ok (.getfield 9, 3) := db_of db_55 28 rfl
theorem dX8_column_53 : decode cX8_column 53 = .ok (.iconst 0, 1) := db_of db_55 29 rfl
theorem dX8_column_54 : decode cX8_column 54 = .ok (.aload_n 0, 1) := db_of db_55 30 rfl
theorem dX8_column_55 : decode cX8_column 55 = .ok (.getfield 13, 3) := db_of db_55 31 rfl
theorem dX8_column_58 : decode cX8_column 58 = .ok (.invokestatic 86, 3) := db_of db_55 32 rfl
theorem dX8_column_61 : decode cX8_column 61 = .ok (.aload_n 0, 1) := db_of db_55 33 rfl
theorem dX8_column_62 : decode cX8_column 62 = .ok (.invokevirtual 92, 3) := db_of db_55 34 rfl
theorem dX8_column_65 : decode cX8_column 65 = .ok (.pop, 1) := db_of db_55 35 rfl
theorem dX8_column_66 : decode cX8_column 66 = .ok (.aload_n 0, 1) := db_of db_55 36 rfl
theorem dX8_column_67 : decode cX8_column 67 = .ok (.getfield 13, 3) := db_of db_55 37 rfl
theorem dX8_column_70 : decode cX8_column 70 = .ok (.ireturn, 1) := db_of db_55 38 rfl
set_option maxRecDepth 100000 in
theorem db_56 : ([(0, .aload_n 0, 1), (1, .getfield 58, 3), (4, .aload_n 0, 1), (5, .getfield 27, 3), (8, .invokevirtual 96, 3), (11, .istore_n 1, 1), (12, .aload_n 0, 1), (13, .getfield 27, 3), (16, .iconst 0, 1), (17, .invokevirtual 80, 3), (20, .pop, 1), (21, .iload_n 1, 1), (22, .iconst (-1), 1), (23, .if_icmp .eq 7, 3), (26, .iconst (-1), 1), (27, .iload_n 1, 1), (28, .isub, 1), (29, .ireturn, 1), (30, .aload_n 0, 1), (31, .aload_n 0, 1), (32, .getfield 58, 3), (35, .getfield 97, 3), (38, .putfield 13, 3), (41, .iconst 0, 1), (42, .istore_n 2, 1), (43, .iload_n 2, 1), (44, .aload_n 0, 1), (45, .getfield 13, 3), (48, .if_icmp .ge 30, 3), (51, .aload_n 0, 1), (52, .getfield 9, 3), (55, .iload_n 2, 1), (56, .aload_n 0, 1), (57, .getfield 58, 3), (60, .getfield 100, 3), (63, .aload_n 0, 1), (64, .getfield 13, 3), (67, .iload_n 2, 1), (68, .invokestatic 104, 3), (71, .iastore, 1), (72, .iinc 2 1, 3), (75, .goto (-32), 3), (78, .aload_n 0, 1), (79, .invokevirtual 92, 3), (82, .pop, 1), (83, .aload_n 0, 1), (84, .getfield 13, 3), (87, .ireturn, 1)] : List (Nat × Instr × Nat)).all (fun r => decide (decode cX8_planes r.1 = .ok r.2)) = true := by decide +kernel
theorem dX8_planes_0 : decode cX8_planes 0 = .ok (.aload_n 0, 1) := db_of db_56 0 rfl
theorem dX8_planes_1 : decode cX8_planes 1 = .ok (.getfield 58, 3) := db_of db_56 1 rfl
theorem dX8_planes_4 : decode cX8_planes 4 = .ok (.aload_n 0, 1) := db_of db_56 2 rfl
theorem dX8_planes_5 : decode cX8_planes 5 = .ok (.getfield 27, 3) := db_of db_56 3 rfl
theorem dX8_planes_8 : decode cX8_planes 8 = .ok (.invokevirtual 96, 3) := db_of db_56 4 rfl
theorem dX8_planes_11 : decode cX8_planes 11 = .ok (.istore_n 1, 1) := db_of db_56 5 rfl
theorem dX8_planes_12 : decode cX8_planes 12 = .ok (.aload_n 0, 1) := db_of db_56 6 rfl
theorem dX8_planes_13 : decode cX8_planes 13 = .ok (.getfield 27, 3) := db_of db_56 7 rfl
theorem dX8_planes_16 : decode cX8_planes 16 = .ok (.iconst 0, 1) := db_of db_56 8 rfl
theorem dX8_planes_17 : decode cX8_planes 17 = .ok (.invokevirtual 80, 3) := db_of db_56 9 rfl
theorem dX8_planes_20 : decode cX8_planes 20 = .ok (.pop, 1) := db_of db_56 10 rfl
theorem dX8_planes_21 : decode cX8_planes 21 = .ok (.iload_n 1, 1) := db_of db_56 11 rfl
theorem dX8_planes_22 : decode cX8_planes 22 = .ok (.iconst (-1), 1) := db_of db_56 12 rfl
theorem dX8_planes_23 : decode cX8_planes 23 = .ok (.if_icmp .eq 7, 3) := db_of db_56 13 rfl
theorem dX8_planes_26 : decode cX8_planes 26 = .ok (.iconst (-1), 1) := db_of db_56 14 rfl
theorem dX8_planes_27 : decode cX8_planes 27 = .ok (.iload_n 1, 1) := db_of db_56 15 rfl
theorem dX8_planes_28 : decode cX8_planes 28 = .ok (.isub, 1) := db_of db_56 16 rfl
theorem dX8_planes_29 : decode cX8_planes 29 = .ok (.ireturn, 1) := db_of db_56 17 rfl
theorem dX8_planes_30 : decode cX8_planes 30 = .ok (.aload_n 0, 1) := db_of db_56 18 rfl
theorem dX8_planes_31 : decode cX8_planes 31 = .ok (.aload_n 0, 1) := db_of db_56 19 rfl
theorem dX8_planes_32 : decode cX8_planes 32 = .ok (.getfield 58, 3) := db_of db_56 20 rfl
theorem dX8_planes_35 : decode cX8_planes 35 = .ok (.getfield 97, 3) := db_of db_56 21 rfl
theorem dX8_planes_38 : decode cX8_planes 38 = .ok (.putfield 13, 3) := db_of db_56 22 rfl
theorem dX8_planes_41 : decode cX8_planes 41 = .ok (.iconst 0, 1) := db_of db_56 23 rfl
theorem dX8_planes_42 : decode cX8_planes 42 = .ok (.istore_n 2, 1) := db_of db_56 24 rfl
theorem dX8_planes_43 : decode cX8_planes 43 = .ok (.iload_n 2, 1) := db_of db_56 25 rfl
theorem dX8_planes_44 : decode cX8_planes 44 = .ok (.aload_n 0, 1) := db_of db_56 26 rfl
theorem dX8_planes_45 : decode cX8_planes 45 = .ok (.getfield 13, 3) := db_of db_56 27 rfl
theorem dX8_planes_48 : decode cX8_planes 48 = .ok (.if_icmp .ge 30, 3) := db_of db_56 28 rfl
theorem dX8_planes_51 : decode cX8_planes 51 = .ok (.aload_n 0, 1) := db_of db_56 29 rfl
theorem dX8_planes_52 : decode cX8_planes 52 = .ok (.getfield 9, 3) := db_of db_56 30 rfl
theorem dX8_planes_55 : decode cX8_planes 55 = .ok (.iload_n 2, 1) := db_of db_56 31 rfl
theorem dX8_planes_56 : decode cX8_planes 56 = .ok (.aload_n 0, 1) := db_of db_56 32 rfl
theorem dX8_planes_57 : decode cX8_planes 57 = .ok (.getfield 58, 3) := db_of db_56 33 rfl
theorem dX8_planes_60 : decode cX8_planes 60 = .ok (.getfield 100, 3) := db_of db_56 34 rfl
theorem dX8_planes_63 : decode cX8_planes 63 = .ok (.aload_n 0, 1) := db_of db_56 35 rfl
theorem dX8_planes_64 : decode cX8_planes 64 = .ok (.getfield 13, 3) := db_of db_56 36 rfl
theorem dX8_planes_67 : decode cX8_planes 67 = .ok (.iload_n 2, 1) := db_of db_56 37 rfl
theorem dX8_planes_68 : decode cX8_planes 68 = .ok (.invokestatic 104, 3) := db_of db_56 38 rfl
theorem dX8_planes_71 : decode cX8_planes 71 = .ok (.iastore, 1) := db_of db_56 39 rfl
theorem dX8_planes_72 : decode cX8_planes 72 = .ok (.iinc 2 1, 3) := db_of db_56 40 rfl
theorem dX8_planes_75 : decode cX8_planes 75 = .ok (.goto (-32), 3) := db_of db_56 41 rfl
theorem dX8_planes_78 : decode cX8_planes 78 = .ok (.aload_n 0, 1) := db_of db_56 42 rfl
theorem dX8_planes_79 : decode cX8_planes 79 = .ok (.invokevirtual 92, 3) := db_of db_56 43 rfl
theorem dX8_planes_82 : decode cX8_planes 82 = .ok (.pop, 1) := db_of db_56 44 rfl
theorem dX8_planes_83 : decode cX8_planes 83 = .ok (.aload_n 0, 1) := db_of db_56 45 rfl
theorem dX8_planes_84 : decode cX8_planes 84 = .ok (.getfield 13, 3) := db_of db_56 46 rfl
theorem dX8_planes_87 : decode cX8_planes 87 = .ok (.ireturn, 1) := db_of db_56 47 rfl
set_option maxRecDepth 100000 in
theorem db_57 : ([(0, .iload_n 1, 1), (1, .invokestatic 108, 3), (4, .ifCond .ne 5, 3), (7, .iconst (-1), 1), (8, .ireturn, 1), (9, .aload_n 0, 1), (10, .getfield 13, 3), (13, .bipush 64, 2), (15, .if_icmp .lt 6, 3), (18, .bipush (-3), 2), (20, .ireturn, 1), (21, .aload_n 0, 1), (22, .getfield 9, 3), (25, .aload_n 0, 1), (26, .getfield 13, 3), (29, .iload_n 1, 1), (30, .iastore, 1), (31, .aload_n 0, 1), (32, .dup, 1), (33, .getfield 13, 3), (36, .iconst 1, 1), (37, .iadd, 1), (38, .putfield 13, 3), (41, .aload_n 0, 1), (42, .invokevirtual 92, 3), (45, .pop, 1), (46, .aload_n 0, 1), (47, .getfield 13, 3), (50, .ireturn, 1)] : List (Nat × Instr × Nat)).all (fun r => decide (decode cX8_adds r.1 = .ok r.2)) = true := by decide +kernel
theorem dX8_adds_0 : decode cX8_adds 0 = .ok (.iload_n 1, 1) := db_of db_57 0 rfl
theorem dX8_adds_1 : decode cX8_adds 1 = .ok (.invokestatic 108, 3) := db_of db_57 1 rfl
theorem dX8_adds_4 : decode cX8_adds 4 = .ok (.ifCond .ne 5, 3) := db_of db_57 2 rfl
theorem dX8_adds_7 : decode cX8_adds 7 = .ok (.iconst (-1), 1) := db_of db_57 3 rfl
theorem dX8_adds_8 : decode cX8_adds 8 = .ok (.ireturn, 1) := db_of db_57 4 rfl
theorem dX8_adds_9 : decode cX8_adds 9 = .ok (.aload_n 0, 1) := db_of db_57 5 rfl
theorem dX8_adds_10 : decode cX8_adds 10 = .ok (.getfield 13, 3) := db_of db_57 6 rfl
theorem dX8_adds_13 : decode cX8_adds 13 = .ok (.bipush 64, 2) := db_of db_57 7 rfl
theorem dX8_adds_15 : decode cX8_adds 15 = .ok (.if_icmp .lt 6, 3) := db_of db_57 8 rfl
theorem dX8_adds_18 : decode cX8_adds 18 = .ok (.bipush (-3), 2) := db_of db_57 9 rfl
theorem dX8_adds_20 : decode cX8_adds 20 = .ok (.ireturn, 1) := db_of db_57 10 rfl
theorem dX8_adds_21 : decode cX8_adds 21 = .ok (.aload_n 0, 1) := db_of db_57 11 rfl
theorem dX8_adds_22 : decode cX8_adds 22 = .ok (.getfield 9, 3) := db_of db_57 12 rfl
theorem dX8_adds_25 : decode cX8_adds 25 = .ok (.aload_n 0, 1) := db_of db_57 13 rfl
theorem dX8_adds_26 : decode cX8_adds 26 = .ok (.getfield 13, 3) := db_of db_57 14 rfl
theorem dX8_adds_29 : decode cX8_adds 29 = .ok (.iload_n 1, 1) := db_of db_57 15 rfl
theorem dX8_adds_30 : decode cX8_adds 30 = .ok (.iastore, 1) := db_of db_57 16 rfl
theorem dX8_adds_31 : decode cX8_adds 31 = .ok (.aload_n 0, 1) := db_of db_57 17 rfl
theorem dX8_adds_32 : decode cX8_adds 32 = .ok (.dup, 1) := db_of db_57 18 rfl
theorem dX8_adds_33 : decode cX8_adds 33 = .ok (.getfield 13, 3) := db_of db_57 19 rfl
theorem dX8_adds_36 : decode cX8_adds 36 = .ok (.iconst 1, 1) := db_of db_57 20 rfl
theorem dX8_adds_37 : decode cX8_adds 37 = .ok (.iadd, 1) := db_of db_57 21 rfl
theorem dX8_adds_38 : decode cX8_adds 38 = .ok (.putfield 13, 3) := db_of db_57 22 rfl
theorem dX8_adds_41 : decode cX8_adds 41 = .ok (.aload_n 0, 1) := db_of db_57 23 rfl
theorem dX8_adds_42 : decode cX8_adds 42 = .ok (.invokevirtual 92, 3) := db_of db_57 24 rfl
theorem dX8_adds_45 : decode cX8_adds 45 = .ok (.pop, 1) := db_of db_57 25 rfl
theorem dX8_adds_46 : decode cX8_adds 46 = .ok (.aload_n 0, 1) := db_of db_57 26 rfl
theorem dX8_adds_47 : decode cX8_adds 47 = .ok (.getfield 13, 3) := db_of db_57 27 rfl
theorem dX8_adds_50 : decode cX8_adds 50 = .ok (.ireturn, 1) := db_of db_57 28 rfl
set_option maxRecDepth 100000 in
theorem db_58 : ([(0, .iload_n 2, 1), (1, .invokestatic 108, 3), (4, .ifCond .ne 5, 3), (7, .iconst (-1), 1), (8, .ireturn, 1), (9, .aload_n 0, 1), (10, .iload_n 1, 1), (11, .invokevirtual 111, 3), (14, .ifCond .ne 6, 3), (17, .bipush (-2), 2), (19, .ireturn, 1), (20, .aload_n 0, 1), (21, .getfield 9, 3), (24, .iload_n 1, 1), (25, .iaload, 1), (26, .istore_n 3, 1), (27, .iload_n 3, 1), (28, .iload_n 2, 1), (29, .if_icmp .ne 6, 3), (32, .bipush (-4), 2), (34, .ireturn, 1), (35, .aload_n 0, 1), (36, .getfield 9, 3), (39, .iload_n 1, 1), (40, .iload_n 2, 1), (41, .iastore, 1), (42, .aload_n 0, 1), (43, .aload_n 0, 1), (44, .invokevirtual 92, 3), (47, .i2l, 1), (48, .invokevirtual 114, 3), (51, .iload_n 3, 1), (52, .ireturn, 1)] : List (Nat × Instr × Nat)).all (fun r => decide (decode cX8_puts r.1 = .ok r.2)) = true := by decide +kernel
theorem dX8_puts_0 : decode cX8_puts 0 = .ok (.iload_n 2, 1) := db_of db_58 0 rfl
theorem dX8_puts_1 : decode cX8_puts 1 = .ok (.invokestatic 108, 3) := db_of db_58 1 rfl
theorem dX8_puts_4 : decode cX8_puts 4 = .ok (.ifCond .ne 5, 3) := db_of db_58 2 rfl
theorem dX8_puts_7 : decode cX8_puts 7 = .ok (.iconst (-1), 1) := db_of db_58 3 rfl
theorem dX8_puts_8 : decode cX8_puts 8 = .ok (.ireturn, 1) := db_of db_58 4 rfl
theorem dX8_puts_9 : decode cX8_puts 9 = .ok (.aload_n 0, 1) := db_of db_58 5 rfl
theorem dX8_puts_10 : decode cX8_puts 10 = .ok (.iload_n 1, 1) := db_of db_58 6 rfl
theorem dX8_puts_11 : decode cX8_puts 11 = .ok (.invokevirtual 111, 3) := db_of db_58 7 rfl
theorem dX8_puts_14 : decode cX8_puts 14 = .ok (.ifCond .ne 6, 3) := db_of db_58 8 rfl
theorem dX8_puts_17 : decode cX8_puts 17 = .ok (.bipush (-2), 2) := db_of db_58 9 rfl
theorem dX8_puts_19 : decode cX8_puts 19 = .ok (.ireturn, 1) := db_of db_58 10 rfl
theorem dX8_puts_20 : decode cX8_puts 20 = .ok (.aload_n 0, 1) := db_of db_58 11 rfl
theorem dX8_puts_21 : decode cX8_puts 21 = .ok (.getfield 9, 3) := db_of db_58 12 rfl
theorem dX8_puts_24 : decode cX8_puts 24 = .ok (.iload_n 1, 1) := db_of db_58 13 rfl
theorem dX8_puts_25 : decode cX8_puts 25 = .ok (.iaload, 1) := db_of db_58 14 rfl
theorem dX8_puts_26 : decode cX8_puts 26 = .ok (.istore_n 3, 1) := db_of db_58 15 rfl
theorem dX8_puts_27 : decode cX8_puts 27 = .ok (.iload_n 3, 1) := db_of db_58 16 rfl
theorem dX8_puts_28 : decode cX8_puts 28 = .ok (.iload_n 2, 1) := db_of db_58 17 rfl
theorem dX8_puts_29 : decode cX8_puts 29 = .ok (.if_icmp .ne 6, 3) := db_of db_58 18 rfl
theorem dX8_puts_32 : decode cX8_puts 32 = .ok (.bipush (-4), 2) := db_of db_58 19 rfl
theorem dX8_puts_34 : decode cX8_puts 34 = .ok (.ireturn, 1) := db_of db_58 20 rfl
theorem dX8_puts_35 : decode cX8_puts 35 = .ok (.aload_n 0, 1) := db_of db_58 21 rfl
theorem dX8_puts_36 : decode cX8_puts 36 = .ok (.getfield 9, 3) := db_of db_58 22 rfl
theorem dX8_puts_39 : decode cX8_puts 39 = .ok (.iload_n 1, 1) := db_of db_58 23 rfl
theorem dX8_puts_40 : decode cX8_puts 40 = .ok (.iload_n 2, 1) := db_of db_58 24 rfl
theorem dX8_puts_41 : decode cX8_puts 41 = .ok (.iastore, 1) := db_of db_58 25 rfl
theorem dX8_puts_42 : decode cX8_puts 42 = .ok (.aload_n 0, 1) := db_of db_58 26 rfl
theorem dX8_puts_43 : decode cX8_puts 43 = .ok (.aload_n 0, 1) := db_of db_58 27 rfl
theorem dX8_puts_44 : decode cX8_puts 44 = .ok (.invokevirtual 92, 3) := db_of db_58 28 rfl
theorem dX8_puts_47 : decode cX8_puts 47 = .ok (.i2l, 1) := db_of db_58 29 rfl
theorem dX8_puts_48 : decode cX8_puts 48 = .ok (.invokevirtual 114, 3) := db_of db_58 30 rfl
theorem dX8_puts_51 : decode cX8_puts 51 = .ok (.iload_n 3, 1) := db_of db_58 31 rfl
theorem dX8_puts_52 : decode cX8_puts 52 = .ok (.ireturn, 1) := db_of db_58 32 rfl
set_option maxRecDepth 100000 in
theorem db_59 : ([(0, .aload_n 0, 1), (1, .iload_n 1, 1), (2, .invokevirtual 111, 3), (5, .ifCond .ne 6, 3), (8, .bipush (-2), 2), (10, .ireturn, 1), (11, .aload_n 0, 1), (12, .getfield 9, 3), (15, .iload_n 1, 1), (16, .iaload, 1), (17, .istore_n 2, 1), (18, .iload_n 1, 1), (19, .iconst 1, 1), (20, .iadd, 1), (21, .istore_n 3, 1), (22, .iload_n 3, 1), (23, .aload_n 0, 1), (24, .getfield 13, 3), (27, .if_icmp .ge 23, 3), (30, .aload_n 0, 1), (31, .getfield 9, 3), (34, .iload_n 3, 1), (35, .iconst 1, 1), (36, .isub, 1), (37, .aload_n 0, 1), (38, .getfield 9, 3), (41, .iload_n 3, 1), (42, .iaload, 1), (43, .iastore, 1), (44, .iinc 3 1, 3), (47, .goto (-25), 3), (50, .aload_n 0, 1), (51, .dup, 1), (52, .getfield 13, 3), (55, .iconst 1, 1), (56, .isub, 1), (57, .putfield 13, 3), (60, .aload_n 0, 1), (61, .invokevirtual 92, 3), (64, .pop, 1), (65, .iload_n 2, 1), (66, .ireturn, 1)] : List (Nat × Instr × Nat)).all (fun r => decide (decode cX8_cuts r.1 = .ok r.2)) = true := by decide +kernel
theorem dX8_cuts_0 : decode cX8_cuts 0 = .ok (.aload_n 0, 1) := db_of db_59 0 rfl
theorem dX8_cuts_1 : decode cX8_cuts 1 = .ok (.iload_n 1, 1) := db_of db_59 1 rfl
theorem dX8_cuts_2 : decode cX8_cuts 2 = .ok (.invokevirtual 111, 3) := db_of db_59 2 rfl
theorem dX8_cuts_5 : decode cX8_cuts 5 = .ok (.ifCond .ne 6, 3) := db_of db_59 3 rfl
theorem dX8_cuts_8 : decode cX8_cuts 8 = .ok (.bipush (-2), 2) := db_of db_59 4 rfl
theorem dX8_cuts_10 : decode cX8_cuts 10 = .ok (.ireturn, 1) := db_of db_59 5 rfl
theorem dX8_cuts_11 : decode cX8_cuts 11 = .ok (.aload_n 0, 1) := db_of db_59 6 rfl
theorem dX8_cuts_12 : decode cX8_cuts 12 = .ok (.getfield 9, 3) := db_of db_59 7 rfl
theorem dX8_cuts_15 : decode cX8_cuts 15 = .ok (.iload_n 1, 1) := db_of db_59 8 rfl
theorem dX8_cuts_16 : decode cX8_cuts 16 = .ok (.iaload, 1) := db_of db_59 9 rfl
theorem dX8_cuts_17 : decode cX8_cuts 17 = .ok (.istore_n 2, 1) := db_of db_59 10 rfl
theorem dX8_cuts_18 : decode cX8_cuts 18 = .ok (.iload_n 1, 1) := db_of db_59 11 rfl
theorem dX8_cuts_19 : decode cX8_cuts 19 = .ok (.iconst 1, 1) := db_of db_59 12 rfl
theorem dX8_cuts_20 : decode cX8_cuts 20 = .ok (.iadd, 1) := db_of db_59 13 rfl
theorem dX8_cuts_21 : decode cX8_cuts 21 = .ok (.istore_n 3, 1) := db_of db_59 14 rfl
theorem dX8_cuts_22 : decode cX8_cuts 22 = .ok (.iload_n 3, 1) := db_of db_59 15 rfl
theorem dX8_cuts_23 : decode cX8_cuts 23 = .ok (.aload_n 0, 1) := db_of db_59 16 rfl
theorem dX8_cuts_24 : decode cX8_cuts 24 = .ok (.getfield 13, 3) := db_of db_59 17 rfl
theorem dX8_cuts_27 : decode cX8_cuts 27 = .ok (.if_icmp .ge 23, 3) := db_of db_59 18 rfl
theorem dX8_cuts_30 : decode cX8_cuts 30 = .ok (.aload_n 0, 1) := db_of db_59 19 rfl
theorem dX8_cuts_31 : decode cX8_cuts 31 = .ok (.getfield 9, 3) := db_of db_59 20 rfl
theorem dX8_cuts_34 : decode cX8_cuts 34 = .ok (.iload_n 3, 1) := db_of db_59 21 rfl
theorem dX8_cuts_35 : decode cX8_cuts 35 = .ok (.iconst 1, 1) := db_of db_59 22 rfl
theorem dX8_cuts_36 : decode cX8_cuts 36 = .ok (.isub, 1) := db_of db_59 23 rfl
theorem dX8_cuts_37 : decode cX8_cuts 37 = .ok (.aload_n 0, 1) := db_of db_59 24 rfl
theorem dX8_cuts_38 : decode cX8_cuts 38 = .ok (.getfield 9, 3) := db_of db_59 25 rfl
theorem dX8_cuts_41 : decode cX8_cuts 41 = .ok (.iload_n 3, 1) := db_of db_59 26 rfl
theorem dX8_cuts_42 : decode cX8_cuts 42 = .ok (.iaload, 1) := db_of db_59 27 rfl
theorem dX8_cuts_43 : decode cX8_cuts 43 = .ok (.iastore, 1) := db_of db_59 28 rfl
theorem dX8_cuts_44 : decode cX8_cuts 44 = .ok (.iinc 3 1, 3) := db_of db_59 29 rfl
theorem dX8_cuts_47 : decode cX8_cuts 47 = .ok (.goto (-25), 3) := db_of db_59 30 rfl
theorem dX8_cuts_50 : decode cX8_cuts 50 = .ok (.aload_n 0, 1) := db_of db_59 31 rfl
theorem dX8_cuts_51 : decode cX8_cuts 51 = .ok (.dup, 1) := db_of db_59 32 rfl
theorem dX8_cuts_52 : decode cX8_cuts 52 = .ok (.getfield 13, 3) := db_of db_59 33 rfl
theorem dX8_cuts_55 : decode cX8_cuts 55 = .ok (.iconst 1, 1) := db_of db_59 34 rfl
theorem dX8_cuts_56 : decode cX8_cuts 56 = .ok (.isub, 1) := db_of db_59 35 rfl
theorem dX8_cuts_57 : decode cX8_cuts 57 = .ok (.putfield 13, 3) := db_of db_59 36 rfl
theorem dX8_cuts_60 : decode cX8_cuts 60 = .ok (.aload_n 0, 1) := db_of db_59 37 rfl
theorem dX8_cuts_61 : decode cX8_cuts 61 = .ok (.invokevirtual 92, 3) := db_of db_59 38 rfl
theorem dX8_cuts_64 : decode cX8_cuts 64 = .ok (.pop, 1) := db_of db_59 39 rfl
theorem dX8_cuts_65 : decode cX8_cuts 65 = .ok (.iload_n 2, 1) := db_of db_59 40 rfl
theorem dX8_cuts_66 : decode cX8_cuts 66 = .ok (.ireturn, 1) := db_of db_59 41 rfl
set_option maxRecDepth 100000 in
theorem db_60 : ([(0, .aload_n 0, 1), (1, .iload_n 1, 1), (2, .invokevirtual 111, 3), (5, .ifCond .eq 16, 3), (8, .aload_n 0, 1), (9, .iload_n 2, 1), (10, .invokevirtual 111, 3), (13, .ifCond .eq 8, 3), (16, .iload_n 1, 1), (17, .iload_n 2, 1), (18, .if_icmp .ne 6, 3), (21, .bipush (-2), 2), (23, .ireturn, 1), (24, .aload_n 0, 1), (25, .iload_n 1, 1), (26, .iload_n 2, 1), (27, .invokevirtual 118, 3), (30, .aload_n 0, 1), (31, .invokevirtual 92, 3), (34, .ireturn, 1)] : List (Nat × Instr × Nat)).all (fun r => decide (decode cX8_swaps r.1 = .ok r.2)) = true := by decide +kernel
theorem dX8_swaps_0 : decode cX8_swaps 0 = .ok (.aload_n 0, 1) := db_of db_60 0 rfl
theorem dX8_swaps_1 : decode cX8_swaps 1 = .ok (.iload_n 1, 1) := db_of db_60 1 rfl
theorem dX8_swaps_2 : decode cX8_swaps 2 = .ok (.invokevirtual 111, 3) := db_of db_60 2 rfl
theorem dX8_swaps_5 : decode cX8_swaps 5 = .ok (.ifCond .eq 16, 3) := db_of db_60 3 rfl
theorem dX8_swaps_8 : decode cX8_swaps 8 = .ok (.aload_n 0, 1) := db_of db_60 4 rfl
theorem dX8_swaps_9 : decode cX8_swaps 9 = .ok (.iload_n 2, 1) := db_of db_60 5 rfl
theorem dX8_swaps_10 : decode cX8_swaps 10 = .ok (.invokevirtual 111, 3) := db_of db_60 6 rfl
theorem dX8_swaps_13 : decode cX8_swaps 13 = .ok (.ifCond .eq 8, 3) := db_of db_60 7 rfl
theorem dX8_swaps_16 : decode cX8_swaps 16 = .ok (.iload_n 1, 1) := db_of db_60 8 rfl
theorem dX8_swaps_17 : decode cX8_swaps 17 = .ok (.iload_n 2, 1) := db_of db_60 9 rfl
theorem dX8_swaps_18 : decode cX8_swaps 18 = .ok (.if_icmp .ne 6, 3) := db_of db_60 10 rfl
theorem dX8_swaps_21 : decode cX8_swaps 21 = .ok (.bipush (-2), 2) := db_of db_60 11 rfl
theorem dX8_swaps_23 : decode cX8_swaps 23 = .ok (.ireturn, 1) := db_of db_60 12 rfl
theorem dX8_swaps_24 : decode cX8_swaps 24 = .ok (.aload_n 0, 1) := db_of db_60 13 rfl
theorem dX8_swaps_25 : decode cX8_swaps 25 = .ok (.iload_n 1, 1) := db_of db_60 14 rfl
theorem dX8_swaps_26 : decode cX8_swaps 26 = .ok (.iload_n 2, 1) := db_of db_60 15 rfl
theorem dX8_swaps_27 : decode cX8_swaps 27 = .ok (.invokevirtual 118, 3) := db_of db_60 16 rfl
theorem dX8_swaps_30 : decode cX8_swaps 30 = .ok (.aload_n 0, 1) := db_of db_60 17 rfl
theorem dX8_swaps_31 : decode cX8_swaps 31 = .ok (.invokevirtual 92, 3) := db_of db_60 18 rfl
theorem dX8_swaps_34 : decode cX8_swaps 34 = .ok (.ireturn, 1) := db_of db_60 19 rfl
set_option maxRecDepth 100000 in
theorem db_61 : ([(0, .aload_n 0, 1), (1, .iload_n 1, 1), (2, .iload_n 2, 1), (3, .invokevirtual 122, 3), (6, .ifCond .ne 5, 3), (9, .iconst (-1), 1), (10, .ireturn, 1), (11, .iload_n 2, 1), (12, .iconst 1, 1), (13, .isub, 1), (14, .istore_n 3, 1), (15, .iload_n 1, 1), (16, .istore 4, 2), (18, .iload 4, 2), (20, .iload_n 3, 1), (21, .if_icmp .ge 19, 3), (24, .aload_n 0, 1), (25, .iload 4, 2), (27, .iload_n 3, 1), (28, .invokevirtual 118, 3), (31, .iinc 3 (-1), 3), (34, .iinc 4 1, 3), (37, .goto (-19), 3), (40, .aload_n 0, 1), (41, .invokevirtual 92, 3), (44, .ireturn, 1)] : List (Nat × Instr × Nat)).all (fun r => decide (decode cX8_reverses r.1 = .ok r.2)) = true := by decide +kernel
theorem dX8_reverses_0 : decode cX8_reverses 0 = .ok (.aload_n 0, 1) := db_of db_61 0 rfl
theorem dX8_reverses_1 : decode cX8_reverses 1 = .ok (.iload_n 1, 1) := db_of db_61 1 rfl
theorem dX8_reverses_2 : decode cX8_reverses 2 = .ok (.iload_n 2, 1) := db_of db_61 2 rfl
theorem dX8_reverses_3 : decode cX8_reverses 3 = .ok (.invokevirtual 122, 3) := db_of db_61 3 rfl
theorem dX8_reverses_6 : decode cX8_reverses 6 = .ok (.ifCond .ne 5, 3) := db_of db_61 4 rfl
theorem dX8_reverses_9 : decode cX8_reverses 9 = .ok (.iconst (-1), 1) := db_of db_61 5 rfl
theorem dX8_reverses_10 : decode cX8_reverses 10 = .ok (.ireturn, 1) := db_of db_61 6 rfl
theorem dX8_reverses_11 : decode cX8_reverses 11 = .ok (.iload_n 2, 1) := db_of db_61 7 rfl
theorem dX8_reverses_12 : decode cX8_reverses 12 = .ok (.iconst 1, 1) := db_of db_61 8 rfl
theorem dX8_reverses_13 : decode cX8_reverses 13 = .ok (.isub, 1) := db_of db_61 9 rfl
theorem dX8_reverses_14 : decode cX8_reverses 14 = .ok (.istore_n 3, 1) := db_of db_61 10 rfl
theorem dX8_reverses_15 : decode cX8_reverses 15 = .ok (.iload_n 1, 1) := db_of db_61 11 rfl
theorem dX8_reverses_16 : decode cX8_reverses 16 = .ok (.istore 4, 2) := db_of db_61 12 rfl
theorem dX8_reverses_18 : decode cX8_reverses 18 = .ok (.iload 4, 2) := db_of db_61 13 rfl
theorem dX8_reverses_20 : decode cX8_reverses 20 = .ok (.iload_n 3, 1) := db_of db_61 14 rfl
theorem dX8_reverses_21 : decode cX8_reverses 21 = .ok (.if_icmp .ge 19, 3) := db_of db_61 15 rfl
theorem dX8_reverses_24 : decode cX8_reverses 24 = .ok (.aload_n 0, 1) := db_of db_61 16 rfl
theorem dX8_reverses_25 : decode cX8_reverses 25 = .ok (.iload 4, 2) := db_of db_61 17 rfl
theorem dX8_reverses_27 : decode cX8_reverses 27 = .ok (.iload_n 3, 1) := db_of db_61 18 rfl
theorem dX8_reverses_28 : decode cX8_reverses 28 = .ok (.invokevirtual 118, 3) := db_of db_61 19 rfl
theorem dX8_reverses_31 : decode cX8_reverses 31 = .ok (.iinc 3 (-1), 3) := db_of db_61 20 rfl
theorem dX8_reverses_34 : decode cX8_reverses 34 = .ok (.iinc 4 1, 3) := db_of db_61 21 rfl
theorem dX8_reverses_37 : decode cX8_reverses 37 = .ok (.goto (-19), 3) := db_of db_61 22 rfl
theorem dX8_reverses_40 : decode cX8_reverses 40 = .ok (.aload_n 0, 1) := db_of db_61 23 rfl
theorem dX8_reverses_41 : decode cX8_reverses 41 = .ok (.invokevirtual 92, 3) := db_of db_61 24 rfl
theorem dX8_reverses_44 : decode cX8_reverses 44 = .ok (.ireturn, 1) := db_of db_61 25 rfl
set_option maxRecDepth 100000 in
theorem db_62 : ([(0, .aload_n 0, 1), (1, .getfield 27, 3), (4, .iload_n 1, 1), (5, .invokevirtual 126, 3), (8, .ifCond .eq 13, 3), (11, .aload_n 0, 1), (12, .getfield 27, 3), (15, .getfield 129, 3), (18, .goto 4, 3), (21, .iconst (-1), 1), (22, .ireturn, 1)] : List (Nat × Instr × Nat)).all (fun r => decide (decode cX8_sign r.1 = .ok r.2)) = true := by decide +kernel
theorem dX8_sign_0 : decode cX8_sign 0 = .ok (.aload_n 0, 1) := db_of db_62 0 rfl
theorem dX8_sign_1 : decode cX8_sign 1 = .ok (.getfield 27, 3) := db_of db_62 1 rfl
theorem dX8_sign_4 : decode cX8_sign 4 = .ok (.iload_n 1, 1) := db_of db_62 2 rfl
theorem dX8_sign_5 : decode cX8_sign 5 = .ok (.invokevirtual 126, 3) := db_of db_62 3 rfl
theorem dX8_sign_8 : decode cX8_sign 8 = .ok (.ifCond .eq 13, 3) := db_of db_62 4 rfl
theorem dX8_sign_11 : decode cX8_sign 11 = .ok (.aload_n 0, 1) := db_of db_62 5 rfl
theorem dX8_sign_12 : decode cX8_sign 12 = .ok (.getfield 27, 3) := db_of db_62 6 rfl
theorem dX8_sign_15 : decode cX8_sign 15 = .ok (.getfield 129, 3) := db_of db_62 7 rfl
theorem dX8_sign_18 : decode cX8_sign 18 = .ok (.goto 4, 3) := db_of db_62 8 rfl
theorem dX8_sign_21 : decode cX8_sign 21 = .ok (.iconst (-1), 1) := db_of db_62 9 rfl
theorem dX8_sign_22 : decode cX8_sign 22 = .ok (.ireturn, 1) := db_of db_62 10 rfl
set_option maxRecDepth 100000 in
theorem db_63 : ([(0, .aload_n 0, 1), (1, .getfield 27, 3), (4, .iload_n 1, 1), (5, .invokevirtual 80, 3), (8, .ireturn, 1)] : List (Nat × Instr × Nat)).all (fun r => decide (decode cX8_end r.1 = .ok r.2)) = true := by decide +kernel
theorem dX8_end_0 : decode cX8_end 0 = .ok (.aload_n 0, 1) := db_of db_63 0 rfl
theorem dX8_end_1 : decode cX8_end 1 = .ok (.getfield 27, 3) := db_of db_63 1 rfl
theorem dX8_end_4 : decode cX8_end 4 = .ok (.iload_n 1, 1) := db_of db_63 2 rfl
theorem dX8_end_5 : decode cX8_end 5 = .ok (.invokevirtual 80, 3) := db_of db_63 3 rfl
theorem dX8_end_8 : decode cX8_end 8 = .ok (.ireturn, 1) := db_of db_63 4 rfl
set_option maxRecDepth 100000 in
theorem db_64 : ([(0, .iload_n 1, 1), (1, .ifCond .lt 9, 3), (4, .iload_n 1, 1), (5, .bipush 8, 2), (7, .if_icmp .lt 5, 3), (10, .iconst (-1), 1), (11, .ireturn, 1), (12, .aload_n 0, 1), (13, .getfield 20, 3), (16, .getfield 130, 3), (19, .iload_n 1, 1), (20, .laload, 1), (21, .lstore_n 2, 1), (22, .aload_n 0, 1), (23, .lload_n 2, 1), (24, .lload_n 2, 1), (25, .aload_n 0, 1), (26, .getfield 13, 3), (29, .invokestatic 131, 3), (32, .i2l, 1), (33, .invokevirtual 135, 3), (36, .aload_n 0, 1), (37, .getfield 13, 3), (40, .lload_n 2, 1), (41, .invokestatic 138, 3), (44, .isub, 1), (45, .ireturn, 1)] : List (Nat × Instr × Nat)).all (fun r => decide (decode cX8_level r.1 = .ok r.2)) = true := by decide +kernel
theorem dX8_level_0 : decode cX8_level 0 = .ok (.iload_n 1, 1) := db_of db_64 0 rfl
theorem dX8_level_1 : decode cX8_level 1 = .ok (.ifCond .lt 9, 3) := db_of db_64 1 rfl
theorem dX8_level_4 : decode cX8_level 4 = .ok (.iload_n 1, 1) := db_of db_64 2 rfl
theorem dX8_level_5 : decode cX8_level 5 = .ok (.bipush 8, 2) := db_of db_64 3 rfl
theorem dX8_level_7 : decode cX8_level 7 = .ok (.if_icmp .lt 5, 3) := db_of db_64 4 rfl
theorem dX8_level_10 : decode cX8_level 10 = .ok (.iconst (-1), 1) := db_of db_64 5 rfl
theorem dX8_level_11 : decode cX8_level 11 = .ok (.ireturn, 1) := db_of db_64 6 rfl
theorem dX8_level_12 : decode cX8_level 12 = .ok (.aload_n 0, 1) := db_of db_64 7 rfl
theorem dX8_level_13 : decode cX8_level 13 = .ok (.getfield 20, 3) := db_of db_64 8 rfl
theorem dX8_level_16 : decode cX8_level 16 = .ok (.getfield 130, 3) := db_of db_64 9 rfl
theorem dX8_level_19 : decode cX8_level 19 = .ok (.iload_n 1, 1) := db_of db_64 10 rfl
theorem dX8_level_20 : decode cX8_level 20 = .ok (.laload, 1) := db_of db_64 11 rfl
theorem dX8_level_21 : decode cX8_level 21 = .ok (.lstore_n 2, 1) := db_of db_64 12 rfl
theorem dX8_level_22 : decode cX8_level 22 = .ok (.aload_n 0, 1) := db_of db_64 13 rfl
theorem dX8_level_23 : decode cX8_level 23 = .ok (.lload_n 2, 1) := db_of db_64 14 rfl
theorem dX8_level_24 : decode cX8_level 24 = .ok (.lload_n 2, 1) := db_of db_64 15 rfl
theorem dX8_level_25 : decode cX8_level 25 = .ok (.aload_n 0, 1) := db_of db_64 16 rfl
theorem dX8_level_26 : decode cX8_level 26 = .ok (.getfield 13, 3) := db_of db_64 17 rfl
theorem dX8_level_29 : decode cX8_level 29 = .ok (.invokestatic 131, 3) := db_of db_64 18 rfl
theorem dX8_level_32 : decode cX8_level 32 = .ok (.i2l, 1) := db_of db_64 19 rfl
theorem dX8_level_33 : decode cX8_level 33 = .ok (.invokevirtual 135, 3) := db_of db_64 20 rfl
theorem dX8_level_36 : decode cX8_level 36 = .ok (.aload_n 0, 1) := db_of db_64 21 rfl
theorem dX8_level_37 : decode cX8_level 37 = .ok (.getfield 13, 3) := db_of db_64 22 rfl
theorem dX8_level_40 : decode cX8_level 40 = .ok (.lload_n 2, 1) := db_of db_64 23 rfl
theorem dX8_level_41 : decode cX8_level 41 = .ok (.invokestatic 138, 3) := db_of db_64 24 rfl
theorem dX8_level_44 : decode cX8_level 44 = .ok (.isub, 1) := db_of db_64 25 rfl
theorem dX8_level_45 : decode cX8_level 45 = .ok (.ireturn, 1) := db_of db_64 26 rfl
set_option maxRecDepth 100000 in
theorem db_65 : ([(0, .iload_n 2, 1), (1, .ifCond .lt 9, 3), (4, .iload_n 2, 1), (5, .bipush 8, 2), (7, .if_icmp .le 5, 3), (10, .iconst (-1), 1), (11, .ireturn, 1), (12, .aload_n 0, 1), (13, .iload_n 1, 1), (14, .invokevirtual 111, 3), (17, .ifCond .ne 6, 3), (20, .bipush (-2), 2), (22, .ireturn, 1), (23, .aload_n 0, 1), (24, .aload_n 0, 1), (25, .getfield 9, 3), (28, .iload_n 1, 1), (29, .iaload, 1), (30, .bipush 8, 2), (32, .iload_n 2, 1), (33, .isub, 1), (34, .ishr, 1), (35, .i2l, 1), (36, .invokevirtual 114, 3), (39, .aload_n 0, 1), (40, .getfield 20, 3), (43, .getfield 130, 3), (46, .aload_n 0, 1), (47, .getfield 13, 3), (50, .iload_n 1, 1), (51, .iload_n 2, 1), (52, .invokestatic 144, 3), (55, .ireturn, 1)] : List (Nat × Instr × Nat)).all (fun r => decide (decode cX8_spot r.1 = .ok r.2)) = true := by decide +kernel
theorem dX8_spot_0 : decode cX8_spot 0 = .ok (.iload_n 2, 1) := db_of db_65 0 rfl
theorem dX8_spot_1 : decode cX8_spot 1 = .ok (.ifCond .lt 9, 3) := db_of db_65 1 rfl
theorem dX8_spot_4 : decode cX8_spot 4 = .ok (.iload_n 2, 1) := db_of db_65 2 rfl
theorem dX8_spot_5 : decode cX8_spot 5 = .ok (.bipush 8, 2) := db_of db_65 3 rfl
theorem dX8_spot_7 : decode cX8_spot 7 = .ok (.if_icmp .le 5, 3) := db_of db_65 4 rfl
theorem dX8_spot_10 : decode cX8_spot 10 = .ok (.iconst (-1), 1) := db_of db_65 5 rfl
theorem dX8_spot_11 : decode cX8_spot 11 = .ok (.ireturn, 1) := db_of db_65 6 rfl
theorem dX8_spot_12 : decode cX8_spot 12 = .ok (.aload_n 0, 1) := db_of db_65 7 rfl
theorem dX8_spot_13 : decode cX8_spot 13 = .ok (.iload_n 1, 1) := db_of db_65 8 rfl
theorem dX8_spot_14 : decode cX8_spot 14 = .ok (.invokevirtual 111, 3) := db_of db_65 9 rfl
theorem dX8_spot_17 : decode cX8_spot 17 = .ok (.ifCond .ne 6, 3) := db_of db_65 10 rfl
theorem dX8_spot_20 : decode cX8_spot 20 = .ok (.bipush (-2), 2) := db_of db_65 11 rfl
theorem dX8_spot_22 : decode cX8_spot 22 = .ok (.ireturn, 1) := db_of db_65 12 rfl
theorem dX8_spot_23 : decode cX8_spot 23 = .ok (.aload_n 0, 1) := db_of db_65 13 rfl
theorem dX8_spot_24 : decode cX8_spot 24 = .ok (.aload_n 0, 1) := db_of db_65 14 rfl
theorem dX8_spot_25 : decode cX8_spot 25 = .ok (.getfield 9, 3) := db_of db_65 15 rfl
theorem dX8_spot_28 : decode cX8_spot 28 = .ok (.iload_n 1, 1) := db_of db_65 16 rfl
theorem dX8_spot_29 : decode cX8_spot 29 = .ok (.iaload, 1) := db_of db_65 17 rfl
theorem dX8_spot_30 : decode cX8_spot 30 = .ok (.bipush 8, 2) := db_of db_65 18 rfl
theorem dX8_spot_32 : decode cX8_spot 32 = .ok (.iload_n 2, 1) := db_of db_65 19 rfl
theorem dX8_spot_33 : decode cX8_spot 33 = .ok (.isub, 1) := db_of db_65 20 rfl
theorem dX8_spot_34 : decode cX8_spot 34 = .ok (.ishr, 1) := db_of db_65 21 rfl
theorem dX8_spot_35 : decode cX8_spot 35 = .ok (.i2l, 1) := db_of db_65 22 rfl
theorem dX8_spot_36 : decode cX8_spot 36 = .ok (.invokevirtual 114, 3) := db_of db_65 23 rfl
theorem dX8_spot_39 : decode cX8_spot 39 = .ok (.aload_n 0, 1) := db_of db_65 24 rfl
theorem dX8_spot_40 : decode cX8_spot 40 = .ok (.getfield 20, 3) := db_of db_65 25 rfl
theorem dX8_spot_43 : decode cX8_spot 43 = .ok (.getfield 130, 3) := db_of db_65 26 rfl
theorem dX8_spot_46 : decode cX8_spot 46 = .ok (.aload_n 0, 1) := db_of db_65 27 rfl
theorem dX8_spot_47 : decode cX8_spot 47 = .ok (.getfield 13, 3) := db_of db_65 28 rfl
theorem dX8_spot_50 : decode cX8_spot 50 = .ok (.iload_n 1, 1) := db_of db_65 29 rfl
theorem dX8_spot_51 : decode cX8_spot 51 = .ok (.iload_n 2, 1) := db_of db_65 30 rfl
theorem dX8_spot_52 : decode cX8_spot 52 = .ok (.invokestatic 144, 3) := db_of db_65 31 rfl
theorem dX8_spot_55 : decode cX8_spot 55 = .ok (.ireturn, 1) := db_of db_65 32 rfl
set_option maxRecDepth 100000 in
theorem db_66 : ([(0, .iload_n 1, 1), (1, .ifCond .lt 9, 3), (4, .iload_n 1, 1), (5, .bipush 8, 2), (7, .if_icmp .le 5, 3), (10, .iconst (-1), 1), (11, .ireturn, 1), (12, .aload_n 0, 1), (13, .iload_n 2, 1), (14, .invokevirtual 111, 3), (17, .ifCond .ne 6, 3), (20, .bipush (-2), 2), (22, .ireturn, 1), (23, .aload_n 0, 1), (24, .getfield 20, 3), (27, .iload_n 1, 1), (28, .iload_n 2, 1), (29, .invokevirtual 148, 3), (32, .istore_n 3, 1), (33, .aload_n 0, 1), (34, .aload_n 0, 1), (35, .getfield 9, 3), (38, .iload_n 3, 1), (39, .iaload, 1), (40, .i2l, 1), (41, .invokevirtual 114, 3), (44, .iload_n 3, 1), (45, .ireturn, 1)] : List (Nat × Instr × Nat)).all (fun r => decide (decode cX8_from r.1 = .ok r.2)) = true := by decide +kernel
theorem dX8_from_0 : decode cX8_from 0 = .ok (.iload_n 1, 1) := db_of db_66 0 rfl
theorem dX8_from_1 : decode cX8_from 1 = .ok (.ifCond .lt 9, 3) := db_of db_66 1 rfl
theorem dX8_from_4 : decode cX8_from 4 = .ok (.iload_n 1, 1) := db_of db_66 2 rfl
theorem dX8_from_5 : decode cX8_from 5 = .ok (.bipush 8, 2) := db_of db_66 3 rfl
theorem dX8_from_7 : decode cX8_from 7 = .ok (.if_icmp .le 5, 3) := db_of db_66 4 rfl
theorem dX8_from_10 : decode cX8_from 10 = .ok (.iconst (-1), 1) := db_of db_66 5 rfl
theorem dX8_from_11 : decode cX8_from 11 = .ok (.ireturn, 1) := db_of db_66 6 rfl
theorem dX8_from_12 : decode cX8_from 12 = .ok (.aload_n 0, 1) := db_of db_66 7 rfl
theorem dX8_from_13 : decode cX8_from 13 = .ok (.iload_n 2, 1) := db_of db_66 8 rfl
theorem dX8_from_14 : decode cX8_from 14 = .ok (.invokevirtual 111, 3) := db_of db_66 9 rfl
theorem dX8_from_17 : decode cX8_from 17 = .ok (.ifCond .ne 6, 3) := db_of db_66 10 rfl
theorem dX8_from_20 : decode cX8_from 20 = .ok (.bipush (-2), 2) := db_of db_66 11 rfl
theorem dX8_from_22 : decode cX8_from 22 = .ok (.ireturn, 1) := db_of db_66 12 rfl
theorem dX8_from_23 : decode cX8_from 23 = .ok (.aload_n 0, 1) := db_of db_66 13 rfl
theorem dX8_from_24 : decode cX8_from 24 = .ok (.getfield 20, 3) := db_of db_66 14 rfl
theorem dX8_from_27 : decode cX8_from 27 = .ok (.iload_n 1, 1) := db_of db_66 15 rfl
theorem dX8_from_28 : decode cX8_from 28 = .ok (.iload_n 2, 1) := db_of db_66 16 rfl
theorem dX8_from_29 : decode cX8_from 29 = .ok (.invokevirtual 148, 3) := db_of db_66 17 rfl
theorem dX8_from_32 : decode cX8_from 32 = .ok (.istore_n 3, 1) := db_of db_66 18 rfl
theorem dX8_from_33 : decode cX8_from 33 = .ok (.aload_n 0, 1) := db_of db_66 19 rfl
theorem dX8_from_34 : decode cX8_from 34 = .ok (.aload_n 0, 1) := db_of db_66 20 rfl
theorem dX8_from_35 : decode cX8_from 35 = .ok (.getfield 9, 3) := db_of db_66 21 rfl
theorem dX8_from_38 : decode cX8_from 38 = .ok (.iload_n 3, 1) := db_of db_66 22 rfl
theorem dX8_from_39 : decode cX8_from 39 = .ok (.iaload, 1) := db_of db_66 23 rfl
theorem dX8_from_40 : decode cX8_from 40 = .ok (.i2l, 1) := db_of db_66 24 rfl
theorem dX8_from_41 : decode cX8_from 41 = .ok (.invokevirtual 114, 3) := db_of db_66 25 rfl
theorem dX8_from_44 : decode cX8_from 44 = .ok (.iload_n 3, 1) := db_of db_66 26 rfl
theorem dX8_from_45 : decode cX8_from 45 = .ok (.ireturn, 1) := db_of db_66 27 rfl
set_option maxRecDepth 100000 in
theorem db_67 : ([(0, .iconst 0, 1), (1, .istore_n 1, 1), (2, .aload_n 0, 1), (3, .getfield 34, 3), (6, .invokevirtual 152, 3), (9, .iconst 0, 1), (10, .istore_n 2, 1), (11, .iload_n 2, 1), (12, .bipush 8, 2), (14, .if_icmp .ge 39, 3), (17, .aload_n 0, 1), (18, .getfield 20, 3), (21, .getfield 130, 3), (24, .iload_n 2, 1), (25, .laload, 1), (26, .aload_n 0, 1), (27, .getfield 13, 3), (30, .invokestatic 131, 3), (33, .istore_n 3, 1), (34, .aload_n 0, 1), (35, .getfield 34, 3), (38, .iload_n 3, 1), (39, .i2l, 1), (40, .invokevirtual 155, 3), (43, .iload_n 1, 1), (44, .iload_n 3, 1), (45, .iadd, 1), (46, .istore_n 1, 1), (47, .iinc 2 1, 3), (50, .goto (-39), 3), (53, .iload_n 1, 1), (54, .ireturn, 1)] : List (Nat × Instr × Nat)).all (fun r => decide (decode cX8_runs r.1 = .ok r.2)) = true := by decide +kernel
theorem dX8_runs_0 : decode cX8_runs 0 = .ok (.iconst 0, 1) := db_of db_67 0 rfl
theorem dX8_runs_1 : decode cX8_runs 1 = .ok (.istore_n 1, 1) := db_of db_67 1 rfl
theorem dX8_runs_2 : decode cX8_runs 2 = .ok (.aload_n 0, 1) := db_of db_67 2 rfl
theorem dX8_runs_3 : decode cX8_runs 3 = .ok (.getfield 34, 3) := db_of db_67 3 rfl
theorem dX8_runs_6 : decode cX8_runs 6 = .ok (.invokevirtual 152, 3) := db_of db_67 4 rfl
theorem dX8_runs_9 : decode cX8_runs 9 = .ok (.iconst 0, 1) := db_of db_67 5 rfl
theorem dX8_runs_10 : decode cX8_runs 10 = .ok (.istore_n 2, 1) := db_of db_67 6 rfl
theorem dX8_runs_11 : decode cX8_runs 11 = .ok (.iload_n 2, 1) := db_of db_67 7 rfl
theorem dX8_runs_12 : decode cX8_runs 12 = .ok (.bipush 8, 2) := db_of db_67 8 rfl
theorem dX8_runs_14 : decode cX8_runs 14 = .ok (.if_icmp .ge 39, 3) := db_of db_67 9 rfl
theorem dX8_runs_17 : decode cX8_runs 17 = .ok (.aload_n 0, 1) := db_of db_67 10 rfl
theorem dX8_runs_18 : decode cX8_runs 18 = .ok (.getfield 20, 3) := db_of db_67 11 rfl
theorem dX8_runs_21 : decode cX8_runs 21 = .ok (.getfield 130, 3) := db_of db_67 12 rfl
theorem dX8_runs_24 : decode cX8_runs 24 = .ok (.iload_n 2, 1) := db_of db_67 13 rfl
theorem dX8_runs_25 : decode cX8_runs 25 = .ok (.laload, 1) := db_of db_67 14 rfl
theorem dX8_runs_26 : decode cX8_runs 26 = .ok (.aload_n 0, 1) := db_of db_67 15 rfl
theorem dX8_runs_27 : decode cX8_runs 27 = .ok (.getfield 13, 3) := db_of db_67 16 rfl
theorem dX8_runs_30 : decode cX8_runs 30 = .ok (.invokestatic 131, 3) := db_of db_67 17 rfl
theorem dX8_runs_33 : decode cX8_runs 33 = .ok (.istore_n 3, 1) := db_of db_67 18 rfl
theorem dX8_runs_34 : decode cX8_runs 34 = .ok (.aload_n 0, 1) := db_of db_67 19 rfl
theorem dX8_runs_35 : decode cX8_runs 35 = .ok (.getfield 34, 3) := db_of db_67 20 rfl
theorem dX8_runs_38 : decode cX8_runs 38 = .ok (.iload_n 3, 1) := db_of db_67 21 rfl
theorem dX8_runs_39 : decode cX8_runs 39 = .ok (.i2l, 1) := db_of db_67 22 rfl
theorem dX8_runs_40 : decode cX8_runs 40 = .ok (.invokevirtual 155, 3) := db_of db_67 23 rfl
theorem dX8_runs_43 : decode cX8_runs 43 = .ok (.iload_n 1, 1) := db_of db_67 24 rfl
theorem dX8_runs_44 : decode cX8_runs 44 = .ok (.iload_n 3, 1) := db_of db_67 25 rfl
theorem dX8_runs_45 : decode cX8_runs 45 = .ok (.iadd, 1) := db_of db_67 26 rfl
theorem dX8_runs_46 : decode cX8_runs 46 = .ok (.istore_n 1, 1) := db_of db_67 27 rfl
theorem dX8_runs_47 : decode cX8_runs 47 = .ok (.iinc 2 1, 3) := db_of db_67 28 rfl
theorem dX8_runs_50 : decode cX8_runs 50 = .ok (.goto (-39), 3) := db_of db_67 29 rfl
theorem dX8_runs_53 : decode cX8_runs 53 = .ok (.iload_n 1, 1) := db_of db_67 30 rfl
theorem dX8_runs_54 : decode cX8_runs 54 = .ok (.ireturn, 1) := db_of db_67 31 rfl
set_option maxRecDepth 100000 in
theorem db_68 : ([(0, .aload_n 0, 1), (1, .getfield 65, 3), (4, .aload_n 0, 1), (5, .getfield 9, 3), (8, .aload_n 0, 1), (9, .getfield 13, 3), (12, .invokevirtual 157, 3), (15, .istore_n 1, 1), (16, .aload_n 0, 1), (17, .getfield 34, 3), (20, .invokevirtual 152, 3), (23, .iconst 0, 1), (24, .istore_n 2, 1), (25, .iload_n 2, 1), (26, .bipush 8, 2), (28, .if_icmp .ge 26, 3), (31, .aload_n 0, 1), (32, .getfield 34, 3), (35, .aload_n 0, 1), (36, .getfield 65, 3), (39, .getfield 161, 3), (42, .iload_n 2, 1), (43, .iaload, 1), (44, .i2l, 1), (45, .invokevirtual 155, 3), (48, .iinc 2 1, 3), (51, .goto (-26), 3), (54, .iload_n 1, 1), (55, .ireturn, 1)] : List (Nat × Instr × Nat)).all (fun r => decide (decode cX8_thrift r.1 = .ok r.2)) = true := by decide +kernel
theorem dX8_thrift_0 : decode cX8_thrift 0 = .ok (.aload_n 0, 1) := db_of db_68 0 rfl
theorem dX8_thrift_1 : decode cX8_thrift 1 = .ok (.getfield 65, 3) := db_of db_68 1 rfl
theorem dX8_thrift_4 : decode cX8_thrift 4 = .ok (.aload_n 0, 1) := db_of db_68 2 rfl
theorem dX8_thrift_5 : decode cX8_thrift 5 = .ok (.getfield 9, 3) := db_of db_68 3 rfl
theorem dX8_thrift_8 : decode cX8_thrift 8 = .ok (.aload_n 0, 1) := db_of db_68 4 rfl
theorem dX8_thrift_9 : decode cX8_thrift 9 = .ok (.getfield 13, 3) := db_of db_68 5 rfl
theorem dX8_thrift_12 : decode cX8_thrift 12 = .ok (.invokevirtual 157, 3) := db_of db_68 6 rfl
theorem dX8_thrift_15 : decode cX8_thrift 15 = .ok (.istore_n 1, 1) := db_of db_68 7 rfl
theorem dX8_thrift_16 : decode cX8_thrift 16 = .ok (.aload_n 0, 1) := db_of db_68 8 rfl
theorem dX8_thrift_17 : decode cX8_thrift 17 = .ok (.getfield 34, 3) := db_of db_68 9 rfl
theorem dX8_thrift_20 : decode cX8_thrift 20 = .ok (.invokevirtual 152, 3) := db_of db_68 10 rfl
theorem dX8_thrift_23 : decode cX8_thrift 23 = .ok (.iconst 0, 1) := db_of db_68 11 rfl
theorem dX8_thrift_24 : decode cX8_thrift 24 = .ok (.istore_n 2, 1) := db_of db_68 12 rfl
theorem dX8_thrift_25 : decode cX8_thrift 25 = .ok (.iload_n 2, 1) := db_of db_68 13 rfl
theorem dX8_thrift_26 : decode cX8_thrift 26 = .ok (.bipush 8, 2) := db_of db_68 14 rfl
theorem dX8_thrift_28 : decode cX8_thrift 28 = .ok (.if_icmp .ge 26, 3) := db_of db_68 15 rfl
theorem dX8_thrift_31 : decode cX8_thrift 31 = .ok (.aload_n 0, 1) := db_of db_68 16 rfl
theorem dX8_thrift_32 : decode cX8_thrift 32 = .ok (.getfield 34, 3) := db_of db_68 17 rfl
theorem dX8_thrift_35 : decode cX8_thrift 35 = .ok (.aload_n 0, 1) := db_of db_68 18 rfl
theorem dX8_thrift_36 : decode cX8_thrift 36 = .ok (.getfield 65, 3) := db_of db_68 19 rfl
theorem dX8_thrift_39 : decode cX8_thrift 39 = .ok (.getfield 161, 3) := db_of db_68 20 rfl
theorem dX8_thrift_42 : decode cX8_thrift 42 = .ok (.iload_n 2, 1) := db_of db_68 21 rfl
theorem dX8_thrift_43 : decode cX8_thrift 43 = .ok (.iaload, 1) := db_of db_68 22 rfl
theorem dX8_thrift_44 : decode cX8_thrift 44 = .ok (.i2l, 1) := db_of db_68 23 rfl
theorem dX8_thrift_45 : decode cX8_thrift 45 = .ok (.invokevirtual 155, 3) := db_of db_68 24 rfl
theorem dX8_thrift_48 : decode cX8_thrift 48 = .ok (.iinc 2 1, 3) := db_of db_68 25 rfl
theorem dX8_thrift_51 : decode cX8_thrift 51 = .ok (.goto (-26), 3) := db_of db_68 26 rfl
theorem dX8_thrift_54 : decode cX8_thrift 54 = .ok (.iload_n 1, 1) := db_of db_68 27 rfl
theorem dX8_thrift_55 : decode cX8_thrift 55 = .ok (.ireturn, 1) := db_of db_68 28 rfl
set_option maxRecDepth 100000 in
theorem db_69 : ([(0, .aload_n 0, 1), (1, .iload_n 1, 1), (2, .iload_n 2, 1), (3, .invokevirtual 122, 3), (6, .ifCond .eq 7, 3), (9, .iload_n 3, 1), (10, .ifCond .ge 5, 3), (13, .iconst (-1), 1), (14, .ireturn, 1), (15, .iload_n 3, 1), (16, .iload_n 2, 1), (17, .iload_n 1, 1), (18, .isub, 1), (19, .if_icmp .lt 6, 3), (22, .bipush (-2), 2), (24, .ireturn, 1), (25, .aload_n 0, 1), (26, .getfield 41, 3), (29, .aload_n 0, 1), (30, .getfield 9, 3), (33, .iload_n 1, 1), (34, .iload_n 2, 1), (35, .invokevirtual 164, 3), (38, .aload_n 0, 1), (39, .getfield 41, 3), (42, .iload_n 3, 1), (43, .invokevirtual 168, 3), (46, .istore 4, 2), (48, .aload_n 0, 1), (49, .aload_n 0, 1), (50, .getfield 41, 3), (53, .iload 4, 2), (55, .invokevirtual 172, 3), (58, .i2l, 1), (59, .aload_n 0, 1), (60, .iload 4, 2), (62, .iload_n 1, 1), (63, .invokevirtual 175, 3), (66, .i2l, 1), (67, .invokevirtual 135, 3), (70, .iload 4, 2), (72, .ireturn, 1)] : List (Nat × Instr × Nat)).all (fun r => decide (decode cX8_kth r.1 = .ok r.2)) = true := by decide +kernel
theorem dX8_kth_0 : decode cX8_kth 0 = .ok (.aload_n 0, 1) := db_of db_69 0 rfl
theorem dX8_kth_1 : decode cX8_kth 1 = .ok (.iload_n 1, 1) := db_of db_69 1 rfl
theorem dX8_kth_2 : decode cX8_kth 2 = .ok (.iload_n 2, 1) := db_of db_69 2 rfl
theorem dX8_kth_3 : decode cX8_kth 3 = .ok (.invokevirtual 122, 3) := db_of db_69 3 rfl
theorem dX8_kth_6 : decode cX8_kth 6 = .ok (.ifCond .eq 7, 3) := db_of db_69 4 rfl
theorem dX8_kth_9 : decode cX8_kth 9 = .ok (.iload_n 3, 1) := db_of db_69 5 rfl
theorem dX8_kth_10 : decode cX8_kth 10 = .ok (.ifCond .ge 5, 3) := db_of db_69 6 rfl
theorem dX8_kth_13 : decode cX8_kth 13 = .ok (.iconst (-1), 1) := db_of db_69 7 rfl
theorem dX8_kth_14 : decode cX8_kth 14 = .ok (.ireturn, 1) := db_of db_69 8 rfl
theorem dX8_kth_15 : decode cX8_kth 15 = .ok (.iload_n 3, 1) := db_of db_69 9 rfl
theorem dX8_kth_16 : decode cX8_kth 16 = .ok (.iload_n 2, 1) := db_of db_69 10 rfl
theorem dX8_kth_17 : decode cX8_kth 17 = .ok (.iload_n 1, 1) := db_of db_69 11 rfl
theorem dX8_kth_18 : decode cX8_kth 18 = .ok (.isub, 1) := db_of db_69 12 rfl
theorem dX8_kth_19 : decode cX8_kth 19 = .ok (.if_icmp .lt 6, 3) := db_of db_69 13 rfl
theorem dX8_kth_22 : decode cX8_kth 22 = .ok (.bipush (-2), 2) := db_of db_69 14 rfl
theorem dX8_kth_24 : decode cX8_kth 24 = .ok (.ireturn, 1) := db_of db_69 15 rfl
theorem dX8_kth_25 : decode cX8_kth 25 = .ok (.aload_n 0, 1) := db_of db_69 16 rfl
theorem dX8_kth_26 : decode cX8_kth 26 = .ok (.getfield 41, 3) := db_of db_69 17 rfl
theorem dX8_kth_29 : decode cX8_kth 29 = .ok (.aload_n 0, 1) := db_of db_69 18 rfl
theorem dX8_kth_30 : decode cX8_kth 30 = .ok (.getfield 9, 3) := db_of db_69 19 rfl
theorem dX8_kth_33 : decode cX8_kth 33 = .ok (.iload_n 1, 1) := db_of db_69 20 rfl
theorem dX8_kth_34 : decode cX8_kth 34 = .ok (.iload_n 2, 1) := db_of db_69 21 rfl
theorem dX8_kth_35 : decode cX8_kth 35 = .ok (.invokevirtual 164, 3) := db_of db_69 22 rfl
theorem dX8_kth_38 : decode cX8_kth 38 = .ok (.aload_n 0, 1) := db_of db_69 23 rfl
theorem dX8_kth_39 : decode cX8_kth 39 = .ok (.getfield 41, 3) := db_of db_69 24 rfl
theorem dX8_kth_42 : decode cX8_kth 42 = .ok (.iload_n 3, 1) := db_of db_69 25 rfl
theorem dX8_kth_43 : decode cX8_kth 43 = .ok (.invokevirtual 168, 3) := db_of db_69 26 rfl
theorem dX8_kth_46 : decode cX8_kth 46 = .ok (.istore 4, 2) := db_of db_69 27 rfl
theorem dX8_kth_48 : decode cX8_kth 48 = .ok (.aload_n 0, 1) := db_of db_69 28 rfl
theorem dX8_kth_49 : decode cX8_kth 49 = .ok (.aload_n 0, 1) := db_of db_69 29 rfl
theorem dX8_kth_50 : decode cX8_kth 50 = .ok (.getfield 41, 3) := db_of db_69 30 rfl
theorem dX8_kth_53 : decode cX8_kth 53 = .ok (.iload 4, 2) := db_of db_69 31 rfl
theorem dX8_kth_55 : decode cX8_kth 55 = .ok (.invokevirtual 172, 3) := db_of db_69 32 rfl
theorem dX8_kth_58 : decode cX8_kth 58 = .ok (.i2l, 1) := db_of db_69 33 rfl
theorem dX8_kth_59 : decode cX8_kth 59 = .ok (.aload_n 0, 1) := db_of db_69 34 rfl
theorem dX8_kth_60 : decode cX8_kth 60 = .ok (.iload 4, 2) := db_of db_69 35 rfl
theorem dX8_kth_62 : decode cX8_kth 62 = .ok (.iload_n 1, 1) := db_of db_69 36 rfl
theorem dX8_kth_63 : decode cX8_kth 63 = .ok (.invokevirtual 175, 3) := db_of db_69 37 rfl
theorem dX8_kth_66 : decode cX8_kth 66 = .ok (.i2l, 1) := db_of db_69 38 rfl
theorem dX8_kth_67 : decode cX8_kth 67 = .ok (.invokevirtual 135, 3) := db_of db_69 39 rfl
theorem dX8_kth_70 : decode cX8_kth 70 = .ok (.iload 4, 2) := db_of db_69 40 rfl
theorem dX8_kth_72 : decode cX8_kth 72 = .ok (.ireturn, 1) := db_of db_69 41 rfl
set_option maxRecDepth 100000 in
theorem db_70 : ([(0, .iload_n 1, 1), (1, .invokestatic 108, 3), (4, .ifCond .eq 15, 3), (7, .iload_n 2, 1), (8, .ifCond .lt 11, 3), (11, .iload_n 2, 1), (12, .aload_n 0, 1), (13, .getfield 13, 3), (16, .if_icmp .le 5, 3), (19, .iconst (-1), 1), (20, .ireturn, 1), (21, .aload_n 0, 1), (22, .iload_n 1, 1), (23, .iconst 0, 1), (24, .iload_n 2, 1), (25, .invokevirtual 178, 3), (28, .ireturn, 1)] : List (Nat × Instr × Nat)).all (fun r => decide (decode cX8_rank r.1 = .ok r.2)) = true := by decide +kernel
theorem dX8_rank_0 : decode cX8_rank 0 = .ok (.iload_n 1, 1) := db_of db_70 0 rfl
theorem dX8_rank_1 : decode cX8_rank 1 = .ok (.invokestatic 108, 3) := db_of db_70 1 rfl
theorem dX8_rank_4 : decode cX8_rank 4 = .ok (.ifCond .eq 15, 3) := db_of db_70 2 rfl
theorem dX8_rank_7 : decode cX8_rank 7 = .ok (.iload_n 2, 1) := db_of db_70 3 rfl
theorem dX8_rank_8 : decode cX8_rank 8 = .ok (.ifCond .lt 11, 3) := db_of db_70 4 rfl
theorem dX8_rank_11 : decode cX8_rank 11 = .ok (.iload_n 2, 1) := db_of db_70 5 rfl
theorem dX8_rank_12 : decode cX8_rank 12 = .ok (.aload_n 0, 1) := db_of db_70 6 rfl
theorem dX8_rank_13 : decode cX8_rank 13 = .ok (.getfield 13, 3) := db_of db_70 7 rfl
theorem dX8_rank_16 : decode cX8_rank 16 = .ok (.if_icmp .le 5, 3) := db_of db_70 8 rfl
theorem dX8_rank_19 : decode cX8_rank 19 = .ok (.iconst (-1), 1) := db_of db_70 9 rfl
theorem dX8_rank_20 : decode cX8_rank 20 = .ok (.ireturn, 1) := db_of db_70 10 rfl
theorem dX8_rank_21 : decode cX8_rank 21 = .ok (.aload_n 0, 1) := db_of db_70 11 rfl
theorem dX8_rank_22 : decode cX8_rank 22 = .ok (.iload_n 1, 1) := db_of db_70 12 rfl
theorem dX8_rank_23 : decode cX8_rank 23 = .ok (.iconst 0, 1) := db_of db_70 13 rfl
theorem dX8_rank_24 : decode cX8_rank 24 = .ok (.iload_n 2, 1) := db_of db_70 14 rfl
theorem dX8_rank_25 : decode cX8_rank 25 = .ok (.invokevirtual 178, 3) := db_of db_70 15 rfl
theorem dX8_rank_28 : decode cX8_rank 28 = .ok (.ireturn, 1) := db_of db_70 16 rfl
set_option maxRecDepth 100000 in
theorem db_71 : ([(0, .iload_n 1, 1), (1, .invokestatic 108, 3), (4, .ifCond .eq 7, 3), (7, .iload_n 2, 1), (8, .ifCond .ge 5, 3), (11, .iconst (-1), 1), (12, .ireturn, 1), (13, .iconst 0, 1), (14, .istore_n 3, 1), (15, .iconst 0, 1), (16, .istore 4, 2), (18, .iload 4, 2), (20, .aload_n 0, 1), (21, .getfield 13, 3), (24, .if_icmp .ge 31, 3), (27, .aload_n 0, 1), (28, .getfield 9, 3), (31, .iload 4, 2), (33, .iaload, 1), (34, .iload_n 1, 1), (35, .if_icmp .ne 14, 3), (38, .iload_n 3, 1), (39, .iload_n 2, 1), (40, .if_icmp .ne 6, 3), (43, .iload 4, 2), (45, .ireturn, 1), (46, .iinc 3 1, 3), (49, .iinc 4 1, 3), (52, .goto (-34), 3), (55, .bipush (-2), 2), (57, .ireturn, 1)] : List (Nat × Instr × Nat)).all (fun r => decide (decode cX8_select r.1 = .ok r.2)) = true := by decide +kernel
theorem dX8_select_0 : decode cX8_select 0 = .ok (.iload_n 1, 1) := db_of db_71 0 rfl
theorem dX8_select_1 : decode cX8_select 1 = .ok (.invokestatic 108, 3) := db_of db_71 1 rfl
theorem dX8_select_4 : decode cX8_select 4 = .ok (.ifCond .eq 7, 3) := db_of db_71 2 rfl
theorem dX8_select_7 : decode cX8_select 7 = .ok (.iload_n 2, 1) := db_of db_71 3 rfl
theorem dX8_select_8 : decode cX8_select 8 = .ok (.ifCond .ge 5, 3) := db_of db_71 4 rfl
theorem dX8_select_11 : decode cX8_select 11 = .ok (.iconst (-1), 1) := db_of db_71 5 rfl
theorem dX8_select_12 : decode cX8_select 12 = .ok (.ireturn, 1) := db_of db_71 6 rfl
theorem dX8_select_13 : decode cX8_select 13 = .ok (.iconst 0, 1) := db_of db_71 7 rfl
theorem dX8_select_14 : decode cX8_select 14 = .ok (.istore_n 3, 1) := db_of db_71 8 rfl
theorem dX8_select_15 : decode cX8_select 15 = .ok (.iconst 0, 1) := db_of db_71 9 rfl
theorem dX8_select_16 : decode cX8_select 16 = .ok (.istore 4, 2) := db_of db_71 10 rfl
theorem dX8_select_18 : decode cX8_select 18 = .ok (.iload 4, 2) := db_of db_71 11 rfl
theorem dX8_select_20 : decode cX8_select 20 = .ok (.aload_n 0, 1) := db_of db_71 12 rfl
theorem dX8_select_21 : decode cX8_select 21 = .ok (.getfield 13, 3) := db_of db_71 13 rfl
theorem dX8_select_24 : decode cX8_select 24 = .ok (.if_icmp .ge 31, 3) := db_of db_71 14 rfl
theorem dX8_select_27 : decode cX8_select 27 = .ok (.aload_n 0, 1) := db_of db_71 15 rfl
theorem dX8_select_28 : decode cX8_select 28 = .ok (.getfield 9, 3) := db_of db_71 16 rfl
theorem dX8_select_31 : decode cX8_select 31 = .ok (.iload 4, 2) := db_of db_71 17 rfl
theorem dX8_select_33 : decode cX8_select 33 = .ok (.iaload, 1) := db_of db_71 18 rfl
theorem dX8_select_34 : decode cX8_select 34 = .ok (.iload_n 1, 1) := db_of db_71 19 rfl
theorem dX8_select_35 : decode cX8_select 35 = .ok (.if_icmp .ne 14, 3) := db_of db_71 20 rfl
theorem dX8_select_38 : decode cX8_select 38 = .ok (.iload_n 3, 1) := db_of db_71 21 rfl
theorem dX8_select_39 : decode cX8_select 39 = .ok (.iload_n 2, 1) := db_of db_71 22 rfl
theorem dX8_select_40 : decode cX8_select 40 = .ok (.if_icmp .ne 6, 3) := db_of db_71 23 rfl
theorem dX8_select_43 : decode cX8_select 43 = .ok (.iload 4, 2) := db_of db_71 24 rfl
theorem dX8_select_45 : decode cX8_select 45 = .ok (.ireturn, 1) := db_of db_71 25 rfl
theorem dX8_select_46 : decode cX8_select 46 = .ok (.iinc 3 1, 3) := db_of db_71 26 rfl
theorem dX8_select_49 : decode cX8_select 49 = .ok (.iinc 4 1, 3) := db_of db_71 27 rfl
theorem dX8_select_52 : decode cX8_select 52 = .ok (.goto (-34), 3) := db_of db_71 28 rfl
theorem dX8_select_55 : decode cX8_select 55 = .ok (.bipush (-2), 2) := db_of db_71 29 rfl
theorem dX8_select_57 : decode cX8_select 57 = .ok (.ireturn, 1) := db_of db_71 30 rfl
set_option maxRecDepth 100000 in
theorem db_72 : ([(0, .aload_n 0, 1), (1, .iload_n 1, 1), (2, .iload_n 2, 1), (3, .invokevirtual 122, 3), (6, .ifCond .eq 24, 3), (9, .iload_n 3, 1), (10, .invokestatic 108, 3), (13, .ifCond .eq 17, 3), (16, .iload 4, 2), (18, .invokestatic 108, 3), (21, .ifCond .eq 9, 3), (24, .iload_n 3, 1), (25, .iload 4, 2), (27, .if_icmp .le 5, 3), (30, .iconst (-1), 1), (31, .ireturn, 1), (32, .aload_n 0, 1), (33, .getfield 41, 3), (36, .aload_n 0, 1), (37, .getfield 9, 3), (40, .iload_n 1, 1), (41, .iload_n 2, 1), (42, .invokevirtual 164, 3), (45, .iconst 0, 1), (46, .istore 5, 2), (48, .iload_n 3, 1), (49, .istore 6, 2), (51, .iload 6, 2), (53, .iload 4, 2), (55, .if_icmp .gt 23, 3), (58, .iload 5, 2), (60, .aload_n 0, 1), (61, .getfield 41, 3), (64, .iload 6, 2), (66, .invokevirtual 172, 3), (69, .iadd, 1), (70, .istore 5, 2), (72, .iinc 6 1, 3), (75, .goto (-24), 3), (78, .aload_n 0, 1), (79, .aload_n 0, 1), (80, .getfield 41, 3), (83, .iload_n 3, 1), (84, .iload 4, 2), (86, .invokevirtual 182, 3), (89, .i2l, 1), (90, .invokevirtual 114, 3), (93, .iload 5, 2), (95, .ireturn, 1)] : List (Nat × Instr × Nat)).all (fun r => decide (decode cX8_band r.1 = .ok r.2)) = true := by decide +kernel
theorem dX8_band_0 : decode cX8_band 0 = .ok (.aload_n 0, 1) := db_of db_72 0 rfl
theorem dX8_band_1 : decode cX8_band 1 = .ok (.iload_n 1, 1) := db_of db_72 1 rfl
theorem dX8_band_2 : decode cX8_band 2 = .ok (.iload_n 2, 1) := db_of db_72 2 rfl
theorem dX8_band_3 : decode cX8_band 3 = .ok (.invokevirtual 122, 3) := db_of db_72 3 rfl
theorem dX8_band_6 : decode cX8_band 6 = .ok (.ifCond .eq 24, 3) := db_of db_72 4 rfl
theorem dX8_band_9 : decode cX8_band 9 = .ok (.iload_n 3, 1) := db_of db_72 5 rfl
theorem dX8_band_10 : decode cX8_band 10 = .ok (.invokestatic 108, 3) := db_of db_72 6 rfl
theorem dX8_band_13 : decode cX8_band 13 = .ok (.ifCond .eq 17, 3) := db_of db_72 7 rfl
theorem dX8_band_16 : decode cX8_band 16 = .ok (.iload 4, 2) := db_of db_72 8 rfl
theorem dX8_band_18 : decode cX8_band 18 = .ok (.invokestatic 108, 3) := db_of db_72 9 rfl
theorem dX8_band_21 : decode cX8_band 21 = .ok (.ifCond .eq 9, 3) := db_of db_72 10 rfl
theorem dX8_band_24 : decode cX8_band 24 = .ok (.iload_n 3, 1) := db_of db_72 11 rfl
theorem dX8_band_25 : decode cX8_band 25 = .ok (.iload 4, 2) := db_of db_72 12 rfl
theorem dX8_band_27 : decode cX8_band 27 = .ok (.if_icmp .le 5, 3) := db_of db_72 13 rfl
theorem dX8_band_30 : decode cX8_band 30 = .ok (.iconst (-1), 1) := db_of db_72 14 rfl
theorem dX8_band_31 : decode cX8_band 31 = .ok (.ireturn, 1) := db_of db_72 15 rfl
theorem dX8_band_32 : decode cX8_band 32 = .ok (.aload_n 0, 1) := db_of db_72 16 rfl
theorem dX8_band_33 : decode cX8_band 33 = .ok (.getfield 41, 3) := db_of db_72 17 rfl
theorem dX8_band_36 : decode cX8_band 36 = .ok (.aload_n 0, 1) := db_of db_72 18 rfl
theorem dX8_band_37 : decode cX8_band 37 = .ok (.getfield 9, 3) := db_of db_72 19 rfl
theorem dX8_band_40 : decode cX8_band 40 = .ok (.iload_n 1, 1) := db_of db_72 20 rfl
theorem dX8_band_41 : decode cX8_band 41 = .ok (.iload_n 2, 1) := db_of db_72 21 rfl
theorem dX8_band_42 : decode cX8_band 42 = .ok (.invokevirtual 164, 3) := db_of db_72 22 rfl
theorem dX8_band_45 : decode cX8_band 45 = .ok (.iconst 0, 1) := db_of db_72 23 rfl
theorem dX8_band_46 : decode cX8_band 46 = .ok (.istore 5, 2) := db_of db_72 24 rfl
theorem dX8_band_48 : decode cX8_band 48 = .ok (.iload_n 3, 1) := db_of db_72 25 rfl
theorem dX8_band_49 : decode cX8_band 49 = .ok (.istore 6, 2) := db_of db_72 26 rfl
theorem dX8_band_51 : decode cX8_band 51 = .ok (.iload 6, 2) := db_of db_72 27 rfl
theorem dX8_band_53 : decode cX8_band 53 = .ok (.iload 4, 2) := db_of db_72 28 rfl
theorem dX8_band_55 : decode cX8_band 55 = .ok (.if_icmp .gt 23, 3) := db_of db_72 29 rfl
theorem dX8_band_58 : decode cX8_band 58 = .ok (.iload 5, 2) := db_of db_72 30 rfl
theorem dX8_band_60 : decode cX8_band 60 = .ok (.aload_n 0, 1) := db_of db_72 31 rfl
theorem dX8_band_61 : decode cX8_band 61 = .ok (.getfield 41, 3) := db_of db_72 32 rfl
theorem dX8_band_64 : decode cX8_band 64 = .ok (.iload 6, 2) := db_of db_72 33 rfl
theorem dX8_band_66 : decode cX8_band 66 = .ok (.invokevirtual 172, 3) := db_of db_72 34 rfl
theorem dX8_band_69 : decode cX8_band 69 = .ok (.iadd, 1) := db_of db_72 35 rfl
theorem dX8_band_70 : decode cX8_band 70 = .ok (.istore 5, 2) := db_of db_72 36 rfl
theorem dX8_band_72 : decode cX8_band 72 = .ok (.iinc 6 1, 3) := db_of db_72 37 rfl
theorem dX8_band_75 : decode cX8_band 75 = .ok (.goto (-24), 3) := db_of db_72 38 rfl
theorem dX8_band_78 : decode cX8_band 78 = .ok (.aload_n 0, 1) := db_of db_72 39 rfl
theorem dX8_band_79 : decode cX8_band 79 = .ok (.aload_n 0, 1) := db_of db_72 40 rfl
theorem dX8_band_80 : decode cX8_band 80 = .ok (.getfield 41, 3) := db_of db_72 41 rfl
theorem dX8_band_83 : decode cX8_band 83 = .ok (.iload_n 3, 1) := db_of db_72 42 rfl
theorem dX8_band_84 : decode cX8_band 84 = .ok (.iload 4, 2) := db_of db_72 43 rfl
theorem dX8_band_86 : decode cX8_band 86 = .ok (.invokevirtual 182, 3) := db_of db_72 44 rfl
theorem dX8_band_89 : decode cX8_band 89 = .ok (.i2l, 1) := db_of db_72 45 rfl
theorem dX8_band_90 : decode cX8_band 90 = .ok (.invokevirtual 114, 3) := db_of db_72 46 rfl
theorem dX8_band_93 : decode cX8_band 93 = .ok (.iload 5, 2) := db_of db_72 47 rfl
theorem dX8_band_95 : decode cX8_band 95 = .ok (.ireturn, 1) := db_of db_72 48 rfl
set_option maxRecDepth 100000 in
theorem db_73 : ([(0, .aload_n 0, 1), (1, .iload_n 1, 1), (2, .iload_n 2, 1), (3, .invokevirtual 122, 3), (6, .ifCond .eq 15, 3), (9, .iload_n 3, 1), (10, .iconst 1, 1), (11, .if_icmp .lt 10, 3), (14, .iload_n 3, 1), (15, .sipush 256, 3), (18, .if_icmp .le 5, 3), (21, .iconst (-1), 1), (22, .ireturn, 1), (23, .aload_n 0, 1), (24, .getfield 41, 3), (27, .aload_n 0, 1), (28, .getfield 9, 3), (31, .iload_n 1, 1), (32, .iload_n 2, 1), (33, .invokevirtual 164, 3), (36, .iload_n 3, 1), (37, .iconst 1, 1), (38, .isub, 1), (39, .istore 4, 2), (41, .iload 4, 2), (43, .ifCond .lt 38, 3), (46, .aload_n 0, 1), (47, .getfield 41, 3), (50, .iload 4, 2), (52, .invokevirtual 172, 3), (55, .ifCond .le 20, 3), (58, .aload_n 0, 1), (59, .aload_n 0, 1), (60, .getfield 41, 3), (63, .iload 4, 2), (65, .invokevirtual 172, 3), (68, .i2l, 1), (69, .invokevirtual 114, 3), (72, .iload 4, 2), (74, .ireturn, 1), (75, .iinc 4 (-1), 3), (78, .goto (-37), 3), (81, .bipush (-2), 2), (83, .ireturn, 1)] : List (Nat × Instr × Nat)).all (fun r => decide (decode cX8_below r.1 = .ok r.2)) = true := by decide +kernel
theorem dX8_below_0 : decode cX8_below 0 = .ok (.aload_n 0, 1) := db_of db_73 0 rfl
theorem dX8_below_1 : decode cX8_below 1 = .ok (.iload_n 1, 1) := db_of db_73 1 rfl
theorem dX8_below_2 : decode cX8_below 2 = .ok (.iload_n 2, 1) := db_of db_73 2 rfl
theorem dX8_below_3 : decode cX8_below 3 = .ok (.invokevirtual 122, 3) := db_of db_73 3 rfl
theorem dX8_below_6 : decode cX8_below 6 = .ok (.ifCond .eq 15, 3) := db_of db_73 4 rfl
theorem dX8_below_9 : decode cX8_below 9 = .ok (.iload_n 3, 1) := db_of db_73 5 rfl
theorem dX8_below_10 : decode cX8_below 10 = .ok (.iconst 1, 1) := db_of db_73 6 rfl
theorem dX8_below_11 : decode cX8_below 11 = .ok (.if_icmp .lt 10, 3) := db_of db_73 7 rfl
theorem dX8_below_14 : decode cX8_below 14 = .ok (.iload_n 3, 1) := db_of db_73 8 rfl
theorem dX8_below_15 : decode cX8_below 15 = .ok (.sipush 256, 3) := db_of db_73 9 rfl
theorem dX8_below_18 : decode cX8_below 18 = .ok (.if_icmp .le 5, 3) := db_of db_73 10 rfl
theorem dX8_below_21 : decode cX8_below 21 = .ok (.iconst (-1), 1) := db_of db_73 11 rfl
theorem dX8_below_22 : decode cX8_below 22 = .ok (.ireturn, 1) := db_of db_73 12 rfl
theorem dX8_below_23 : decode cX8_below 23 = .ok (.aload_n 0, 1) := db_of db_73 13 rfl
theorem dX8_below_24 : decode cX8_below 24 = .ok (.getfield 41, 3) := db_of db_73 14 rfl
theorem dX8_below_27 : decode cX8_below 27 = .ok (.aload_n 0, 1) := db_of db_73 15 rfl
theorem dX8_below_28 : decode cX8_below 28 = .ok (.getfield 9, 3) := db_of db_73 16 rfl
theorem dX8_below_31 : decode cX8_below 31 = .ok (.iload_n 1, 1) := db_of db_73 17 rfl
theorem dX8_below_32 : decode cX8_below 32 = .ok (.iload_n 2, 1) := db_of db_73 18 rfl
theorem dX8_below_33 : decode cX8_below 33 = .ok (.invokevirtual 164, 3) := db_of db_73 19 rfl
theorem dX8_below_36 : decode cX8_below 36 = .ok (.iload_n 3, 1) := db_of db_73 20 rfl
theorem dX8_below_37 : decode cX8_below 37 = .ok (.iconst 1, 1) := db_of db_73 21 rfl
theorem dX8_below_38 : decode cX8_below 38 = .ok (.isub, 1) := db_of db_73 22 rfl
theorem dX8_below_39 : decode cX8_below 39 = .ok (.istore 4, 2) := db_of db_73 23 rfl
theorem dX8_below_41 : decode cX8_below 41 = .ok (.iload 4, 2) := db_of db_73 24 rfl
theorem dX8_below_43 : decode cX8_below 43 = .ok (.ifCond .lt 38, 3) := db_of db_73 25 rfl
theorem dX8_below_46 : decode cX8_below 46 = .ok (.aload_n 0, 1) := db_of db_73 26 rfl
theorem dX8_below_47 : decode cX8_below 47 = .ok (.getfield 41, 3) := db_of db_73 27 rfl
theorem dX8_below_50 : decode cX8_below 50 = .ok (.iload 4, 2) := db_of db_73 28 rfl
theorem dX8_below_52 : decode cX8_below 52 = .ok (.invokevirtual 172, 3) := db_of db_73 29 rfl
theorem dX8_below_55 : decode cX8_below 55 = .ok (.ifCond .le 20, 3) := db_of db_73 30 rfl
theorem dX8_below_58 : decode cX8_below 58 = .ok (.aload_n 0, 1) := db_of db_73 31 rfl
theorem dX8_below_59 : decode cX8_below 59 = .ok (.aload_n 0, 1) := db_of db_73 32 rfl
theorem dX8_below_60 : decode cX8_below 60 = .ok (.getfield 41, 3) := db_of db_73 33 rfl
theorem dX8_below_63 : decode cX8_below 63 = .ok (.iload 4, 2) := db_of db_73 34 rfl
theorem dX8_below_65 : decode cX8_below 65 = .ok (.invokevirtual 172, 3) := db_of db_73 35 rfl
theorem dX8_below_68 : decode cX8_below 68 = .ok (.i2l, 1) := db_of db_73 36 rfl
theorem dX8_below_69 : decode cX8_below 69 = .ok (.invokevirtual 114, 3) := db_of db_73 37 rfl
theorem dX8_below_72 : decode cX8_below 72 = .ok (.iload 4, 2) := db_of db_73 38 rfl
theorem dX8_below_74 : decode cX8_below 74 = .ok (.ireturn, 1) := db_of db_73 39 rfl
theorem dX8_below_75 : decode cX8_below 75 = .ok (.iinc 4 (-1), 3) := db_of db_73 40 rfl
theorem dX8_below_78 : decode cX8_below 78 = .ok (.goto (-37), 3) := db_of db_73 41 rfl
theorem dX8_below_81 : decode cX8_below 81 = .ok (.bipush (-2), 2) := db_of db_73 42 rfl
theorem dX8_below_83 : decode cX8_below 83 = .ok (.ireturn, 1) := db_of db_73 43 rfl
set_option maxRecDepth 100000 in
theorem db_74 : ([(0, .aload_n 0, 1), (1, .iload_n 1, 1), (2, .iload_n 2, 1), (3, .invokevirtual 122, 3), (6, .ifCond .eq 15, 3), (9, .iload_n 3, 1), (10, .iconst (-1), 1), (11, .if_icmp .lt 10, 3), (14, .iload_n 3, 1), (15, .sipush 254, 3), (18, .if_icmp .le 5, 3), (21, .iconst (-1), 1), (22, .ireturn, 1), (23, .aload_n 0, 1), (24, .getfield 41, 3), (27, .aload_n 0, 1), (28, .getfield 9, 3), (31, .iload_n 1, 1), (32, .iload_n 2, 1), (33, .invokevirtual 164, 3), (36, .iload_n 3, 1), (37, .iconst 1, 1), (38, .iadd, 1), (39, .istore 4, 2), (41, .iload 4, 2), (43, .sipush 255, 3), (46, .if_icmp .gt 38, 3), (49, .aload_n 0, 1), (50, .getfield 41, 3), (53, .iload 4, 2), (55, .invokevirtual 172, 3), (58, .ifCond .le 20, 3), (61, .aload_n 0, 1), (62, .aload_n 0, 1), (63, .getfield 41, 3), (66, .iload 4, 2), (68, .invokevirtual 172, 3), (71, .i2l, 1), (72, .invokevirtual 114, 3), (75, .iload 4, 2), (77, .ireturn, 1), (78, .iinc 4 1, 3), (81, .goto (-40), 3), (84, .bipush (-2), 2), (86, .ireturn, 1)] : List (Nat × Instr × Nat)).all (fun r => decide (decode cX8_above r.1 = .ok r.2)) = true := by decide +kernel
theorem dX8_above_0 : decode cX8_above 0 = .ok (.aload_n 0, 1) := db_of db_74 0 rfl
theorem dX8_above_1 : decode cX8_above 1 = .ok (.iload_n 1, 1) := db_of db_74 1 rfl
theorem dX8_above_2 : decode cX8_above 2 = .ok (.iload_n 2, 1) := db_of db_74 2 rfl
theorem dX8_above_3 : decode cX8_above 3 = .ok (.invokevirtual 122, 3) := db_of db_74 3 rfl
theorem dX8_above_6 : decode cX8_above 6 = .ok (.ifCond .eq 15, 3) := db_of db_74 4 rfl
theorem dX8_above_9 : decode cX8_above 9 = .ok (.iload_n 3, 1) := db_of db_74 5 rfl
theorem dX8_above_10 : decode cX8_above 10 = .ok (.iconst (-1), 1) := db_of db_74 6 rfl
theorem dX8_above_11 : decode cX8_above 11 = .ok (.if_icmp .lt 10, 3) := db_of db_74 7 rfl
theorem dX8_above_14 : decode cX8_above 14 = .ok (.iload_n 3, 1) := db_of db_74 8 rfl
theorem dX8_above_15 : decode cX8_above 15 = .ok (.sipush 254, 3) := db_of db_74 9 rfl
theorem dX8_above_18 : decode cX8_above 18 = .ok (.if_icmp .le 5, 3) := db_of db_74 10 rfl
theorem dX8_above_21 : decode cX8_above 21 = .ok (.iconst (-1), 1) := db_of db_74 11 rfl
theorem dX8_above_22 : decode cX8_above 22 = .ok (.ireturn, 1) := db_of db_74 12 rfl
theorem dX8_above_23 : decode cX8_above 23 = .ok (.aload_n 0, 1) := db_of db_74 13 rfl
theorem dX8_above_24 : decode cX8_above 24 = .ok (.getfield 41, 3) := db_of db_74 14 rfl
theorem dX8_above_27 : decode cX8_above 27 = .ok (.aload_n 0, 1) := db_of db_74 15 rfl
theorem dX8_above_28 : decode cX8_above 28 = .ok (.getfield 9, 3) := db_of db_74 16 rfl
theorem dX8_above_31 : decode cX8_above 31 = .ok (.iload_n 1, 1) := db_of db_74 17 rfl
theorem dX8_above_32 : decode cX8_above 32 = .ok (.iload_n 2, 1) := db_of db_74 18 rfl
theorem dX8_above_33 : decode cX8_above 33 = .ok (.invokevirtual 164, 3) := db_of db_74 19 rfl
theorem dX8_above_36 : decode cX8_above 36 = .ok (.iload_n 3, 1) := db_of db_74 20 rfl
theorem dX8_above_37 : decode cX8_above 37 = .ok (.iconst 1, 1) := db_of db_74 21 rfl
theorem dX8_above_38 : decode cX8_above 38 = .ok (.iadd, 1) := db_of db_74 22 rfl
theorem dX8_above_39 : decode cX8_above 39 = .ok (.istore 4, 2) := db_of db_74 23 rfl
theorem dX8_above_41 : decode cX8_above 41 = .ok (.iload 4, 2) := db_of db_74 24 rfl
theorem dX8_above_43 : decode cX8_above 43 = .ok (.sipush 255, 3) := db_of db_74 25 rfl
theorem dX8_above_46 : decode cX8_above 46 = .ok (.if_icmp .gt 38, 3) := db_of db_74 26 rfl
theorem dX8_above_49 : decode cX8_above 49 = .ok (.aload_n 0, 1) := db_of db_74 27 rfl
theorem dX8_above_50 : decode cX8_above 50 = .ok (.getfield 41, 3) := db_of db_74 28 rfl
theorem dX8_above_53 : decode cX8_above 53 = .ok (.iload 4, 2) := db_of db_74 29 rfl
theorem dX8_above_55 : decode cX8_above 55 = .ok (.invokevirtual 172, 3) := db_of db_74 30 rfl
theorem dX8_above_58 : decode cX8_above 58 = .ok (.ifCond .le 20, 3) := db_of db_74 31 rfl
theorem dX8_above_61 : decode cX8_above 61 = .ok (.aload_n 0, 1) := db_of db_74 32 rfl
theorem dX8_above_62 : decode cX8_above 62 = .ok (.aload_n 0, 1) := db_of db_74 33 rfl
theorem dX8_above_63 : decode cX8_above 63 = .ok (.getfield 41, 3) := db_of db_74 34 rfl
theorem dX8_above_66 : decode cX8_above 66 = .ok (.iload 4, 2) := db_of db_74 35 rfl
theorem dX8_above_68 : decode cX8_above 68 = .ok (.invokevirtual 172, 3) := db_of db_74 36 rfl
theorem dX8_above_71 : decode cX8_above 71 = .ok (.i2l, 1) := db_of db_74 37 rfl
theorem dX8_above_72 : decode cX8_above 72 = .ok (.invokevirtual 114, 3) := db_of db_74 38 rfl
theorem dX8_above_75 : decode cX8_above 75 = .ok (.iload 4, 2) := db_of db_74 39 rfl
theorem dX8_above_77 : decode cX8_above 77 = .ok (.ireturn, 1) := db_of db_74 40 rfl
theorem dX8_above_78 : decode cX8_above 78 = .ok (.iinc 4 1, 3) := db_of db_74 41 rfl
theorem dX8_above_81 : decode cX8_above 81 = .ok (.goto (-40), 3) := db_of db_74 42 rfl
theorem dX8_above_84 : decode cX8_above 84 = .ok (.bipush (-2), 2) := db_of db_74 43 rfl
theorem dX8_above_86 : decode cX8_above 86 = .ok (.ireturn, 1) := db_of db_74 44 rfl
set_option maxRecDepth 100000 in
theorem db_75 : ([(0, .aload_n 0, 1), (1, .iload_n 1, 1), (2, .iload_n 2, 1), (3, .invokevirtual 122, 3), (6, .ifCond .eq 7, 3), (9, .iload_n 3, 1), (10, .ifCond .ge 5, 3), (13, .iconst (-1), 1), (14, .ireturn, 1), (15, .iload_n 3, 1), (16, .iload_n 2, 1), (17, .iload_n 1, 1), (18, .isub, 1), (19, .if_icmp .le 6, 3), (22, .bipush (-2), 2), (24, .ireturn, 1), (25, .aload_n 0, 1), (26, .getfield 41, 3), (29, .aload_n 0, 1), (30, .getfield 9, 3), (33, .iload_n 1, 1), (34, .iload_n 2, 1), (35, .invokevirtual 164, 3), (38, .iconst 0, 1), (39, .istore 4, 2), (41, .iconst 0, 1), (42, .istore 5, 2), (44, .iconst 0, 1), (45, .istore 6, 2), (47, .iload 6, 2), (49, .iload_n 3, 1), (50, .if_icmp .ge 43, 3), (53, .iload 4, 2), (55, .aload_n 0, 1), (56, .getfield 41, 3), (59, .iload 6, 2), (61, .invokevirtual 168, 3), (64, .iadd, 1), (65, .istore 4, 2), (67, .iload 5, 2), (69, .aload_n 0, 1), (70, .getfield 41, 3), (73, .iload_n 2, 1), (74, .iload_n 1, 1), (75, .isub, 1), (76, .iconst 1, 1), (77, .isub, 1), (78, .iload 6, 2), (80, .isub, 1), (81, .invokevirtual 168, 3)] : List (Nat × Instr × Nat)).all (fun r => decide (decode cX8_sums r.1 = .ok r.2)) = true := by decide +kernel
theorem dX8_sums_0 : decode cX8_sums 0 = .ok (.aload_n 0, 1) := db_of db_75 0 rfl
theorem dX8_sums_1 : decode cX8_sums 1 = .ok (.iload_n 1, 1) := db_of db_75 1 rfl
theorem dX8_sums_2 : decode cX8_sums 2 = .ok (.iload_n 2, 1) := db_of db_75 2 rfl
theorem dX8_sums_3 : decode cX8_sums 3 = .ok (.invokevirtual 122, 3) := db_of db_75 3 rfl
theorem dX8_sums_6 : decode cX8_sums 6 = .ok (.ifCond .eq 7, 3) := db_of db_75 4 rfl
theorem dX8_sums_9 : decode cX8_sums 9 = .ok (.iload_n 3, 1) := db_of db_75 5 rfl
theorem dX8_sums_10 : decode cX8_sums 10 = .ok (.ifCond .ge 5, 3) := db_of db_75 6 rfl
theorem dX8_sums_13 : decode cX8_sums 13 = .ok (.iconst (-1), 1) := db_of db_75 7 rfl
theorem dX8_sums_14 : decode cX8_sums 14 = .ok (.ireturn, 1) := db_of db_75 8 rfl
theorem dX8_sums_15 : decode cX8_sums 15 = .ok (.iload_n 3, 1) := db_of db_75 9 rfl
theorem dX8_sums_16 : decode cX8_sums 16 = .ok (.iload_n 2, 1) := db_of db_75 10 rfl
theorem dX8_sums_17 : decode cX8_sums 17 = .ok (.iload_n 1, 1) := db_of db_75 11 rfl
theorem dX8_sums_18 : decode cX8_sums 18 = .ok (.isub, 1) := db_of db_75 12 rfl
theorem dX8_sums_19 : decode cX8_sums 19 = .ok (.if_icmp .le 6, 3) := db_of db_75 13 rfl
theorem dX8_sums_22 : decode cX8_sums 22 = .ok (.bipush (-2), 2) := db_of db_75 14 rfl
theorem dX8_sums_24 : decode cX8_sums 24 = .ok (.ireturn, 1) := db_of db_75 15 rfl
theorem dX8_sums_25 : decode cX8_sums 25 = .ok (.aload_n 0, 1) := db_of db_75 16 rfl
theorem dX8_sums_26 : decode cX8_sums 26 = .ok (.getfield 41, 3) := db_of db_75 17 rfl
theorem dX8_sums_29 : decode cX8_sums 29 = .ok (.aload_n 0, 1) := db_of db_75 18 rfl
theorem dX8_sums_30 : decode cX8_sums 30 = .ok (.getfield 9, 3) := db_of db_75 19 rfl
theorem dX8_sums_33 : decode cX8_sums 33 = .ok (.iload_n 1, 1) := db_of db_75 20 rfl
theorem dX8_sums_34 : decode cX8_sums 34 = .ok (.iload_n 2, 1) := db_of db_75 21 rfl
theorem dX8_sums_35 : decode cX8_sums 35 = .ok (.invokevirtual 164, 3) := db_of db_75 22 rfl
theorem dX8_sums_38 : decode cX8_sums 38 = .ok (.iconst 0, 1) := db_of db_75 23 rfl
theorem dX8_sums_39 : decode cX8_sums 39 = .ok (.istore 4, 2) := db_of db_75 24 rfl
theorem dX8_sums_41 : decode cX8_sums 41 = .ok (.iconst 0, 1) := db_of db_75 25 rfl
theorem dX8_sums_42 : decode cX8_sums 42 = .ok (.istore 5, 2) := db_of db_75 26 rfl
theorem dX8_sums_44 : decode cX8_sums 44 = .ok (.iconst 0, 1) := db_of db_75 27 rfl
theorem dX8_sums_45 : decode cX8_sums 45 = .ok (.istore 6, 2) := db_of db_75 28 rfl
theorem dX8_sums_47 : decode cX8_sums 47 = .ok (.iload 6, 2) := db_of db_75 29 rfl
theorem dX8_sums_49 : decode cX8_sums 49 = .ok (.iload_n 3, 1) := db_of db_75 30 rfl
theorem dX8_sums_50 : decode cX8_sums 50 = .ok (.if_icmp .ge 43, 3) := db_of db_75 31 rfl
theorem dX8_sums_53 : decode cX8_sums 53 = .ok (.iload 4, 2) := db_of db_75 32 rfl
theorem dX8_sums_55 : decode cX8_sums 55 = .ok (.aload_n 0, 1) := db_of db_75 33 rfl
theorem dX8_sums_56 : decode cX8_sums 56 = .ok (.getfield 41, 3) := db_of db_75 34 rfl
theorem dX8_sums_59 : decode cX8_sums 59 = .ok (.iload 6, 2) := db_of db_75 35 rfl
theorem dX8_sums_61 : decode cX8_sums 61 = .ok (.invokevirtual 168, 3) := db_of db_75 36 rfl
theorem dX8_sums_64 : decode cX8_sums 64 = .ok (.iadd, 1) := db_of db_75 37 rfl
theorem dX8_sums_65 : decode cX8_sums 65 = .ok (.istore 4, 2) := db_of db_75 38 rfl
theorem dX8_sums_67 : decode cX8_sums 67 = .ok (.iload 5, 2) := db_of db_75 39 rfl
theorem dX8_sums_69 : decode cX8_sums 69 = .ok (.aload_n 0, 1) := db_of db_75 40 rfl
theorem dX8_sums_70 : decode cX8_sums 70 = .ok (.getfield 41, 3) := db_of db_75 41 rfl
theorem dX8_sums_73 : decode cX8_sums 73 = .ok (.iload_n 2, 1) := db_of db_75 42 rfl
theorem dX8_sums_74 : decode cX8_sums 74 = .ok (.iload_n 1, 1) := db_of db_75 43 rfl
theorem dX8_sums_75 : decode cX8_sums 75 = .ok (.isub, 1) := db_of db_75 44 rfl
theorem dX8_sums_76 : decode cX8_sums 76 = .ok (.iconst 1, 1) := db_of db_75 45 rfl
theorem dX8_sums_77 : decode cX8_sums 77 = .ok (.isub, 1) := db_of db_75 46 rfl
theorem dX8_sums_78 : decode cX8_sums 78 = .ok (.iload 6, 2) := db_of db_75 47 rfl
theorem dX8_sums_80 : decode cX8_sums 80 = .ok (.isub, 1) := db_of db_75 48 rfl
theorem dX8_sums_81 : decode cX8_sums 81 = .ok (.invokevirtual 168, 3) := db_of db_75 49 rfl
set_option maxRecDepth 100000 in
theorem db_76 : ([(84, .iadd, 1), (85, .istore 5, 2), (87, .iinc 6 1, 3), (90, .goto (-43), 3), (93, .aload_n 0, 1), (94, .iload 5, 2), (96, .i2l, 1), (97, .invokevirtual 114, 3), (100, .iload 4, 2), (102, .ireturn, 1)] : List (Nat × Instr × Nat)).all (fun r => decide (decode cX8_sums r.1 = .ok r.2)) = true := by decide +kernel
theorem dX8_sums_84 : decode cX8_sums 84 = .ok (.iadd, 1) := db_of db_76 0 rfl
theorem dX8_sums_85 : decode cX8_sums 85 = .ok (.istore 5, 2) := db_of db_76 1 rfl
theorem dX8_sums_87 : decode cX8_sums 87 = .ok (.iinc 6 1, 3) := db_of db_76 2 rfl
theorem dX8_sums_90 : decode cX8_sums 90 = .ok (.goto (-43), 3) := db_of db_76 3 rfl
theorem dX8_sums_93 : decode cX8_sums 93 = .ok (.aload_n 0, 1) := db_of db_76 4 rfl
theorem dX8_sums_94 : decode cX8_sums 94 = .ok (.iload 5, 2) := db_of db_76 5 rfl
theorem dX8_sums_96 : decode cX8_sums 96 = .ok (.i2l, 1) := db_of db_76 6 rfl
theorem dX8_sums_97 : decode cX8_sums 97 = .ok (.invokevirtual 114, 3) := db_of db_76 7 rfl
theorem dX8_sums_100 : decode cX8_sums 100 = .ok (.iload 4, 2) := db_of db_76 8 rfl
theorem dX8_sums_102 : decode cX8_sums 102 = .ok (.ireturn, 1) := db_of db_76 9 rfl
set_option maxRecDepth 100000 in
theorem db_77 : ([(0, .aload_n 0, 1), (1, .iload_n 1, 1), (2, .iload_n 2, 1), (3, .invokevirtual 122, 3), (6, .ifCond .eq 10, 3), (9, .iload_n 3, 1), (10, .invokestatic 185, 3), (13, .ifCond .ne 5, 3), (16, .iconst (-1), 1), (17, .ireturn, 1), (18, .aload_n 0, 1), (19, .getfield 41, 3), (22, .aload_n 0, 1), (23, .getfield 9, 3), (26, .iload_n 1, 1), (27, .iload_n 2, 1), (28, .invokevirtual 164, 3), (31, .aload_n 0, 1), (32, .aload_n 0, 1), (33, .getfield 41, 3), (36, .iload_n 3, 1), (37, .invokevirtual 188, 3), (40, .i2l, 1), (41, .invokevirtual 114, 3), (44, .iconst 0, 1), (45, .istore 4, 2), (47, .iconst 0, 1), (48, .istore 5, 2), (50, .iload 5, 2), (52, .sipush 255, 3), (55, .if_icmp .gt 59, 3), (58, .aload_n 0, 1), (59, .getfield 41, 3), (62, .iload 5, 2), (64, .invokevirtual 172, 3), (67, .iload_n 3, 1), (68, .if_icmp .lt 40, 3), (71, .iload 4, 2), (73, .bipush 16, 2), (75, .if_icmp .ge 30, 3), (78, .aload_n 0, 1), (79, .getfield 34, 3), (82, .iload 5, 2), (84, .i2l, 1), (85, .invokevirtual 155, 3), (88, .aload_n 0, 1), (89, .getfield 34, 3), (92, .aload_n 0, 1), (93, .getfield 41, 3), (96, .iload 5, 2)] : List (Nat × Instr × Nat)).all (fun r => decide (decode cX8_often r.1 = .ok r.2)) = true := by decide +kernel
theorem dX8_often_0 : decode cX8_often 0 = .ok (.aload_n 0, 1) := db_of db_77 0 rfl
theorem dX8_often_1 : decode cX8_often 1 = .ok (.iload_n 1, 1) := db_of db_77 1 rfl
theorem dX8_often_2 : decode cX8_often 2 = .ok (.iload_n 2, 1) := db_of db_77 2 rfl
theorem dX8_often_3 : decode cX8_often 3 = .ok (.invokevirtual 122, 3) := db_of db_77 3 rfl
theorem dX8_often_6 : decode cX8_often 6 = .ok (.ifCond .eq 10, 3) := db_of db_77 4 rfl
theorem dX8_often_9 : decode cX8_often 9 = .ok (.iload_n 3, 1) := db_of db_77 5 rfl
theorem dX8_often_10 : decode cX8_often 10 = .ok (.invokestatic 185, 3) := db_of db_77 6 rfl
theorem dX8_often_13 : decode cX8_often 13 = .ok (.ifCond .ne 5, 3) := db_of db_77 7 rfl
theorem dX8_often_16 : decode cX8_often 16 = .ok (.iconst (-1), 1) := db_of db_77 8 rfl
theorem dX8_often_17 : decode cX8_often 17 = .ok (.ireturn, 1) := db_of db_77 9 rfl
theorem dX8_often_18 : decode cX8_often 18 = .ok (.aload_n 0, 1) := db_of db_77 10 rfl
theorem dX8_often_19 : decode cX8_often 19 = .ok (.getfield 41, 3) := db_of db_77 11 rfl
theorem dX8_often_22 : decode cX8_often 22 = .ok (.aload_n 0, 1) := db_of db_77 12 rfl
theorem dX8_often_23 : decode cX8_often 23 = .ok (.getfield 9, 3) := db_of db_77 13 rfl
theorem dX8_often_26 : decode cX8_often 26 = .ok (.iload_n 1, 1) := db_of db_77 14 rfl
theorem dX8_often_27 : decode cX8_often 27 = .ok (.iload_n 2, 1) := db_of db_77 15 rfl
theorem dX8_often_28 : decode cX8_often 28 = .ok (.invokevirtual 164, 3) := db_of db_77 16 rfl
theorem dX8_often_31 : decode cX8_often 31 = .ok (.aload_n 0, 1) := db_of db_77 17 rfl
theorem dX8_often_32 : decode cX8_often 32 = .ok (.aload_n 0, 1) := db_of db_77 18 rfl
theorem dX8_often_33 : decode cX8_often 33 = .ok (.getfield 41, 3) := db_of db_77 19 rfl
theorem dX8_often_36 : decode cX8_often 36 = .ok (.iload_n 3, 1) := db_of db_77 20 rfl
theorem dX8_often_37 : decode cX8_often 37 = .ok (.invokevirtual 188, 3) := db_of db_77 21 rfl
theorem dX8_often_40 : decode cX8_often 40 = .ok (.i2l, 1) := db_of db_77 22 rfl
theorem dX8_often_41 : decode cX8_often 41 = .ok (.invokevirtual 114, 3) := db_of db_77 23 rfl
theorem dX8_often_44 : decode cX8_often 44 = .ok (.iconst 0, 1) := db_of db_77 24 rfl
theorem dX8_often_45 : decode cX8_often 45 = .ok (.istore 4, 2) := db_of db_77 25 rfl
theorem dX8_often_47 : decode cX8_often 47 = .ok (.iconst 0, 1) := db_of db_77 26 rfl
theorem dX8_often_48 : decode cX8_often 48 = .ok (.istore 5, 2) := db_of db_77 27 rfl
theorem dX8_often_50 : decode cX8_often 50 = .ok (.iload 5, 2) := db_of db_77 28 rfl
theorem dX8_often_52 : decode cX8_often 52 = .ok (.sipush 255, 3) := db_of db_77 29 rfl
theorem dX8_often_55 : decode cX8_often 55 = .ok (.if_icmp .gt 59, 3) := db_of db_77 30 rfl
theorem dX8_often_58 : decode cX8_often 58 = .ok (.aload_n 0, 1) := db_of db_77 31 rfl
theorem dX8_often_59 : decode cX8_often 59 = .ok (.getfield 41, 3) := db_of db_77 32 rfl
theorem dX8_often_62 : decode cX8_often 62 = .ok (.iload 5, 2) := db_of db_77 33 rfl
theorem dX8_often_64 : decode cX8_often 64 = .ok (.invokevirtual 172, 3) := db_of db_77 34 rfl
theorem dX8_often_67 : decode cX8_often 67 = .ok (.iload_n 3, 1) := db_of db_77 35 rfl
theorem dX8_often_68 : decode cX8_often 68 = .ok (.if_icmp .lt 40, 3) := db_of db_77 36 rfl
theorem dX8_often_71 : decode cX8_often 71 = .ok (.iload 4, 2) := db_of db_77 37 rfl
theorem dX8_often_73 : decode cX8_often 73 = .ok (.bipush 16, 2) := db_of db_77 38 rfl
theorem dX8_often_75 : decode cX8_often 75 = .ok (.if_icmp .ge 30, 3) := db_of db_77 39 rfl
theorem dX8_often_78 : decode cX8_often 78 = .ok (.aload_n 0, 1) := db_of db_77 40 rfl
theorem dX8_often_79 : decode cX8_often 79 = .ok (.getfield 34, 3) := db_of db_77 41 rfl
theorem dX8_often_82 : decode cX8_often 82 = .ok (.iload 5, 2) := db_of db_77 42 rfl
theorem dX8_often_84 : decode cX8_often 84 = .ok (.i2l, 1) := db_of db_77 43 rfl
theorem dX8_often_85 : decode cX8_often 85 = .ok (.invokevirtual 155, 3) := db_of db_77 44 rfl
theorem dX8_often_88 : decode cX8_often 88 = .ok (.aload_n 0, 1) := db_of db_77 45 rfl
theorem dX8_often_89 : decode cX8_often 89 = .ok (.getfield 34, 3) := db_of db_77 46 rfl
theorem dX8_often_92 : decode cX8_often 92 = .ok (.aload_n 0, 1) := db_of db_77 47 rfl
theorem dX8_often_93 : decode cX8_often 93 = .ok (.getfield 41, 3) := db_of db_77 48 rfl
theorem dX8_often_96 : decode cX8_often 96 = .ok (.iload 5, 2) := db_of db_77 49 rfl
set_option maxRecDepth 100000 in
theorem db_78 : ([(98, .invokevirtual 172, 3), (101, .i2l, 1), (102, .invokevirtual 155, 3), (105, .iinc 4 1, 3), (108, .iinc 5 1, 3), (111, .goto (-61), 3), (114, .iload 4, 2), (116, .ireturn, 1)] : List (Nat × Instr × Nat)).all (fun r => decide (decode cX8_often r.1 = .ok r.2)) = true := by decide +kernel
theorem dX8_often_98 : decode cX8_often 98 = .ok (.invokevirtual 172, 3) := db_of db_78 0 rfl
theorem dX8_often_101 : decode cX8_often 101 = .ok (.i2l, 1) := db_of db_78 1 rfl
theorem dX8_often_102 : decode cX8_often 102 = .ok (.invokevirtual 155, 3) := db_of db_78 2 rfl
theorem dX8_often_105 : decode cX8_often 105 = .ok (.iinc 4 1, 3) := db_of db_78 3 rfl
theorem dX8_often_108 : decode cX8_often 108 = .ok (.iinc 5 1, 3) := db_of db_78 4 rfl
theorem dX8_often_111 : decode cX8_often 111 = .ok (.goto (-61), 3) := db_of db_78 5 rfl
theorem dX8_often_114 : decode cX8_often 114 = .ok (.iload 4, 2) := db_of db_78 6 rfl
theorem dX8_often_116 : decode cX8_often 116 = .ok (.ireturn, 1) := db_of db_78 7 rfl
set_option maxRecDepth 100000 in
theorem db_79 : ([(0, .aload_n 0, 1), (1, .iload_n 1, 1), (2, .iload_n 2, 1), (3, .invokevirtual 122, 3), (6, .ifCond .ne 5, 3), (9, .iconst (-1), 1), (10, .ireturn, 1), (11, .iload_n 1, 1), (12, .iload_n 2, 1), (13, .if_icmp .ne 6, 3), (16, .bipush (-2), 2), (18, .ireturn, 1), (19, .aload_n 0, 1), (20, .getfield 41, 3), (23, .aload_n 0, 1), (24, .getfield 9, 3), (27, .iload_n 1, 1), (28, .iload_n 2, 1), (29, .invokevirtual 164, 3), (32, .iconst 0, 1), (33, .istore_n 3, 1), (34, .iconst 1, 1), (35, .istore 4, 2), (37, .iload 4, 2), (39, .sipush 255, 3), (42, .if_icmp .gt 32, 3), (45, .aload_n 0, 1), (46, .getfield 41, 3), (49, .iload 4, 2), (51, .invokevirtual 172, 3), (54, .aload_n 0, 1), (55, .getfield 41, 3), (58, .iload_n 3, 1), (59, .invokevirtual 172, 3), (62, .if_icmp .le 6, 3), (65, .iload 4, 2), (67, .istore_n 3, 1), (68, .iinc 4 1, 3), (71, .goto (-34), 3), (74, .aload_n 0, 1), (75, .aload_n 0, 1), (76, .getfield 41, 3), (79, .iload_n 3, 1), (80, .invokevirtual 172, 3), (83, .i2l, 1), (84, .invokevirtual 114, 3), (87, .iload_n 3, 1), (88, .ireturn, 1)] : List (Nat × Instr × Nat)).all (fun r => decide (decode cX8_mode r.1 = .ok r.2)) = true := by decide +kernel
theorem dX8_mode_0 : decode cX8_mode 0 = .ok (.aload_n 0, 1) := db_of db_79 0 rfl
theorem dX8_mode_1 : decode cX8_mode 1 = .ok (.iload_n 1, 1) := db_of db_79 1 rfl
theorem dX8_mode_2 : decode cX8_mode 2 = .ok (.iload_n 2, 1) := db_of db_79 2 rfl
theorem dX8_mode_3 : decode cX8_mode 3 = .ok (.invokevirtual 122, 3) := db_of db_79 3 rfl
theorem dX8_mode_6 : decode cX8_mode 6 = .ok (.ifCond .ne 5, 3) := db_of db_79 4 rfl
theorem dX8_mode_9 : decode cX8_mode 9 = .ok (.iconst (-1), 1) := db_of db_79 5 rfl
theorem dX8_mode_10 : decode cX8_mode 10 = .ok (.ireturn, 1) := db_of db_79 6 rfl
theorem dX8_mode_11 : decode cX8_mode 11 = .ok (.iload_n 1, 1) := db_of db_79 7 rfl
theorem dX8_mode_12 : decode cX8_mode 12 = .ok (.iload_n 2, 1) := db_of db_79 8 rfl
theorem dX8_mode_13 : decode cX8_mode 13 = .ok (.if_icmp .ne 6, 3) := db_of db_79 9 rfl
theorem dX8_mode_16 : decode cX8_mode 16 = .ok (.bipush (-2), 2) := db_of db_79 10 rfl
theorem dX8_mode_18 : decode cX8_mode 18 = .ok (.ireturn, 1) := db_of db_79 11 rfl
theorem dX8_mode_19 : decode cX8_mode 19 = .ok (.aload_n 0, 1) := db_of db_79 12 rfl
theorem dX8_mode_20 : decode cX8_mode 20 = .ok (.getfield 41, 3) := db_of db_79 13 rfl
theorem dX8_mode_23 : decode cX8_mode 23 = .ok (.aload_n 0, 1) := db_of db_79 14 rfl
theorem dX8_mode_24 : decode cX8_mode 24 = .ok (.getfield 9, 3) := db_of db_79 15 rfl
theorem dX8_mode_27 : decode cX8_mode 27 = .ok (.iload_n 1, 1) := db_of db_79 16 rfl
theorem dX8_mode_28 : decode cX8_mode 28 = .ok (.iload_n 2, 1) := db_of db_79 17 rfl
theorem dX8_mode_29 : decode cX8_mode 29 = .ok (.invokevirtual 164, 3) := db_of db_79 18 rfl
theorem dX8_mode_32 : decode cX8_mode 32 = .ok (.iconst 0, 1) := db_of db_79 19 rfl
theorem dX8_mode_33 : decode cX8_mode 33 = .ok (.istore_n 3, 1) := db_of db_79 20 rfl
theorem dX8_mode_34 : decode cX8_mode 34 = .ok (.iconst 1, 1) := db_of db_79 21 rfl
theorem dX8_mode_35 : decode cX8_mode 35 = .ok (.istore 4, 2) := db_of db_79 22 rfl
theorem dX8_mode_37 : decode cX8_mode 37 = .ok (.iload 4, 2) := db_of db_79 23 rfl
theorem dX8_mode_39 : decode cX8_mode 39 = .ok (.sipush 255, 3) := db_of db_79 24 rfl
theorem dX8_mode_42 : decode cX8_mode 42 = .ok (.if_icmp .gt 32, 3) := db_of db_79 25 rfl
theorem dX8_mode_45 : decode cX8_mode 45 = .ok (.aload_n 0, 1) := db_of db_79 26 rfl
theorem dX8_mode_46 : decode cX8_mode 46 = .ok (.getfield 41, 3) := db_of db_79 27 rfl
theorem dX8_mode_49 : decode cX8_mode 49 = .ok (.iload 4, 2) := db_of db_79 28 rfl
theorem dX8_mode_51 : decode cX8_mode 51 = .ok (.invokevirtual 172, 3) := db_of db_79 29 rfl
theorem dX8_mode_54 : decode cX8_mode 54 = .ok (.aload_n 0, 1) := db_of db_79 30 rfl
theorem dX8_mode_55 : decode cX8_mode 55 = .ok (.getfield 41, 3) := db_of db_79 31 rfl
theorem dX8_mode_58 : decode cX8_mode 58 = .ok (.iload_n 3, 1) := db_of db_79 32 rfl
theorem dX8_mode_59 : decode cX8_mode 59 = .ok (.invokevirtual 172, 3) := db_of db_79 33 rfl
theorem dX8_mode_62 : decode cX8_mode 62 = .ok (.if_icmp .le 6, 3) := db_of db_79 34 rfl
theorem dX8_mode_65 : decode cX8_mode 65 = .ok (.iload 4, 2) := db_of db_79 35 rfl
theorem dX8_mode_67 : decode cX8_mode 67 = .ok (.istore_n 3, 1) := db_of db_79 36 rfl
theorem dX8_mode_68 : decode cX8_mode 68 = .ok (.iinc 4 1, 3) := db_of db_79 37 rfl
theorem dX8_mode_71 : decode cX8_mode 71 = .ok (.goto (-34), 3) := db_of db_79 38 rfl
theorem dX8_mode_74 : decode cX8_mode 74 = .ok (.aload_n 0, 1) := db_of db_79 39 rfl
theorem dX8_mode_75 : decode cX8_mode 75 = .ok (.aload_n 0, 1) := db_of db_79 40 rfl
theorem dX8_mode_76 : decode cX8_mode 76 = .ok (.getfield 41, 3) := db_of db_79 41 rfl
theorem dX8_mode_79 : decode cX8_mode 79 = .ok (.iload_n 3, 1) := db_of db_79 42 rfl
theorem dX8_mode_80 : decode cX8_mode 80 = .ok (.invokevirtual 172, 3) := db_of db_79 43 rfl
theorem dX8_mode_83 : decode cX8_mode 83 = .ok (.i2l, 1) := db_of db_79 44 rfl
theorem dX8_mode_84 : decode cX8_mode 84 = .ok (.invokevirtual 114, 3) := db_of db_79 45 rfl
theorem dX8_mode_87 : decode cX8_mode 87 = .ok (.iload_n 3, 1) := db_of db_79 46 rfl
theorem dX8_mode_88 : decode cX8_mode 88 = .ok (.ireturn, 1) := db_of db_79 47 rfl
set_option maxRecDepth 100000 in
theorem db_80 : ([(0, .aload_n 0, 1), (1, .iload_n 1, 1), (2, .iload_n 2, 1), (3, .invokevirtual 122, 3), (6, .ifCond .eq 15, 3), (9, .iload_n 3, 1), (10, .invokestatic 108, 3), (13, .ifCond .eq 8, 3), (16, .iload 4, 2), (18, .ifCond .ge 5, 3), (21, .iconst (-1), 1), (22, .ireturn, 1), (23, .aload_n 0, 1), (24, .getfield 41, 3), (27, .aload_n 0, 1), (28, .getfield 9, 3), (31, .iload_n 1, 1), (32, .iload_n 2, 1), (33, .invokevirtual 164, 3), (36, .iconst 0, 1), (37, .istore 5, 2), (39, .iconst 0, 1), (40, .istore 6, 2), (42, .iload 6, 2), (44, .sipush 255, 3), (47, .if_icmp .gt 44, 3), (50, .iload 5, 2), (52, .aload_n 0, 1), (53, .getfield 41, 3), (56, .iload 6, 2), (58, .iload_n 3, 1), (59, .ixor, 1), (60, .invokevirtual 172, 3), (63, .iadd, 1), (64, .istore 5, 2), (66, .iload 4, 2), (68, .iload 5, 2), (70, .if_icmp .ge 15, 3), (73, .aload_n 0, 1), (74, .iload 6, 2), (76, .iload_n 3, 1), (77, .ixor, 1), (78, .i2l, 1), (79, .invokevirtual 114, 3), (82, .iload 6, 2), (84, .ireturn, 1), (85, .iinc 6 1, 3), (88, .goto (-46), 3), (91, .bipush (-2), 2), (93, .ireturn, 1)] : List (Nat × Instr × Nat)).all (fun r => decide (decode cX8_across r.1 = .ok r.2)) = true := by decide +kernel
theorem dX8_across_0 : decode cX8_across 0 = .ok (.aload_n 0, 1) := db_of db_80 0 rfl
theorem dX8_across_1 : decode cX8_across 1 = .ok (.iload_n 1, 1) := db_of db_80 1 rfl
theorem dX8_across_2 : decode cX8_across 2 = .ok (.iload_n 2, 1) := db_of db_80 2 rfl
theorem dX8_across_3 : decode cX8_across 3 = .ok (.invokevirtual 122, 3) := db_of db_80 3 rfl
theorem dX8_across_6 : decode cX8_across 6 = .ok (.ifCond .eq 15, 3) := db_of db_80 4 rfl
theorem dX8_across_9 : decode cX8_across 9 = .ok (.iload_n 3, 1) := db_of db_80 5 rfl
theorem dX8_across_10 : decode cX8_across 10 = .ok (.invokestatic 108, 3) := db_of db_80 6 rfl
theorem dX8_across_13 : decode cX8_across 13 = .ok (.ifCond .eq 8, 3) := db_of db_80 7 rfl
theorem dX8_across_16 : decode cX8_across 16 = .ok (.iload 4, 2) := db_of db_80 8 rfl
theorem dX8_across_18 : decode cX8_across 18 = .ok (.ifCond .ge 5, 3) := db_of db_80 9 rfl
theorem dX8_across_21 : decode cX8_across 21 = .ok (.iconst (-1), 1) := db_of db_80 10 rfl
theorem dX8_across_22 : decode cX8_across 22 = .ok (.ireturn, 1) := db_of db_80 11 rfl
theorem dX8_across_23 : decode cX8_across 23 = .ok (.aload_n 0, 1) := db_of db_80 12 rfl
theorem dX8_across_24 : decode cX8_across 24 = .ok (.getfield 41, 3) := db_of db_80 13 rfl
theorem dX8_across_27 : decode cX8_across 27 = .ok (.aload_n 0, 1) := db_of db_80 14 rfl
theorem dX8_across_28 : decode cX8_across 28 = .ok (.getfield 9, 3) := db_of db_80 15 rfl
theorem dX8_across_31 : decode cX8_across 31 = .ok (.iload_n 1, 1) := db_of db_80 16 rfl
theorem dX8_across_32 : decode cX8_across 32 = .ok (.iload_n 2, 1) := db_of db_80 17 rfl
theorem dX8_across_33 : decode cX8_across 33 = .ok (.invokevirtual 164, 3) := db_of db_80 18 rfl
theorem dX8_across_36 : decode cX8_across 36 = .ok (.iconst 0, 1) := db_of db_80 19 rfl
theorem dX8_across_37 : decode cX8_across 37 = .ok (.istore 5, 2) := db_of db_80 20 rfl
theorem dX8_across_39 : decode cX8_across 39 = .ok (.iconst 0, 1) := db_of db_80 21 rfl
theorem dX8_across_40 : decode cX8_across 40 = .ok (.istore 6, 2) := db_of db_80 22 rfl
theorem dX8_across_42 : decode cX8_across 42 = .ok (.iload 6, 2) := db_of db_80 23 rfl
theorem dX8_across_44 : decode cX8_across 44 = .ok (.sipush 255, 3) := db_of db_80 24 rfl
theorem dX8_across_47 : decode cX8_across 47 = .ok (.if_icmp .gt 44, 3) := db_of db_80 25 rfl
theorem dX8_across_50 : decode cX8_across 50 = .ok (.iload 5, 2) := db_of db_80 26 rfl
theorem dX8_across_52 : decode cX8_across 52 = .ok (.aload_n 0, 1) := db_of db_80 27 rfl
theorem dX8_across_53 : decode cX8_across 53 = .ok (.getfield 41, 3) := db_of db_80 28 rfl
theorem dX8_across_56 : decode cX8_across 56 = .ok (.iload 6, 2) := db_of db_80 29 rfl
theorem dX8_across_58 : decode cX8_across 58 = .ok (.iload_n 3, 1) := db_of db_80 30 rfl
theorem dX8_across_59 : decode cX8_across 59 = .ok (.ixor, 1) := db_of db_80 31 rfl
theorem dX8_across_60 : decode cX8_across 60 = .ok (.invokevirtual 172, 3) := db_of db_80 32 rfl
theorem dX8_across_63 : decode cX8_across 63 = .ok (.iadd, 1) := db_of db_80 33 rfl
theorem dX8_across_64 : decode cX8_across 64 = .ok (.istore 5, 2) := db_of db_80 34 rfl
theorem dX8_across_66 : decode cX8_across 66 = .ok (.iload 4, 2) := db_of db_80 35 rfl
theorem dX8_across_68 : decode cX8_across 68 = .ok (.iload 5, 2) := db_of db_80 36 rfl
theorem dX8_across_70 : decode cX8_across 70 = .ok (.if_icmp .ge 15, 3) := db_of db_80 37 rfl
theorem dX8_across_73 : decode cX8_across 73 = .ok (.aload_n 0, 1) := db_of db_80 38 rfl
theorem dX8_across_74 : decode cX8_across 74 = .ok (.iload 6, 2) := db_of db_80 39 rfl
theorem dX8_across_76 : decode cX8_across 76 = .ok (.iload_n 3, 1) := db_of db_80 40 rfl
theorem dX8_across_77 : decode cX8_across 77 = .ok (.ixor, 1) := db_of db_80 41 rfl
theorem dX8_across_78 : decode cX8_across 78 = .ok (.i2l, 1) := db_of db_80 42 rfl
theorem dX8_across_79 : decode cX8_across 79 = .ok (.invokevirtual 114, 3) := db_of db_80 43 rfl
theorem dX8_across_82 : decode cX8_across 82 = .ok (.iload 6, 2) := db_of db_80 44 rfl
theorem dX8_across_84 : decode cX8_across 84 = .ok (.ireturn, 1) := db_of db_80 45 rfl
theorem dX8_across_85 : decode cX8_across 85 = .ok (.iinc 6 1, 3) := db_of db_80 46 rfl
theorem dX8_across_88 : decode cX8_across 88 = .ok (.goto (-46), 3) := db_of db_80 47 rfl
theorem dX8_across_91 : decode cX8_across 91 = .ok (.bipush (-2), 2) := db_of db_80 48 rfl
theorem dX8_across_93 : decode cX8_across 93 = .ok (.ireturn, 1) := db_of db_80 49 rfl
set_option maxRecDepth 100000 in
theorem db_81 : ([(0, .aload_n 0, 1), (1, .iload_n 1, 1), (2, .iload_n 2, 1), (3, .invokevirtual 122, 3), (6, .ifCond .ne 5, 3), (9, .iconst (-1), 1), (10, .ireturn, 1), (11, .iconst 0, 1), (12, .istore_n 3, 1), (13, .iconst 0, 1), (14, .istore 4, 2), (16, .iload_n 1, 1), (17, .istore 5, 2), (19, .iload 5, 2), (21, .iload_n 2, 1), (22, .if_icmp .ge 70, 3), (25, .iload 5, 2), (27, .iconst 1, 1), (28, .iadd, 1), (29, .istore 6, 2), (31, .iload 6, 2), (33, .iload_n 2, 1), (34, .if_icmp .ge 52, 3), (37, .aload_n 0, 1), (38, .getfield 9, 3), (41, .iload 5, 2), (43, .iaload, 1), (44, .aload_n 0, 1), (45, .getfield 9, 3), (48, .iload 6, 2), (50, .iaload, 1), (51, .if_icmp .le 9, 3), (54, .iinc 3 1, 3), (57, .goto 23, 3), (60, .aload_n 0, 1), (61, .getfield 9, 3), (64, .iload 5, 2), (66, .iaload, 1), (67, .aload_n 0, 1), (68, .getfield 9, 3), (71, .iload 6, 2), (73, .iaload, 1), (74, .if_icmp .ne 6, 3), (77, .iinc 4 1, 3), (80, .iinc 6 1, 3), (83, .goto (-52), 3), (86, .iinc 5 1, 3), (89, .goto (-70), 3), (92, .aload_n 0, 1), (93, .iload 4, 2)] : List (Nat × Instr × Nat)).all (fun r => decide (decode cX8_turned r.1 = .ok r.2)) = true := by decide +kernel
theorem dX8_turned_0 : decode cX8_turned 0 = .ok (.aload_n 0, 1) := db_of db_81 0 rfl
theorem dX8_turned_1 : decode cX8_turned 1 = .ok (.iload_n 1, 1) := db_of db_81 1 rfl
theorem dX8_turned_2 : decode cX8_turned 2 = .ok (.iload_n 2, 1) := db_of db_81 2 rfl
theorem dX8_turned_3 : decode cX8_turned 3 = .ok (.invokevirtual 122, 3) := db_of db_81 3 rfl
theorem dX8_turned_6 : decode cX8_turned 6 = .ok (.ifCond .ne 5, 3) := db_of db_81 4 rfl
theorem dX8_turned_9 : decode cX8_turned 9 = .ok (.iconst (-1), 1) := db_of db_81 5 rfl
theorem dX8_turned_10 : decode cX8_turned 10 = .ok (.ireturn, 1) := db_of db_81 6 rfl
theorem dX8_turned_11 : decode cX8_turned 11 = .ok (.iconst 0, 1) := db_of db_81 7 rfl
theorem dX8_turned_12 : decode cX8_turned 12 = .ok (.istore_n 3, 1) := db_of db_81 8 rfl
theorem dX8_turned_13 : decode cX8_turned 13 = .ok (.iconst 0, 1) := db_of db_81 9 rfl
theorem dX8_turned_14 : decode cX8_turned 14 = .ok (.istore 4, 2) := db_of db_81 10 rfl
theorem dX8_turned_16 : decode cX8_turned 16 = .ok (.iload_n 1, 1) := db_of db_81 11 rfl
theorem dX8_turned_17 : decode cX8_turned 17 = .ok (.istore 5, 2) := db_of db_81 12 rfl
theorem dX8_turned_19 : decode cX8_turned 19 = .ok (.iload 5, 2) := db_of db_81 13 rfl
theorem dX8_turned_21 : decode cX8_turned 21 = .ok (.iload_n 2, 1) := db_of db_81 14 rfl
theorem dX8_turned_22 : decode cX8_turned 22 = .ok (.if_icmp .ge 70, 3) := db_of db_81 15 rfl
theorem dX8_turned_25 : decode cX8_turned 25 = .ok (.iload 5, 2) := db_of db_81 16 rfl
theorem dX8_turned_27 : decode cX8_turned 27 = .ok (.iconst 1, 1) := db_of db_81 17 rfl
theorem dX8_turned_28 : decode cX8_turned 28 = .ok (.iadd, 1) := db_of db_81 18 rfl
theorem dX8_turned_29 : decode cX8_turned 29 = .ok (.istore 6, 2) := db_of db_81 19 rfl
theorem dX8_turned_31 : decode cX8_turned 31 = .ok (.iload 6, 2) := db_of db_81 20 rfl
theorem dX8_turned_33 : decode cX8_turned 33 = .ok (.iload_n 2, 1) := db_of db_81 21 rfl
theorem dX8_turned_34 : decode cX8_turned 34 = .ok (.if_icmp .ge 52, 3) := db_of db_81 22 rfl
theorem dX8_turned_37 : decode cX8_turned 37 = .ok (.aload_n 0, 1) := db_of db_81 23 rfl
theorem dX8_turned_38 : decode cX8_turned 38 = .ok (.getfield 9, 3) := db_of db_81 24 rfl
theorem dX8_turned_41 : decode cX8_turned 41 = .ok (.iload 5, 2) := db_of db_81 25 rfl
theorem dX8_turned_43 : decode cX8_turned 43 = .ok (.iaload, 1) := db_of db_81 26 rfl
theorem dX8_turned_44 : decode cX8_turned 44 = .ok (.aload_n 0, 1) := db_of db_81 27 rfl
theorem dX8_turned_45 : decode cX8_turned 45 = .ok (.getfield 9, 3) := db_of db_81 28 rfl
theorem dX8_turned_48 : decode cX8_turned 48 = .ok (.iload 6, 2) := db_of db_81 29 rfl
theorem dX8_turned_50 : decode cX8_turned 50 = .ok (.iaload, 1) := db_of db_81 30 rfl
theorem dX8_turned_51 : decode cX8_turned 51 = .ok (.if_icmp .le 9, 3) := db_of db_81 31 rfl
theorem dX8_turned_54 : decode cX8_turned 54 = .ok (.iinc 3 1, 3) := db_of db_81 32 rfl
theorem dX8_turned_57 : decode cX8_turned 57 = .ok (.goto 23, 3) := db_of db_81 33 rfl
theorem dX8_turned_60 : decode cX8_turned 60 = .ok (.aload_n 0, 1) := db_of db_81 34 rfl
theorem dX8_turned_61 : decode cX8_turned 61 = .ok (.getfield 9, 3) := db_of db_81 35 rfl
theorem dX8_turned_64 : decode cX8_turned 64 = .ok (.iload 5, 2) := db_of db_81 36 rfl
theorem dX8_turned_66 : decode cX8_turned 66 = .ok (.iaload, 1) := db_of db_81 37 rfl
theorem dX8_turned_67 : decode cX8_turned 67 = .ok (.aload_n 0, 1) := db_of db_81 38 rfl
theorem dX8_turned_68 : decode cX8_turned 68 = .ok (.getfield 9, 3) := db_of db_81 39 rfl
theorem dX8_turned_71 : decode cX8_turned 71 = .ok (.iload 6, 2) := db_of db_81 40 rfl
theorem dX8_turned_73 : decode cX8_turned 73 = .ok (.iaload, 1) := db_of db_81 41 rfl
theorem dX8_turned_74 : decode cX8_turned 74 = .ok (.if_icmp .ne 6, 3) := db_of db_81 42 rfl
theorem dX8_turned_77 : decode cX8_turned 77 = .ok (.iinc 4 1, 3) := db_of db_81 43 rfl
theorem dX8_turned_80 : decode cX8_turned 80 = .ok (.iinc 6 1, 3) := db_of db_81 44 rfl
theorem dX8_turned_83 : decode cX8_turned 83 = .ok (.goto (-52), 3) := db_of db_81 45 rfl
theorem dX8_turned_86 : decode cX8_turned 86 = .ok (.iinc 5 1, 3) := db_of db_81 46 rfl
theorem dX8_turned_89 : decode cX8_turned 89 = .ok (.goto (-70), 3) := db_of db_81 47 rfl
theorem dX8_turned_92 : decode cX8_turned 92 = .ok (.aload_n 0, 1) := db_of db_81 48 rfl
theorem dX8_turned_93 : decode cX8_turned 93 = .ok (.iload 4, 2) := db_of db_81 49 rfl
set_option maxRecDepth 100000 in
theorem db_82 : ([(95, .i2l, 1), (96, .invokevirtual 114, 3), (99, .iload_n 3, 1), (100, .ireturn, 1)] : List (Nat × Instr × Nat)).all (fun r => decide (decode cX8_turned r.1 = .ok r.2)) = true := by decide +kernel
theorem dX8_turned_95 : decode cX8_turned 95 = .ok (.i2l, 1) := db_of db_82 0 rfl
theorem dX8_turned_96 : decode cX8_turned 96 = .ok (.invokevirtual 114, 3) := db_of db_82 1 rfl
theorem dX8_turned_99 : decode cX8_turned 99 = .ok (.iload_n 3, 1) := db_of db_82 2 rfl
theorem dX8_turned_100 : decode cX8_turned 100 = .ok (.ireturn, 1) := db_of db_82 3 rfl
set_option maxRecDepth 100000 in
theorem db_83 : ([(0, .aload_n 0, 1), (1, .iload_n 1, 1), (2, .iload_n 2, 1), (3, .invokevirtual 122, 3), (6, .ifCond .eq 13, 3), (9, .iload_n 3, 1), (10, .iconst 1, 1), (11, .if_icmp .lt 8, 3), (14, .iload_n 3, 1), (15, .iconst 4, 1), (16, .if_icmp .le 5, 3), (19, .iconst (-1), 1), (20, .ireturn, 1), (21, .aload_n 0, 1), (22, .getfield 41, 3), (25, .aload_n 0, 1), (26, .getfield 9, 3), (29, .iload_n 1, 1), (30, .iload_n 2, 1), (31, .invokevirtual 164, 3), (34, .iconst 0, 1), (35, .istore 4, 2), (37, .aload_n 0, 1), (38, .getfield 34, 3), (41, .invokevirtual 152, 3), (44, .iconst 0, 1), (45, .istore 5, 2), (47, .iload 5, 2), (49, .iconst 1, 1), (50, .iload_n 3, 1), (51, .ishl, 1), (52, .if_icmp .ge 39, 3), (55, .aload_n 0, 1), (56, .getfield 41, 3), (59, .iload_n 3, 1), (60, .iload 5, 2), (62, .invokevirtual 191, 3), (65, .istore 6, 2), (67, .aload_n 0, 1), (68, .getfield 34, 3), (71, .iload 6, 2), (73, .i2l, 1), (74, .invokevirtual 155, 3), (77, .iload 6, 2), (79, .ifCond .le 6, 3), (82, .iinc 4 1, 3), (85, .iinc 5 1, 3), (88, .goto (-41), 3), (91, .iload 4, 2), (93, .ireturn, 1)] : List (Nat × Instr × Nat)).all (fun r => decide (decode cX8_spread r.1 = .ok r.2)) = true := by decide +kernel
theorem dX8_spread_0 : decode cX8_spread 0 = .ok (.aload_n 0, 1) := db_of db_83 0 rfl
theorem dX8_spread_1 : decode cX8_spread 1 = .ok (.iload_n 1, 1) := db_of db_83 1 rfl
theorem dX8_spread_2 : decode cX8_spread 2 = .ok (.iload_n 2, 1) := db_of db_83 2 rfl
theorem dX8_spread_3 : decode cX8_spread 3 = .ok (.invokevirtual 122, 3) := db_of db_83 3 rfl
theorem dX8_spread_6 : decode cX8_spread 6 = .ok (.ifCond .eq 13, 3) := db_of db_83 4 rfl
theorem dX8_spread_9 : decode cX8_spread 9 = .ok (.iload_n 3, 1) := db_of db_83 5 rfl
theorem dX8_spread_10 : decode cX8_spread 10 = .ok (.iconst 1, 1) := db_of db_83 6 rfl
theorem dX8_spread_11 : decode cX8_spread 11 = .ok (.if_icmp .lt 8, 3) := db_of db_83 7 rfl
theorem dX8_spread_14 : decode cX8_spread 14 = .ok (.iload_n 3, 1) := db_of db_83 8 rfl
theorem dX8_spread_15 : decode cX8_spread 15 = .ok (.iconst 4, 1) := db_of db_83 9 rfl
theorem dX8_spread_16 : decode cX8_spread 16 = .ok (.if_icmp .le 5, 3) := db_of db_83 10 rfl
theorem dX8_spread_19 : decode cX8_spread 19 = .ok (.iconst (-1), 1) := db_of db_83 11 rfl
theorem dX8_spread_20 : decode cX8_spread 20 = .ok (.ireturn, 1) := db_of db_83 12 rfl
theorem dX8_spread_21 : decode cX8_spread 21 = .ok (.aload_n 0, 1) := db_of db_83 13 rfl
theorem dX8_spread_22 : decode cX8_spread 22 = .ok (.getfield 41, 3) := db_of db_83 14 rfl
theorem dX8_spread_25 : decode cX8_spread 25 = .ok (.aload_n 0, 1) := db_of db_83 15 rfl
theorem dX8_spread_26 : decode cX8_spread 26 = .ok (.getfield 9, 3) := db_of db_83 16 rfl
theorem dX8_spread_29 : decode cX8_spread 29 = .ok (.iload_n 1, 1) := db_of db_83 17 rfl
theorem dX8_spread_30 : decode cX8_spread 30 = .ok (.iload_n 2, 1) := db_of db_83 18 rfl
theorem dX8_spread_31 : decode cX8_spread 31 = .ok (.invokevirtual 164, 3) := db_of db_83 19 rfl
theorem dX8_spread_34 : decode cX8_spread 34 = .ok (.iconst 0, 1) := db_of db_83 20 rfl
theorem dX8_spread_35 : decode cX8_spread 35 = .ok (.istore 4, 2) := db_of db_83 21 rfl
theorem dX8_spread_37 : decode cX8_spread 37 = .ok (.aload_n 0, 1) := db_of db_83 22 rfl
theorem dX8_spread_38 : decode cX8_spread 38 = .ok (.getfield 34, 3) := db_of db_83 23 rfl
theorem dX8_spread_41 : decode cX8_spread 41 = .ok (.invokevirtual 152, 3) := db_of db_83 24 rfl
theorem dX8_spread_44 : decode cX8_spread 44 = .ok (.iconst 0, 1) := db_of db_83 25 rfl
theorem dX8_spread_45 : decode cX8_spread 45 = .ok (.istore 5, 2) := db_of db_83 26 rfl
theorem dX8_spread_47 : decode cX8_spread 47 = .ok (.iload 5, 2) := db_of db_83 27 rfl
theorem dX8_spread_49 : decode cX8_spread 49 = .ok (.iconst 1, 1) := db_of db_83 28 rfl
theorem dX8_spread_50 : decode cX8_spread 50 = .ok (.iload_n 3, 1) := db_of db_83 29 rfl
theorem dX8_spread_51 : decode cX8_spread 51 = .ok (.ishl, 1) := db_of db_83 30 rfl
theorem dX8_spread_52 : decode cX8_spread 52 = .ok (.if_icmp .ge 39, 3) := db_of db_83 31 rfl
theorem dX8_spread_55 : decode cX8_spread 55 = .ok (.aload_n 0, 1) := db_of db_83 32 rfl
theorem dX8_spread_56 : decode cX8_spread 56 = .ok (.getfield 41, 3) := db_of db_83 33 rfl
theorem dX8_spread_59 : decode cX8_spread 59 = .ok (.iload_n 3, 1) := db_of db_83 34 rfl
theorem dX8_spread_60 : decode cX8_spread 60 = .ok (.iload 5, 2) := db_of db_83 35 rfl
theorem dX8_spread_62 : decode cX8_spread 62 = .ok (.invokevirtual 191, 3) := db_of db_83 36 rfl
theorem dX8_spread_65 : decode cX8_spread 65 = .ok (.istore 6, 2) := db_of db_83 37 rfl
theorem dX8_spread_67 : decode cX8_spread 67 = .ok (.aload_n 0, 1) := db_of db_83 38 rfl
theorem dX8_spread_68 : decode cX8_spread 68 = .ok (.getfield 34, 3) := db_of db_83 39 rfl
theorem dX8_spread_71 : decode cX8_spread 71 = .ok (.iload 6, 2) := db_of db_83 40 rfl
theorem dX8_spread_73 : decode cX8_spread 73 = .ok (.i2l, 1) := db_of db_83 41 rfl
theorem dX8_spread_74 : decode cX8_spread 74 = .ok (.invokevirtual 155, 3) := db_of db_83 42 rfl
theorem dX8_spread_77 : decode cX8_spread 77 = .ok (.iload 6, 2) := db_of db_83 43 rfl
theorem dX8_spread_79 : decode cX8_spread 79 = .ok (.ifCond .le 6, 3) := db_of db_83 44 rfl
theorem dX8_spread_82 : decode cX8_spread 82 = .ok (.iinc 4 1, 3) := db_of db_83 45 rfl
theorem dX8_spread_85 : decode cX8_spread 85 = .ok (.iinc 5 1, 3) := db_of db_83 46 rfl
theorem dX8_spread_88 : decode cX8_spread 88 = .ok (.goto (-41), 3) := db_of db_83 47 rfl
theorem dX8_spread_91 : decode cX8_spread 91 = .ok (.iload 4, 2) := db_of db_83 48 rfl
theorem dX8_spread_93 : decode cX8_spread 93 = .ok (.ireturn, 1) := db_of db_83 49 rfl
set_option maxRecDepth 100000 in
theorem db_84 : ([(0, .aload_n 0, 1), (1, .iload_n 1, 1), (2, .iload_n 2, 1), (3, .invokevirtual 122, 3), (6, .ifCond .ne 5, 3), (9, .iconst (-1), 1), (10, .ireturn, 1), (11, .iload_n 2, 1), (12, .iload_n 1, 1), (13, .isub, 1), (14, .iconst 2, 1)] : List (Nat × Instr × Nat)).all (fun r => decide (decode cX8_nearest r.1 = .ok r.2)) = true := by decide +kernel
theorem dX8_nearest_0 : decode cX8_nearest 0 = .ok (.aload_n 0, 1) := db_of db_84 0 rfl
theorem dX8_nearest_1 : decode cX8_nearest 1 = .ok (.iload_n 1, 1) := db_of db_84 1 rfl
theorem dX8_nearest_2 : decode cX8_nearest 2 = .ok (.iload_n 2, 1) := db_of db_84 2 rfl
theorem dX8_nearest_3 : decode cX8_nearest 3 = .ok (.invokevirtual 122, 3) := db_of db_84 3 rfl
theorem dX8_nearest_6 : decode cX8_nearest 6 = .ok (.ifCond .ne 5, 3) := db_of db_84 4 rfl
theorem dX8_nearest_9 : decode cX8_nearest 9 = .ok (.iconst (-1), 1) := db_of db_84 5 rfl
theorem dX8_nearest_10 : decode cX8_nearest 10 = .ok (.ireturn, 1) := db_of db_84 6 rfl
theorem dX8_nearest_11 : decode cX8_nearest 11 = .ok (.iload_n 2, 1) := db_of db_84 7 rfl
theorem dX8_nearest_12 : decode cX8_nearest 12 = .ok (.iload_n 1, 1) := db_of db_84 8 rfl
theorem dX8_nearest_13 : decode cX8_nearest 13 = .ok (.isub, 1) := db_of db_84 9 rfl
theorem dX8_nearest_14 : decode cX8_nearest 14 = .ok (.iconst 2, 1) := db_of db_84 10 rfl
