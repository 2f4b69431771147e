theorem dX0_init_0 : decode cX0_init 0 = .ok (.aload_n 0, 1) := by decide +kernel
theorem dX0_init_1 : decode cX0_init 1 = .ok (.invokespecial 3, 3) := by decide +kernel
theorem dX0_init_4 : decode cX0_init 4 = .ok (.aload_n 0, 1) := by decide +kernel
theorem dX0_init_5 : decode cX0_init 5 = .ok (.bipush 64, 2) := by decide +kernel
theorem dX0_init_7 : decode cX0_init 7 = .ok (.newarray .int, 2) := by decide +kernel
theorem dX0_init_9 : decode cX0_init 9 = .ok (.putfield 9, 3) := by decide +kernel
theorem dX0_init_12 : decode cX0_init 12 = .ok (.aload_n 0, 1) := by decide +kernel
theorem dX0_init_13 : decode cX0_init 13 = .ok (.bipush 64, 2) := by decide +kernel
theorem dX0_init_15 : decode cX0_init 15 = .ok (.newarray .long, 2) := by decide +kernel
theorem dX0_init_17 : decode cX0_init 17 = .ok (.putfield 15, 3) := by decide +kernel
theorem dX0_init_20 : decode cX0_init 20 = .ok (.aload_n 0, 1) := by decide +kernel
theorem dX0_init_21 : decode cX0_init 21 = .ok (.iconst 0, 1) := by decide +kernel
theorem dX0_init_22 : decode cX0_init 22 = .ok (.putfield 19, 3) := by decide +kernel
theorem dX0_init_25 : decode cX0_init 25 = .ok (.return_, 1) := by decide +kernel
theorem dX0_take_0 : decode cX0_take 0 = .ok (.aload_n 0, 1) := by decide +kernel
theorem dX0_take_1 : decode cX0_take 1 = .ok (.iconst 0, 1) := by decide +kernel
theorem dX0_take_2 : decode cX0_take 2 = .ok (.putfield 19, 3) := by decide +kernel
theorem dX0_take_5 : decode cX0_take 5 = .ok (.iload_n 2, 1) := by decide +kernel
theorem dX0_take_6 : decode cX0_take 6 = .ok (.istore 4, 2) := by decide +kernel
theorem dX0_take_8 : decode cX0_take 8 = .ok (.iload 4, 2) := by decide +kernel
theorem dX0_take_10 : decode cX0_take 10 = .ok (.iload_n 3, 1) := by decide +kernel
theorem dX0_take_11 : decode cX0_take 11 = .ok (.if_icmp .ge 78, 3) := by decide +kernel
theorem dX0_take_14 : decode cX0_take 14 = .ok (.aload_n 0, 1) := by decide +kernel
theorem dX0_take_15 : decode cX0_take 15 = .ok (.getfield 9, 3) := by decide +kernel
theorem dX0_take_18 : decode cX0_take 18 = .ok (.iload 4, 2) := by decide +kernel
theorem dX0_take_20 : decode cX0_take 20 = .ok (.iconst 1, 1) := by decide +kernel
theorem dX0_take_21 : decode cX0_take 21 = .ok (.iastore, 1) := by decide +kernel
theorem dX0_take_22 : decode cX0_take 22 = .ok (.aload_n 0, 1) := by decide +kernel
theorem dX0_take_23 : decode cX0_take 23 = .ok (.getfield 15, 3) := by decide +kernel
theorem dX0_take_26 : decode cX0_take 26 = .ok (.iload 4, 2) := by decide +kernel
theorem dX0_take_28 : decode cX0_take 28 = .ok (.lconst 1, 1) := by decide +kernel
theorem dX0_take_29 : decode cX0_take 29 = .ok (.lastore, 1) := by decide +kernel
theorem dX0_take_30 : decode cX0_take 30 = .ok (.iload_n 2, 1) := by decide +kernel
theorem dX0_take_31 : decode cX0_take 31 = .ok (.istore 5, 2) := by decide +kernel
theorem dX0_take_33 : decode cX0_take 33 = .ok (.iload 5, 2) := by decide +kernel
theorem dX0_take_35 : decode cX0_take 35 = .ok (.iload 4, 2) := by decide +kernel
theorem dX0_take_37 : decode cX0_take 37 = .ok (.if_icmp .ge 28, 3) := by decide +kernel
theorem dX0_take_40 : decode cX0_take 40 = .ok (.aload_n 1, 1) := by decide +kernel
theorem dX0_take_41 : decode cX0_take 41 = .ok (.iload 5, 2) := by decide +kernel
theorem dX0_take_43 : decode cX0_take 43 = .ok (.iaload, 1) := by decide +kernel
theorem dX0_take_44 : decode cX0_take 44 = .ok (.aload_n 1, 1) := by decide +kernel
theorem dX0_take_45 : decode cX0_take 45 = .ok (.iload 4, 2) := by decide +kernel
theorem dX0_take_47 : decode cX0_take 47 = .ok (.iaload, 1) := by decide +kernel
theorem dX0_take_48 : decode cX0_take 48 = .ok (.if_icmp .ge 11, 3) := by decide +kernel
theorem dX0_take_51 : decode cX0_take 51 = .ok (.aload_n 0, 1) := by decide +kernel
theorem dX0_take_52 : decode cX0_take 52 = .ok (.iload 5, 2) := by decide +kernel
theorem dX0_take_54 : decode cX0_take 54 = .ok (.iload 4, 2) := by decide +kernel
theorem dX0_take_56 : decode cX0_take 56 = .ok (.invokevirtual 23, 3) := by decide +kernel
theorem dX0_take_59 : decode cX0_take 59 = .ok (.iinc 5 1, 3) := by decide +kernel
theorem dX0_take_62 : decode cX0_take 62 = .ok (.goto (-29), 3) := by decide +kernel
theorem dX0_take_65 : decode cX0_take 65 = .ok (.aload_n 0, 1) := by decide +kernel
theorem dX0_take_66 : decode cX0_take 66 = .ok (.aload_n 0, 1) := by decide +kernel
theorem dX0_take_67 : decode cX0_take 67 = .ok (.getfield 19, 3) := by decide +kernel
theorem dX0_take_70 : decode cX0_take 70 = .ok (.aload_n 0, 1) := by decide +kernel
theorem dX0_take_71 : decode cX0_take 71 = .ok (.getfield 9, 3) := by decide +kernel
theorem dX0_take_74 : decode cX0_take 74 = .ok (.iload 4, 2) := by decide +kernel
theorem dX0_take_76 : decode cX0_take 76 = .ok (.iaload, 1) := by decide +kernel
theorem dX0_take_77 : decode cX0_take 77 = .ok (.invokestatic 27, 3) := by decide +kernel
theorem dX0_take_80 : decode cX0_take 80 = .ok (.putfield 19, 3) := by decide +kernel
theorem dX0_take_83 : decode cX0_take 83 = .ok (.iinc 4 1, 3) := by decide +kernel
theorem dX0_take_86 : decode cX0_take 86 = .ok (.goto (-78), 3) := by decide +kernel
theorem dX0_take_89 : decode cX0_take 89 = .ok (.return_, 1) := by decide +kernel
theorem dX0_goOn_0 : decode cX0_goOn 0 = .ok (.aload_n 0, 1) := by decide +kernel
theorem dX0_goOn_1 : decode cX0_goOn 1 = .ok (.getfield 9, 3) := by decide +kernel
theorem dX0_goOn_4 : decode cX0_goOn 4 = .ok (.iload_n 1, 1) := by decide +kernel
theorem dX0_goOn_5 : decode cX0_goOn 5 = .ok (.iaload, 1) := by decide +kernel
theorem dX0_goOn_6 : decode cX0_goOn 6 = .ok (.iconst 1, 1) := by decide +kernel
theorem dX0_goOn_7 : decode cX0_goOn 7 = .ok (.iadd, 1) := by decide +kernel
theorem dX0_goOn_8 : decode cX0_goOn 8 = .ok (.istore_n 3, 1) := by decide +kernel
theorem dX0_goOn_9 : decode cX0_goOn 9 = .ok (.iload_n 3, 1) := by decide +kernel
theorem dX0_goOn_10 : decode cX0_goOn 10 = .ok (.aload_n 0, 1) := by decide +kernel
theorem dX0_goOn_11 : decode cX0_goOn 11 = .ok (.getfield 9, 3) := by decide +kernel
theorem dX0_goOn_14 : decode cX0_goOn 14 = .ok (.iload_n 2, 1) := by decide +kernel
theorem dX0_goOn_15 : decode cX0_goOn 15 = .ok (.iaload, 1) := by decide +kernel
theorem dX0_goOn_16 : decode cX0_goOn 16 = .ok (.if_icmp .le 25, 3) := by decide +kernel
theorem dX0_goOn_19 : decode cX0_goOn 19 = .ok (.aload_n 0, 1) := by decide +kernel
theorem dX0_goOn_20 : decode cX0_goOn 20 = .ok (.getfield 9, 3) := by decide +kernel
theorem dX0_goOn_23 : decode cX0_goOn 23 = .ok (.iload_n 2, 1) := by decide +kernel
theorem dX0_goOn_24 : decode cX0_goOn 24 = .ok (.iload_n 3, 1) := by decide +kernel
theorem dX0_goOn_25 : decode cX0_goOn 25 = .ok (.iastore, 1) := by decide +kernel
theorem dX0_goOn_26 : decode cX0_goOn 26 = .ok (.aload_n 0, 1) := by decide +kernel
theorem dX0_goOn_27 : decode cX0_goOn 27 = .ok (.getfield 15, 3) := by decide +kernel
theorem dX0_goOn_30 : decode cX0_goOn 30 = .ok (.iload_n 2, 1) := by decide +kernel
theorem dX0_goOn_31 : decode cX0_goOn 31 = .ok (.aload_n 0, 1) := by decide +kernel
theorem dX0_goOn_32 : decode cX0_goOn 32 = .ok (.getfield 15, 3) := by decide +kernel
theorem dX0_goOn_35 : decode cX0_goOn 35 = .ok (.iload_n 1, 1) := by decide +kernel
theorem dX0_goOn_36 : decode cX0_goOn 36 = .ok (.laload, 1) := by decide +kernel
theorem dX0_goOn_37 : decode cX0_goOn 37 = .ok (.lastore, 1) := by decide +kernel
theorem dX0_goOn_38 : decode cX0_goOn 38 = .ok (.goto 28, 3) := by decide +kernel
theorem dX0_goOn_41 : decode cX0_goOn 41 = .ok (.iload_n 3, 1) := by decide +kernel
theorem dX0_goOn_42 : decode cX0_goOn 42 = .ok (.aload_n 0, 1) := by decide +kernel
theorem dX0_goOn_43 : decode cX0_goOn 43 = .ok (.getfield 9, 3) := by decide +kernel
theorem dX0_goOn_46 : decode cX0_goOn 46 = .ok (.iload_n 2, 1) := by decide +kernel
theorem dX0_goOn_47 : decode cX0_goOn 47 = .ok (.iaload, 1) := by decide +kernel
theorem dX0_goOn_48 : decode cX0_goOn 48 = .ok (.if_icmp .ne 18, 3) := by decide +kernel
theorem dX0_goOn_51 : decode cX0_goOn 51 = .ok (.aload_n 0, 1) := by decide +kernel
theorem dX0_goOn_52 : decode cX0_goOn 52 = .ok (.getfield 15, 3) := by decide +kernel
theorem dX0_goOn_55 : decode cX0_goOn 55 = .ok (.iload_n 2, 1) := by decide +kernel
theorem dX0_goOn_56 : decode cX0_goOn 56 = .ok (.dup2, 1) := by decide +kernel
theorem dX0_goOn_57 : decode cX0_goOn 57 = .ok (.laload, 1) := by decide +kernel
theorem dX0_goOn_58 : decode cX0_goOn 58 = .ok (.aload_n 0, 1) := by decide +kernel
theorem dX0_goOn_59 : decode cX0_goOn 59 = .ok (.getfield 15, 3) := by decide +kernel
theorem dX0_goOn_62 : decode cX0_goOn 62 = .ok (.iload_n 1, 1) := by decide +kernel
theorem dX0_goOn_63 : decode cX0_goOn 63 = .ok (.laload, 1) := by decide +kernel
theorem dX0_goOn_64 : decode cX0_goOn 64 = .ok (.ladd, 1) := by decide +kernel
theorem dX0_goOn_65 : decode cX0_goOn 65 = .ok (.lastore, 1) := by decide +kernel
theorem dX0_goOn_66 : decode cX0_goOn 66 = .ok (.return_, 1) := by decide +kernel
theorem dX0_leastEnd_0 : decode cX0_leastEnd 0 = .ok (.iconst (-1), 1) := by decide +kernel
theorem dX0_leastEnd_1 : decode cX0_leastEnd 1 = .ok (.istore 4, 2) := by decide +kernel
theorem dX0_leastEnd_3 : decode cX0_leastEnd 3 = .ok (.iload_n 2, 1) := by decide +kernel
theorem dX0_leastEnd_4 : decode cX0_leastEnd 4 = .ok (.istore 5, 2) := by decide +kernel
theorem dX0_leastEnd_6 : decode cX0_leastEnd 6 = .ok (.iload 5, 2) := by decide +kernel
theorem dX0_leastEnd_8 : decode cX0_leastEnd 8 = .ok (.iload_n 3, 1) := by decide +kernel
theorem dX0_leastEnd_9 : decode cX0_leastEnd 9 = .ok (.if_icmp .ge 44, 3) := by decide +kernel
theorem dX0_leastEnd_12 : decode cX0_leastEnd 12 = .ok (.aload_n 0, 1) := by decide +kernel
theorem dX0_leastEnd_13 : decode cX0_leastEnd 13 = .ok (.getfield 9, 3) := by decide +kernel
theorem dX0_leastEnd_16 : decode cX0_leastEnd 16 = .ok (.iload 5, 2) := by decide +kernel
theorem dX0_leastEnd_18 : decode cX0_leastEnd 18 = .ok (.iaload, 1) := by decide +kernel
theorem dX0_leastEnd_19 : decode cX0_leastEnd 19 = .ok (.aload_n 0, 1) := by decide +kernel
theorem dX0_leastEnd_20 : decode cX0_leastEnd 20 = .ok (.getfield 19, 3) := by decide +kernel
theorem dX0_leastEnd_23 : decode cX0_leastEnd 23 = .ok (.if_icmp .ne 24, 3) := by decide +kernel
theorem dX0_leastEnd_26 : decode cX0_leastEnd 26 = .ok (.iload 4, 2) := by decide +kernel
theorem dX0_leastEnd_28 : decode cX0_leastEnd 28 = .ok (.iconst (-1), 1) := by decide +kernel
theorem dX0_leastEnd_29 : decode cX0_leastEnd 29 = .ok (.if_icmp .eq 12, 3) := by decide +kernel
theorem dX0_leastEnd_32 : decode cX0_leastEnd 32 = .ok (.aload_n 1, 1) := by decide +kernel
theorem dX0_leastEnd_33 : decode cX0_leastEnd 33 = .ok (.iload 5, 2) := by decide +kernel
theorem dX0_leastEnd_35 : decode cX0_leastEnd 35 = .ok (.iaload, 1) := by decide +kernel
theorem dX0_leastEnd_36 : decode cX0_leastEnd 36 = .ok (.iload 4, 2) := by decide +kernel
theorem dX0_leastEnd_38 : decode cX0_leastEnd 38 = .ok (.if_icmp .ge 9, 3) := by decide +kernel
theorem dX0_leastEnd_41 : decode cX0_leastEnd 41 = .ok (.aload_n 1, 1) := by decide +kernel
theorem dX0_leastEnd_42 : decode cX0_leastEnd 42 = .ok (.iload 5, 2) := by decide +kernel
theorem dX0_leastEnd_44 : decode cX0_leastEnd 44 = .ok (.iaload, 1) := by decide +kernel
theorem dX0_leastEnd_45 : decode cX0_leastEnd 45 = .ok (.istore 4, 2) := by decide +kernel
theorem dX0_leastEnd_47 : decode cX0_leastEnd 47 = .ok (.iinc 5 1, 3) := by decide +kernel
theorem dX0_leastEnd_50 : decode cX0_leastEnd 50 = .ok (.goto (-44), 3) := by decide +kernel
theorem dX0_leastEnd_53 : decode cX0_leastEnd 53 = .ok (.iload 4, 2) := by decide +kernel
theorem dX0_leastEnd_55 : decode cX0_leastEnd 55 = .ok (.ireturn, 1) := by decide +kernel
theorem dX0_waysToLongest_0 : decode cX0_waysToLongest 0 = .ok (.lconst 0, 1) := by decide +kernel
theorem dX0_waysToLongest_1 : decode cX0_waysToLongest 1 = .ok (.lstore_n 3, 1) := by decide +kernel
theorem dX0_waysToLongest_2 : decode cX0_waysToLongest 2 = .ok (.iload_n 1, 1) := by decide +kernel
theorem dX0_waysToLongest_3 : decode cX0_waysToLongest 3 = .ok (.istore 5, 2) := by decide +kernel
theorem dX0_waysToLongest_5 : decode cX0_waysToLongest 5 = .ok (.iload 5, 2) := by decide +kernel
theorem dX0_waysToLongest_7 : decode cX0_waysToLongest 7 = .ok (.iload_n 2, 1) := by decide +kernel
theorem dX0_waysToLongest_8 : decode cX0_waysToLongest 8 = .ok (.if_icmp .ge 33, 3) := by decide +kernel
theorem dX0_waysToLongest_11 : decode cX0_waysToLongest 11 = .ok (.aload_n 0, 1) := by decide +kernel
theorem dX0_waysToLongest_12 : decode cX0_waysToLongest 12 = .ok (.getfield 9, 3) := by decide +kernel
theorem dX0_waysToLongest_15 : decode cX0_waysToLongest 15 = .ok (.iload 5, 2) := by decide +kernel
theorem dX0_waysToLongest_17 : decode cX0_waysToLongest 17 = .ok (.iaload, 1) := by decide +kernel
theorem dX0_waysToLongest_18 : decode cX0_waysToLongest 18 = .ok (.aload_n 0, 1) := by decide +kernel
theorem dX0_waysToLongest_19 : decode cX0_waysToLongest 19 = .ok (.getfield 19, 3) := by decide +kernel
theorem dX0_waysToLongest_22 : decode cX0_waysToLongest 22 = .ok (.if_icmp .ne 13, 3) := by decide +kernel
theorem dX0_waysToLongest_25 : decode cX0_waysToLongest 25 = .ok (.lload_n 3, 1) := by decide +kernel
theorem dX0_waysToLongest_26 : decode cX0_waysToLongest 26 = .ok (.aload_n 0, 1) := by decide +kernel
theorem dX0_waysToLongest_27 : decode cX0_waysToLongest 27 = .ok (.getfield 15, 3) := by decide +kernel
theorem dX0_waysToLongest_30 : decode cX0_waysToLongest 30 = .ok (.iload 5, 2) := by decide +kernel
theorem dX0_waysToLongest_32 : decode cX0_waysToLongest 32 = .ok (.laload, 1) := by decide +kernel
theorem dX0_waysToLongest_33 : decode cX0_waysToLongest 33 = .ok (.ladd, 1) := by decide +kernel
theorem dX0_waysToLongest_34 : decode cX0_waysToLongest 34 = .ok (.lstore_n 3, 1) := by decide +kernel
theorem dX0_waysToLongest_35 : decode cX0_waysToLongest 35 = .ok (.iinc 5 1, 3) := by decide +kernel
theorem dX0_waysToLongest_38 : decode cX0_waysToLongest 38 = .ok (.goto (-33), 3) := by decide +kernel
theorem dX0_waysToLongest_41 : decode cX0_waysToLongest 41 = .ok (.lload_n 3, 1) := by decide +kernel
theorem dX0_waysToLongest_42 : decode cX0_waysToLongest 42 = .ok (.lreturn, 1) := by decide +kernel
theorem dX1_init_0 : decode cX1_init 0 = .ok (.aload_n 0, 1) := by decide +kernel
theorem dX1_init_1 : decode cX1_init 1 = .ok (.invokespecial 3, 3) := by decide +kernel
theorem dX1_init_4 : decode cX1_init 4 = .ok (.aload_n 0, 1) := by decide +kernel
theorem dX1_init_5 : decode cX1_init 5 = .ok (.bipush 8, 2) := by decide +kernel
theorem dX1_init_7 : decode cX1_init 7 = .ok (.newarray .long, 2) := by decide +kernel
theorem dX1_init_9 : decode cX1_init 9 = .ok (.putfield 9, 3) := by decide +kernel
theorem dX1_init_12 : decode cX1_init 12 = .ok (.aload_n 0, 1) := by decide +kernel
theorem dX1_init_13 : decode cX1_init 13 = .ok (.bipush 64, 2) := by decide +kernel
theorem dX1_init_15 : decode cX1_init 15 = .ok (.newarray .int, 2) := by decide +kernel
theorem dX1_init_17 : decode cX1_init 17 = .ok (.putfield 15, 3) := by decide +kernel
theorem dX1_init_20 : decode cX1_init 20 = .ok (.aload_n 0, 1) := by decide +kernel
theorem dX1_init_21 : decode cX1_init 21 = .ok (.bipush 64, 2) := by decide +kernel
theorem dX1_init_23 : decode cX1_init 23 = .ok (.newarray .int, 2) := by decide +kernel
theorem dX1_init_25 : decode cX1_init 25 = .ok (.putfield 19, 3) := by decide +kernel
theorem dX1_init_28 : decode cX1_init 28 = .ok (.aload_n 0, 1) := by decide +kernel
theorem dX1_init_29 : decode cX1_init 29 = .ok (.iconst 0, 1) := by decide +kernel
theorem dX1_init_30 : decode cX1_init 30 = .ok (.putfield 22, 3) := by decide +kernel
theorem dX1_init_33 : decode cX1_init 33 = .ok (.return_, 1) := by decide +kernel
theorem dX1_remake_0 : decode cX1_remake 0 = .ok (.aload_n 0, 1) := by decide +kernel
theorem dX1_remake_1 : decode cX1_remake 1 = .ok (.iload_n 2, 1) := by decide +kernel
theorem dX1_remake_2 : decode cX1_remake 2 = .ok (.putfield 22, 3) := by decide +kernel
theorem dX1_remake_5 : decode cX1_remake 5 = .ok (.iconst 0, 1) := by decide +kernel
theorem dX1_remake_6 : decode cX1_remake 6 = .ok (.istore_n 3, 1) := by decide +kernel
theorem dX1_remake_7 : decode cX1_remake 7 = .ok (.aload_n 0, 1) := by decide +kernel
theorem dX1_remake_8 : decode cX1_remake 8 = .ok (.invokevirtual 26, 3) := by decide +kernel
theorem dX1_remake_11 : decode cX1_remake 11 = .ok (.iconst 0, 1) := by decide +kernel
theorem dX1_remake_12 : decode cX1_remake 12 = .ok (.istore 4, 2) := by decide +kernel
theorem dX1_remake_14 : decode cX1_remake 14 = .ok (.iload 4, 2) := by decide +kernel
theorem dX1_remake_16 : decode cX1_remake 16 = .ok (.bipush 8, 2) := by decide +kernel
theorem dX1_remake_18 : decode cX1_remake 18 = .ok (.if_icmp .ge 52, 3) := by decide +kernel
theorem dX1_remake_21 : decode cX1_remake 21 = .ok (.aload_n 0, 1) := by decide +kernel
theorem dX1_remake_22 : decode cX1_remake 22 = .ok (.aload_n 1, 1) := by decide +kernel
theorem dX1_remake_23 : decode cX1_remake 23 = .ok (.bipush 7, 2) := by decide +kernel
theorem dX1_remake_25 : decode cX1_remake 25 = .ok (.iload 4, 2) := by decide +kernel
theorem dX1_remake_27 : decode cX1_remake 27 = .ok (.isub, 1) := by decide +kernel
theorem dX1_remake_28 : decode cX1_remake 28 = .ok (.invokevirtual 29, 3) := by decide +kernel
theorem dX1_remake_31 : decode cX1_remake 31 = .ok (.lstore 5, 2) := by decide +kernel
theorem dX1_remake_33 : decode cX1_remake 33 = .ok (.iload_n 3, 1) := by decide +kernel
theorem dX1_remake_34 : decode cX1_remake 34 = .ok (.lload 5, 2) := by decide +kernel
theorem dX1_remake_36 : decode cX1_remake 36 = .ok (.aload_n 0, 1) := by decide +kernel
theorem dX1_remake_37 : decode cX1_remake 37 = .ok (.getfield 9, 3) := by decide +kernel
theorem dX1_remake_40 : decode cX1_remake 40 = .ok (.iload 4, 2) := by decide +kernel
theorem dX1_remake_42 : decode cX1_remake 42 = .ok (.laload, 1) := by decide +kernel
theorem dX1_remake_43 : decode cX1_remake 43 = .ok (.lxor, 1) := by decide +kernel
theorem dX1_remake_44 : decode cX1_remake 44 = .ok (.invokestatic 33, 3) := by decide +kernel
theorem dX1_remake_47 : decode cX1_remake 47 = .ok (.iadd, 1) := by decide +kernel
theorem dX1_remake_48 : decode cX1_remake 48 = .ok (.istore_n 3, 1) := by decide +kernel
theorem dX1_remake_49 : decode cX1_remake 49 = .ok (.aload_n 0, 1) := by decide +kernel
theorem dX1_remake_50 : decode cX1_remake 50 = .ok (.getfield 9, 3) := by decide +kernel
theorem dX1_remake_53 : decode cX1_remake 53 = .ok (.iload 4, 2) := by decide +kernel
theorem dX1_remake_55 : decode cX1_remake 55 = .ok (.lload 5, 2) := by decide +kernel
theorem dX1_remake_57 : decode cX1_remake 57 = .ok (.lastore, 1) := by decide +kernel
theorem dX1_remake_58 : decode cX1_remake 58 = .ok (.aload_n 0, 1) := by decide +kernel
theorem dX1_remake_59 : decode cX1_remake 59 = .ok (.lload 5, 2) := by decide +kernel
theorem dX1_remake_61 : decode cX1_remake 61 = .ok (.invokevirtual 39, 3) := by decide +kernel
theorem dX1_remake_64 : decode cX1_remake 64 = .ok (.iinc 4 1, 3) := by decide +kernel
theorem dX1_remake_67 : decode cX1_remake 67 = .ok (.goto (-53), 3) := by decide +kernel
theorem dX1_remake_70 : decode cX1_remake 70 = .ok (.iload_n 3, 1) := by decide +kernel
theorem dX1_remake_71 : decode cX1_remake 71 = .ok (.ireturn, 1) := by decide +kernel
theorem dX1_placeAt_0 : decode cX1_placeAt 0 = .ok (.aload_n 0, 1) := by decide +kernel
theorem dX1_placeAt_1 : decode cX1_placeAt 1 = .ok (.invokevirtual 26, 3) := by decide +kernel
theorem dX1_placeAt_4 : decode cX1_placeAt 4 = .ok (.iconst 0, 1) := by decide +kernel
theorem dX1_placeAt_5 : decode cX1_placeAt 5 = .ok (.istore_n 3, 1) := by decide +kernel
theorem dX1_placeAt_6 : decode cX1_placeAt 6 = .ok (.iload_n 3, 1) := by decide +kernel
theorem dX1_placeAt_7 : decode cX1_placeAt 7 = .ok (.iload_n 1, 1) := by decide +kernel
theorem dX1_placeAt_8 : decode cX1_placeAt 8 = .ok (.if_icmp .ge 25, 3) := by decide +kernel
theorem dX1_placeAt_11 : decode cX1_placeAt 11 = .ok (.iload_n 3, 1) := by decide +kernel
theorem dX1_placeAt_12 : decode cX1_placeAt 12 = .ok (.bipush 8, 2) := by decide +kernel
theorem dX1_placeAt_14 : decode cX1_placeAt 14 = .ok (.if_icmp .ge 19, 3) := by decide +kernel
theorem dX1_placeAt_17 : decode cX1_placeAt 17 = .ok (.aload_n 0, 1) := by decide +kernel
theorem dX1_placeAt_18 : decode cX1_placeAt 18 = .ok (.aload_n 0, 1) := by decide +kernel
theorem dX1_placeAt_19 : decode cX1_placeAt 19 = .ok (.getfield 9, 3) := by decide +kernel
theorem dX1_placeAt_22 : decode cX1_placeAt 22 = .ok (.iload_n 3, 1) := by decide +kernel
theorem dX1_placeAt_23 : decode cX1_placeAt 23 = .ok (.laload, 1) := by decide +kernel
theorem dX1_placeAt_24 : decode cX1_placeAt 24 = .ok (.invokevirtual 39, 3) := by decide +kernel
theorem dX1_placeAt_27 : decode cX1_placeAt 27 = .ok (.iinc 3 1, 3) := by decide +kernel
theorem dX1_placeAt_30 : decode cX1_placeAt 30 = .ok (.goto (-24), 3) := by decide +kernel
theorem dX1_placeAt_33 : decode cX1_placeAt 33 = .ok (.aload_n 0, 1) := by decide +kernel
theorem dX1_placeAt_34 : decode cX1_placeAt 34 = .ok (.getfield 15, 3) := by decide +kernel
theorem dX1_placeAt_37 : decode cX1_placeAt 37 = .ok (.iload_n 2, 1) := by decide +kernel
theorem dX1_placeAt_38 : decode cX1_placeAt 38 = .ok (.iaload, 1) := by decide +kernel
theorem dX1_placeAt_39 : decode cX1_placeAt 39 = .ok (.ireturn, 1) := by decide +kernel
theorem dX1_startOrder_0 : decode cX1_startOrder 0 = .ok (.iconst 0, 1) := by decide +kernel
theorem dX1_startOrder_1 : decode cX1_startOrder 1 = .ok (.istore_n 1, 1) := by decide +kernel
theorem dX1_startOrder_2 : decode cX1_startOrder 2 = .ok (.iload_n 1, 1) := by decide +kernel
theorem dX1_startOrder_3 : decode cX1_startOrder 3 = .ok (.aload_n 0, 1) := by decide +kernel
theorem dX1_startOrder_4 : decode cX1_startOrder 4 = .ok (.getfield 22, 3) := by decide +kernel
theorem dX1_startOrder_7 : decode cX1_startOrder 7 = .ok (.if_icmp .ge 16, 3) := by decide +kernel
theorem dX1_startOrder_10 : decode cX1_startOrder 10 = .ok (.aload_n 0, 1) := by decide +kernel
theorem dX1_startOrder_11 : decode cX1_startOrder 11 = .ok (.getfield 15, 3) := by decide +kernel
theorem dX1_startOrder_14 : decode cX1_startOrder 14 = .ok (.iload_n 1, 1) := by decide +kernel
theorem dX1_startOrder_15 : decode cX1_startOrder 15 = .ok (.iload_n 1, 1) := by decide +kernel
theorem dX1_startOrder_16 : decode cX1_startOrder 16 = .ok (.iastore, 1) := by decide +kernel
theorem dX1_startOrder_17 : decode cX1_startOrder 17 = .ok (.iinc 1 1, 3) := by decide +kernel
theorem dX1_startOrder_20 : decode cX1_startOrder 20 = .ok (.goto (-18), 3) := by decide +kernel
theorem dX1_startOrder_23 : decode cX1_startOrder 23 = .ok (.return_, 1) := by decide +kernel
theorem dX1_bitsInOrder_0 : decode cX1_bitsInOrder 0 = .ok (.lconst 0, 1) := by decide +kernel
theorem dX1_bitsInOrder_1 : decode cX1_bitsInOrder 1 = .ok (.lstore_n 3, 1) := by decide +kernel
theorem dX1_bitsInOrder_2 : decode cX1_bitsInOrder 2 = .ok (.iconst 0, 1) := by decide +kernel
theorem dX1_bitsInOrder_3 : decode cX1_bitsInOrder 3 = .ok (.istore 5, 2) := by decide +kernel
theorem dX1_bitsInOrder_5 : decode cX1_bitsInOrder 5 = .ok (.iload 5, 2) := by decide +kernel
theorem dX1_bitsInOrder_7 : decode cX1_bitsInOrder 7 = .ok (.aload_n 0, 1) := by decide +kernel
theorem dX1_bitsInOrder_8 : decode cX1_bitsInOrder 8 = .ok (.getfield 22, 3) := by decide +kernel
theorem dX1_bitsInOrder_11 : decode cX1_bitsInOrder 11 = .ok (.if_icmp .ge 29, 3) := by decide +kernel
theorem dX1_bitsInOrder_14 : decode cX1_bitsInOrder 14 = .ok (.lload_n 3, 1) := by decide +kernel
theorem dX1_bitsInOrder_15 : decode cX1_bitsInOrder 15 = .ok (.aload_n 1, 1) := by decide +kernel
theorem dX1_bitsInOrder_16 : decode cX1_bitsInOrder 16 = .ok (.aload_n 0, 1) := by decide +kernel
theorem dX1_bitsInOrder_17 : decode cX1_bitsInOrder 17 = .ok (.getfield 15, 3) := by decide +kernel
theorem dX1_bitsInOrder_20 : decode cX1_bitsInOrder 20 = .ok (.iload 5, 2) := by decide +kernel
theorem dX1_bitsInOrder_22 : decode cX1_bitsInOrder 22 = .ok (.iaload, 1) := by decide +kernel
theorem dX1_bitsInOrder_23 : decode cX1_bitsInOrder 23 = .ok (.iaload, 1) := by decide +kernel
theorem dX1_bitsInOrder_24 : decode cX1_bitsInOrder 24 = .ok (.iload_n 2, 1) := by decide +kernel
theorem dX1_bitsInOrder_25 : decode cX1_bitsInOrder 25 = .ok (.ishr, 1) := by decide +kernel
theorem dX1_bitsInOrder_26 : decode cX1_bitsInOrder 26 = .ok (.iconst 1, 1) := by decide +kernel
theorem dX1_bitsInOrder_27 : decode cX1_bitsInOrder 27 = .ok (.iand, 1) := by decide +kernel
theorem dX1_bitsInOrder_28 : decode cX1_bitsInOrder 28 = .ok (.i2l, 1) := by decide +kernel
theorem dX1_bitsInOrder_29 : decode cX1_bitsInOrder 29 = .ok (.iload 5, 2) := by decide +kernel
theorem dX1_bitsInOrder_31 : decode cX1_bitsInOrder 31 = .ok (.lshl, 1) := by decide +kernel
theorem dX1_bitsInOrder_32 : decode cX1_bitsInOrder 32 = .ok (.lor, 1) := by decide +kernel
theorem dX1_bitsInOrder_33 : decode cX1_bitsInOrder 33 = .ok (.lstore_n 3, 1) := by decide +kernel
theorem dX1_bitsInOrder_34 : decode cX1_bitsInOrder 34 = .ok (.iinc 5 1, 3) := by decide +kernel
theorem dX1_bitsInOrder_37 : decode cX1_bitsInOrder 37 = .ok (.goto (-32), 3) := by decide +kernel
theorem dX1_bitsInOrder_40 : decode cX1_bitsInOrder 40 = .ok (.lload_n 3, 1) := by decide +kernel
theorem dX1_bitsInOrder_41 : decode cX1_bitsInOrder 41 = .ok (.lreturn, 1) := by decide +kernel
theorem dX1_part_0 : decode cX1_part 0 = .ok (.iconst 0, 1) := by decide +kernel
theorem dX1_part_1 : decode cX1_part 1 = .ok (.istore_n 3, 1) := by decide +kernel
theorem dX1_part_2 : decode cX1_part 2 = .ok (.iconst 0, 1) := by decide +kernel
theorem dX1_part_3 : decode cX1_part 3 = .ok (.istore 4, 2) := by decide +kernel
theorem dX1_part_5 : decode cX1_part 5 = .ok (.iconst 0, 1) := by decide +kernel
theorem dX1_part_6 : decode cX1_part 6 = .ok (.istore 5, 2) := by decide +kernel
theorem dX1_part_8 : decode cX1_part 8 = .ok (.iload 5, 2) := by decide +kernel
theorem dX1_part_10 : decode cX1_part 10 = .ok (.aload_n 0, 1) := by decide +kernel
theorem dX1_part_11 : decode cX1_part 11 = .ok (.getfield 22, 3) := by decide +kernel
theorem dX1_part_14 : decode cX1_part 14 = .ok (.if_icmp .ge 54, 3) := by decide +kernel
theorem dX1_part_17 : decode cX1_part 17 = .ok (.lload_n 1, 1) := by decide +kernel
theorem dX1_part_18 : decode cX1_part 18 = .ok (.iload 5, 2) := by decide +kernel
theorem dX1_part_20 : decode cX1_part 20 = .ok (.invokestatic 43, 3) := by decide +kernel
theorem dX1_part_23 : decode cX1_part 23 = .ok (.ifCond .ne 22, 3) := by decide +kernel
theorem dX1_part_26 : decode cX1_part 26 = .ok (.aload_n 0, 1) := by decide +kernel
theorem dX1_part_27 : decode cX1_part 27 = .ok (.getfield 15, 3) := by decide +kernel
theorem dX1_part_30 : decode cX1_part 30 = .ok (.iload_n 3, 1) := by decide +kernel
theorem dX1_part_31 : decode cX1_part 31 = .ok (.aload_n 0, 1) := by decide +kernel
theorem dX1_part_32 : decode cX1_part 32 = .ok (.getfield 15, 3) := by decide +kernel
theorem dX1_part_35 : decode cX1_part 35 = .ok (.iload 5, 2) := by decide +kernel
theorem dX1_part_37 : decode cX1_part 37 = .ok (.iaload, 1) := by decide +kernel
theorem dX1_part_38 : decode cX1_part 38 = .ok (.iastore, 1) := by decide +kernel
theorem dX1_part_39 : decode cX1_part 39 = .ok (.iinc 3 1, 3) := by decide +kernel
theorem dX1_part_42 : decode cX1_part 42 = .ok (.goto 20, 3) := by decide +kernel
theorem dX1_part_45 : decode cX1_part 45 = .ok (.aload_n 0, 1) := by decide +kernel
theorem dX1_part_46 : decode cX1_part 46 = .ok (.getfield 19, 3) := by decide +kernel
theorem dX1_part_49 : decode cX1_part 49 = .ok (.iload 4, 2) := by decide +kernel
theorem dX1_part_51 : decode cX1_part 51 = .ok (.aload_n 0, 1) := by decide +kernel
theorem dX1_part_52 : decode cX1_part 52 = .ok (.getfield 15, 3) := by decide +kernel
theorem dX1_part_55 : decode cX1_part 55 = .ok (.iload 5, 2) := by decide +kernel
theorem dX1_part_57 : decode cX1_part 57 = .ok (.iaload, 1) := by decide +kernel
theorem dX1_part_58 : decode cX1_part 58 = .ok (.iastore, 1) := by decide +kernel
theorem dX1_part_59 : decode cX1_part 59 = .ok (.iinc 4 1, 3) := by decide +kernel
theorem dX1_part_62 : decode cX1_part 62 = .ok (.iinc 5 1, 3) := by decide +kernel
theorem dX1_part_65 : decode cX1_part 65 = .ok (.goto (-57), 3) := by decide +kernel
theorem dX1_part_68 : decode cX1_part 68 = .ok (.aload_n 0, 1) := by decide +kernel
theorem dX1_part_69 : decode cX1_part 69 = .ok (.getfield 19, 3) := by decide +kernel
theorem dX1_part_72 : decode cX1_part 72 = .ok (.iconst 0, 1) := by decide +kernel
theorem dX1_part_73 : decode cX1_part 73 = .ok (.aload_n 0, 1) := by decide +kernel
theorem dX1_part_74 : decode cX1_part 74 = .ok (.getfield 15, 3) := by decide +kernel
theorem dX1_part_77 : decode cX1_part 77 = .ok (.iload_n 3, 1) := by decide +kernel
theorem dX1_part_78 : decode cX1_part 78 = .ok (.iload 4, 2) := by decide +kernel
theorem dX1_part_80 : decode cX1_part 80 = .ok (.invokestatic 47, 3) := by decide +kernel
theorem dX1_part_83 : decode cX1_part 83 = .ok (.return_, 1) := by decide +kernel
theorem dX2_init_0 : decode cX2_init 0 = .ok (.aload_n 0, 1) := by decide +kernel
theorem dX2_init_1 : decode cX2_init 1 = .ok (.invokespecial 3, 3) := by decide +kernel
theorem dX2_init_4 : decode cX2_init 4 = .ok (.aload_n 0, 1) := by decide +kernel
theorem dX2_init_5 : decode cX2_init 5 = .ok (.bipush 8, 2) := by decide +kernel
theorem dX2_init_7 : decode cX2_init 7 = .ok (.bipush 64, 2) := by decide +kernel
theorem dX2_init_9 : decode cX2_init 9 = .ok (.multianewarray 9 2, 4) := by decide +kernel
theorem dX2_init_13 : decode cX2_init 13 = .ok (.putfield 11, 3) := by decide +kernel
theorem dX2_init_16 : decode cX2_init 16 = .ok (.aload_n 0, 1) := by decide +kernel
theorem dX2_init_17 : decode cX2_init 17 = .ok (.bipush 64, 2) := by decide +kernel
theorem dX2_init_19 : decode cX2_init 19 = .ok (.newarray .long, 2) := by decide +kernel
theorem dX2_init_21 : decode cX2_init 21 = .ok (.putfield 16, 3) := by decide +kernel
theorem dX2_init_24 : decode cX2_init 24 = .ok (.aload_n 0, 1) := by decide +kernel
theorem dX2_init_25 : decode cX2_init 25 = .ok (.bipush 8, 2) := by decide +kernel
theorem dX2_init_27 : decode cX2_init 27 = .ok (.newarray .int, 2) := by decide +kernel
theorem dX2_init_29 : decode cX2_init 29 = .ok (.putfield 20, 3) := by decide +kernel
theorem dX2_init_32 : decode cX2_init 32 = .ok (.aload_n 0, 1) := by decide +kernel
theorem dX2_init_33 : decode cX2_init 33 = .ok (.bipush 8, 2) := by decide +kernel
theorem dX2_init_35 : decode cX2_init 35 = .ok (.newarray .int, 2) := by decide +kernel
theorem dX2_init_37 : decode cX2_init 37 = .ok (.putfield 24, 3) := by decide +kernel
theorem dX2_init_40 : decode cX2_init 40 = .ok (.aload_n 0, 1) := by decide +kernel
theorem dX2_init_41 : decode cX2_init 41 = .ok (.bipush 8, 2) := by decide +kernel
theorem dX2_init_43 : decode cX2_init 43 = .ok (.newarray .int, 2) := by decide +kernel
theorem dX2_init_45 : decode cX2_init 45 = .ok (.putfield 27, 3) := by decide +kernel
theorem dX2_init_48 : decode cX2_init 48 = .ok (.aload_n 0, 1) := by decide +kernel
theorem dX2_init_49 : decode cX2_init 49 = .ok (.iconst 0, 1) := by decide +kernel
theorem dX2_init_50 : decode cX2_init 50 = .ok (.putfield 30, 3) := by decide +kernel
theorem dX2_init_53 : decode cX2_init 53 = .ok (.aload_n 0, 1) := by decide +kernel
theorem dX2_init_54 : decode cX2_init 54 = .ok (.iconst 0, 1) := by decide +kernel
theorem dX2_init_55 : decode cX2_init 55 = .ok (.putfield 34, 3) := by decide +kernel
theorem dX2_init_58 : decode cX2_init 58 = .ok (.aload_n 0, 1) := by decide +kernel
theorem dX2_init_59 : decode cX2_init 59 = .ok (.iconst 0, 1) := by decide +kernel
theorem dX2_init_60 : decode cX2_init 60 = .ok (.putfield 37, 3) := by decide +kernel
theorem dX2_init_63 : decode cX2_init 63 = .ok (.aload_n 0, 1) := by decide +kernel
theorem dX2_init_64 : decode cX2_init 64 = .ok (.iconst 0, 1) := by decide +kernel
theorem dX2_init_65 : decode cX2_init 65 = .ok (.putfield 40, 3) := by decide +kernel
theorem dX2_init_68 : decode cX2_init 68 = .ok (.return_, 1) := by decide +kernel
theorem dX2_forget_0 : decode cX2_forget 0 = .ok (.aload_n 0, 1) := by decide +kernel
theorem dX2_forget_1 : decode cX2_forget 1 = .ok (.iconst 0, 1) := by decide +kernel
theorem dX2_forget_2 : decode cX2_forget 2 = .ok (.putfield 40, 3) := by decide +kernel
theorem dX2_forget_5 : decode cX2_forget 5 = .ok (.return_, 1) := by decide +kernel
theorem dX2_search_0 : decode cX2_search 0 = .ok (.aload_n 0, 1) := by decide +kernel
theorem dX2_search_1 : decode cX2_search 1 = .ok (.getfield 40, 3) := by decide +kernel
theorem dX2_search_4 : decode cX2_search 4 = .ok (.ifCond .ne 84, 3) := by decide +kernel
theorem dX2_search_7 : decode cX2_search 7 = .ok (.aload_n 0, 1) := by decide +kernel
theorem dX2_search_8 : decode cX2_search 8 = .ok (.iload_n 2, 1) := by decide +kernel
theorem dX2_search_9 : decode cX2_search 9 = .ok (.putfield 30, 3) := by decide +kernel
theorem dX2_search_12 : decode cX2_search 12 = .ok (.aload_n 0, 1) := by decide +kernel
theorem dX2_search_13 : decode cX2_search 13 = .ok (.aload_n 1, 1) := by decide +kernel
theorem dX2_search_14 : decode cX2_search 14 = .ok (.invokevirtual 44, 3) := by decide +kernel
theorem dX2_search_17 : decode cX2_search 17 = .ok (.istore_n 3, 1) := by decide +kernel
theorem dX2_search_18 : decode cX2_search 18 = .ok (.aload_n 0, 1) := by decide +kernel
theorem dX2_search_19 : decode cX2_search 19 = .ok (.iload_n 3, 1) := by decide +kernel
theorem dX2_search_20 : decode cX2_search 20 = .ok (.invokestatic 48, 3) := by decide +kernel
theorem dX2_search_23 : decode cX2_search 23 = .ok (.putfield 34, 3) := by decide +kernel
theorem dX2_search_26 : decode cX2_search 26 = .ok (.aload_n 0, 1) := by decide +kernel
theorem dX2_search_27 : decode cX2_search 27 = .ok (.aload_n 0, 1) := by decide +kernel
theorem dX2_search_28 : decode cX2_search 28 = .ok (.getfield 34, 3) := by decide +kernel
theorem dX2_search_31 : decode cX2_search 31 = .ok (.ifCond .ne 7, 3) := by decide +kernel
theorem dX2_search_34 : decode cX2_search 34 = .ok (.iconst 0, 1) := by decide +kernel
theorem dX2_search_35 : decode cX2_search 35 = .ok (.goto 6, 3) := by decide +kernel
theorem dX2_search_38 : decode cX2_search 38 = .ok (.sipush 513, 3) := by decide +kernel
theorem dX2_search_41 : decode cX2_search 41 = .ok (.putfield 37, 3) := by decide +kernel
theorem dX2_search_44 : decode cX2_search 44 = .ok (.aload_n 0, 1) := by decide +kernel
theorem dX2_search_45 : decode cX2_search 45 = .ok (.iconst 0, 1) := by decide +kernel
theorem dX2_search_46 : decode cX2_search 46 = .ok (.iload_n 3, 1) := by decide +kernel
theorem dX2_search_47 : decode cX2_search 47 = .ok (.iconst 0, 1) := by decide +kernel
theorem dX2_search_48 : decode cX2_search 48 = .ok (.invokevirtual 54, 3) := by decide +kernel
theorem dX2_search_51 : decode cX2_search 51 = .ok (.aload_n 0, 1) := by decide +kernel
theorem dX2_search_52 : decode cX2_search 52 = .ok (.iload_n 3, 1) := by decide +kernel
theorem dX2_search_53 : decode cX2_search 53 = .ok (.invokevirtual 58, 3) := by decide +kernel
theorem dX2_search_56 : decode cX2_search 56 = .ok (.aload_n 0, 1) := by decide +kernel
theorem dX2_search_57 : decode cX2_search 57 = .ok (.dup, 1) := by decide +kernel
theorem dX2_search_58 : decode cX2_search 58 = .ok (.getfield 37, 3) := by decide +kernel
theorem dX2_search_61 : decode cX2_search 61 = .ok (.aload_n 0, 1) := by decide +kernel
theorem dX2_search_62 : decode cX2_search 62 = .ok (.getfield 30, 3) := by decide +kernel
theorem dX2_search_65 : decode cX2_search 65 = .ok (.ifCond .ne 7, 3) := by decide +kernel
theorem dX2_search_68 : decode cX2_search 68 = .ok (.iconst 0, 1) := by decide +kernel
theorem dX2_search_69 : decode cX2_search 69 = .ok (.goto 10, 3) := by decide +kernel
theorem dX2_search_72 : decode cX2_search 72 = .ok (.bipush 8, 2) := by decide +kernel
theorem dX2_search_74 : decode cX2_search 74 = .ok (.aload_n 0, 1) := by decide +kernel
theorem dX2_search_75 : decode cX2_search 75 = .ok (.getfield 34, 3) := by decide +kernel
theorem dX2_search_78 : decode cX2_search 78 = .ok (.isub, 1) := by decide +kernel
theorem dX2_search_79 : decode cX2_search 79 = .ok (.iadd, 1) := by decide +kernel
theorem dX2_search_80 : decode cX2_search 80 = .ok (.putfield 37, 3) := by decide +kernel
theorem dX2_search_83 : decode cX2_search 83 = .ok (.aload_n 0, 1) := by decide +kernel
theorem dX2_search_84 : decode cX2_search 84 = .ok (.iconst 1, 1) := by decide +kernel
theorem dX2_search_85 : decode cX2_search 85 = .ok (.putfield 40, 3) := by decide +kernel
theorem dX2_search_88 : decode cX2_search 88 = .ok (.aload_n 0, 1) := by decide +kernel
theorem dX2_search_89 : decode cX2_search 89 = .ok (.getfield 37, 3) := by decide +kernel
theorem dX2_search_92 : decode cX2_search 92 = .ok (.ireturn, 1) := by decide +kernel
theorem dX2_takeLine_0 : decode cX2_takeLine 0 = .ok (.iconst 0, 1) := by decide +kernel
theorem dX2_takeLine_1 : decode cX2_takeLine 1 = .ok (.istore_n 2, 1) := by decide +kernel
theorem dX2_takeLine_2 : decode cX2_takeLine 2 = .ok (.iconst 0, 1) := by decide +kernel
theorem dX2_takeLine_3 : decode cX2_takeLine 3 = .ok (.istore_n 3, 1) := by decide +kernel
theorem dX2_takeLine_4 : decode cX2_takeLine 4 = .ok (.iload_n 3, 1) := by decide +kernel
theorem dX2_takeLine_5 : decode cX2_takeLine 5 = .ok (.aload_n 0, 1) := by decide +kernel
theorem dX2_takeLine_6 : decode cX2_takeLine 6 = .ok (.getfield 30, 3) := by decide +kernel
theorem dX2_takeLine_9 : decode cX2_takeLine 9 = .ok (.if_icmp .ge 33, 3) := by decide +kernel
theorem dX2_takeLine_12 : decode cX2_takeLine 12 = .ok (.aload_n 0, 1) := by decide +kernel
theorem dX2_takeLine_13 : decode cX2_takeLine 13 = .ok (.getfield 11, 3) := by decide +kernel
theorem dX2_takeLine_16 : decode cX2_takeLine 16 = .ok (.iconst 0, 1) := by decide +kernel
theorem dX2_takeLine_17 : decode cX2_takeLine 17 = .ok (.aaload, 1) := by decide +kernel
theorem dX2_takeLine_18 : decode cX2_takeLine 18 = .ok (.iload_n 3, 1) := by decide +kernel
theorem dX2_takeLine_19 : decode cX2_takeLine 19 = .ok (.aload_n 1, 1) := by decide +kernel
theorem dX2_takeLine_20 : decode cX2_takeLine 20 = .ok (.iload_n 3, 1) := by decide +kernel
theorem dX2_takeLine_21 : decode cX2_takeLine 21 = .ok (.iaload, 1) := by decide +kernel
theorem dX2_takeLine_22 : decode cX2_takeLine 22 = .ok (.invokestatic 62, 3) := by decide +kernel
theorem dX2_takeLine_25 : decode cX2_takeLine 25 = .ok (.lastore, 1) := by decide +kernel
theorem dX2_takeLine_26 : decode cX2_takeLine 26 = .ok (.iload_n 2, 1) := by decide +kernel
theorem dX2_takeLine_27 : decode cX2_takeLine 27 = .ok (.aload_n 1, 1) := by decide +kernel
theorem dX2_takeLine_28 : decode cX2_takeLine 28 = .ok (.iload_n 3, 1) := by decide +kernel
theorem dX2_takeLine_29 : decode cX2_takeLine 29 = .ok (.iaload, 1) := by decide +kernel
theorem dX2_takeLine_30 : decode cX2_takeLine 30 = .ok (.aload_n 1, 1) := by decide +kernel
theorem dX2_takeLine_31 : decode cX2_takeLine 31 = .ok (.iconst 0, 1) := by decide +kernel
theorem dX2_takeLine_32 : decode cX2_takeLine 32 = .ok (.iaload, 1) := by decide +kernel
theorem dX2_takeLine_33 : decode cX2_takeLine 33 = .ok (.ixor, 1) := by decide +kernel
theorem dX2_takeLine_34 : decode cX2_takeLine 34 = .ok (.ior, 1) := by decide +kernel
theorem dX2_takeLine_35 : decode cX2_takeLine 35 = .ok (.istore_n 2, 1) := by decide +kernel
theorem dX2_takeLine_36 : decode cX2_takeLine 36 = .ok (.iinc 3 1, 3) := by decide +kernel
theorem dX2_takeLine_39 : decode cX2_takeLine 39 = .ok (.goto (-35), 3) := by decide +kernel
theorem dX2_takeLine_42 : decode cX2_takeLine 42 = .ok (.iload_n 2, 1) := by decide +kernel
theorem dX2_takeLine_43 : decode cX2_takeLine 43 = .ok (.ireturn, 1) := by decide +kernel
theorem dX2_lanesOf_0 : decode cX2_lanesOf 0 = .ok (.lconst 0, 1) := by decide +kernel
theorem dX2_lanesOf_1 : decode cX2_lanesOf 1 = .ok (.lstore_n 1, 1) := by decide +kernel
theorem dX2_lanesOf_2 : decode cX2_lanesOf 2 = .ok (.iconst 0, 1) := by decide +kernel
theorem dX2_lanesOf_3 : decode cX2_lanesOf 3 = .ok (.istore_n 3, 1) := by decide +kernel
theorem dX2_lanesOf_4 : decode cX2_lanesOf 4 = .ok (.iload_n 3, 1) := by decide +kernel
theorem dX2_lanesOf_5 : decode cX2_lanesOf 5 = .ok (.bipush 8, 2) := by decide +kernel
theorem dX2_lanesOf_7 : decode cX2_lanesOf 7 = .ok (.if_icmp .ge 23, 3) := by decide +kernel
theorem dX2_lanesOf_10 : decode cX2_lanesOf 10 = .ok (.lload_n 1, 1) := by decide +kernel
theorem dX2_lanesOf_11 : decode cX2_lanesOf 11 = .ok (.iload_n 0, 1) := by decide +kernel
theorem dX2_lanesOf_12 : decode cX2_lanesOf 12 = .ok (.iload_n 3, 1) := by decide +kernel
theorem dX2_lanesOf_13 : decode cX2_lanesOf 13 = .ok (.ishr, 1) := by decide +kernel
theorem dX2_lanesOf_14 : decode cX2_lanesOf 14 = .ok (.iconst 1, 1) := by decide +kernel
theorem dX2_lanesOf_15 : decode cX2_lanesOf 15 = .ok (.iand, 1) := by decide +kernel
theorem dX2_lanesOf_16 : decode cX2_lanesOf 16 = .ok (.i2l, 1) := by decide +kernel
theorem dX2_lanesOf_17 : decode cX2_lanesOf 17 = .ok (.bipush 8, 2) := by decide +kernel
theorem dX2_lanesOf_19 : decode cX2_lanesOf 19 = .ok (.iload_n 3, 1) := by decide +kernel
theorem dX2_lanesOf_20 : decode cX2_lanesOf 20 = .ok (.imul, 1) := by decide +kernel
theorem dX2_lanesOf_21 : decode cX2_lanesOf 21 = .ok (.lshl, 1) := by decide +kernel
theorem dX2_lanesOf_22 : decode cX2_lanesOf 22 = .ok (.lor, 1) := by decide +kernel
theorem dX2_lanesOf_23 : decode cX2_lanesOf 23 = .ok (.lstore_n 1, 1) := by decide +kernel
theorem dX2_lanesOf_24 : decode cX2_lanesOf 24 = .ok (.iinc 3 1, 3) := by decide +kernel
theorem dX2_lanesOf_27 : decode cX2_lanesOf 27 = .ok (.goto (-23), 3) := by decide +kernel
theorem dX2_lanesOf_30 : decode cX2_lanesOf 30 = .ok (.lload_n 1, 1) := by decide +kernel
theorem dX2_lanesOf_31 : decode cX2_lanesOf 31 = .ok (.lreturn, 1) := by decide +kernel
theorem dX2_tryBits_0 : decode cX2_tryBits 0 = .ok (.iload_n 1, 1) := by decide +kernel
theorem dX2_tryBits_1 : decode cX2_tryBits 1 = .ok (.aload_n 0, 1) := by decide +kernel
theorem dX2_tryBits_2 : decode cX2_tryBits 2 = .ok (.getfield 34, 3) := by decide +kernel
theorem dX2_tryBits_5 : decode cX2_tryBits 5 = .ok (.if_icmp .ge 9, 3) := by decide +kernel
theorem dX2_tryBits_8 : decode cX2_tryBits 8 = .ok (.iload_n 1, 1) := by decide +kernel
theorem dX2_tryBits_9 : decode cX2_tryBits 9 = .ok (.bipush 8, 2) := by decide +kernel
theorem dX2_tryBits_11 : decode cX2_tryBits 11 = .ok (.if_icmp .lt 4, 3) := by decide +kernel
theorem dX2_tryBits_14 : decode cX2_tryBits 14 = .ok (.return_, 1) := by decide +kernel
theorem dX2_tryBits_15 : decode cX2_tryBits 15 = .ok (.aload_n 0, 1) := by decide +kernel
theorem dX2_tryBits_16 : decode cX2_tryBits 16 = .ok (.aload_n 0, 1) := by decide +kernel
theorem dX2_tryBits_17 : decode cX2_tryBits 17 = .ok (.getfield 11, 3) := by decide +kernel
theorem dX2_tryBits_20 : decode cX2_tryBits 20 = .ok (.iload_n 1, 1) := by decide +kernel
theorem dX2_tryBits_21 : decode cX2_tryBits 21 = .ok (.aaload, 1) := by decide +kernel
theorem dX2_tryBits_22 : decode cX2_tryBits 22 = .ok (.invokevirtual 66, 3) := by decide +kernel
theorem dX2_tryBits_25 : decode cX2_tryBits 25 = .ok (.lstore 4, 2) := by decide +kernel
theorem dX2_tryBits_27 : decode cX2_tryBits 27 = .ok (.iconst 2, 1) := by decide +kernel
theorem dX2_tryBits_28 : decode cX2_tryBits 28 = .ok (.aload_n 0, 1) := by decide +kernel
theorem dX2_tryBits_29 : decode cX2_tryBits 29 = .ok (.getfield 34, 3) := by decide +kernel
theorem dX2_tryBits_32 : decode cX2_tryBits 32 = .ok (.iconst 1, 1) := by decide +kernel
theorem dX2_tryBits_33 : decode cX2_tryBits 33 = .ok (.isub, 1) := by decide +kernel
theorem dX2_tryBits_34 : decode cX2_tryBits 34 = .ok (.iload_n 1, 1) := by decide +kernel
theorem dX2_tryBits_35 : decode cX2_tryBits 35 = .ok (.isub, 1) := by decide +kernel
theorem dX2_tryBits_36 : decode cX2_tryBits 36 = .ok (.imul, 1) := by decide +kernel
theorem dX2_tryBits_37 : decode cX2_tryBits 37 = .ok (.istore 6, 2) := by decide +kernel
theorem dX2_tryBits_39 : decode cX2_tryBits 39 = .ok (.bipush 7, 2) := by decide +kernel
theorem dX2_tryBits_41 : decode cX2_tryBits 41 = .ok (.istore 7, 2) := by decide +kernel
theorem dX2_tryBits_43 : decode cX2_tryBits 43 = .ok (.iload 7, 2) := by decide +kernel
theorem dX2_tryBits_45 : decode cX2_tryBits 45 = .ok (.ifCond .lt 72, 3) := by decide +kernel
theorem dX2_tryBits_48 : decode cX2_tryBits 48 = .ok (.iload_n 3, 1) := by decide +kernel
theorem dX2_tryBits_49 : decode cX2_tryBits 49 = .ok (.iconst 1, 1) := by decide +kernel
theorem dX2_tryBits_50 : decode cX2_tryBits 50 = .ok (.iadd, 1) := by decide +kernel
theorem dX2_tryBits_51 : decode cX2_tryBits 51 = .ok (.lload 4, 2) := by decide +kernel
theorem dX2_tryBits_53 : decode cX2_tryBits 53 = .ok (.bipush 8, 2) := by decide +kernel
theorem dX2_tryBits_55 : decode cX2_tryBits 55 = .ok (.iload 7, 2) := by decide +kernel
theorem dX2_tryBits_57 : decode cX2_tryBits 57 = .ok (.imul, 1) := by decide +kernel
theorem dX2_tryBits_58 : decode cX2_tryBits 58 = .ok (.lushr, 1) := by decide +kernel
theorem dX2_tryBits_59 : decode cX2_tryBits 59 = .ok (.ldc2_w 70, 3) := by decide +kernel
theorem dX2_tryBits_62 : decode cX2_tryBits 62 = .ok (.land, 1) := by decide +kernel
theorem dX2_tryBits_63 : decode cX2_tryBits 63 = .ok (.l2i, 1) := by decide +kernel
theorem dX2_tryBits_64 : decode cX2_tryBits 64 = .ok (.iadd, 1) := by decide +kernel
theorem dX2_tryBits_65 : decode cX2_tryBits 65 = .ok (.istore 8, 2) := by decide +kernel
theorem dX2_tryBits_67 : decode cX2_tryBits 67 = .ok (.iload_n 2, 1) := by decide +kernel
theorem dX2_tryBits_68 : decode cX2_tryBits 68 = .ok (.iload 7, 2) := by decide +kernel
theorem dX2_tryBits_70 : decode cX2_tryBits 70 = .ok (.ishr, 1) := by decide +kernel
theorem dX2_tryBits_71 : decode cX2_tryBits 71 = .ok (.iconst 1, 1) := by decide +kernel
theorem dX2_tryBits_72 : decode cX2_tryBits 72 = .ok (.iand, 1) := by decide +kernel
theorem dX2_tryBits_73 : decode cX2_tryBits 73 = .ok (.ifCond .eq 38, 3) := by decide +kernel
theorem dX2_tryBits_76 : decode cX2_tryBits 76 = .ok (.iload 8, 2) := by decide +kernel
theorem dX2_tryBits_78 : decode cX2_tryBits 78 = .ok (.iload 6, 2) := by decide +kernel
theorem dX2_tryBits_80 : decode cX2_tryBits 80 = .ok (.iadd, 1) := by decide +kernel
theorem dX2_tryBits_81 : decode cX2_tryBits 81 = .ok (.aload_n 0, 1) := by decide +kernel
theorem dX2_tryBits_82 : decode cX2_tryBits 82 = .ok (.getfield 37, 3) := by decide +kernel
theorem dX2_tryBits_85 : decode cX2_tryBits 85 = .ok (.if_icmp .ge 26, 3) := by decide +kernel
theorem dX2_tryBits_88 : decode cX2_tryBits 88 = .ok (.aload_n 0, 1) := by decide +kernel
theorem dX2_tryBits_89 : decode cX2_tryBits 89 = .ok (.getfield 20, 3) := by decide +kernel
theorem dX2_tryBits_92 : decode cX2_tryBits 92 = .ok (.iload_n 1, 1) := by decide +kernel
theorem dX2_tryBits_93 : decode cX2_tryBits 93 = .ok (.iload 7, 2) := by decide +kernel
theorem dX2_tryBits_95 : decode cX2_tryBits 95 = .ok (.iastore, 1) := by decide +kernel
theorem dX2_tryBits_96 : decode cX2_tryBits 96 = .ok (.aload_n 0, 1) := by decide +kernel
theorem dX2_tryBits_97 : decode cX2_tryBits 97 = .ok (.iload_n 1, 1) := by decide +kernel
theorem dX2_tryBits_98 : decode cX2_tryBits 98 = .ok (.iload_n 2, 1) := by decide +kernel
theorem dX2_tryBits_99 : decode cX2_tryBits 99 = .ok (.iconst 1, 1) := by decide +kernel
theorem dX2_tryBits_100 : decode cX2_tryBits 100 = .ok (.iload 7, 2) := by decide +kernel
theorem dX2_tryBits_102 : decode cX2_tryBits 102 = .ok (.ishl, 1) := by decide +kernel
theorem dX2_tryBits_103 : decode cX2_tryBits 103 = .ok (.iconst (-1), 1) := by decide +kernel
theorem dX2_tryBits_104 : decode cX2_tryBits 104 = .ok (.ixor, 1) := by decide +kernel
theorem dX2_tryBits_105 : decode cX2_tryBits 105 = .ok (.iand, 1) := by decide +kernel
theorem dX2_tryBits_106 : decode cX2_tryBits 106 = .ok (.iload 8, 2) := by decide +kernel
theorem dX2_tryBits_108 : decode cX2_tryBits 108 = .ok (.invokevirtual 72, 3) := by decide +kernel
theorem dX2_tryBits_111 : decode cX2_tryBits 111 = .ok (.iinc 7 (-1), 3) := by decide +kernel
theorem dX2_tryBits_114 : decode cX2_tryBits 114 = .ok (.goto (-71), 3) := by decide +kernel
theorem dX2_tryBits_117 : decode cX2_tryBits 117 = .ok (.return_, 1) := by decide +kernel
theorem dX2_takeBit_0 : decode cX2_takeBit 0 = .ok (.iload_n 2, 1) := by decide +kernel
theorem dX2_takeBit_1 : decode cX2_takeBit 1 = .ok (.ifCond .ne 28, 3) := by decide +kernel
theorem dX2_takeBit_4 : decode cX2_takeBit 4 = .ok (.aload_n 0, 1) := by decide +kernel
theorem dX2_takeBit_5 : decode cX2_takeBit 5 = .ok (.iload_n 3, 1) := by decide +kernel
theorem dX2_takeBit_6 : decode cX2_takeBit 6 = .ok (.putfield 37, 3) := by decide +kernel
theorem dX2_takeBit_9 : decode cX2_takeBit 9 = .ok (.aload_n 0, 1) := by decide +kernel
theorem dX2_takeBit_10 : decode cX2_takeBit 10 = .ok (.getfield 20, 3) := by decide +kernel
theorem dX2_takeBit_13 : decode cX2_takeBit 13 = .ok (.iconst 0, 1) := by decide +kernel
theorem dX2_takeBit_14 : decode cX2_takeBit 14 = .ok (.aload_n 0, 1) := by decide +kernel
theorem dX2_takeBit_15 : decode cX2_takeBit 15 = .ok (.getfield 24, 3) := by decide +kernel
theorem dX2_takeBit_18 : decode cX2_takeBit 18 = .ok (.iconst 0, 1) := by decide +kernel
theorem dX2_takeBit_19 : decode cX2_takeBit 19 = .ok (.aload_n 0, 1) := by decide +kernel
theorem dX2_takeBit_20 : decode cX2_takeBit 20 = .ok (.getfield 34, 3) := by decide +kernel
theorem dX2_takeBit_23 : decode cX2_takeBit 23 = .ok (.invokestatic 75, 3) := by decide +kernel
theorem dX2_takeBit_26 : decode cX2_takeBit 26 = .ok (.goto 44, 3) := by decide +kernel
theorem dX2_takeBit_29 : decode cX2_takeBit 29 = .ok (.iload_n 1, 1) := by decide +kernel
theorem dX2_takeBit_30 : decode cX2_takeBit 30 = .ok (.iconst 1, 1) := by decide +kernel
theorem dX2_takeBit_31 : decode cX2_takeBit 31 = .ok (.iadd, 1) := by decide +kernel
theorem dX2_takeBit_32 : decode cX2_takeBit 32 = .ok (.bipush 8, 2) := by decide +kernel
theorem dX2_takeBit_34 : decode cX2_takeBit 34 = .ok (.if_icmp .ge 36, 3) := by decide +kernel
theorem dX2_takeBit_37 : decode cX2_takeBit 37 = .ok (.aload_n 0, 1) := by decide +kernel
theorem dX2_takeBit_38 : decode cX2_takeBit 38 = .ok (.aload_n 0, 1) := by decide +kernel
theorem dX2_takeBit_39 : decode cX2_takeBit 39 = .ok (.getfield 11, 3) := by decide +kernel
theorem dX2_takeBit_42 : decode cX2_takeBit 42 = .ok (.iload_n 1, 1) := by decide +kernel
theorem dX2_takeBit_43 : decode cX2_takeBit 43 = .ok (.aaload, 1) := by decide +kernel
theorem dX2_takeBit_44 : decode cX2_takeBit 44 = .ok (.aload_n 0, 1) := by decide +kernel
theorem dX2_takeBit_45 : decode cX2_takeBit 45 = .ok (.getfield 11, 3) := by decide +kernel
theorem dX2_takeBit_48 : decode cX2_takeBit 48 = .ok (.iload_n 1, 1) := by decide +kernel
theorem dX2_takeBit_49 : decode cX2_takeBit 49 = .ok (.iconst 1, 1) := by decide +kernel
theorem dX2_takeBit_50 : decode cX2_takeBit 50 = .ok (.iadd, 1) := by decide +kernel
theorem dX2_takeBit_51 : decode cX2_takeBit 51 = .ok (.aaload, 1) := by decide +kernel
theorem dX2_takeBit_52 : decode cX2_takeBit 52 = .ok (.aload_n 0, 1) := by decide +kernel
theorem dX2_takeBit_53 : decode cX2_takeBit 53 = .ok (.getfield 20, 3) := by decide +kernel
theorem dX2_takeBit_56 : decode cX2_takeBit 56 = .ok (.iload_n 1, 1) := by decide +kernel
theorem dX2_takeBit_57 : decode cX2_takeBit 57 = .ok (.iaload, 1) := by decide +kernel
theorem dX2_takeBit_58 : decode cX2_takeBit 58 = .ok (.invokevirtual 81, 3) := by decide +kernel
theorem dX2_takeBit_61 : decode cX2_takeBit 61 = .ok (.aload_n 0, 1) := by decide +kernel
theorem dX2_takeBit_62 : decode cX2_takeBit 62 = .ok (.iload_n 1, 1) := by decide +kernel
theorem dX2_takeBit_63 : decode cX2_takeBit 63 = .ok (.iconst 1, 1) := by decide +kernel
theorem dX2_takeBit_64 : decode cX2_takeBit 64 = .ok (.iadd, 1) := by decide +kernel
theorem dX2_takeBit_65 : decode cX2_takeBit 65 = .ok (.iload_n 2, 1) := by decide +kernel
theorem dX2_takeBit_66 : decode cX2_takeBit 66 = .ok (.iload_n 3, 1) := by decide +kernel
theorem dX2_takeBit_67 : decode cX2_takeBit 67 = .ok (.invokevirtual 54, 3) := by decide +kernel
theorem dX2_takeBit_70 : decode cX2_takeBit 70 = .ok (.return_, 1) := by decide +kernel
theorem dX2_changesOf_0 : decode cX2_changesOf 0 = .ok (.lconst 0, 1) := by decide +kernel
theorem dX2_changesOf_1 : decode cX2_changesOf 1 = .ok (.lstore_n 2, 1) := by decide +kernel
theorem dX2_changesOf_2 : decode cX2_changesOf 2 = .ok (.iconst 1, 1) := by decide +kernel
theorem dX2_changesOf_3 : decode cX2_changesOf 3 = .ok (.istore 4, 2) := by decide +kernel
theorem dX2_changesOf_5 : decode cX2_changesOf 5 = .ok (.iload 4, 2) := by decide +kernel
theorem dX2_changesOf_7 : decode cX2_changesOf 7 = .ok (.aload_n 0, 1) := by decide +kernel
theorem dX2_changesOf_8 : decode cX2_changesOf 8 = .ok (.getfield 30, 3) := by decide +kernel
theorem dX2_changesOf_11 : decode cX2_changesOf 11 = .ok (.if_icmp .ge 23, 3) := by decide +kernel
theorem dX2_changesOf_14 : decode cX2_changesOf 14 = .ok (.lload_n 2, 1) := by decide +kernel
theorem dX2_changesOf_15 : decode cX2_changesOf 15 = .ok (.aload_n 1, 1) := by decide +kernel
theorem dX2_changesOf_16 : decode cX2_changesOf 16 = .ok (.iload 4, 2) := by decide +kernel
theorem dX2_changesOf_18 : decode cX2_changesOf 18 = .ok (.laload, 1) := by decide +kernel
theorem dX2_changesOf_19 : decode cX2_changesOf 19 = .ok (.aload_n 1, 1) := by decide +kernel
theorem dX2_changesOf_20 : decode cX2_changesOf 20 = .ok (.iload 4, 2) := by decide +kernel
theorem dX2_changesOf_22 : decode cX2_changesOf 22 = .ok (.iconst 1, 1) := by decide +kernel
theorem dX2_changesOf_23 : decode cX2_changesOf 23 = .ok (.isub, 1) := by decide +kernel
theorem dX2_changesOf_24 : decode cX2_changesOf 24 = .ok (.laload, 1) := by decide +kernel
theorem dX2_changesOf_25 : decode cX2_changesOf 25 = .ok (.lxor, 1) := by decide +kernel
theorem dX2_changesOf_26 : decode cX2_changesOf 26 = .ok (.ladd, 1) := by decide +kernel
theorem dX2_changesOf_27 : decode cX2_changesOf 27 = .ok (.lstore_n 2, 1) := by decide +kernel
theorem dX2_changesOf_28 : decode cX2_changesOf 28 = .ok (.iinc 4 1, 3) := by decide +kernel
theorem dX2_changesOf_31 : decode cX2_changesOf 31 = .ok (.goto (-26), 3) := by decide +kernel
theorem dX2_changesOf_34 : decode cX2_changesOf 34 = .ok (.lload_n 2, 1) := by decide +kernel
theorem dX2_changesOf_35 : decode cX2_changesOf 35 = .ok (.lreturn, 1) := by decide +kernel
theorem dX2_part_0 : decode cX2_part 0 = .ok (.lconst 1, 1) := by decide +kernel
theorem dX2_part_1 : decode cX2_part 1 = .ok (.bipush 8, 2) := by decide +kernel
theorem dX2_part_3 : decode cX2_part 3 = .ok (.iload_n 3, 1) := by decide +kernel
theorem dX2_part_4 : decode cX2_part 4 = .ok (.imul, 1) := by decide +kernel
theorem dX2_part_5 : decode cX2_part 5 = .ok (.lshl, 1) := by decide +kernel
theorem dX2_part_6 : decode cX2_part 6 = .ok (.lstore 4, 2) := by decide +kernel
theorem dX2_part_8 : decode cX2_part 8 = .ok (.iconst 0, 1) := by decide +kernel
theorem dX2_part_9 : decode cX2_part 9 = .ok (.istore 6, 2) := by decide +kernel
theorem dX2_part_11 : decode cX2_part 11 = .ok (.iconst 0, 1) := by decide +kernel
theorem dX2_part_12 : decode cX2_part 12 = .ok (.istore 7, 2) := by decide +kernel
theorem dX2_part_14 : decode cX2_part 14 = .ok (.iconst 0, 1) := by decide +kernel
theorem dX2_part_15 : decode cX2_part 15 = .ok (.istore 8, 2) := by decide +kernel
theorem dX2_part_17 : decode cX2_part 17 = .ok (.iload 8, 2) := by decide +kernel
theorem dX2_part_19 : decode cX2_part 19 = .ok (.aload_n 0, 1) := by decide +kernel
theorem dX2_part_20 : decode cX2_part 20 = .ok (.getfield 30, 3) := by decide +kernel
theorem dX2_part_23 : decode cX2_part 23 = .ok (.if_icmp .ge 49, 3) := by decide +kernel
theorem dX2_part_26 : decode cX2_part 26 = .ok (.aload_n 1, 1) := by decide +kernel
theorem dX2_part_27 : decode cX2_part 27 = .ok (.iload 8, 2) := by decide +kernel
theorem dX2_part_29 : decode cX2_part 29 = .ok (.laload, 1) := by decide +kernel
theorem dX2_part_30 : decode cX2_part 30 = .ok (.lload 4, 2) := by decide +kernel
theorem dX2_part_32 : decode cX2_part 32 = .ok (.land, 1) := by decide +kernel
theorem dX2_part_33 : decode cX2_part 33 = .ok (.lconst 0, 1) := by decide +kernel
theorem dX2_part_34 : decode cX2_part 34 = .ok (.lcmp, 1) := by decide +kernel
theorem dX2_part_35 : decode cX2_part 35 = .ok (.ifCond .ne 17, 3) := by decide +kernel
theorem dX2_part_38 : decode cX2_part 38 = .ok (.aload_n 2, 1) := by decide +kernel
theorem dX2_part_39 : decode cX2_part 39 = .ok (.iload 6, 2) := by decide +kernel
theorem dX2_part_41 : decode cX2_part 41 = .ok (.aload_n 1, 1) := by decide +kernel
theorem dX2_part_42 : decode cX2_part 42 = .ok (.iload 8, 2) := by decide +kernel
theorem dX2_part_44 : decode cX2_part 44 = .ok (.laload, 1) := by decide +kernel
theorem dX2_part_45 : decode cX2_part 45 = .ok (.lastore, 1) := by decide +kernel
theorem dX2_part_46 : decode cX2_part 46 = .ok (.iinc 6 1, 3) := by decide +kernel
theorem dX2_part_49 : decode cX2_part 49 = .ok (.goto 17, 3) := by decide +kernel
theorem dX2_part_52 : decode cX2_part 52 = .ok (.aload_n 0, 1) := by decide +kernel
theorem dX2_part_53 : decode cX2_part 53 = .ok (.getfield 16, 3) := by decide +kernel
theorem dX2_part_56 : decode cX2_part 56 = .ok (.iload 7, 2) := by decide +kernel
theorem dX2_part_58 : decode cX2_part 58 = .ok (.aload_n 1, 1) := by decide +kernel
theorem dX2_part_59 : decode cX2_part 59 = .ok (.iload 8, 2) := by decide +kernel
theorem dX2_part_61 : decode cX2_part 61 = .ok (.laload, 1) := by decide +kernel
theorem dX2_part_62 : decode cX2_part 62 = .ok (.lastore, 1) := by decide +kernel
theorem dX2_part_63 : decode cX2_part 63 = .ok (.iinc 7 1, 3) := by decide +kernel
theorem dX2_part_66 : decode cX2_part 66 = .ok (.iinc 8 1, 3) := by decide +kernel
theorem dX2_part_69 : decode cX2_part 69 = .ok (.goto (-52), 3) := by decide +kernel
theorem dX2_part_72 : decode cX2_part 72 = .ok (.aload_n 0, 1) := by decide +kernel
theorem dX2_part_73 : decode cX2_part 73 = .ok (.getfield 16, 3) := by decide +kernel
theorem dX2_part_76 : decode cX2_part 76 = .ok (.iconst 0, 1) := by decide +kernel
theorem dX2_part_77 : decode cX2_part 77 = .ok (.aload_n 2, 1) := by decide +kernel
theorem dX2_part_78 : decode cX2_part 78 = .ok (.iload 6, 2) := by decide +kernel
theorem dX2_part_80 : decode cX2_part 80 = .ok (.iload 7, 2) := by decide +kernel
theorem dX2_part_82 : decode cX2_part 82 = .ok (.invokestatic 75, 3) := by decide +kernel
theorem dX2_part_85 : decode cX2_part 85 = .ok (.return_, 1) := by decide +kernel
theorem dX2_fillOrder_0 : decode cX2_fillOrder 0 = .ok (.iconst 0, 1) := by decide +kernel
theorem dX2_fillOrder_1 : decode cX2_fillOrder 1 = .ok (.istore_n 2, 1) := by decide +kernel
theorem dX2_fillOrder_2 : decode cX2_fillOrder 2 = .ok (.iconst 0, 1) := by decide +kernel
theorem dX2_fillOrder_3 : decode cX2_fillOrder 3 = .ok (.istore_n 3, 1) := by decide +kernel
theorem dX2_fillOrder_4 : decode cX2_fillOrder 4 = .ok (.bipush 7, 2) := by decide +kernel
theorem dX2_fillOrder_6 : decode cX2_fillOrder 6 = .ok (.istore 4, 2) := by decide +kernel
theorem dX2_fillOrder_8 : decode cX2_fillOrder 8 = .ok (.iload 4, 2) := by decide +kernel
theorem dX2_fillOrder_10 : decode cX2_fillOrder 10 = .ok (.ifCond .lt 69, 3) := by decide +kernel
theorem dX2_fillOrder_13 : decode cX2_fillOrder 13 = .ok (.iload_n 1, 1) := by decide +kernel
theorem dX2_fillOrder_14 : decode cX2_fillOrder 14 = .ok (.iload 4, 2) := by decide +kernel
theorem dX2_fillOrder_16 : decode cX2_fillOrder 16 = .ok (.ishr, 1) := by decide +kernel
theorem dX2_fillOrder_17 : decode cX2_fillOrder 17 = .ok (.iconst 1, 1) := by decide +kernel
theorem dX2_fillOrder_18 : decode cX2_fillOrder 18 = .ok (.iand, 1) := by decide +kernel
theorem dX2_fillOrder_19 : decode cX2_fillOrder 19 = .ok (.ifCond .ne 54, 3) := by decide +kernel
theorem dX2_fillOrder_22 : decode cX2_fillOrder 22 = .ok (.iload_n 3, 1) := by decide +kernel
theorem dX2_fillOrder_23 : decode cX2_fillOrder 23 = .ok (.aload_n 0, 1) := by decide +kernel
theorem dX2_fillOrder_24 : decode cX2_fillOrder 24 = .ok (.getfield 34, 3) := by decide +kernel
theorem dX2_fillOrder_27 : decode cX2_fillOrder 27 = .ok (.if_icmp .ge 35, 3) := by decide +kernel
theorem dX2_fillOrder_30 : decode cX2_fillOrder 30 = .ok (.aload_n 0, 1) := by decide +kernel
theorem dX2_fillOrder_31 : decode cX2_fillOrder 31 = .ok (.getfield 24, 3) := by decide +kernel
theorem dX2_fillOrder_34 : decode cX2_fillOrder 34 = .ok (.iload_n 3, 1) := by decide +kernel
theorem dX2_fillOrder_35 : decode cX2_fillOrder 35 = .ok (.iaload, 1) := by decide +kernel
theorem dX2_fillOrder_36 : decode cX2_fillOrder 36 = .ok (.iload 4, 2) := by decide +kernel
theorem dX2_fillOrder_38 : decode cX2_fillOrder 38 = .ok (.if_icmp .le 24, 3) := by decide +kernel
theorem dX2_fillOrder_41 : decode cX2_fillOrder 41 = .ok (.aload_n 0, 1) := by decide +kernel
theorem dX2_fillOrder_42 : decode cX2_fillOrder 42 = .ok (.getfield 27, 3) := by decide +kernel
theorem dX2_fillOrder_45 : decode cX2_fillOrder 45 = .ok (.iload_n 2, 1) := by decide +kernel
theorem dX2_fillOrder_46 : decode cX2_fillOrder 46 = .ok (.aload_n 0, 1) := by decide +kernel
theorem dX2_fillOrder_47 : decode cX2_fillOrder 47 = .ok (.getfield 24, 3) := by decide +kernel
theorem dX2_fillOrder_50 : decode cX2_fillOrder 50 = .ok (.iload_n 3, 1) := by decide +kernel
theorem dX2_fillOrder_51 : decode cX2_fillOrder 51 = .ok (.iaload, 1) := by decide +kernel
theorem dX2_fillOrder_52 : decode cX2_fillOrder 52 = .ok (.iastore, 1) := by decide +kernel
theorem dX2_fillOrder_53 : decode cX2_fillOrder 53 = .ok (.iinc 2 1, 3) := by decide +kernel
theorem dX2_fillOrder_56 : decode cX2_fillOrder 56 = .ok (.iinc 3 1, 3) := by decide +kernel
theorem dX2_fillOrder_59 : decode cX2_fillOrder 59 = .ok (.goto (-37), 3) := by decide +kernel
theorem dX2_fillOrder_62 : decode cX2_fillOrder 62 = .ok (.aload_n 0, 1) := by decide +kernel
theorem dX2_fillOrder_63 : decode cX2_fillOrder 63 = .ok (.getfield 27, 3) := by decide +kernel
theorem dX2_fillOrder_66 : decode cX2_fillOrder 66 = .ok (.iload_n 2, 1) := by decide +kernel
theorem dX2_fillOrder_67 : decode cX2_fillOrder 67 = .ok (.iload 4, 2) := by decide +kernel
theorem dX2_fillOrder_69 : decode cX2_fillOrder 69 = .ok (.iastore, 1) := by decide +kernel
theorem dX2_fillOrder_70 : decode cX2_fillOrder 70 = .ok (.iinc 2 1, 3) := by decide +kernel
theorem dX2_fillOrder_73 : decode cX2_fillOrder 73 = .ok (.iinc 4 (-1), 3) := by decide +kernel
theorem dX2_fillOrder_76 : decode cX2_fillOrder 76 = .ok (.goto (-68), 3) := by decide +kernel
theorem dX2_fillOrder_79 : decode cX2_fillOrder 79 = .ok (.aload_n 0, 1) := by decide +kernel
theorem dX2_fillOrder_80 : decode cX2_fillOrder 80 = .ok (.getfield 24, 3) := by decide +kernel
theorem dX2_fillOrder_83 : decode cX2_fillOrder 83 = .ok (.iload_n 3, 1) := by decide +kernel
theorem dX2_fillOrder_84 : decode cX2_fillOrder 84 = .ok (.aload_n 0, 1) := by decide +kernel
theorem dX2_fillOrder_85 : decode cX2_fillOrder 85 = .ok (.getfield 27, 3) := by decide +kernel
theorem dX2_fillOrder_88 : decode cX2_fillOrder 88 = .ok (.iload_n 2, 1) := by decide +kernel
theorem dX2_fillOrder_89 : decode cX2_fillOrder 89 = .ok (.aload_n 0, 1) := by decide +kernel
theorem dX2_fillOrder_90 : decode cX2_fillOrder 90 = .ok (.getfield 34, 3) := by decide +kernel
theorem dX2_fillOrder_93 : decode cX2_fillOrder 93 = .ok (.iload_n 3, 1) := by decide +kernel
theorem dX2_fillOrder_94 : decode cX2_fillOrder 94 = .ok (.isub, 1) := by decide +kernel
theorem dX2_fillOrder_95 : decode cX2_fillOrder 95 = .ok (.invokestatic 75, 3) := by decide +kernel
theorem dX2_fillOrder_98 : decode cX2_fillOrder 98 = .ok (.return_, 1) := by decide +kernel
theorem dX3_init_0 : decode cX3_init 0 = .ok (.aload_n 0, 1) := by decide +kernel
theorem dX3_init_1 : decode cX3_init 1 = .ok (.invokespecial 3, 3) := by decide +kernel
theorem dX3_init_4 : decode cX3_init 4 = .ok (.aload_n 0, 1) := by decide +kernel
theorem dX3_init_5 : decode cX3_init 5 = .ok (.bipush 64, 2) := by decide +kernel
theorem dX3_init_7 : decode cX3_init 7 = .ok (.newarray .int, 2) := by decide +kernel
theorem dX3_init_9 : decode cX3_init 9 = .ok (.putfield 9, 3) := by decide +kernel
theorem dX3_init_12 : decode cX3_init 12 = .ok (.aload_n 0, 1) := by decide +kernel
theorem dX3_init_13 : decode cX3_init 13 = .ok (.iconst 0, 1) := by decide +kernel
theorem dX3_init_14 : decode cX3_init 14 = .ok (.putfield 15, 3) := by decide +kernel
theorem dX3_init_17 : decode cX3_init 17 = .ok (.aload_n 0, 1) := by decide +kernel
theorem dX3_init_18 : decode cX3_init 18 = .ok (.iconst 0, 1) := by decide +kernel
theorem dX3_init_19 : decode cX3_init 19 = .ok (.putfield 19, 3) := by decide +kernel
theorem dX3_init_22 : decode cX3_init 22 = .ok (.return_, 1) := by decide +kernel
theorem dX3_read_0 : decode cX3_read 0 = .ok (.aload_n 0, 1) := by decide +kernel
theorem dX3_read_1 : decode cX3_read 1 = .ok (.iconst 0, 1) := by decide +kernel
theorem dX3_read_2 : decode cX3_read 2 = .ok (.putfield 15, 3) := by decide +kernel
theorem dX3_read_5 : decode cX3_read 5 = .ok (.aload_n 0, 1) := by decide +kernel
theorem dX3_read_6 : decode cX3_read 6 = .ok (.iconst 0, 1) := by decide +kernel
theorem dX3_read_7 : decode cX3_read 7 = .ok (.putfield 19, 3) := by decide +kernel
theorem dX3_read_10 : decode cX3_read 10 = .ok (.aload_n 1, 1) := by decide +kernel
theorem dX3_read_11 : decode cX3_read 11 = .ok (.getfield 22, 3) := by decide +kernel
theorem dX3_read_14 : decode cX3_read 14 = .ok (.ifCond .ne 5, 3) := by decide +kernel
theorem dX3_read_17 : decode cX3_read 17 = .ok (.iconst (-1), 1) := by decide +kernel
theorem dX3_read_18 : decode cX3_read 18 = .ok (.ireturn, 1) := by decide +kernel
theorem dX3_read_19 : decode cX3_read 19 = .ok (.iconst 0, 1) := by decide +kernel
theorem dX3_read_20 : decode cX3_read 20 = .ok (.istore_n 2, 1) := by decide +kernel
theorem dX3_read_21 : decode cX3_read 21 = .ok (.iload_n 2, 1) := by decide +kernel
theorem dX3_read_22 : decode cX3_read 22 = .ok (.bipush 100, 2) := by decide +kernel
theorem dX3_read_24 : decode cX3_read 24 = .ok (.if_icmp .ge 63, 3) := by decide +kernel
theorem dX3_read_27 : decode cX3_read 27 = .ok (.aload_n 0, 1) := by decide +kernel
theorem dX3_read_28 : decode cX3_read 28 = .ok (.aload_n 1, 1) := by decide +kernel
theorem dX3_read_29 : decode cX3_read 29 = .ok (.invokevirtual 25, 3) := by decide +kernel
theorem dX3_read_32 : decode cX3_read 32 = .ok (.istore_n 3, 1) := by decide +kernel
theorem dX3_read_33 : decode cX3_read 33 = .ok (.iload_n 3, 1) := by decide +kernel
theorem dX3_read_34 : decode cX3_read 34 = .ok (.iconst (-1), 1) := by decide +kernel
theorem dX3_read_35 : decode cX3_read 35 = .ok (.if_icmp .eq 5, 3) := by decide +kernel
theorem dX3_read_38 : decode cX3_read 38 = .ok (.iload_n 3, 1) := by decide +kernel
theorem dX3_read_39 : decode cX3_read 39 = .ok (.ireturn, 1) := by decide +kernel
theorem dX3_read_40 : decode cX3_read 40 = .ok (.aload_n 0, 1) := by decide +kernel
theorem dX3_read_41 : decode cX3_read 41 = .ok (.getfield 19, 3) := by decide +kernel
theorem dX3_read_44 : decode cX3_read 44 = .ok (.aload_n 1, 1) := by decide +kernel
theorem dX3_read_45 : decode cX3_read 45 = .ok (.getfield 22, 3) := by decide +kernel
theorem dX3_read_48 : decode cX3_read 48 = .ok (.if_icmp .lt 5, 3) := by decide +kernel
theorem dX3_read_51 : decode cX3_read 51 = .ok (.iconst (-1), 1) := by decide +kernel
theorem dX3_read_52 : decode cX3_read 52 = .ok (.ireturn, 1) := by decide +kernel
theorem dX3_read_53 : decode cX3_read 53 = .ok (.aload_n 1, 1) := by decide +kernel
theorem dX3_read_54 : decode cX3_read 54 = .ok (.aload_n 0, 1) := by decide +kernel
theorem dX3_read_55 : decode cX3_read 55 = .ok (.getfield 19, 3) := by decide +kernel
theorem dX3_read_58 : decode cX3_read 58 = .ok (.invokevirtual 29, 3) := by decide +kernel
theorem dX3_read_61 : decode cX3_read 61 = .ok (.bipush 44, 2) := by decide +kernel
theorem dX3_read_63 : decode cX3_read 63 = .ok (.if_icmp .eq 8, 3) := by decide +kernel
theorem dX3_read_66 : decode cX3_read 66 = .ok (.aload_n 0, 1) := by decide +kernel
theorem dX3_read_67 : decode cX3_read 67 = .ok (.getfield 19, 3) := by decide +kernel
theorem dX3_read_70 : decode cX3_read 70 = .ok (.ireturn, 1) := by decide +kernel
theorem dX3_read_71 : decode cX3_read 71 = .ok (.aload_n 0, 1) := by decide +kernel
theorem dX3_read_72 : decode cX3_read 72 = .ok (.dup, 1) := by decide +kernel
theorem dX3_read_73 : decode cX3_read 73 = .ok (.getfield 19, 3) := by decide +kernel
theorem dX3_read_76 : decode cX3_read 76 = .ok (.iconst 1, 1) := by decide +kernel
theorem dX3_read_77 : decode cX3_read 77 = .ok (.iadd, 1) := by decide +kernel
theorem dX3_read_78 : decode cX3_read 78 = .ok (.putfield 19, 3) := by decide +kernel
theorem dX3_read_81 : decode cX3_read 81 = .ok (.iinc 2 1, 3) := by decide +kernel
theorem dX3_read_84 : decode cX3_read 84 = .ok (.goto (-63), 3) := by decide +kernel
theorem dX3_read_87 : decode cX3_read 87 = .ok (.aload_n 0, 1) := by decide +kernel
theorem dX3_read_88 : decode cX3_read 88 = .ok (.getfield 19, 3) := by decide +kernel
theorem dX3_read_91 : decode cX3_read 91 = .ok (.ireturn, 1) := by decide +kernel
theorem dX3_readPart_0 : decode cX3_readPart 0 = .ok (.aload_n 0, 1) := by decide +kernel
theorem dX3_readPart_1 : decode cX3_readPart 1 = .ok (.getfield 19, 3) := by decide +kernel
theorem dX3_readPart_4 : decode cX3_readPart 4 = .ok (.istore_n 2, 1) := by decide +kernel
theorem dX3_readPart_5 : decode cX3_readPart 5 = .ok (.aload_n 0, 1) := by decide +kernel
theorem dX3_readPart_6 : decode cX3_readPart 6 = .ok (.aload_n 1, 1) := by decide +kernel
theorem dX3_readPart_7 : decode cX3_readPart 7 = .ok (.iconst 3, 1) := by decide +kernel
theorem dX3_readPart_8 : decode cX3_readPart 8 = .ok (.iconst 0, 1) := by decide +kernel
theorem dX3_readPart_9 : decode cX3_readPart 9 = .ok (.sipush 255, 3) := by decide +kernel
theorem dX3_readPart_12 : decode cX3_readPart 12 = .ok (.invokevirtual 32, 3) := by decide +kernel
theorem dX3_readPart_15 : decode cX3_readPart 15 = .ok (.istore_n 3, 1) := by decide +kernel
theorem dX3_readPart_16 : decode cX3_readPart 16 = .ok (.iload_n 3, 1) := by decide +kernel
theorem dX3_readPart_17 : decode cX3_readPart 17 = .ok (.ifCond .ge 8, 3) := by decide +kernel
theorem dX3_readPart_20 : decode cX3_readPart 20 = .ok (.aload_n 0, 1) := by decide +kernel
theorem dX3_readPart_21 : decode cX3_readPart 21 = .ok (.getfield 19, 3) := by decide +kernel
theorem dX3_readPart_24 : decode cX3_readPart 24 = .ok (.ireturn, 1) := by decide +kernel
theorem dX3_readPart_25 : decode cX3_readPart 25 = .ok (.iconst 1, 1) := by decide +kernel
theorem dX3_readPart_26 : decode cX3_readPart 26 = .ok (.istore 4, 2) := by decide +kernel
theorem dX3_readPart_28 : decode cX3_readPart 28 = .ok (.aload_n 1, 1) := by decide +kernel
theorem dX3_readPart_29 : decode cX3_readPart 29 = .ok (.aload_n 0, 1) := by decide +kernel
theorem dX3_readPart_30 : decode cX3_readPart 30 = .ok (.getfield 19, 3) := by decide +kernel
theorem dX3_readPart_33 : decode cX3_readPart 33 = .ok (.invokevirtual 29, 3) := by decide +kernel
theorem dX3_readPart_36 : decode cX3_readPart 36 = .ok (.bipush 120, 2) := by decide +kernel
theorem dX3_readPart_38 : decode cX3_readPart 38 = .ok (.if_icmp .ne 34, 3) := by decide +kernel
theorem dX3_readPart_41 : decode cX3_readPart 41 = .ok (.aload_n 0, 1) := by decide +kernel
theorem dX3_readPart_42 : decode cX3_readPart 42 = .ok (.dup, 1) := by decide +kernel
theorem dX3_readPart_43 : decode cX3_readPart 43 = .ok (.getfield 19, 3) := by decide +kernel
theorem dX3_readPart_46 : decode cX3_readPart 46 = .ok (.iconst 1, 1) := by decide +kernel
theorem dX3_readPart_47 : decode cX3_readPart 47 = .ok (.iadd, 1) := by decide +kernel
theorem dX3_readPart_48 : decode cX3_readPart 48 = .ok (.putfield 19, 3) := by decide +kernel
theorem dX3_readPart_51 : decode cX3_readPart 51 = .ok (.aload_n 0, 1) := by decide +kernel
theorem dX3_readPart_52 : decode cX3_readPart 52 = .ok (.aload_n 1, 1) := by decide +kernel
theorem dX3_readPart_53 : decode cX3_readPart 53 = .ok (.iconst 2, 1) := by decide +kernel
theorem dX3_readPart_54 : decode cX3_readPart 54 = .ok (.iconst 1, 1) := by decide +kernel
theorem dX3_readPart_55 : decode cX3_readPart 55 = .ok (.bipush 64, 2) := by decide +kernel
theorem dX3_readPart_57 : decode cX3_readPart 57 = .ok (.invokevirtual 32, 3) := by decide +kernel
theorem dX3_readPart_60 : decode cX3_readPart 60 = .ok (.istore 4, 2) := by decide +kernel
theorem dX3_readPart_62 : decode cX3_readPart 62 = .ok (.iload 4, 2) := by decide +kernel
theorem dX3_readPart_64 : decode cX3_readPart 64 = .ok (.ifCond .ge 8, 3) := by decide +kernel
theorem dX3_readPart_67 : decode cX3_readPart 67 = .ok (.aload_n 0, 1) := by decide +kernel
theorem dX3_readPart_68 : decode cX3_readPart 68 = .ok (.getfield 19, 3) := by decide +kernel
theorem dX3_readPart_71 : decode cX3_readPart 71 = .ok (.ireturn, 1) := by decide +kernel
theorem dX3_readPart_72 : decode cX3_readPart 72 = .ok (.aload_n 0, 1) := by decide +kernel
theorem dX3_readPart_73 : decode cX3_readPart 73 = .ok (.getfield 15, 3) := by decide +kernel
theorem dX3_readPart_76 : decode cX3_readPart 76 = .ok (.iload 4, 2) := by decide +kernel
theorem dX3_readPart_78 : decode cX3_readPart 78 = .ok (.iadd, 1) := by decide +kernel
theorem dX3_readPart_79 : decode cX3_readPart 79 = .ok (.bipush 64, 2) := by decide +kernel
theorem dX3_readPart_81 : decode cX3_readPart 81 = .ok (.if_icmp .le 5, 3) := by decide +kernel
theorem dX3_readPart_84 : decode cX3_readPart 84 = .ok (.iload_n 2, 1) := by decide +kernel
theorem dX3_readPart_85 : decode cX3_readPart 85 = .ok (.ireturn, 1) := by decide +kernel
theorem dX3_readPart_86 : decode cX3_readPart 86 = .ok (.iconst 0, 1) := by decide +kernel
theorem dX3_readPart_87 : decode cX3_readPart 87 = .ok (.istore 5, 2) := by decide +kernel
theorem dX3_readPart_89 : decode cX3_readPart 89 = .ok (.iload 5, 2) := by decide +kernel
theorem dX3_readPart_91 : decode cX3_readPart 91 = .ok (.iload 4, 2) := by decide +kernel
theorem dX3_readPart_93 : decode cX3_readPart 93 = .ok (.if_icmp .ge 29, 3) := by decide +kernel
theorem dX3_readPart_96 : decode cX3_readPart 96 = .ok (.aload_n 0, 1) := by decide +kernel
theorem dX3_readPart_97 : decode cX3_readPart 97 = .ok (.getfield 9, 3) := by decide +kernel
theorem dX3_readPart_100 : decode cX3_readPart 100 = .ok (.aload_n 0, 1) := by decide +kernel
theorem dX3_readPart_101 : decode cX3_readPart 101 = .ok (.getfield 15, 3) := by decide +kernel
theorem dX3_readPart_104 : decode cX3_readPart 104 = .ok (.iload_n 3, 1) := by decide +kernel
theorem dX3_readPart_105 : decode cX3_readPart 105 = .ok (.iastore, 1) := by decide +kernel
theorem dX3_readPart_106 : decode cX3_readPart 106 = .ok (.aload_n 0, 1) := by decide +kernel
theorem dX3_readPart_107 : decode cX3_readPart 107 = .ok (.dup, 1) := by decide +kernel
theorem dX3_readPart_108 : decode cX3_readPart 108 = .ok (.getfield 15, 3) := by decide +kernel
theorem dX3_readPart_111 : decode cX3_readPart 111 = .ok (.iconst 1, 1) := by decide +kernel
theorem dX3_readPart_112 : decode cX3_readPart 112 = .ok (.iadd, 1) := by decide +kernel
theorem dX3_readPart_113 : decode cX3_readPart 113 = .ok (.putfield 15, 3) := by decide +kernel
theorem dX3_readPart_116 : decode cX3_readPart 116 = .ok (.iinc 5 1, 3) := by decide +kernel
theorem dX3_readPart_119 : decode cX3_readPart 119 = .ok (.goto (-30), 3) := by decide +kernel
theorem dX3_readPart_122 : decode cX3_readPart 122 = .ok (.iconst (-1), 1) := by decide +kernel
theorem dX3_readPart_123 : decode cX3_readPart 123 = .ok (.ireturn, 1) := by decide +kernel
theorem dX3_readDigits_0 : decode cX3_readDigits 0 = .ok (.iconst 0, 1) := by decide +kernel
theorem dX3_readDigits_1 : decode cX3_readDigits 1 = .ok (.istore 5, 2) := by decide +kernel
theorem dX3_readDigits_3 : decode cX3_readDigits 3 = .ok (.iconst 0, 1) := by decide +kernel
theorem dX3_readDigits_4 : decode cX3_readDigits 4 = .ok (.istore 6, 2) := by decide +kernel
theorem dX3_readDigits_6 : decode cX3_readDigits 6 = .ok (.iload 6, 2) := by decide +kernel
theorem dX3_readDigits_8 : decode cX3_readDigits 8 = .ok (.iload_n 2, 1) := by decide +kernel
theorem dX3_readDigits_9 : decode cX3_readDigits 9 = .ok (.if_icmp .ge 52, 3) := by decide +kernel
theorem dX3_readDigits_12 : decode cX3_readDigits 12 = .ok (.aload_n 1, 1) := by decide +kernel
theorem dX3_readDigits_13 : decode cX3_readDigits 13 = .ok (.aload_n 0, 1) := by decide +kernel
theorem dX3_readDigits_14 : decode cX3_readDigits 14 = .ok (.getfield 19, 3) := by decide +kernel
theorem dX3_readDigits_17 : decode cX3_readDigits 17 = .ok (.invokevirtual 29, 3) := by decide +kernel
theorem dX3_readDigits_20 : decode cX3_readDigits 20 = .ok (.invokestatic 36, 3) := by decide +kernel
theorem dX3_readDigits_23 : decode cX3_readDigits 23 = .ok (.ifCond .eq 38, 3) := by decide +kernel
theorem dX3_readDigits_26 : decode cX3_readDigits 26 = .ok (.iload 5, 2) := by decide +kernel
theorem dX3_readDigits_28 : decode cX3_readDigits 28 = .ok (.bipush 10, 2) := by decide +kernel
theorem dX3_readDigits_30 : decode cX3_readDigits 30 = .ok (.imul, 1) := by decide +kernel
theorem dX3_readDigits_31 : decode cX3_readDigits 31 = .ok (.aload_n 1, 1) := by decide +kernel
theorem dX3_readDigits_32 : decode cX3_readDigits 32 = .ok (.aload_n 0, 1) := by decide +kernel
theorem dX3_readDigits_33 : decode cX3_readDigits 33 = .ok (.getfield 19, 3) := by decide +kernel
theorem dX3_readDigits_36 : decode cX3_readDigits 36 = .ok (.invokevirtual 29, 3) := by decide +kernel
theorem dX3_readDigits_39 : decode cX3_readDigits 39 = .ok (.iadd, 1) := by decide +kernel
theorem dX3_readDigits_40 : decode cX3_readDigits 40 = .ok (.bipush 48, 2) := by decide +kernel
theorem dX3_readDigits_42 : decode cX3_readDigits 42 = .ok (.isub, 1) := by decide +kernel
theorem dX3_readDigits_43 : decode cX3_readDigits 43 = .ok (.istore 5, 2) := by decide +kernel
theorem dX3_readDigits_45 : decode cX3_readDigits 45 = .ok (.aload_n 0, 1) := by decide +kernel
theorem dX3_readDigits_46 : decode cX3_readDigits 46 = .ok (.dup, 1) := by decide +kernel
theorem dX3_readDigits_47 : decode cX3_readDigits 47 = .ok (.getfield 19, 3) := by decide +kernel
theorem dX3_readDigits_50 : decode cX3_readDigits 50 = .ok (.iconst 1, 1) := by decide +kernel
theorem dX3_readDigits_51 : decode cX3_readDigits 51 = .ok (.iadd, 1) := by decide +kernel
theorem dX3_readDigits_52 : decode cX3_readDigits 52 = .ok (.putfield 19, 3) := by decide +kernel
theorem dX3_readDigits_55 : decode cX3_readDigits 55 = .ok (.iinc 6 1, 3) := by decide +kernel
theorem dX3_readDigits_58 : decode cX3_readDigits 58 = .ok (.goto (-52), 3) := by decide +kernel
theorem dX3_readDigits_61 : decode cX3_readDigits 61 = .ok (.iload 6, 2) := by decide +kernel
theorem dX3_readDigits_63 : decode cX3_readDigits 63 = .ok (.ifCond .ne 5, 3) := by decide +kernel
theorem dX3_readDigits_66 : decode cX3_readDigits 66 = .ok (.iconst (-1), 1) := by decide +kernel
theorem dX3_readDigits_67 : decode cX3_readDigits 67 = .ok (.ireturn, 1) := by decide +kernel
theorem dX3_readDigits_68 : decode cX3_readDigits 68 = .ok (.iload 5, 2) := by decide +kernel
theorem dX3_readDigits_70 : decode cX3_readDigits 70 = .ok (.iload_n 3, 1) := by decide +kernel
theorem dX3_readDigits_71 : decode cX3_readDigits 71 = .ok (.if_icmp .lt 10, 3) := by decide +kernel
theorem dX3_readDigits_74 : decode cX3_readDigits 74 = .ok (.iload 5, 2) := by decide +kernel
theorem dX3_readDigits_76 : decode cX3_readDigits 76 = .ok (.iload 4, 2) := by decide +kernel
theorem dX3_readDigits_78 : decode cX3_readDigits 78 = .ok (.if_icmp .le 15, 3) := by decide +kernel
theorem dX3_readDigits_81 : decode cX3_readDigits 81 = .ok (.aload_n 0, 1) := by decide +kernel
theorem dX3_readDigits_82 : decode cX3_readDigits 82 = .ok (.dup, 1) := by decide +kernel
theorem dX3_readDigits_83 : decode cX3_readDigits 83 = .ok (.getfield 19, 3) := by decide +kernel
theorem dX3_readDigits_86 : decode cX3_readDigits 86 = .ok (.iconst 1, 1) := by decide +kernel
theorem dX3_readDigits_87 : decode cX3_readDigits 87 = .ok (.isub, 1) := by decide +kernel
theorem dX3_readDigits_88 : decode cX3_readDigits 88 = .ok (.putfield 19, 3) := by decide +kernel
theorem dX3_readDigits_91 : decode cX3_readDigits 91 = .ok (.iconst (-1), 1) := by decide +kernel
theorem dX3_readDigits_92 : decode cX3_readDigits 92 = .ok (.ireturn, 1) := by decide +kernel
theorem dX3_readDigits_93 : decode cX3_readDigits 93 = .ok (.aload_n 1, 1) := by decide +kernel
theorem dX3_readDigits_94 : decode cX3_readDigits 94 = .ok (.aload_n 0, 1) := by decide +kernel
theorem dX3_readDigits_95 : decode cX3_readDigits 95 = .ok (.getfield 19, 3) := by decide +kernel
theorem dX3_readDigits_98 : decode cX3_readDigits 98 = .ok (.invokevirtual 29, 3) := by decide +kernel
theorem dX3_readDigits_101 : decode cX3_readDigits 101 = .ok (.invokestatic 36, 3) := by decide +kernel
theorem dX3_readDigits_104 : decode cX3_readDigits 104 = .ok (.ifCond .eq 7, 3) := by decide +kernel
theorem dX3_readDigits_107 : decode cX3_readDigits 107 = .ok (.iconst (-1), 1) := by decide +kernel
theorem dX3_readDigits_108 : decode cX3_readDigits 108 = .ok (.goto 5, 3) := by decide +kernel
theorem dX3_readDigits_111 : decode cX3_readDigits 111 = .ok (.iload 5, 2) := by decide +kernel
theorem dX3_readDigits_113 : decode cX3_readDigits 113 = .ok (.ireturn, 1) := by decide +kernel
theorem dX3_isDigit_0 : decode cX3_isDigit 0 = .ok (.iload_n 0, 1) := by decide +kernel
theorem dX3_isDigit_1 : decode cX3_isDigit 1 = .ok (.bipush 48, 2) := by decide +kernel
theorem dX3_isDigit_3 : decode cX3_isDigit 3 = .ok (.if_icmp .lt 13, 3) := by decide +kernel
theorem dX3_isDigit_6 : decode cX3_isDigit 6 = .ok (.iload_n 0, 1) := by decide +kernel
theorem dX3_isDigit_7 : decode cX3_isDigit 7 = .ok (.bipush 57, 2) := by decide +kernel
theorem dX3_isDigit_9 : decode cX3_isDigit 9 = .ok (.if_icmp .gt 7, 3) := by decide +kernel
theorem dX3_isDigit_12 : decode cX3_isDigit 12 = .ok (.iconst 1, 1) := by decide +kernel
theorem dX3_isDigit_13 : decode cX3_isDigit 13 = .ok (.goto 4, 3) := by decide +kernel
theorem dX3_isDigit_16 : decode cX3_isDigit 16 = .ok (.iconst 0, 1) := by decide +kernel
theorem dX3_isDigit_17 : decode cX3_isDigit 17 = .ok (.ireturn, 1) := by decide +kernel
theorem dX4_init_0 : decode cX4_init 0 = .ok (.aload_n 0, 1) := by decide +kernel
theorem dX4_init_1 : decode cX4_init 1 = .ok (.invokespecial 3, 3) := by decide +kernel
theorem dX4_init_4 : decode cX4_init 4 = .ok (.aload_n 0, 1) := by decide +kernel
theorem dX4_init_5 : decode cX4_init 5 = .ok (.bipush 8, 2) := by decide +kernel
theorem dX4_init_7 : decode cX4_init 7 = .ok (.newarray .long, 2) := by decide +kernel
theorem dX4_init_9 : decode cX4_init 9 = .ok (.putfield 9, 3) := by decide +kernel
theorem dX4_init_12 : decode cX4_init 12 = .ok (.aload_n 0, 1) := by decide +kernel
theorem dX4_init_13 : decode cX4_init 13 = .ok (.iconst 0, 1) := by decide +kernel
theorem dX4_init_14 : decode cX4_init 14 = .ok (.putfield 15, 3) := by decide +kernel
theorem dX4_init_17 : decode cX4_init 17 = .ok (.return_, 1) := by decide +kernel
theorem dX4_read_0 : decode cX4_read 0 = .ok (.iconst 0, 1) := by decide +kernel
theorem dX4_read_1 : decode cX4_read 1 = .ok (.istore_n 2, 1) := by decide +kernel
theorem dX4_read_2 : decode cX4_read 2 = .ok (.iconst 0, 1) := by decide +kernel
theorem dX4_read_3 : decode cX4_read 3 = .ok (.istore_n 3, 1) := by decide +kernel
theorem dX4_read_4 : decode cX4_read 4 = .ok (.iload_n 3, 1) := by decide +kernel
theorem dX4_read_5 : decode cX4_read 5 = .ok (.bipush 8, 2) := by decide +kernel
theorem dX4_read_7 : decode cX4_read 7 = .ok (.if_icmp .ge 84, 3) := by decide +kernel
theorem dX4_read_10 : decode cX4_read 10 = .ok (.aload_n 0, 1) := by decide +kernel
theorem dX4_read_11 : decode cX4_read 11 = .ok (.aload_n 1, 1) := by decide +kernel
theorem dX4_read_12 : decode cX4_read 12 = .ok (.iload_n 2, 1) := by decide +kernel
theorem dX4_read_13 : decode cX4_read 13 = .ok (.iload_n 3, 1) := by decide +kernel
theorem dX4_read_14 : decode cX4_read 14 = .ok (.iload_n 3, 1) := by decide +kernel
theorem dX4_read_15 : decode cX4_read 15 = .ok (.ifCond .ne 8, 3) := by decide +kernel
theorem dX4_read_18 : decode cX4_read 18 = .ok (.bipush 11, 2) := by decide +kernel
theorem dX4_read_20 : decode cX4_read 20 = .ok (.goto 7, 3) := by decide +kernel
theorem dX4_read_23 : decode cX4_read 23 = .ok (.aload_n 0, 1) := by decide +kernel
theorem dX4_read_24 : decode cX4_read 24 = .ok (.getfield 15, 3) := by decide +kernel
theorem dX4_read_27 : decode cX4_read 27 = .ok (.invokevirtual 19, 3) := by decide +kernel
theorem dX4_read_30 : decode cX4_read 30 = .ok (.istore 4, 2) := by decide +kernel
theorem dX4_read_32 : decode cX4_read 32 = .ok (.iload_n 2, 1) := by decide +kernel
theorem dX4_read_33 : decode cX4_read 33 = .ok (.iload 4, 2) := by decide +kernel
theorem dX4_read_35 : decode cX4_read 35 = .ok (.iadd, 1) := by decide +kernel
theorem dX4_read_36 : decode cX4_read 36 = .ok (.istore_n 2, 1) := by decide +kernel
theorem dX4_read_37 : decode cX4_read 37 = .ok (.iload_n 3, 1) := by decide +kernel
theorem dX4_read_38 : decode cX4_read 38 = .ok (.ifCond .ne 9, 3) := by decide +kernel
theorem dX4_read_41 : decode cX4_read 41 = .ok (.aload_n 0, 1) := by decide +kernel
theorem dX4_read_42 : decode cX4_read 42 = .ok (.iload 4, 2) := by decide +kernel
theorem dX4_read_44 : decode cX4_read 44 = .ok (.putfield 15, 3) := by decide +kernel
theorem dX4_read_47 : decode cX4_read 47 = .ok (.iload_n 3, 1) := by decide +kernel
theorem dX4_read_48 : decode cX4_read 48 = .ok (.bipush 7, 2) := by decide +kernel
theorem dX4_read_50 : decode cX4_read 50 = .ok (.if_icmp .ne 7, 3) := by decide +kernel
theorem dX4_read_53 : decode cX4_read 53 = .ok (.iconst (-1), 1) := by decide +kernel
theorem dX4_read_54 : decode cX4_read 54 = .ok (.goto 5, 3) := by decide +kernel
theorem dX4_read_57 : decode cX4_read 57 = .ok (.bipush 47, 2) := by decide +kernel
theorem dX4_read_59 : decode cX4_read 59 = .ok (.istore 5, 2) := by decide +kernel
theorem dX4_read_61 : decode cX4_read 61 = .ok (.iload 4, 2) := by decide +kernel
theorem dX4_read_63 : decode cX4_read 63 = .ok (.aload_n 0, 1) := by decide +kernel
theorem dX4_read_64 : decode cX4_read 64 = .ok (.getfield 15, 3) := by decide +kernel
theorem dX4_read_67 : decode cX4_read 67 = .ok (.if_icmp .lt 13, 3) := by decide +kernel
theorem dX4_read_70 : decode cX4_read 70 = .ok (.aload_n 1, 1) := by decide +kernel
theorem dX4_read_71 : decode cX4_read 71 = .ok (.iload_n 2, 1) := by decide +kernel
theorem dX4_read_72 : decode cX4_read 72 = .ok (.invokevirtual 25, 3) := by decide +kernel
theorem dX4_read_75 : decode cX4_read 75 = .ok (.iload 5, 2) := by decide +kernel
theorem dX4_read_77 : decode cX4_read 77 = .ok (.if_icmp .eq 5, 3) := by decide +kernel
theorem dX4_read_80 : decode cX4_read 80 = .ok (.iload_n 2, 1) := by decide +kernel
theorem dX4_read_81 : decode cX4_read 81 = .ok (.ireturn, 1) := by decide +kernel
theorem dX4_read_82 : decode cX4_read 82 = .ok (.iinc 2 1, 3) := by decide +kernel
theorem dX4_read_85 : decode cX4_read 85 = .ok (.iinc 3 1, 3) := by decide +kernel
theorem dX4_read_88 : decode cX4_read 88 = .ok (.goto (-84), 3) := by decide +kernel
theorem dX4_read_91 : decode cX4_read 91 = .ok (.iconst (-1), 1) := by decide +kernel
theorem dX4_read_92 : decode cX4_read 92 = .ok (.ireturn, 1) := by decide +kernel
theorem dX4_readBits_0 : decode cX4_readBits 0 = .ok (.aload_n 0, 1) := by decide +kernel
theorem dX4_readBits_1 : decode cX4_readBits 1 = .ok (.getfield 9, 3) := by decide +kernel
theorem dX4_readBits_4 : decode cX4_readBits 4 = .ok (.iload_n 3, 1) := by decide +kernel
theorem dX4_readBits_5 : decode cX4_readBits 5 = .ok (.lconst 0, 1) := by decide +kernel
theorem dX4_readBits_6 : decode cX4_readBits 6 = .ok (.lastore, 1) := by decide +kernel
theorem dX4_readBits_7 : decode cX4_readBits 7 = .ok (.iconst 0, 1) := by decide +kernel
theorem dX4_readBits_8 : decode cX4_readBits 8 = .ok (.istore 5, 2) := by decide +kernel
theorem dX4_readBits_10 : decode cX4_readBits 10 = .ok (.iload 5, 2) := by decide +kernel
theorem dX4_readBits_12 : decode cX4_readBits 12 = .ok (.iload 4, 2) := by decide +kernel
theorem dX4_readBits_14 : decode cX4_readBits 14 = .ok (.if_icmp .ge 47, 3) := by decide +kernel
theorem dX4_readBits_17 : decode cX4_readBits 17 = .ok (.aload_n 1, 1) := by decide +kernel
theorem dX4_readBits_18 : decode cX4_readBits 18 = .ok (.iload_n 2, 1) := by decide +kernel
theorem dX4_readBits_19 : decode cX4_readBits 19 = .ok (.iload 5, 2) := by decide +kernel
theorem dX4_readBits_21 : decode cX4_readBits 21 = .ok (.iadd, 1) := by decide +kernel
theorem dX4_readBits_22 : decode cX4_readBits 22 = .ok (.invokevirtual 25, 3) := by decide +kernel
theorem dX4_readBits_25 : decode cX4_readBits 25 = .ok (.invokestatic 29, 3) := by decide +kernel
theorem dX4_readBits_28 : decode cX4_readBits 28 = .ok (.ifCond .eq 33, 3) := by decide +kernel
theorem dX4_readBits_31 : decode cX4_readBits 31 = .ok (.aload_n 0, 1) := by decide +kernel
theorem dX4_readBits_32 : decode cX4_readBits 32 = .ok (.getfield 9, 3) := by decide +kernel
theorem dX4_readBits_35 : decode cX4_readBits 35 = .ok (.iload_n 3, 1) := by decide +kernel
theorem dX4_readBits_36 : decode cX4_readBits 36 = .ok (.dup2, 1) := by decide +kernel
theorem dX4_readBits_37 : decode cX4_readBits 37 = .ok (.laload, 1) := by decide +kernel
theorem dX4_readBits_38 : decode cX4_readBits 38 = .ok (.aload_n 1, 1) := by decide +kernel
theorem dX4_readBits_39 : decode cX4_readBits 39 = .ok (.iload_n 2, 1) := by decide +kernel
theorem dX4_readBits_40 : decode cX4_readBits 40 = .ok (.iload 5, 2) := by decide +kernel
theorem dX4_readBits_42 : decode cX4_readBits 42 = .ok (.iadd, 1) := by decide +kernel
theorem dX4_readBits_43 : decode cX4_readBits 43 = .ok (.invokevirtual 25, 3) := by decide +kernel
theorem dX4_readBits_46 : decode cX4_readBits 46 = .ok (.bipush 48, 2) := by decide +kernel
theorem dX4_readBits_48 : decode cX4_readBits 48 = .ok (.isub, 1) := by decide +kernel
theorem dX4_readBits_49 : decode cX4_readBits 49 = .ok (.i2l, 1) := by decide +kernel
theorem dX4_readBits_50 : decode cX4_readBits 50 = .ok (.iload 5, 2) := by decide +kernel
theorem dX4_readBits_52 : decode cX4_readBits 52 = .ok (.lshl, 1) := by decide +kernel
theorem dX4_readBits_53 : decode cX4_readBits 53 = .ok (.lor, 1) := by decide +kernel
theorem dX4_readBits_54 : decode cX4_readBits 54 = .ok (.lastore, 1) := by decide +kernel
theorem dX4_readBits_55 : decode cX4_readBits 55 = .ok (.iinc 5 1, 3) := by decide +kernel
theorem dX4_readBits_58 : decode cX4_readBits 58 = .ok (.goto (-48), 3) := by decide +kernel
theorem dX4_readBits_61 : decode cX4_readBits 61 = .ok (.iload 5, 2) := by decide +kernel
theorem dX4_readBits_63 : decode cX4_readBits 63 = .ok (.ireturn, 1) := by decide +kernel
theorem dX4_isBit_0 : decode cX4_isBit 0 = .ok (.iload_n 0, 1) := by decide +kernel
theorem dX4_isBit_1 : decode cX4_isBit 1 = .ok (.bipush 48, 2) := by decide +kernel
theorem dX4_isBit_3 : decode cX4_isBit 3 = .ok (.if_icmp .eq 9, 3) := by decide +kernel
theorem dX4_isBit_6 : decode cX4_isBit 6 = .ok (.iload_n 0, 1) := by decide +kernel
theorem dX4_isBit_7 : decode cX4_isBit 7 = .ok (.bipush 49, 2) := by decide +kernel
theorem dX4_isBit_9 : decode cX4_isBit 9 = .ok (.if_icmp .ne 7, 3) := by decide +kernel
theorem dX4_isBit_12 : decode cX4_isBit 12 = .ok (.iconst 1, 1) := by decide +kernel
theorem dX4_isBit_13 : decode cX4_isBit 13 = .ok (.goto 4, 3) := by decide +kernel
theorem dX4_isBit_16 : decode cX4_isBit 16 = .ok (.iconst 0, 1) := by decide +kernel
theorem dX4_isBit_17 : decode cX4_isBit 17 = .ok (.ireturn, 1) := by decide +kernel
theorem dX5_init_0 : decode cX5_init 0 = .ok (.aload_n 0, 1) := by decide +kernel
theorem dX5_init_1 : decode cX5_init 1 = .ok (.invokespecial 1, 3) := by decide +kernel
theorem dX5_init_4 : decode cX5_init 4 = .ok (.aload_n 0, 1) := by decide +kernel
theorem dX5_init_5 : decode cX5_init 5 = .ok (.bipush 100, 2) := by decide +kernel
theorem dX5_init_7 : decode cX5_init 7 = .ok (.newarray .int, 2) := by decide +kernel
theorem dX5_init_9 : decode cX5_init 9 = .ok (.putfield 9, 3) := by decide +kernel
theorem dX5_init_12 : decode cX5_init 12 = .ok (.aload_n 0, 1) := by decide +kernel
theorem dX5_init_13 : decode cX5_init 13 = .ok (.iconst 0, 1) := by decide +kernel
theorem dX5_init_14 : decode cX5_init 14 = .ok (.putfield 13, 3) := by decide +kernel
theorem dX5_init_17 : decode cX5_init 17 = .ok (.return_, 1) := by decide +kernel
theorem dX5_add_0 : decode cX5_add 0 = .ok (.aload_n 0, 1) := by decide +kernel
theorem dX5_add_1 : decode cX5_add 1 = .ok (.getfield 13, 3) := by decide +kernel
theorem dX5_add_4 : decode cX5_add 4 = .ok (.iconst 4, 1) := by decide +kernel
theorem dX5_add_5 : decode cX5_add 5 = .ok (.iadd, 1) := by decide +kernel
theorem dX5_add_6 : decode cX5_add 6 = .ok (.bipush 100, 2) := by decide +kernel
theorem dX5_add_8 : decode cX5_add 8 = .ok (.if_icmp .le 5, 3) := by decide +kernel
theorem dX5_add_11 : decode cX5_add 11 = .ok (.iconst 0, 1) := by decide +kernel
theorem dX5_add_12 : decode cX5_add 12 = .ok (.ireturn, 1) := by decide +kernel
theorem dX5_add_13 : decode cX5_add 13 = .ok (.iconst 3, 1) := by decide +kernel
theorem dX5_add_14 : decode cX5_add 14 = .ok (.istore_n 2, 1) := by decide +kernel
theorem dX5_add_15 : decode cX5_add 15 = .ok (.iload_n 2, 1) := by decide +kernel
theorem dX5_add_16 : decode cX5_add 16 = .ok (.ifCond .lt 38, 3) := by decide +kernel
theorem dX5_add_19 : decode cX5_add 19 = .ok (.aload_n 0, 1) := by decide +kernel
theorem dX5_add_20 : decode cX5_add 20 = .ok (.getfield 9, 3) := by decide +kernel
theorem dX5_add_23 : decode cX5_add 23 = .ok (.aload_n 0, 1) := by decide +kernel
theorem dX5_add_24 : decode cX5_add 24 = .ok (.getfield 13, 3) := by decide +kernel
theorem dX5_add_27 : decode cX5_add 27 = .ok (.iload_n 1, 1) := by decide +kernel
theorem dX5_add_28 : decode cX5_add 28 = .ok (.bipush 8, 2) := by decide +kernel
theorem dX5_add_30 : decode cX5_add 30 = .ok (.iload_n 2, 1) := by decide +kernel
theorem dX5_add_31 : decode cX5_add 31 = .ok (.imul, 1) := by decide +kernel
theorem dX5_add_32 : decode cX5_add 32 = .ok (.iushr, 1) := by decide +kernel
theorem dX5_add_33 : decode cX5_add 33 = .ok (.sipush 255, 3) := by decide +kernel
theorem dX5_add_36 : decode cX5_add 36 = .ok (.iand, 1) := by decide +kernel
theorem dX5_add_37 : decode cX5_add 37 = .ok (.iastore, 1) := by decide +kernel
theorem dX5_add_38 : decode cX5_add 38 = .ok (.aload_n 0, 1) := by decide +kernel
theorem dX5_add_39 : decode cX5_add 39 = .ok (.dup, 1) := by decide +kernel
theorem dX5_add_40 : decode cX5_add 40 = .ok (.getfield 13, 3) := by decide +kernel
theorem dX5_add_43 : decode cX5_add 43 = .ok (.iconst 1, 1) := by decide +kernel
theorem dX5_add_44 : decode cX5_add 44 = .ok (.iadd, 1) := by decide +kernel
theorem dX5_add_45 : decode cX5_add 45 = .ok (.putfield 13, 3) := by decide +kernel
theorem dX5_add_48 : decode cX5_add 48 = .ok (.iinc 2 (-1), 3) := by decide +kernel
theorem dX5_add_51 : decode cX5_add 51 = .ok (.goto (-36), 3) := by decide +kernel
theorem dX5_add_54 : decode cX5_add 54 = .ok (.iconst 1, 1) := by decide +kernel
theorem dX5_add_55 : decode cX5_add 55 = .ok (.ireturn, 1) := by decide +kernel
theorem dX5_keep_0 : decode cX5_keep 0 = .ok (.iload_n 1, 1) := by decide +kernel
theorem dX5_keep_1 : decode cX5_keep 1 = .ok (.ifCond .lt 11, 3) := by decide +kernel
theorem dX5_keep_4 : decode cX5_keep 4 = .ok (.iload_n 1, 1) := by decide +kernel
theorem dX5_keep_5 : decode cX5_keep 5 = .ok (.aload_n 0, 1) := by decide +kernel
theorem dX5_keep_6 : decode cX5_keep 6 = .ok (.getfield 13, 3) := by decide +kernel
theorem dX5_keep_9 : decode cX5_keep 9 = .ok (.if_icmp .le 5, 3) := by decide +kernel
theorem dX5_keep_12 : decode cX5_keep 12 = .ok (.iconst 0, 1) := by decide +kernel
theorem dX5_keep_13 : decode cX5_keep 13 = .ok (.ireturn, 1) := by decide +kernel
theorem dX5_keep_14 : decode cX5_keep 14 = .ok (.aload_n 0, 1) := by decide +kernel
theorem dX5_keep_15 : decode cX5_keep 15 = .ok (.iload_n 1, 1) := by decide +kernel
theorem dX5_keep_16 : decode cX5_keep 16 = .ok (.putfield 13, 3) := by decide +kernel
theorem dX5_keep_19 : decode cX5_keep 19 = .ok (.iconst 1, 1) := by decide +kernel
theorem dX5_keep_20 : decode cX5_keep 20 = .ok (.ireturn, 1) := by decide +kernel
theorem dX5_at_0 : decode cX5_at 0 = .ok (.iload_n 1, 1) := by decide +kernel
theorem dX5_at_1 : decode cX5_at 1 = .ok (.ifCond .lt 20, 3) := by decide +kernel
theorem dX5_at_4 : decode cX5_at 4 = .ok (.iload_n 1, 1) := by decide +kernel
theorem dX5_at_5 : decode cX5_at 5 = .ok (.aload_n 0, 1) := by decide +kernel
theorem dX5_at_6 : decode cX5_at 6 = .ok (.getfield 13, 3) := by decide +kernel
theorem dX5_at_9 : decode cX5_at 9 = .ok (.if_icmp .ge 12, 3) := by decide +kernel
theorem dX5_at_12 : decode cX5_at 12 = .ok (.aload_n 0, 1) := by decide +kernel
theorem dX5_at_13 : decode cX5_at 13 = .ok (.getfield 9, 3) := by decide +kernel
theorem dX5_at_16 : decode cX5_at 16 = .ok (.iload_n 1, 1) := by decide +kernel
theorem dX5_at_17 : decode cX5_at 17 = .ok (.iaload, 1) := by decide +kernel
theorem dX5_at_18 : decode cX5_at 18 = .ok (.goto 4, 3) := by decide +kernel
theorem dX5_at_21 : decode cX5_at 21 = .ok (.iconst (-1), 1) := by decide +kernel
theorem dX5_at_22 : decode cX5_at 22 = .ok (.ireturn, 1) := by decide +kernel
theorem dX6_init_0 : decode cX6_init 0 = .ok (.aload_n 0, 1) := by decide +kernel
theorem dX6_init_1 : decode cX6_init 1 = .ok (.invokespecial 3, 3) := by decide +kernel
theorem dX6_init_4 : decode cX6_init 4 = .ok (.aload_n 0, 1) := by decide +kernel
theorem dX6_init_5 : decode cX6_init 5 = .ok (.sipush 512, 3) := by decide +kernel
theorem dX6_init_8 : decode cX6_init 8 = .ok (.newarray .int, 2) := by decide +kernel
theorem dX6_init_10 : decode cX6_init 10 = .ok (.putfield 9, 3) := by decide +kernel
theorem dX6_init_13 : decode cX6_init 13 = .ok (.aload_n 0, 1) := by decide +kernel
theorem dX6_init_14 : decode cX6_init 14 = .ok (.bipush 64, 2) := by decide +kernel
theorem dX6_init_16 : decode cX6_init 16 = .ok (.newarray .int, 2) := by decide +kernel
theorem dX6_init_18 : decode cX6_init 18 = .ok (.putfield 15, 3) := by decide +kernel
theorem dX6_init_21 : decode cX6_init 21 = .ok (.aload_n 0, 1) := by decide +kernel
theorem dX6_init_22 : decode cX6_init 22 = .ok (.iconst 0, 1) := by decide +kernel
theorem dX6_init_23 : decode cX6_init 23 = .ok (.putfield 18, 3) := by decide +kernel
theorem dX6_init_26 : decode cX6_init 26 = .ok (.return_, 1) := by decide +kernel
theorem dX6_take_0 : decode cX6_take 0 = .ok (.aload_n 0, 1) := by decide +kernel
theorem dX6_take_1 : decode cX6_take 1 = .ok (.getfield 9, 3) := by decide +kernel
theorem dX6_take_4 : decode cX6_take 4 = .ok (.iconst 0, 1) := by decide +kernel
theorem dX6_take_5 : decode cX6_take 5 = .ok (.invokestatic 22, 3) := by decide +kernel
theorem dX6_take_8 : decode cX6_take 8 = .ok (.iload_n 2, 1) := by decide +kernel
theorem dX6_take_9 : decode cX6_take 9 = .ok (.istore 4, 2) := by decide +kernel
theorem dX6_take_11 : decode cX6_take 11 = .ok (.iload 4, 2) := by decide +kernel
theorem dX6_take_13 : decode cX6_take 13 = .ok (.iload_n 3, 1) := by decide +kernel
theorem dX6_take_14 : decode cX6_take 14 = .ok (.if_icmp .ge 49, 3) := by decide +kernel
theorem dX6_take_17 : decode cX6_take 17 = .ok (.iconst 0, 1) := by decide +kernel
theorem dX6_take_18 : decode cX6_take 18 = .ok (.istore 5, 2) := by decide +kernel
theorem dX6_take_20 : decode cX6_take 20 = .ok (.iload 5, 2) := by decide +kernel
theorem dX6_take_22 : decode cX6_take 22 = .ok (.bipush 8, 2) := by decide +kernel
theorem dX6_take_24 : decode cX6_take 24 = .ok (.if_icmp .gt 33, 3) := by decide +kernel
theorem dX6_take_27 : decode cX6_take 27 = .ok (.aload_n 0, 1) := by decide +kernel
theorem dX6_take_28 : decode cX6_take 28 = .ok (.getfield 9, 3) := by decide +kernel
theorem dX6_take_31 : decode cX6_take 31 = .ok (.iconst 1, 1) := by decide +kernel
theorem dX6_take_32 : decode cX6_take 32 = .ok (.iload 5, 2) := by decide +kernel
theorem dX6_take_34 : decode cX6_take 34 = .ok (.ishl, 1) := by decide +kernel
theorem dX6_take_35 : decode cX6_take 35 = .ok (.aload_n 1, 1) := by decide +kernel
theorem dX6_take_36 : decode cX6_take 36 = .ok (.iload 4, 2) := by decide +kernel
theorem dX6_take_38 : decode cX6_take 38 = .ok (.iaload, 1) := by decide +kernel
theorem dX6_take_39 : decode cX6_take 39 = .ok (.bipush 8, 2) := by decide +kernel
theorem dX6_take_41 : decode cX6_take 41 = .ok (.iload 5, 2) := by decide +kernel
theorem dX6_take_43 : decode cX6_take 43 = .ok (.isub, 1) := by decide +kernel
theorem dX6_take_44 : decode cX6_take 44 = .ok (.ishr, 1) := by decide +kernel
theorem dX6_take_45 : decode cX6_take 45 = .ok (.iadd, 1) := by decide +kernel
theorem dX6_take_46 : decode cX6_take 46 = .ok (.dup2, 1) := by decide +kernel
theorem dX6_take_47 : decode cX6_take 47 = .ok (.iaload, 1) := by decide +kernel
theorem dX6_take_48 : decode cX6_take 48 = .ok (.iconst 1, 1) := by decide +kernel
theorem dX6_take_49 : decode cX6_take 49 = .ok (.iadd, 1) := by decide +kernel
theorem dX6_take_50 : decode cX6_take 50 = .ok (.iastore, 1) := by decide +kernel
theorem dX6_take_51 : decode cX6_take 51 = .ok (.iinc 5 1, 3) := by decide +kernel
theorem dX6_take_54 : decode cX6_take 54 = .ok (.goto (-34), 3) := by decide +kernel
theorem dX6_take_57 : decode cX6_take 57 = .ok (.iinc 4 1, 3) := by decide +kernel
theorem dX6_take_60 : decode cX6_take 60 = .ok (.goto (-49), 3) := by decide +kernel
theorem dX6_take_63 : decode cX6_take 63 = .ok (.aload_n 0, 1) := by decide +kernel
theorem dX6_take_64 : decode cX6_take 64 = .ok (.invokevirtual 28, 3) := by decide +kernel
theorem dX6_take_67 : decode cX6_take 67 = .ok (.return_, 1) := by decide +kernel
theorem dX6_sort_0 : decode cX6_sort 0 = .ok (.aload_n 0, 1) := by decide +kernel
theorem dX6_sort_1 : decode cX6_sort 1 = .ok (.iconst 0, 1) := by decide +kernel
theorem dX6_sort_2 : decode cX6_sort 2 = .ok (.putfield 18, 3) := by decide +kernel
theorem dX6_sort_5 : decode cX6_sort 5 = .ok (.iconst 0, 1) := by decide +kernel
theorem dX6_sort_6 : decode cX6_sort 6 = .ok (.istore_n 1, 1) := by decide +kernel
theorem dX6_sort_7 : decode cX6_sort 7 = .ok (.iload_n 1, 1) := by decide +kernel
theorem dX6_sort_8 : decode cX6_sort 8 = .ok (.sipush 255, 3) := by decide +kernel
theorem dX6_sort_11 : decode cX6_sort 11 = .ok (.if_icmp .gt 60, 3) := by decide +kernel
theorem dX6_sort_14 : decode cX6_sort 14 = .ok (.aload_n 0, 1) := by decide +kernel
theorem dX6_sort_15 : decode cX6_sort 15 = .ok (.iload_n 1, 1) := by decide +kernel
theorem dX6_sort_16 : decode cX6_sort 16 = .ok (.invokevirtual 31, 3) := by decide +kernel
theorem dX6_sort_19 : decode cX6_sort 19 = .ok (.istore_n 2, 1) := by decide +kernel
theorem dX6_sort_20 : decode cX6_sort 20 = .ok (.iconst 0, 1) := by decide +kernel
theorem dX6_sort_21 : decode cX6_sort 21 = .ok (.istore_n 3, 1) := by decide +kernel
theorem dX6_sort_22 : decode cX6_sort 22 = .ok (.iload_n 3, 1) := by decide +kernel
theorem dX6_sort_23 : decode cX6_sort 23 = .ok (.iload_n 2, 1) := by decide +kernel
theorem dX6_sort_24 : decode cX6_sort 24 = .ok (.if_icmp .ge 41, 3) := by decide +kernel
theorem dX6_sort_27 : decode cX6_sort 27 = .ok (.aload_n 0, 1) := by decide +kernel
theorem dX6_sort_28 : decode cX6_sort 28 = .ok (.getfield 18, 3) := by decide +kernel
theorem dX6_sort_31 : decode cX6_sort 31 = .ok (.aload_n 0, 1) := by decide +kernel
theorem dX6_sort_32 : decode cX6_sort 32 = .ok (.getfield 15, 3) := by decide +kernel
theorem dX6_sort_35 : decode cX6_sort 35 = .ok (.arraylength, 1) := by decide +kernel
theorem dX6_sort_36 : decode cX6_sort 36 = .ok (.if_icmp .ge 29, 3) := by decide +kernel
theorem dX6_sort_39 : decode cX6_sort 39 = .ok (.aload_n 0, 1) := by decide +kernel
theorem dX6_sort_40 : decode cX6_sort 40 = .ok (.getfield 15, 3) := by decide +kernel
theorem dX6_sort_43 : decode cX6_sort 43 = .ok (.aload_n 0, 1) := by decide +kernel
theorem dX6_sort_44 : decode cX6_sort 44 = .ok (.getfield 18, 3) := by decide +kernel
theorem dX6_sort_47 : decode cX6_sort 47 = .ok (.iload_n 1, 1) := by decide +kernel
theorem dX6_sort_48 : decode cX6_sort 48 = .ok (.iastore, 1) := by decide +kernel
theorem dX6_sort_49 : decode cX6_sort 49 = .ok (.aload_n 0, 1) := by decide +kernel
theorem dX6_sort_50 : decode cX6_sort 50 = .ok (.dup, 1) := by decide +kernel
theorem dX6_sort_51 : decode cX6_sort 51 = .ok (.getfield 18, 3) := by decide +kernel
theorem dX6_sort_54 : decode cX6_sort 54 = .ok (.iconst 1, 1) := by decide +kernel
theorem dX6_sort_55 : decode cX6_sort 55 = .ok (.iadd, 1) := by decide +kernel
theorem dX6_sort_56 : decode cX6_sort 56 = .ok (.putfield 18, 3) := by decide +kernel
theorem dX6_sort_59 : decode cX6_sort 59 = .ok (.iinc 3 1, 3) := by decide +kernel
theorem dX6_sort_62 : decode cX6_sort 62 = .ok (.goto (-40), 3) := by decide +kernel
theorem dX6_sort_65 : decode cX6_sort 65 = .ok (.iinc 1 1, 3) := by decide +kernel
theorem dX6_sort_68 : decode cX6_sort 68 = .ok (.goto (-61), 3) := by decide +kernel
theorem dX6_sort_71 : decode cX6_sort 71 = .ok (.return_, 1) := by decide +kernel
theorem dX6_timesOf_0 : decode cX6_timesOf 0 = .ok (.aload_n 0, 1) := by decide +kernel
theorem dX6_timesOf_1 : decode cX6_timesOf 1 = .ok (.bipush 8, 2) := by decide +kernel
theorem dX6_timesOf_3 : decode cX6_timesOf 3 = .ok (.iload_n 1, 1) := by decide +kernel
theorem dX6_timesOf_4 : decode cX6_timesOf 4 = .ok (.invokevirtual 35, 3) := by decide +kernel
theorem dX6_timesOf_7 : decode cX6_timesOf 7 = .ok (.ireturn, 1) := by decide +kernel
theorem dX6_inNode_0 : decode cX6_inNode 0 = .ok (.iload_n 1, 1) := by decide +kernel
theorem dX6_inNode_1 : decode cX6_inNode 1 = .ok (.ifCond .lt 20, 3) := by decide +kernel
theorem dX6_inNode_4 : decode cX6_inNode 4 = .ok (.iload_n 1, 1) := by decide +kernel
theorem dX6_inNode_5 : decode cX6_inNode 5 = .ok (.bipush 8, 2) := by decide +kernel
theorem dX6_inNode_7 : decode cX6_inNode 7 = .ok (.if_icmp .gt 14, 3) := by decide +kernel
theorem dX6_inNode_10 : decode cX6_inNode 10 = .ok (.iload_n 2, 1) := by decide +kernel
theorem dX6_inNode_11 : decode cX6_inNode 11 = .ok (.ifCond .lt 10, 3) := by decide +kernel
theorem dX6_inNode_14 : decode cX6_inNode 14 = .ok (.iload_n 2, 1) := by decide +kernel
theorem dX6_inNode_15 : decode cX6_inNode 15 = .ok (.iconst 1, 1) := by decide +kernel
theorem dX6_inNode_16 : decode cX6_inNode 16 = .ok (.iload_n 1, 1) := by decide +kernel
theorem dX6_inNode_17 : decode cX6_inNode 17 = .ok (.ishl, 1) := by decide +kernel
theorem dX6_inNode_18 : decode cX6_inNode 18 = .ok (.if_icmp .lt 5, 3) := by decide +kernel
theorem dX6_inNode_21 : decode cX6_inNode 21 = .ok (.iconst 0, 1) := by decide +kernel
theorem dX6_inNode_22 : decode cX6_inNode 22 = .ok (.ireturn, 1) := by decide +kernel
theorem dX6_inNode_23 : decode cX6_inNode 23 = .ok (.aload_n 0, 1) := by decide +kernel
theorem dX6_inNode_24 : decode cX6_inNode 24 = .ok (.getfield 9, 3) := by decide +kernel
theorem dX6_inNode_27 : decode cX6_inNode 27 = .ok (.iconst 1, 1) := by decide +kernel
theorem dX6_inNode_28 : decode cX6_inNode 28 = .ok (.iload_n 1, 1) := by decide +kernel
theorem dX6_inNode_29 : decode cX6_inNode 29 = .ok (.ishl, 1) := by decide +kernel
theorem dX6_inNode_30 : decode cX6_inNode 30 = .ok (.iload_n 2, 1) := by decide +kernel
theorem dX6_inNode_31 : decode cX6_inNode 31 = .ok (.iadd, 1) := by decide +kernel
theorem dX6_inNode_32 : decode cX6_inNode 32 = .ok (.iaload, 1) := by decide +kernel
theorem dX6_inNode_33 : decode cX6_inNode 33 = .ok (.ireturn, 1) := by decide +kernel
theorem dX6_sortedAt_0 : decode cX6_sortedAt 0 = .ok (.iload_n 1, 1) := by decide +kernel
theorem dX6_sortedAt_1 : decode cX6_sortedAt 1 = .ok (.ifCond .lt 20, 3) := by decide +kernel
theorem dX6_sortedAt_4 : decode cX6_sortedAt 4 = .ok (.iload_n 1, 1) := by decide +kernel
theorem dX6_sortedAt_5 : decode cX6_sortedAt 5 = .ok (.aload_n 0, 1) := by decide +kernel
theorem dX6_sortedAt_6 : decode cX6_sortedAt 6 = .ok (.getfield 18, 3) := by decide +kernel
theorem dX6_sortedAt_9 : decode cX6_sortedAt 9 = .ok (.if_icmp .ge 12, 3) := by decide +kernel
theorem dX6_sortedAt_12 : decode cX6_sortedAt 12 = .ok (.aload_n 0, 1) := by decide +kernel
theorem dX6_sortedAt_13 : decode cX6_sortedAt 13 = .ok (.getfield 15, 3) := by decide +kernel
theorem dX6_sortedAt_16 : decode cX6_sortedAt 16 = .ok (.iload_n 1, 1) := by decide +kernel
theorem dX6_sortedAt_17 : decode cX6_sortedAt 17 = .ok (.iaload, 1) := by decide +kernel
theorem dX6_sortedAt_18 : decode cX6_sortedAt 18 = .ok (.goto 4, 3) := by decide +kernel
theorem dX6_sortedAt_21 : decode cX6_sortedAt 21 = .ok (.iconst (-1), 1) := by decide +kernel
theorem dX6_sortedAt_22 : decode cX6_sortedAt 22 = .ok (.ireturn, 1) := by decide +kernel
theorem dX6_nodesWith_0 : decode cX6_nodesWith 0 = .ok (.iconst 0, 1) := by decide +kernel
theorem dX6_nodesWith_1 : decode cX6_nodesWith 1 = .ok (.istore_n 2, 1) := by decide +kernel
theorem dX6_nodesWith_2 : decode cX6_nodesWith 2 = .ok (.iconst 1, 1) := by decide +kernel
theorem dX6_nodesWith_3 : decode cX6_nodesWith 3 = .ok (.istore_n 3, 1) := by decide +kernel
theorem dX6_nodesWith_4 : decode cX6_nodesWith 4 = .ok (.iload_n 3, 1) := by decide +kernel
theorem dX6_nodesWith_5 : decode cX6_nodesWith 5 = .ok (.aload_n 0, 1) := by decide +kernel
theorem dX6_nodesWith_6 : decode cX6_nodesWith 6 = .ok (.getfield 9, 3) := by decide +kernel
theorem dX6_nodesWith_9 : decode cX6_nodesWith 9 = .ok (.arraylength, 1) := by decide +kernel
theorem dX6_nodesWith_10 : decode cX6_nodesWith 10 = .ok (.if_icmp .ge 22, 3) := by decide +kernel
theorem dX6_nodesWith_13 : decode cX6_nodesWith 13 = .ok (.aload_n 0, 1) := by decide +kernel
theorem dX6_nodesWith_14 : decode cX6_nodesWith 14 = .ok (.getfield 9, 3) := by decide +kernel
theorem dX6_nodesWith_17 : decode cX6_nodesWith 17 = .ok (.iload_n 3, 1) := by decide +kernel
theorem dX6_nodesWith_18 : decode cX6_nodesWith 18 = .ok (.iaload, 1) := by decide +kernel
theorem dX6_nodesWith_19 : decode cX6_nodesWith 19 = .ok (.iload_n 1, 1) := by decide +kernel
theorem dX6_nodesWith_20 : decode cX6_nodesWith 20 = .ok (.if_icmp .lt 6, 3) := by decide +kernel
theorem dX6_nodesWith_23 : decode cX6_nodesWith 23 = .ok (.iinc 2 1, 3) := by decide +kernel
theorem dX6_nodesWith_26 : decode cX6_nodesWith 26 = .ok (.iinc 3 1, 3) := by decide +kernel
theorem dX6_nodesWith_29 : decode cX6_nodesWith 29 = .ok (.goto (-25), 3) := by decide +kernel
theorem dX6_nodesWith_32 : decode cX6_nodesWith 32 = .ok (.iload_n 2, 1) := by decide +kernel
theorem dX6_nodesWith_33 : decode cX6_nodesWith 33 = .ok (.ireturn, 1) := by decide +kernel
theorem dX6_nodesSharedWith_0 : decode cX6_nodesSharedWith 0 = .ok (.iconst 0, 1) := by decide +kernel
theorem dX6_nodesSharedWith_1 : decode cX6_nodesSharedWith 1 = .ok (.istore_n 2, 1) := by decide +kernel
theorem dX6_nodesSharedWith_2 : decode cX6_nodesSharedWith 2 = .ok (.iconst 1, 1) := by decide +kernel
theorem dX6_nodesSharedWith_3 : decode cX6_nodesSharedWith 3 = .ok (.istore_n 3, 1) := by decide +kernel
theorem dX6_nodesSharedWith_4 : decode cX6_nodesSharedWith 4 = .ok (.iload_n 3, 1) := by decide +kernel
theorem dX6_nodesSharedWith_5 : decode cX6_nodesSharedWith 5 = .ok (.aload_n 0, 1) := by decide +kernel
theorem dX6_nodesSharedWith_6 : decode cX6_nodesSharedWith 6 = .ok (.getfield 9, 3) := by decide +kernel
theorem dX6_nodesSharedWith_9 : decode cX6_nodesSharedWith 9 = .ok (.arraylength, 1) := by decide +kernel
theorem dX6_nodesSharedWith_10 : decode cX6_nodesSharedWith 10 = .ok (.if_icmp .ge 30, 3) := by decide +kernel
theorem dX6_nodesSharedWith_13 : decode cX6_nodesSharedWith 13 = .ok (.aload_n 0, 1) := by decide +kernel
theorem dX6_nodesSharedWith_14 : decode cX6_nodesSharedWith 14 = .ok (.getfield 9, 3) := by decide +kernel
theorem dX6_nodesSharedWith_17 : decode cX6_nodesSharedWith 17 = .ok (.iload_n 3, 1) := by decide +kernel
theorem dX6_nodesSharedWith_18 : decode cX6_nodesSharedWith 18 = .ok (.iaload, 1) := by decide +kernel
theorem dX6_nodesSharedWith_19 : decode cX6_nodesSharedWith 19 = .ok (.ifCond .le 15, 3) := by decide +kernel
theorem dX6_nodesSharedWith_22 : decode cX6_nodesSharedWith 22 = .ok (.aload_n 1, 1) := by decide +kernel
theorem dX6_nodesSharedWith_23 : decode cX6_nodesSharedWith 23 = .ok (.getfield 9, 3) := by decide +kernel
theorem dX6_nodesSharedWith_26 : decode cX6_nodesSharedWith 26 = .ok (.iload_n 3, 1) := by decide +kernel
theorem dX6_nodesSharedWith_27 : decode cX6_nodesSharedWith 27 = .ok (.iaload, 1) := by decide +kernel
theorem dX6_nodesSharedWith_28 : decode cX6_nodesSharedWith 28 = .ok (.ifCond .le 6, 3) := by decide +kernel
theorem dX6_nodesSharedWith_31 : decode cX6_nodesSharedWith 31 = .ok (.iinc 2 1, 3) := by decide +kernel
theorem dX6_nodesSharedWith_34 : decode cX6_nodesSharedWith 34 = .ok (.iinc 3 1, 3) := by decide +kernel
theorem dX6_nodesSharedWith_37 : decode cX6_nodesSharedWith 37 = .ok (.goto (-33), 3) := by decide +kernel
theorem dX6_nodesSharedWith_40 : decode cX6_nodesSharedWith 40 = .ok (.iload_n 2, 1) := by decide +kernel
theorem dX6_nodesSharedWith_41 : decode cX6_nodesSharedWith 41 = .ok (.ireturn, 1) := by decide +kernel
theorem dX6_visitsOfBand_0 : decode cX6_visitsOfBand 0 = .ok (.iconst 0, 1) := by decide +kernel
theorem dX6_visitsOfBand_1 : decode cX6_visitsOfBand 1 = .ok (.istore_n 3, 1) := by decide +kernel
theorem dX6_visitsOfBand_2 : decode cX6_visitsOfBand 2 = .ok (.iconst 0, 1) := by decide +kernel
theorem dX6_visitsOfBand_3 : decode cX6_visitsOfBand 3 = .ok (.istore 4, 2) := by decide +kernel
theorem dX6_visitsOfBand_5 : decode cX6_visitsOfBand 5 = .ok (.iload 4, 2) := by decide +kernel
theorem dX6_visitsOfBand_7 : decode cX6_visitsOfBand 7 = .ok (.bipush 8, 2) := by decide +kernel
theorem dX6_visitsOfBand_9 : decode cX6_visitsOfBand 9 = .ok (.if_icmp .gt 84, 3) := by decide +kernel
theorem dX6_visitsOfBand_12 : decode cX6_visitsOfBand 12 = .ok (.bipush 8, 2) := by decide +kernel
theorem dX6_visitsOfBand_14 : decode cX6_visitsOfBand 14 = .ok (.iload 4, 2) := by decide +kernel
theorem dX6_visitsOfBand_16 : decode cX6_visitsOfBand 16 = .ok (.isub, 1) := by decide +kernel
theorem dX6_visitsOfBand_17 : decode cX6_visitsOfBand 17 = .ok (.istore 5, 2) := by decide +kernel
theorem dX6_visitsOfBand_19 : decode cX6_visitsOfBand 19 = .ok (.iload_n 1, 1) := by decide +kernel
theorem dX6_visitsOfBand_20 : decode cX6_visitsOfBand 20 = .ok (.iload 5, 2) := by decide +kernel
theorem dX6_visitsOfBand_22 : decode cX6_visitsOfBand 22 = .ok (.ishr, 1) := by decide +kernel
theorem dX6_visitsOfBand_23 : decode cX6_visitsOfBand 23 = .ok (.istore 6, 2) := by decide +kernel
theorem dX6_visitsOfBand_25 : decode cX6_visitsOfBand 25 = .ok (.iload 6, 2) := by decide +kernel
theorem dX6_visitsOfBand_27 : decode cX6_visitsOfBand 27 = .ok (.iload_n 2, 1) := by decide +kernel
theorem dX6_visitsOfBand_28 : decode cX6_visitsOfBand 28 = .ok (.iload 5, 2) := by decide +kernel
theorem dX6_visitsOfBand_30 : decode cX6_visitsOfBand 30 = .ok (.ishr, 1) := by decide +kernel
theorem dX6_visitsOfBand_31 : decode cX6_visitsOfBand 31 = .ok (.if_icmp .gt 56, 3) := by decide +kernel
theorem dX6_visitsOfBand_34 : decode cX6_visitsOfBand 34 = .ok (.iload 4, 2) := by decide +kernel
theorem dX6_visitsOfBand_36 : decode cX6_visitsOfBand 36 = .ok (.ifCond .eq 19, 3) := by decide +kernel
theorem dX6_visitsOfBand_39 : decode cX6_visitsOfBand 39 = .ok (.iload 6, 2) := by decide +kernel
theorem dX6_visitsOfBand_41 : decode cX6_visitsOfBand 41 = .ok (.iconst 1, 1) := by decide +kernel
theorem dX6_visitsOfBand_42 : decode cX6_visitsOfBand 42 = .ok (.ishr, 1) := by decide +kernel
theorem dX6_visitsOfBand_43 : decode cX6_visitsOfBand 43 = .ok (.iload 5, 2) := by decide +kernel
theorem dX6_visitsOfBand_45 : decode cX6_visitsOfBand 45 = .ok (.iconst 1, 1) := by decide +kernel
theorem dX6_visitsOfBand_46 : decode cX6_visitsOfBand 46 = .ok (.iadd, 1) := by decide +kernel
theorem dX6_visitsOfBand_47 : decode cX6_visitsOfBand 47 = .ok (.iload_n 1, 1) := by decide +kernel
theorem dX6_visitsOfBand_48 : decode cX6_visitsOfBand 48 = .ok (.iload_n 2, 1) := by decide +kernel
theorem dX6_visitsOfBand_49 : decode cX6_visitsOfBand 49 = .ok (.invokestatic 39, 3) := by decide +kernel
theorem dX6_visitsOfBand_52 : decode cX6_visitsOfBand 52 = .ok (.ifCond .ne 7, 3) := by decide +kernel
theorem dX6_visitsOfBand_55 : decode cX6_visitsOfBand 55 = .ok (.iconst 1, 1) := by decide +kernel
theorem dX6_visitsOfBand_56 : decode cX6_visitsOfBand 56 = .ok (.goto 4, 3) := by decide +kernel
theorem dX6_visitsOfBand_59 : decode cX6_visitsOfBand 59 = .ok (.iconst 0, 1) := by decide +kernel
theorem dX6_visitsOfBand_60 : decode cX6_visitsOfBand 60 = .ok (.istore 7, 2) := by decide +kernel
theorem dX6_visitsOfBand_62 : decode cX6_visitsOfBand 62 = .ok (.iload 7, 2) := by decide +kernel
theorem dX6_visitsOfBand_64 : decode cX6_visitsOfBand 64 = .ok (.ifCond .eq 17, 3) := by decide +kernel
theorem dX6_visitsOfBand_67 : decode cX6_visitsOfBand 67 = .ok (.aload_n 0, 1) := by decide +kernel
theorem dX6_visitsOfBand_68 : decode cX6_visitsOfBand 68 = .ok (.iload 4, 2) := by decide +kernel
theorem dX6_visitsOfBand_70 : decode cX6_visitsOfBand 70 = .ok (.iload 6, 2) := by decide +kernel
theorem dX6_visitsOfBand_72 : decode cX6_visitsOfBand 72 = .ok (.invokevirtual 35, 3) := by decide +kernel
theorem dX6_visitsOfBand_75 : decode cX6_visitsOfBand 75 = .ok (.ifCond .le 6, 3) := by decide +kernel
theorem dX6_visitsOfBand_78 : decode cX6_visitsOfBand 78 = .ok (.iinc 3 1, 3) := by decide +kernel
theorem dX6_visitsOfBand_81 : decode cX6_visitsOfBand 81 = .ok (.iinc 6 1, 3) := by decide +kernel
theorem dX6_visitsOfBand_84 : decode cX6_visitsOfBand 84 = .ok (.goto (-59), 3) := by decide +kernel
theorem dX6_visitsOfBand_87 : decode cX6_visitsOfBand 87 = .ok (.iinc 4 1, 3) := by decide +kernel
theorem dX6_visitsOfBand_90 : decode cX6_visitsOfBand 90 = .ok (.goto (-85), 3) := by decide +kernel
theorem dX6_visitsOfBand_93 : decode cX6_visitsOfBand 93 = .ok (.iload_n 3, 1) := by decide +kernel
theorem dX6_visitsOfBand_94 : decode cX6_visitsOfBand 94 = .ok (.ireturn, 1) := by decide +kernel
theorem dX6_isWithin_0 : decode cX6_isWithin 0 = .ok (.iload_n 0, 1) := by decide +kernel
theorem dX6_isWithin_1 : decode cX6_isWithin 1 = .ok (.iload_n 1, 1) := by decide +kernel
theorem dX6_isWithin_2 : decode cX6_isWithin 2 = .ok (.ishl, 1) := by decide +kernel
theorem dX6_isWithin_3 : decode cX6_isWithin 3 = .ok (.iload_n 2, 1) := by decide +kernel
theorem dX6_isWithin_4 : decode cX6_isWithin 4 = .ok (.if_icmp .lt 18, 3) := by decide +kernel
theorem dX6_isWithin_7 : decode cX6_isWithin 7 = .ok (.iload_n 0, 1) := by decide +kernel
theorem dX6_isWithin_8 : decode cX6_isWithin 8 = .ok (.iconst 1, 1) := by decide +kernel
theorem dX6_isWithin_9 : decode cX6_isWithin 9 = .ok (.iadd, 1) := by decide +kernel
theorem dX6_isWithin_10 : decode cX6_isWithin 10 = .ok (.iload_n 1, 1) := by decide +kernel
theorem dX6_isWithin_11 : decode cX6_isWithin 11 = .ok (.ishl, 1) := by decide +kernel
theorem dX6_isWithin_12 : decode cX6_isWithin 12 = .ok (.iconst 1, 1) := by decide +kernel
theorem dX6_isWithin_13 : decode cX6_isWithin 13 = .ok (.isub, 1) := by decide +kernel
theorem dX6_isWithin_14 : decode cX6_isWithin 14 = .ok (.iload_n 3, 1) := by decide +kernel
theorem dX6_isWithin_15 : decode cX6_isWithin 15 = .ok (.if_icmp .gt 7, 3) := by decide +kernel
theorem dX6_isWithin_18 : decode cX6_isWithin 18 = .ok (.iconst 1, 1) := by decide +kernel
theorem dX6_isWithin_19 : decode cX6_isWithin 19 = .ok (.goto 4, 3) := by decide +kernel
theorem dX6_isWithin_22 : decode cX6_isWithin 22 = .ok (.iconst 0, 1) := by decide +kernel
theorem dX6_isWithin_23 : decode cX6_isWithin 23 = .ok (.ireturn, 1) := by decide +kernel
theorem dX7_init_0 : decode cX7_init 0 = .ok (.aload_n 0, 1) := by decide +kernel
theorem dX7_init_1 : decode cX7_init 1 = .ok (.invokespecial 1, 3) := by decide +kernel
theorem dX7_init_4 : decode cX7_init 4 = .ok (.aload_n 0, 1) := by decide +kernel
theorem dX7_init_5 : decode cX7_init 5 = .ok (.bipush 64, 2) := by decide +kernel
theorem dX7_init_7 : decode cX7_init 7 = .ok (.newarray .long, 2) := by decide +kernel
theorem dX7_init_9 : decode cX7_init 9 = .ok (.putfield 7, 3) := by decide +kernel
theorem dX7_init_12 : decode cX7_init 12 = .ok (.aload_n 0, 1) := by decide +kernel
theorem dX7_init_13 : decode cX7_init 13 = .ok (.iconst 0, 1) := by decide +kernel
theorem dX7_init_14 : decode cX7_init 14 = .ok (.putfield 13, 3) := by decide +kernel
theorem dX7_init_17 : decode cX7_init 17 = .ok (.return_, 1) := by decide +kernel
theorem dX7_begin_0 : decode cX7_begin 0 = .ok (.aload_n 0, 1) := by decide +kernel
theorem dX7_begin_1 : decode cX7_begin 1 = .ok (.iconst 0, 1) := by decide +kernel
theorem dX7_begin_2 : decode cX7_begin 2 = .ok (.putfield 13, 3) := by decide +kernel
theorem dX7_begin_5 : decode cX7_begin 5 = .ok (.return_, 1) := by decide +kernel
theorem dX7_add_0 : decode cX7_add 0 = .ok (.aload_n 0, 1) := by decide +kernel
theorem dX7_add_1 : decode cX7_add 1 = .ok (.getfield 13, 3) := by decide +kernel
theorem dX7_add_4 : decode cX7_add 4 = .ok (.aload_n 0, 1) := by decide +kernel
theorem dX7_add_5 : decode cX7_add 5 = .ok (.getfield 7, 3) := by decide +kernel
theorem dX7_add_8 : decode cX7_add 8 = .ok (.arraylength, 1) := by decide +kernel
theorem dX7_add_9 : decode cX7_add 9 = .ok (.if_icmp .ge 23, 3) := by decide +kernel
theorem dX7_add_12 : decode cX7_add 12 = .ok (.aload_n 0, 1) := by decide +kernel
theorem dX7_add_13 : decode cX7_add 13 = .ok (.getfield 7, 3) := by decide +kernel
theorem dX7_add_16 : decode cX7_add 16 = .ok (.aload_n 0, 1) := by decide +kernel
theorem dX7_add_17 : decode cX7_add 17 = .ok (.getfield 13, 3) := by decide +kernel
theorem dX7_add_20 : decode cX7_add 20 = .ok (.lload_n 1, 1) := by decide +kernel
theorem dX7_add_21 : decode cX7_add 21 = .ok (.lastore, 1) := by decide +kernel
theorem dX7_add_22 : decode cX7_add 22 = .ok (.aload_n 0, 1) := by decide +kernel
theorem dX7_add_23 : decode cX7_add 23 = .ok (.dup, 1) := by decide +kernel
theorem dX7_add_24 : decode cX7_add 24 = .ok (.getfield 13, 3) := by decide +kernel
theorem dX7_add_27 : decode cX7_add 27 = .ok (.iconst 1, 1) := by decide +kernel
theorem dX7_add_28 : decode cX7_add 28 = .ok (.iadd, 1) := by decide +kernel
theorem dX7_add_29 : decode cX7_add 29 = .ok (.putfield 13, 3) := by decide +kernel
theorem dX7_add_32 : decode cX7_add 32 = .ok (.return_, 1) := by decide +kernel
theorem dX8_init_0 : decode cX8_init 0 = .ok (.aload_n 0, 1) := by decide +kernel
theorem dX8_init_1 : decode cX8_init 1 = .ok (.invokespecial 1, 3) := by decide +kernel
theorem dX8_init_4 : decode cX8_init 4 = .ok (.aload_n 0, 1) := by decide +kernel
theorem dX8_init_5 : decode cX8_init 5 = .ok (.bipush 64, 2) := by decide +kernel
theorem dX8_init_7 : decode cX8_init 7 = .ok (.newarray .int, 2) := by decide +kernel
theorem dX8_init_9 : decode cX8_init 9 = .ok (.putfield 9, 3) := by decide +kernel
theorem dX8_init_12 : decode cX8_init 12 = .ok (.aload_n 0, 1) := by decide +kernel
theorem dX8_init_13 : decode cX8_init 13 = .ok (.iconst 0, 1) := by decide +kernel
theorem dX8_init_14 : decode cX8_init 14 = .ok (.putfield 13, 3) := by decide +kernel
theorem dX8_init_17 : decode cX8_init 17 = .ok (.aload_n 0, 1) := by decide +kernel
theorem dX8_init_18 : decode cX8_init 18 = .ok (.new 17, 3) := by decide +kernel
theorem dX8_init_21 : decode cX8_init 21 = .ok (.dup, 1) := by decide +kernel
theorem dX8_init_22 : decode cX8_init 22 = .ok (.invokespecial 19, 3) := by decide +kernel
theorem dX8_init_25 : decode cX8_init 25 = .ok (.putfield 20, 3) := by decide +kernel
theorem dX8_init_28 : decode cX8_init 28 = .ok (.aload_n 0, 1) := by decide +kernel
theorem dX8_init_29 : decode cX8_init 29 = .ok (.new 24, 3) := by decide +kernel
theorem dX8_init_32 : decode cX8_init 32 = .ok (.dup, 1) := by decide +kernel
theorem dX8_init_33 : decode cX8_init 33 = .ok (.invokespecial 26, 3) := by decide +kernel
theorem dX8_init_36 : decode cX8_init 36 = .ok (.putfield 27, 3) := by decide +kernel
theorem dX8_init_39 : decode cX8_init 39 = .ok (.aload_n 0, 1) := by decide +kernel
theorem dX8_init_40 : decode cX8_init 40 = .ok (.new 31, 3) := by decide +kernel
theorem dX8_init_43 : decode cX8_init 43 = .ok (.dup, 1) := by decide +kernel
theorem dX8_init_44 : decode cX8_init 44 = .ok (.invokespecial 33, 3) := by decide +kernel
theorem dX8_init_47 : decode cX8_init 47 = .ok (.putfield 34, 3) := by decide +kernel
theorem dX8_init_50 : decode cX8_init 50 = .ok (.aload_n 0, 1) := by decide +kernel
theorem dX8_init_51 : decode cX8_init 51 = .ok (.new 38, 3) := by decide +kernel
theorem dX8_init_54 : decode cX8_init 54 = .ok (.dup, 1) := by decide +kernel
theorem dX8_init_55 : decode cX8_init 55 = .ok (.invokespecial 40, 3) := by decide +kernel
theorem dX8_init_58 : decode cX8_init 58 = .ok (.putfield 41, 3) := by decide +kernel
theorem dX8_init_61 : decode cX8_init 61 = .ok (.aload_n 0, 1) := by decide +kernel
theorem dX8_init_62 : decode cX8_init 62 = .ok (.new 38, 3) := by decide +kernel
theorem dX8_init_65 : decode cX8_init 65 = .ok (.dup, 1) := by decide +kernel
theorem dX8_init_66 : decode cX8_init 66 = .ok (.invokespecial 40, 3) := by decide +kernel
theorem dX8_init_69 : decode cX8_init 69 = .ok (.putfield 45, 3) := by decide +kernel
theorem dX8_init_72 : decode cX8_init 72 = .ok (.aload_n 0, 1) := by decide +kernel
theorem dX8_init_73 : decode cX8_init 73 = .ok (.new 48, 3) := by decide +kernel
theorem dX8_init_76 : decode cX8_init 76 = .ok (.dup, 1) := by decide +kernel
theorem dX8_init_77 : decode cX8_init 77 = .ok (.invokespecial 50, 3) := by decide +kernel
theorem dX8_init_80 : decode cX8_init 80 = .ok (.putfield 51, 3) := by decide +kernel
theorem dX8_init_83 : decode cX8_init 83 = .ok (.aload_n 0, 1) := by decide +kernel
theorem dX8_init_84 : decode cX8_init 84 = .ok (.new 55, 3) := by decide +kernel
theorem dX8_init_87 : decode cX8_init 87 = .ok (.dup, 1) := by decide +kernel
theorem dX8_init_88 : decode cX8_init 88 = .ok (.invokespecial 57, 3) := by decide +kernel
theorem dX8_init_91 : decode cX8_init 91 = .ok (.putfield 58, 3) := by decide +kernel
theorem dX8_init_94 : decode cX8_init 94 = .ok (.aload_n 0, 1) := by decide +kernel
theorem dX8_init_95 : decode cX8_init 95 = .ok (.new 62, 3) := by decide +kernel
theorem dX8_init_98 : decode cX8_init 98 = .ok (.dup, 1) := by decide +kernel
theorem dX8_init_99 : decode cX8_init 99 = .ok (.invokespecial 64, 3) := by decide +kernel
theorem dX8_init_102 : decode cX8_init 102 = .ok (.putfield 65, 3) := by decide +kernel
theorem dX8_init_105 : decode cX8_init 105 = .ok (.aload_n 0, 1) := by decide +kernel
theorem dX8_init_106 : decode cX8_init 106 = .ok (.new 69, 3) := by decide +kernel
theorem dX8_init_109 : decode cX8_init 109 = .ok (.dup, 1) := by decide +kernel
theorem dX8_init_110 : decode cX8_init 110 = .ok (.invokespecial 71, 3) := by decide +kernel
theorem dX8_init_113 : decode cX8_init 113 = .ok (.putfield 72, 3) := by decide +kernel
theorem dX8_init_116 : decode cX8_init 116 = .ok (.return_, 1) := by decide +kernel
theorem dX8_column_0 : decode cX8_column 0 = .ok (.aload_n 0, 1) := by decide +kernel
theorem dX8_column_1 : decode cX8_column 1 = .ok (.getfield 51, 3) := by decide +kernel
theorem dX8_column_4 : decode cX8_column 4 = .ok (.aload_n 0, 1) := by decide +kernel
theorem dX8_column_5 : decode cX8_column 5 = .ok (.getfield 27, 3) := by decide +kernel
theorem dX8_column_8 : decode cX8_column 8 = .ok (.invokevirtual 76, 3) := by decide +kernel
theorem dX8_column_11 : decode cX8_column 11 = .ok (.istore_n 1, 1) := by decide +kernel
theorem dX8_column_12 : decode cX8_column 12 = .ok (.aload_n 0, 1) := by decide +kernel
theorem dX8_column_13 : decode cX8_column 13 = .ok (.getfield 27, 3) := by decide +kernel
theorem dX8_column_16 : decode cX8_column 16 = .ok (.iconst 0, 1) := by decide +kernel
theorem dX8_column_17 : decode cX8_column 17 = .ok (.invokevirtual 80, 3) := by decide +kernel
theorem dX8_column_20 : decode cX8_column 20 = .ok (.pop, 1) := by decide +kernel
theorem dX8_column_21 : decode cX8_column 21 = .ok (.iload_n 1, 1) := by decide +kernel
theorem dX8_column_22 : decode cX8_column 22 = .ok (.iconst (-1), 1) := by decide +kernel
theorem dX8_column_23 : decode cX8_column 23 = .ok (.if_icmp .eq 7, 3) := by decide +kernel
theorem dX8_column_26 : decode cX8_column 26 = .ok (.iconst (-1), 1) := by decide +kernel
theorem dX8_column_27 : decode cX8_column 27 = .ok (.iload_n 1, 1) := by decide +kernel
theorem dX8_column_28 : decode cX8_column 28 = .ok (.isub, 1) := by decide +kernel
theorem dX8_column_29 : decode cX8_column 29 = .ok (.ireturn, 1) := by decide +kernel
theorem dX8_column_30 : decode cX8_column 30 = .ok (.aload_n 0, 1) := by decide +kernel
theorem dX8_column_31 : decode cX8_column 31 = .ok (.aload_n 0, 1) := by decide +kernel
theorem dX8_column_32 : decode cX8_column 32 = .ok (.getfield 51, 3) := by decide +kernel
theorem dX8_column_35 : decode cX8_column 35 = .ok (.getfield 84, 3) := by decide +kernel
theorem dX8_column_38 : decode cX8_column 38 = .ok (.putfield 13, 3) := by decide +kernel
theorem dX8_column_41 : decode cX8_column 41 = .ok (.aload_n 0, 1) := by decide +kernel
theorem dX8_column_42 : decode cX8_column 42 = .ok (.getfield 51, 3) := by decide +kernel
theorem dX8_column_45 : decode cX8_column 45 = .ok (.getfield 85, 3) := by decide +kernel
theorem dX8_column_48 : decode cX8_column 48 = .ok (.iconst 0, 1) := by decide +kernel
theorem dX8_column_49 : decode cX8_column 49 = .ok (.aload_n 0, 1) := by decide +kernel
theorem dX8_column_50 : decode cX8_column 50 = .ok (.getfield 9, 3) := by decide +kernel
theorem dX8_column_53 : decode cX8_column 53 = .ok (.iconst 0, 1) := by decide +kernel
theorem dX8_column_54 : decode cX8_column 54 = .ok (.aload_n 0, 1) := by decide +kernel
theorem dX8_column_55 : decode cX8_column 55 = .ok (.getfield 13, 3) := by decide +kernel
theorem dX8_column_58 : decode cX8_column 58 = .ok (.invokestatic 86, 3) := by decide +kernel
theorem dX8_column_61 : decode cX8_column 61 = .ok (.aload_n 0, 1) := by decide +kernel
theorem dX8_column_62 : decode cX8_column 62 = .ok (.invokevirtual 92, 3) := by decide +kernel
theorem dX8_column_65 : decode cX8_column 65 = .ok (.pop, 1) := by decide +kernel
theorem dX8_column_66 : decode cX8_column 66 = .ok (.aload_n 0, 1) := by decide +kernel
theorem dX8_column_67 : decode cX8_column 67 = .ok (.getfield 13, 3) := by decide +kernel
theorem dX8_column_70 : decode cX8_column 70 = .ok (.ireturn, 1) := by decide +kernel
theorem dX8_planes_0 : decode cX8_planes 0 = .ok (.aload_n 0, 1) := by decide +kernel
theorem dX8_planes_1 : decode cX8_planes 1 = .ok (.getfield 58, 3) := by decide +kernel
theorem dX8_planes_4 : decode cX8_planes 4 = .ok (.aload_n 0, 1) := by decide +kernel
theorem dX8_planes_5 : decode cX8_planes 5 = .ok (.getfield 27, 3) := by decide +kernel
theorem dX8_planes_8 : decode cX8_planes 8 = .ok (.invokevirtual 96, 3) := by decide +kernel
theorem dX8_planes_11 : decode cX8_planes 11 = .ok (.istore_n 1, 1) := by decide +kernel
theorem dX8_planes_12 : decode cX8_planes 12 = .ok (.aload_n 0, 1) := by decide +kernel
theorem dX8_planes_13 : decode cX8_planes 13 = .ok (.getfield 27, 3) := by decide +kernel
theorem dX8_planes_16 : decode cX8_planes 16 = .ok (.iconst 0, 1) := by decide +kernel
theorem dX8_planes_17 : decode cX8_planes 17 = .ok (.invokevirtual 80, 3) := by decide +kernel
theorem dX8_planes_20 : decode cX8_planes 20 = .ok (.pop, 1) := by decide +kernel
theorem dX8_planes_21 : decode cX8_planes 21 = .ok (.iload_n 1, 1) := by decide +kernel
theorem dX8_planes_22 : decode cX8_planes 22 = .ok (.iconst (-1), 1) := by decide +kernel
theorem dX8_planes_23 : decode cX8_planes 23 = .ok (.if_icmp .eq 7, 3) := by decide +kernel
theorem dX8_planes_26 : decode cX8_planes 26 = .ok (.iconst (-1), 1) := by decide +kernel
theorem dX8_planes_27 : decode cX8_planes 27 = .ok (.iload_n 1, 1) := by decide +kernel
theorem dX8_planes_28 : decode cX8_planes 28 = .ok (.isub, 1) := by decide +kernel
theorem dX8_planes_29 : decode cX8_planes 29 = .ok (.ireturn, 1) := by decide +kernel
theorem dX8_planes_30 : decode cX8_planes 30 = .ok (.aload_n 0, 1) := by decide +kernel
theorem dX8_planes_31 : decode cX8_planes 31 = .ok (.aload_n 0, 1) := by decide +kernel
theorem dX8_planes_32 : decode cX8_planes 32 = .ok (.getfield 58, 3) := by decide +kernel
theorem dX8_planes_35 : decode cX8_planes 35 = .ok (.getfield 97, 3) := by decide +kernel
theorem dX8_planes_38 : decode cX8_planes 38 = .ok (.putfield 13, 3) := by decide +kernel
theorem dX8_planes_41 : decode cX8_planes 41 = .ok (.iconst 0, 1) := by decide +kernel
theorem dX8_planes_42 : decode cX8_planes 42 = .ok (.istore_n 2, 1) := by decide +kernel
theorem dX8_planes_43 : decode cX8_planes 43 = .ok (.iload_n 2, 1) := by decide +kernel
theorem dX8_planes_44 : decode cX8_planes 44 = .ok (.aload_n 0, 1) := by decide +kernel
theorem dX8_planes_45 : decode cX8_planes 45 = .ok (.getfield 13, 3) := by decide +kernel
theorem dX8_planes_48 : decode cX8_planes 48 = .ok (.if_icmp .ge 30, 3) := by decide +kernel
theorem dX8_planes_51 : decode cX8_planes 51 = .ok (.aload_n 0, 1) := by decide +kernel
theorem dX8_planes_52 : decode cX8_planes 52 = .ok (.getfield 9, 3) := by decide +kernel
theorem dX8_planes_55 : decode cX8_planes 55 = .ok (.iload_n 2, 1) := by decide +kernel
theorem dX8_planes_56 : decode cX8_planes 56 = .ok (.aload_n 0, 1) := by decide +kernel
theorem dX8_planes_57 : decode cX8_planes 57 = .ok (.getfield 58, 3) := by decide +kernel
theorem dX8_planes_60 : decode cX8_planes 60 = .ok (.getfield 100, 3) := by decide +kernel
theorem dX8_planes_63 : decode cX8_planes 63 = .ok (.aload_n 0, 1) := by decide +kernel
theorem dX8_planes_64 : decode cX8_planes 64 = .ok (.getfield 13, 3) := by decide +kernel
theorem dX8_planes_67 : decode cX8_planes 67 = .ok (.iload_n 2, 1) := by decide +kernel
theorem dX8_planes_68 : decode cX8_planes 68 = .ok (.invokestatic 104, 3) := by decide +kernel
theorem dX8_planes_71 : decode cX8_planes 71 = .ok (.iastore, 1) := by decide +kernel
theorem dX8_planes_72 : decode cX8_planes 72 = .ok (.iinc 2 1, 3) := by decide +kernel
theorem dX8_planes_75 : decode cX8_planes 75 = .ok (.goto (-32), 3) := by decide +kernel
theorem dX8_planes_78 : decode cX8_planes 78 = .ok (.aload_n 0, 1) := by decide +kernel
theorem dX8_planes_79 : decode cX8_planes 79 = .ok (.invokevirtual 92, 3) := by decide +kernel
theorem dX8_planes_82 : decode cX8_planes 82 = .ok (.pop, 1) := by decide +kernel
theorem dX8_planes_83 : decode cX8_planes 83 = .ok (.aload_n 0, 1) := by decide +kernel
theorem dX8_planes_84 : decode cX8_planes 84 = .ok (.getfield 13, 3) := by decide +kernel
theorem dX8_planes_87 : decode cX8_planes 87 = .ok (.ireturn, 1) := by decide +kernel
theorem dX8_adds_0 : decode cX8_adds 0 = .ok (.iload_n 1, 1) := by decide +kernel
theorem dX8_adds_1 : decode cX8_adds 1 = .ok (.invokestatic 108, 3) := by decide +kernel
theorem dX8_adds_4 : decode cX8_adds 4 = .ok (.ifCond .ne 5, 3) := by decide +kernel
theorem dX8_adds_7 : decode cX8_adds 7 = .ok (.iconst (-1), 1) := by decide +kernel
theorem dX8_adds_8 : decode cX8_adds 8 = .ok (.ireturn, 1) := by decide +kernel
theorem dX8_adds_9 : decode cX8_adds 9 = .ok (.aload_n 0, 1) := by decide +kernel
theorem dX8_adds_10 : decode cX8_adds 10 = .ok (.getfield 13, 3) := by decide +kernel
theorem dX8_adds_13 : decode cX8_adds 13 = .ok (.bipush 64, 2) := by decide +kernel
theorem dX8_adds_15 : decode cX8_adds 15 = .ok (.if_icmp .lt 6, 3) := by decide +kernel
theorem dX8_adds_18 : decode cX8_adds 18 = .ok (.bipush (-3), 2) := by decide +kernel
theorem dX8_adds_20 : decode cX8_adds 20 = .ok (.ireturn, 1) := by decide +kernel
theorem dX8_adds_21 : decode cX8_adds 21 = .ok (.aload_n 0, 1) := by decide +kernel
theorem dX8_adds_22 : decode cX8_adds 22 = .ok (.getfield 9, 3) := by decide +kernel
theorem dX8_adds_25 : decode cX8_adds 25 = .ok (.aload_n 0, 1) := by decide +kernel
theorem dX8_adds_26 : decode cX8_adds 26 = .ok (.getfield 13, 3) := by decide +kernel
theorem dX8_adds_29 : decode cX8_adds 29 = .ok (.iload_n 1, 1) := by decide +kernel
theorem dX8_adds_30 : decode cX8_adds 30 = .ok (.iastore, 1) := by decide +kernel
theorem dX8_adds_31 : decode cX8_adds 31 = .ok (.aload_n 0, 1) := by decide +kernel
theorem dX8_adds_32 : decode cX8_adds 32 = .ok (.dup, 1) := by decide +kernel
theorem dX8_adds_33 : decode cX8_adds 33 = .ok (.getfield 13, 3) := by decide +kernel
theorem dX8_adds_36 : decode cX8_adds 36 = .ok (.iconst 1, 1) := by decide +kernel
theorem dX8_adds_37 : decode cX8_adds 37 = .ok (.iadd, 1) := by decide +kernel
theorem dX8_adds_38 : decode cX8_adds 38 = .ok (.putfield 13, 3) := by decide +kernel
theorem dX8_adds_41 : decode cX8_adds 41 = .ok (.aload_n 0, 1) := by decide +kernel
theorem dX8_adds_42 : decode cX8_adds 42 = .ok (.invokevirtual 92, 3) := by decide +kernel
theorem dX8_adds_45 : decode cX8_adds 45 = .ok (.pop, 1) := by decide +kernel
theorem dX8_adds_46 : decode cX8_adds 46 = .ok (.aload_n 0, 1) := by decide +kernel
theorem dX8_adds_47 : decode cX8_adds 47 = .ok (.getfield 13, 3) := by decide +kernel
theorem dX8_adds_50 : decode cX8_adds 50 = .ok (.ireturn, 1) := by decide +kernel
theorem dX8_puts_0 : decode cX8_puts 0 = .ok (.iload_n 2, 1) := by decide +kernel
theorem dX8_puts_1 : decode cX8_puts 1 = .ok (.invokestatic 108, 3) := by decide +kernel
theorem dX8_puts_4 : decode cX8_puts 4 = .ok (.ifCond .ne 5, 3) := by decide +kernel
theorem dX8_puts_7 : decode cX8_puts 7 = .ok (.iconst (-1), 1) := by decide +kernel
theorem dX8_puts_8 : decode cX8_puts 8 = .ok (.ireturn, 1) := by decide +kernel
theorem dX8_puts_9 : decode cX8_puts 9 = .ok (.aload_n 0, 1) := by decide +kernel
theorem dX8_puts_10 : decode cX8_puts 10 = .ok (.iload_n 1, 1) := by decide +kernel
theorem dX8_puts_11 : decode cX8_puts 11 = .ok (.invokevirtual 111, 3) := by decide +kernel
theorem dX8_puts_14 : decode cX8_puts 14 = .ok (.ifCond .ne 6, 3) := by decide +kernel
theorem dX8_puts_17 : decode cX8_puts 17 = .ok (.bipush (-2), 2) := by decide +kernel
theorem dX8_puts_19 : decode cX8_puts 19 = .ok (.ireturn, 1) := by decide +kernel
theorem dX8_puts_20 : decode cX8_puts 20 = .ok (.aload_n 0, 1) := by decide +kernel
theorem dX8_puts_21 : decode cX8_puts 21 = .ok (.getfield 9, 3) := by decide +kernel
theorem dX8_puts_24 : decode cX8_puts 24 = .ok (.iload_n 1, 1) := by decide +kernel
theorem dX8_puts_25 : decode cX8_puts 25 = .ok (.iaload, 1) := by decide +kernel
theorem dX8_puts_26 : decode cX8_puts 26 = .ok (.istore_n 3, 1) := by decide +kernel
theorem dX8_puts_27 : decode cX8_puts 27 = .ok (.iload_n 3, 1) := by decide +kernel
theorem dX8_puts_28 : decode cX8_puts 28 = .ok (.iload_n 2, 1) := by decide +kernel
theorem dX8_puts_29 : decode cX8_puts 29 = .ok (.if_icmp .ne 6, 3) := by decide +kernel
theorem dX8_puts_32 : decode cX8_puts 32 = .ok (.bipush (-4), 2) := by decide +kernel
theorem dX8_puts_34 : decode cX8_puts 34 = .ok (.ireturn, 1) := by decide +kernel
theorem dX8_puts_35 : decode cX8_puts 35 = .ok (.aload_n 0, 1) := by decide +kernel
theorem dX8_puts_36 : decode cX8_puts 36 = .ok (.getfield 9, 3) := by decide +kernel
theorem dX8_puts_39 : decode cX8_puts 39 = .ok (.iload_n 1, 1) := by decide +kernel
theorem dX8_puts_40 : decode cX8_puts 40 = .ok (.iload_n 2, 1) := by decide +kernel
theorem dX8_puts_41 : decode cX8_puts 41 = .ok (.iastore, 1) := by decide +kernel
theorem dX8_puts_42 : decode cX8_puts 42 = .ok (.aload_n 0, 1) := by decide +kernel
theorem dX8_puts_43 : decode cX8_puts 43 = .ok (.aload_n 0, 1) := by decide +kernel
theorem dX8_puts_44 : decode cX8_puts 44 = .ok (.invokevirtual 92, 3) := by decide +kernel
theorem dX8_puts_47 : decode cX8_puts 47 = .ok (.i2l, 1) := by decide +kernel
theorem dX8_puts_48 : decode cX8_puts 48 = .ok (.invokevirtual 114, 3) := by decide +kernel
theorem dX8_puts_51 : decode cX8_puts 51 = .ok (.iload_n 3, 1) := by decide +kernel
theorem dX8_puts_52 : decode cX8_puts 52 = .ok (.ireturn, 1) := by decide +kernel
theorem dX8_cuts_0 : decode cX8_cuts 0 = .ok (.aload_n 0, 1) := by decide +kernel
theorem dX8_cuts_1 : decode cX8_cuts 1 = .ok (.iload_n 1, 1) := by decide +kernel
theorem dX8_cuts_2 : decode cX8_cuts 2 = .ok (.invokevirtual 111, 3) := by decide +kernel
theorem dX8_cuts_5 : decode cX8_cuts 5 = .ok (.ifCond .ne 6, 3) := by decide +kernel
theorem dX8_cuts_8 : decode cX8_cuts 8 = .ok (.bipush (-2), 2) := by decide +kernel
theorem dX8_cuts_10 : decode cX8_cuts 10 = .ok (.ireturn, 1) := by decide +kernel
theorem dX8_cuts_11 : decode cX8_cuts 11 = .ok (.aload_n 0, 1) := by decide +kernel
theorem dX8_cuts_12 : decode cX8_cuts 12 = .ok (.getfield 9, 3) := by decide +kernel
theorem dX8_cuts_15 : decode cX8_cuts 15 = .ok (.iload_n 1, 1) := by decide +kernel
theorem dX8_cuts_16 : decode cX8_cuts 16 = .ok (.iaload, 1) := by decide +kernel
theorem dX8_cuts_17 : decode cX8_cuts 17 = .ok (.istore_n 2, 1) := by decide +kernel
theorem dX8_cuts_18 : decode cX8_cuts 18 = .ok (.iload_n 1, 1) := by decide +kernel
theorem dX8_cuts_19 : decode cX8_cuts 19 = .ok (.iconst 1, 1) := by decide +kernel
theorem dX8_cuts_20 : decode cX8_cuts 20 = .ok (.iadd, 1) := by decide +kernel
theorem dX8_cuts_21 : decode cX8_cuts 21 = .ok (.istore_n 3, 1) := by decide +kernel
theorem dX8_cuts_22 : decode cX8_cuts 22 = .ok (.iload_n 3, 1) := by decide +kernel
theorem dX8_cuts_23 : decode cX8_cuts 23 = .ok (.aload_n 0, 1) := by decide +kernel
theorem dX8_cuts_24 : decode cX8_cuts 24 = .ok (.getfield 13, 3) := by decide +kernel
theorem dX8_cuts_27 : decode cX8_cuts 27 = .ok (.if_icmp .ge 23, 3) := by decide +kernel
theorem dX8_cuts_30 : decode cX8_cuts 30 = .ok (.aload_n 0, 1) := by decide +kernel
theorem dX8_cuts_31 : decode cX8_cuts 31 = .ok (.getfield 9, 3) := by decide +kernel
theorem dX8_cuts_34 : decode cX8_cuts 34 = .ok (.iload_n 3, 1) := by decide +kernel
theorem dX8_cuts_35 : decode cX8_cuts 35 = .ok (.iconst 1, 1) := by decide +kernel
theorem dX8_cuts_36 : decode cX8_cuts 36 = .ok (.isub, 1) := by decide +kernel
theorem dX8_cuts_37 : decode cX8_cuts 37 = .ok (.aload_n 0, 1) := by decide +kernel
theorem dX8_cuts_38 : decode cX8_cuts 38 = .ok (.getfield 9, 3) := by decide +kernel
theorem dX8_cuts_41 : decode cX8_cuts 41 = .ok (.iload_n 3, 1) := by decide +kernel
theorem dX8_cuts_42 : decode cX8_cuts 42 = .ok (.iaload, 1) := by decide +kernel
theorem dX8_cuts_43 : decode cX8_cuts 43 = .ok (.iastore, 1) := by decide +kernel
theorem dX8_cuts_44 : decode cX8_cuts 44 = .ok (.iinc 3 1, 3) := by decide +kernel
theorem dX8_cuts_47 : decode cX8_cuts 47 = .ok (.goto (-25), 3) := by decide +kernel
theorem dX8_cuts_50 : decode cX8_cuts 50 = .ok (.aload_n 0, 1) := by decide +kernel
theorem dX8_cuts_51 : decode cX8_cuts 51 = .ok (.dup, 1) := by decide +kernel
theorem dX8_cuts_52 : decode cX8_cuts 52 = .ok (.getfield 13, 3) := by decide +kernel
theorem dX8_cuts_55 : decode cX8_cuts 55 = .ok (.iconst 1, 1) := by decide +kernel
theorem dX8_cuts_56 : decode cX8_cuts 56 = .ok (.isub, 1) := by decide +kernel
theorem dX8_cuts_57 : decode cX8_cuts 57 = .ok (.putfield 13, 3) := by decide +kernel
theorem dX8_cuts_60 : decode cX8_cuts 60 = .ok (.aload_n 0, 1) := by decide +kernel
theorem dX8_cuts_61 : decode cX8_cuts 61 = .ok (.invokevirtual 92, 3) := by decide +kernel
theorem dX8_cuts_64 : decode cX8_cuts 64 = .ok (.pop, 1) := by decide +kernel
theorem dX8_cuts_65 : decode cX8_cuts 65 = .ok (.iload_n 2, 1) := by decide +kernel
theorem dX8_cuts_66 : decode cX8_cuts 66 = .ok (.ireturn, 1) := by decide +kernel
theorem dX8_swaps_0 : decode cX8_swaps 0 = .ok (.aload_n 0, 1) := by decide +kernel
theorem dX8_swaps_1 : decode cX8_swaps 1 = .ok (.iload_n 1, 1) := by decide +kernel
theorem dX8_swaps_2 : decode cX8_swaps 2 = .ok (.invokevirtual 111, 3) := by decide +kernel
theorem dX8_swaps_5 : decode cX8_swaps 5 = .ok (.ifCond .eq 16, 3) := by decide +kernel
theorem dX8_swaps_8 : decode cX8_swaps 8 = .ok (.aload_n 0, 1) := by decide +kernel
theorem dX8_swaps_9 : decode cX8_swaps 9 = .ok (.iload_n 2, 1) := by decide +kernel
theorem dX8_swaps_10 : decode cX8_swaps 10 = .ok (.invokevirtual 111, 3) := by decide +kernel
theorem dX8_swaps_13 : decode cX8_swaps 13 = .ok (.ifCond .eq 8, 3) := by decide +kernel
theorem dX8_swaps_16 : decode cX8_swaps 16 = .ok (.iload_n 1, 1) := by decide +kernel
theorem dX8_swaps_17 : decode cX8_swaps 17 = .ok (.iload_n 2, 1) := by decide +kernel
theorem dX8_swaps_18 : decode cX8_swaps 18 = .ok (.if_icmp .ne 6, 3) := by decide +kernel
theorem dX8_swaps_21 : decode cX8_swaps 21 = .ok (.bipush (-2), 2) := by decide +kernel
theorem dX8_swaps_23 : decode cX8_swaps 23 = .ok (.ireturn, 1) := by decide +kernel
theorem dX8_swaps_24 : decode cX8_swaps 24 = .ok (.aload_n 0, 1) := by decide +kernel
theorem dX8_swaps_25 : decode cX8_swaps 25 = .ok (.iload_n 1, 1) := by decide +kernel
theorem dX8_swaps_26 : decode cX8_swaps 26 = .ok (.iload_n 2, 1) := by decide +kernel
theorem dX8_swaps_27 : decode cX8_swaps 27 = .ok (.invokevirtual 118, 3) := by decide +kernel
theorem dX8_swaps_30 : decode cX8_swaps 30 = .ok (.aload_n 0, 1) := by decide +kernel
theorem dX8_swaps_31 : decode cX8_swaps 31 = .ok (.invokevirtual 92, 3) := by decide +kernel
theorem dX8_swaps_34 : decode cX8_swaps 34 = .ok (.ireturn, 1) := by decide +kernel
theorem dX8_reverses_0 : decode cX8_reverses 0 = .ok (.aload_n 0, 1) := by decide +kernel
theorem dX8_reverses_1 : decode cX8_reverses 1 = .ok (.iload_n 1, 1) := by decide +kernel
theorem dX8_reverses_2 : decode cX8_reverses 2 = .ok (.iload_n 2, 1) := by decide +kernel
theorem dX8_reverses_3 : decode cX8_reverses 3 = .ok (.invokevirtual 122, 3) := by decide +kernel
theorem dX8_reverses_6 : decode cX8_reverses 6 = .ok (.ifCond .ne 5, 3) := by decide +kernel
theorem dX8_reverses_9 : decode cX8_reverses 9 = .ok (.iconst (-1), 1) := by decide +kernel
theorem dX8_reverses_10 : decode cX8_reverses 10 = .ok (.ireturn, 1) := by decide +kernel
theorem dX8_reverses_11 : decode cX8_reverses 11 = .ok (.iload_n 2, 1) := by decide +kernel
theorem dX8_reverses_12 : decode cX8_reverses 12 = .ok (.iconst 1, 1) := by decide +kernel
theorem dX8_reverses_13 : decode cX8_reverses 13 = .ok (.isub, 1) := by decide +kernel
theorem dX8_reverses_14 : decode cX8_reverses 14 = .ok (.istore_n 3, 1) := by decide +kernel
theorem dX8_reverses_15 : decode cX8_reverses 15 = .ok (.iload_n 1, 1) := by decide +kernel
theorem dX8_reverses_16 : decode cX8_reverses 16 = .ok (.istore 4, 2) := by decide +kernel
theorem dX8_reverses_18 : decode cX8_reverses 18 = .ok (.iload 4, 2) := by decide +kernel
theorem dX8_reverses_20 : decode cX8_reverses 20 = .ok (.iload_n 3, 1) := by decide +kernel
theorem dX8_reverses_21 : decode cX8_reverses 21 = .ok (.if_icmp .ge 19, 3) := by decide +kernel
theorem dX8_reverses_24 : decode cX8_reverses 24 = .ok (.aload_n 0, 1) := by decide +kernel
theorem dX8_reverses_25 : decode cX8_reverses 25 = .ok (.iload 4, 2) := by decide +kernel
theorem dX8_reverses_27 : decode cX8_reverses 27 = .ok (.iload_n 3, 1) := by decide +kernel
theorem dX8_reverses_28 : decode cX8_reverses 28 = .ok (.invokevirtual 118, 3) := by decide +kernel
theorem dX8_reverses_31 : decode cX8_reverses 31 = .ok (.iinc 3 (-1), 3) := by decide +kernel
theorem dX8_reverses_34 : decode cX8_reverses 34 = .ok (.iinc 4 1, 3) := by decide +kernel
theorem dX8_reverses_37 : decode cX8_reverses 37 = .ok (.goto (-19), 3) := by decide +kernel
theorem dX8_reverses_40 : decode cX8_reverses 40 = .ok (.aload_n 0, 1) := by decide +kernel
theorem dX8_reverses_41 : decode cX8_reverses 41 = .ok (.invokevirtual 92, 3) := by decide +kernel
theorem dX8_reverses_44 : decode cX8_reverses 44 = .ok (.ireturn, 1) := by decide +kernel
theorem dX8_sign_0 : decode cX8_sign 0 = .ok (.aload_n 0, 1) := by decide +kernel
theorem dX8_sign_1 : decode cX8_sign 1 = .ok (.getfield 27, 3) := by decide +kernel
theorem dX8_sign_4 : decode cX8_sign 4 = .ok (.iload_n 1, 1) := by decide +kernel
theorem dX8_sign_5 : decode cX8_sign 5 = .ok (.invokevirtual 126, 3) := by decide +kernel
theorem dX8_sign_8 : decode cX8_sign 8 = .ok (.ifCond .eq 13, 3) := by decide +kernel
theorem dX8_sign_11 : decode cX8_sign 11 = .ok (.aload_n 0, 1) := by decide +kernel
theorem dX8_sign_12 : decode cX8_sign 12 = .ok (.getfield 27, 3) := by decide +kernel
theorem dX8_sign_15 : decode cX8_sign 15 = .ok (.getfield 129, 3) := by decide +kernel
theorem dX8_sign_18 : decode cX8_sign 18 = .ok (.goto 4, 3) := by decide +kernel
theorem dX8_sign_21 : decode cX8_sign 21 = .ok (.iconst (-1), 1) := by decide +kernel
theorem dX8_sign_22 : decode cX8_sign 22 = .ok (.ireturn, 1) := by decide +kernel
theorem dX8_end_0 : decode cX8_end 0 = .ok (.aload_n 0, 1) := by decide +kernel
theorem dX8_end_1 : decode cX8_end 1 = .ok (.getfield 27, 3) := by decide +kernel
theorem dX8_end_4 : decode cX8_end 4 = .ok (.iload_n 1, 1) := by decide +kernel
theorem dX8_end_5 : decode cX8_end 5 = .ok (.invokevirtual 80, 3) := by decide +kernel
theorem dX8_end_8 : decode cX8_end 8 = .ok (.ireturn, 1) := by decide +kernel
theorem dX8_level_0 : decode cX8_level 0 = .ok (.iload_n 1, 1) := by decide +kernel
theorem dX8_level_1 : decode cX8_level 1 = .ok (.ifCond .lt 9, 3) := by decide +kernel
theorem dX8_level_4 : decode cX8_level 4 = .ok (.iload_n 1, 1) := by decide +kernel
theorem dX8_level_5 : decode cX8_level 5 = .ok (.bipush 8, 2) := by decide +kernel
theorem dX8_level_7 : decode cX8_level 7 = .ok (.if_icmp .lt 5, 3) := by decide +kernel
theorem dX8_level_10 : decode cX8_level 10 = .ok (.iconst (-1), 1) := by decide +kernel
theorem dX8_level_11 : decode cX8_level 11 = .ok (.ireturn, 1) := by decide +kernel
theorem dX8_level_12 : decode cX8_level 12 = .ok (.aload_n 0, 1) := by decide +kernel
theorem dX8_level_13 : decode cX8_level 13 = .ok (.getfield 20, 3) := by decide +kernel
theorem dX8_level_16 : decode cX8_level 16 = .ok (.getfield 130, 3) := by decide +kernel
theorem dX8_level_19 : decode cX8_level 19 = .ok (.iload_n 1, 1) := by decide +kernel
theorem dX8_level_20 : decode cX8_level 20 = .ok (.laload, 1) := by decide +kernel
theorem dX8_level_21 : decode cX8_level 21 = .ok (.lstore_n 2, 1) := by decide +kernel
theorem dX8_level_22 : decode cX8_level 22 = .ok (.aload_n 0, 1) := by decide +kernel
theorem dX8_level_23 : decode cX8_level 23 = .ok (.lload_n 2, 1) := by decide +kernel
theorem dX8_level_24 : decode cX8_level 24 = .ok (.lload_n 2, 1) := by decide +kernel
theorem dX8_level_25 : decode cX8_level 25 = .ok (.aload_n 0, 1) := by decide +kernel
theorem dX8_level_26 : decode cX8_level 26 = .ok (.getfield 13, 3) := by decide +kernel
theorem dX8_level_29 : decode cX8_level 29 = .ok (.invokestatic 131, 3) := by decide +kernel
theorem dX8_level_32 : decode cX8_level 32 = .ok (.i2l, 1) := by decide +kernel
theorem dX8_level_33 : decode cX8_level 33 = .ok (.invokevirtual 135, 3) := by decide +kernel
theorem dX8_level_36 : decode cX8_level 36 = .ok (.aload_n 0, 1) := by decide +kernel
theorem dX8_level_37 : decode cX8_level 37 = .ok (.getfield 13, 3) := by decide +kernel
theorem dX8_level_40 : decode cX8_level 40 = .ok (.lload_n 2, 1) := by decide +kernel
theorem dX8_level_41 : decode cX8_level 41 = .ok (.invokestatic 138, 3) := by decide +kernel
theorem dX8_level_44 : decode cX8_level 44 = .ok (.isub, 1) := by decide +kernel
theorem dX8_level_45 : decode cX8_level 45 = .ok (.ireturn, 1) := by decide +kernel
theorem dX8_spot_0 : decode cX8_spot 0 = .ok (.iload_n 2, 1) := by decide +kernel
theorem dX8_spot_1 : decode cX8_spot 1 = .ok (.ifCond .lt 9, 3) := by decide +kernel
theorem dX8_spot_4 : decode cX8_spot 4 = .ok (.iload_n 2, 1) := by decide +kernel
theorem dX8_spot_5 : decode cX8_spot 5 = .ok (.bipush 8, 2) := by decide +kernel
theorem dX8_spot_7 : decode cX8_spot 7 = .ok (.if_icmp .le 5, 3) := by decide +kernel
theorem dX8_spot_10 : decode cX8_spot 10 = .ok (.iconst (-1), 1) := by decide +kernel
theorem dX8_spot_11 : decode cX8_spot 11 = .ok (.ireturn, 1) := by decide +kernel
theorem dX8_spot_12 : decode cX8_spot 12 = .ok (.aload_n 0, 1) := by decide +kernel
theorem dX8_spot_13 : decode cX8_spot 13 = .ok (.iload_n 1, 1) := by decide +kernel
theorem dX8_spot_14 : decode cX8_spot 14 = .ok (.invokevirtual 111, 3) := by decide +kernel
theorem dX8_spot_17 : decode cX8_spot 17 = .ok (.ifCond .ne 6, 3) := by decide +kernel
theorem dX8_spot_20 : decode cX8_spot 20 = .ok (.bipush (-2), 2) := by decide +kernel
theorem dX8_spot_22 : decode cX8_spot 22 = .ok (.ireturn, 1) := by decide +kernel
theorem dX8_spot_23 : decode cX8_spot 23 = .ok (.aload_n 0, 1) := by decide +kernel
theorem dX8_spot_24 : decode cX8_spot 24 = .ok (.aload_n 0, 1) := by decide +kernel
theorem dX8_spot_25 : decode cX8_spot 25 = .ok (.getfield 9, 3) := by decide +kernel
theorem dX8_spot_28 : decode cX8_spot 28 = .ok (.iload_n 1, 1) := by decide +kernel
theorem dX8_spot_29 : decode cX8_spot 29 = .ok (.iaload, 1) := by decide +kernel
theorem dX8_spot_30 : decode cX8_spot 30 = .ok (.bipush 8, 2) := by decide +kernel
theorem dX8_spot_32 : decode cX8_spot 32 = .ok (.iload_n 2, 1) := by decide +kernel
theorem dX8_spot_33 : decode cX8_spot 33 = .ok (.isub, 1) := by decide +kernel
theorem dX8_spot_34 : decode cX8_spot 34 = .ok (.ishr, 1) := by decide +kernel
theorem dX8_spot_35 : decode cX8_spot 35 = .ok (.i2l, 1) := by decide +kernel
theorem dX8_spot_36 : decode cX8_spot 36 = .ok (.invokevirtual 114, 3) := by decide +kernel
theorem dX8_spot_39 : decode cX8_spot 39 = .ok (.aload_n 0, 1) := by decide +kernel
theorem dX8_spot_40 : decode cX8_spot 40 = .ok (.getfield 20, 3) := by decide +kernel
theorem dX8_spot_43 : decode cX8_spot 43 = .ok (.getfield 130, 3) := by decide +kernel
theorem dX8_spot_46 : decode cX8_spot 46 = .ok (.aload_n 0, 1) := by decide +kernel
theorem dX8_spot_47 : decode cX8_spot 47 = .ok (.getfield 13, 3) := by decide +kernel
theorem dX8_spot_50 : decode cX8_spot 50 = .ok (.iload_n 1, 1) := by decide +kernel
theorem dX8_spot_51 : decode cX8_spot 51 = .ok (.iload_n 2, 1) := by decide +kernel
theorem dX8_spot_52 : decode cX8_spot 52 = .ok (.invokestatic 144, 3) := by decide +kernel
theorem dX8_spot_55 : decode cX8_spot 55 = .ok (.ireturn, 1) := by decide +kernel
theorem dX8_from_0 : decode cX8_from 0 = .ok (.iload_n 1, 1) := by decide +kernel
theorem dX8_from_1 : decode cX8_from 1 = .ok (.ifCond .lt 9, 3) := by decide +kernel
theorem dX8_from_4 : decode cX8_from 4 = .ok (.iload_n 1, 1) := by decide +kernel
theorem dX8_from_5 : decode cX8_from 5 = .ok (.bipush 8, 2) := by decide +kernel
theorem dX8_from_7 : decode cX8_from 7 = .ok (.if_icmp .le 5, 3) := by decide +kernel
theorem dX8_from_10 : decode cX8_from 10 = .ok (.iconst (-1), 1) := by decide +kernel
theorem dX8_from_11 : decode cX8_from 11 = .ok (.ireturn, 1) := by decide +kernel
theorem dX8_from_12 : decode cX8_from 12 = .ok (.aload_n 0, 1) := by decide +kernel
theorem dX8_from_13 : decode cX8_from 13 = .ok (.iload_n 2, 1) := by decide +kernel
theorem dX8_from_14 : decode cX8_from 14 = .ok (.invokevirtual 111, 3) := by decide +kernel
theorem dX8_from_17 : decode cX8_from 17 = .ok (.ifCond .ne 6, 3) := by decide +kernel
theorem dX8_from_20 : decode cX8_from 20 = .ok (.bipush (-2), 2) := by decide +kernel
theorem dX8_from_22 : decode cX8_from 22 = .ok (.ireturn, 1) := by decide +kernel
theorem dX8_from_23 : decode cX8_from 23 = .ok (.aload_n 0, 1) := by decide +kernel
theorem dX8_from_24 : decode cX8_from 24 = .ok (.getfield 20, 3) := by decide +kernel
theorem dX8_from_27 : decode cX8_from 27 = .ok (.iload_n 1, 1) := by decide +kernel
theorem dX8_from_28 : decode cX8_from 28 = .ok (.iload_n 2, 1) := by decide +kernel
theorem dX8_from_29 : decode cX8_from 29 = .ok (.invokevirtual 148, 3) := by decide +kernel
theorem dX8_from_32 : decode cX8_from 32 = .ok (.istore_n 3, 1) := by decide +kernel
theorem dX8_from_33 : decode cX8_from 33 = .ok (.aload_n 0, 1) := by decide +kernel
theorem dX8_from_34 : decode cX8_from 34 = .ok (.aload_n 0, 1) := by decide +kernel
theorem dX8_from_35 : decode cX8_from 35 = .ok (.getfield 9, 3) := by decide +kernel
theorem dX8_from_38 : decode cX8_from 38 = .ok (.iload_n 3, 1) := by decide +kernel
theorem dX8_from_39 : decode cX8_from 39 = .ok (.iaload, 1) := by decide +kernel
theorem dX8_from_40 : decode cX8_from 40 = .ok (.i2l, 1) := by decide +kernel
theorem dX8_from_41 : decode cX8_from 41 = .ok (.invokevirtual 114, 3) := by decide +kernel
theorem dX8_from_44 : decode cX8_from 44 = .ok (.iload_n 3, 1) := by decide +kernel
theorem dX8_from_45 : decode cX8_from 45 = .ok (.ireturn, 1) := by decide +kernel
theorem dX8_runs_0 : decode cX8_runs 0 = .ok (.iconst 0, 1) := by decide +kernel
theorem dX8_runs_1 : decode cX8_runs 1 = .ok (.istore_n 1, 1) := by decide +kernel
theorem dX8_runs_2 : decode cX8_runs 2 = .ok (.aload_n 0, 1) := by decide +kernel
theorem dX8_runs_3 : decode cX8_runs 3 = .ok (.getfield 34, 3) := by decide +kernel
theorem dX8_runs_6 : decode cX8_runs 6 = .ok (.invokevirtual 152, 3) := by decide +kernel
theorem dX8_runs_9 : decode cX8_runs 9 = .ok (.iconst 0, 1) := by decide +kernel
theorem dX8_runs_10 : decode cX8_runs 10 = .ok (.istore_n 2, 1) := by decide +kernel
theorem dX8_runs_11 : decode cX8_runs 11 = .ok (.iload_n 2, 1) := by decide +kernel
theorem dX8_runs_12 : decode cX8_runs 12 = .ok (.bipush 8, 2) := by decide +kernel
theorem dX8_runs_14 : decode cX8_runs 14 = .ok (.if_icmp .ge 39, 3) := by decide +kernel
theorem dX8_runs_17 : decode cX8_runs 17 = .ok (.aload_n 0, 1) := by decide +kernel
theorem dX8_runs_18 : decode cX8_runs 18 = .ok (.getfield 20, 3) := by decide +kernel
theorem dX8_runs_21 : decode cX8_runs 21 = .ok (.getfield 130, 3) := by decide +kernel
theorem dX8_runs_24 : decode cX8_runs 24 = .ok (.iload_n 2, 1) := by decide +kernel
theorem dX8_runs_25 : decode cX8_runs 25 = .ok (.laload, 1) := by decide +kernel
theorem dX8_runs_26 : decode cX8_runs 26 = .ok (.aload_n 0, 1) := by decide +kernel
theorem dX8_runs_27 : decode cX8_runs 27 = .ok (.getfield 13, 3) := by decide +kernel
theorem dX8_runs_30 : decode cX8_runs 30 = .ok (.invokestatic 131, 3) := by decide +kernel
theorem dX8_runs_33 : decode cX8_runs 33 = .ok (.istore_n 3, 1) := by decide +kernel
theorem dX8_runs_34 : decode cX8_runs 34 = .ok (.aload_n 0, 1) := by decide +kernel
theorem dX8_runs_35 : decode cX8_runs 35 = .ok (.getfield 34, 3) := by decide +kernel
theorem dX8_runs_38 : decode cX8_runs 38 = .ok (.iload_n 3, 1) := by decide +kernel
theorem dX8_runs_39 : decode cX8_runs 39 = .ok (.i2l, 1) := by decide +kernel
theorem dX8_runs_40 : decode cX8_runs 40 = .ok (.invokevirtual 155, 3) := by decide +kernel
theorem dX8_runs_43 : decode cX8_runs 43 = .ok (.iload_n 1, 1) := by decide +kernel
theorem dX8_runs_44 : decode cX8_runs 44 = .ok (.iload_n 3, 1) := by decide +kernel
theorem dX8_runs_45 : decode cX8_runs 45 = .ok (.iadd, 1) := by decide +kernel
theorem dX8_runs_46 : decode cX8_runs 46 = .ok (.istore_n 1, 1) := by decide +kernel
theorem dX8_runs_47 : decode cX8_runs 47 = .ok (.iinc 2 1, 3) := by decide +kernel
theorem dX8_runs_50 : decode cX8_runs 50 = .ok (.goto (-39), 3) := by decide +kernel
theorem dX8_runs_53 : decode cX8_runs 53 = .ok (.iload_n 1, 1) := by decide +kernel
theorem dX8_runs_54 : decode cX8_runs 54 = .ok (.ireturn, 1) := by decide +kernel
theorem dX8_thrift_0 : decode cX8_thrift 0 = .ok (.aload_n 0, 1) := by decide +kernel
theorem dX8_thrift_1 : decode cX8_thrift 1 = .ok (.getfield 65, 3) := by decide +kernel
theorem dX8_thrift_4 : decode cX8_thrift 4 = .ok (.aload_n 0, 1) := by decide +kernel
theorem dX8_thrift_5 : decode cX8_thrift 5 = .ok (.getfield 9, 3) := by decide +kernel
theorem dX8_thrift_8 : decode cX8_thrift 8 = .ok (.aload_n 0, 1) := by decide +kernel
theorem dX8_thrift_9 : decode cX8_thrift 9 = .ok (.getfield 13, 3) := by decide +kernel
theorem dX8_thrift_12 : decode cX8_thrift 12 = .ok (.invokevirtual 157, 3) := by decide +kernel
theorem dX8_thrift_15 : decode cX8_thrift 15 = .ok (.istore_n 1, 1) := by decide +kernel
theorem dX8_thrift_16 : decode cX8_thrift 16 = .ok (.aload_n 0, 1) := by decide +kernel
theorem dX8_thrift_17 : decode cX8_thrift 17 = .ok (.getfield 34, 3) := by decide +kernel
theorem dX8_thrift_20 : decode cX8_thrift 20 = .ok (.invokevirtual 152, 3) := by decide +kernel
theorem dX8_thrift_23 : decode cX8_thrift 23 = .ok (.iconst 0, 1) := by decide +kernel
theorem dX8_thrift_24 : decode cX8_thrift 24 = .ok (.istore_n 2, 1) := by decide +kernel
theorem dX8_thrift_25 : decode cX8_thrift 25 = .ok (.iload_n 2, 1) := by decide +kernel
theorem dX8_thrift_26 : decode cX8_thrift 26 = .ok (.bipush 8, 2) := by decide +kernel
theorem dX8_thrift_28 : decode cX8_thrift 28 = .ok (.if_icmp .ge 26, 3) := by decide +kernel
theorem dX8_thrift_31 : decode cX8_thrift 31 = .ok (.aload_n 0, 1) := by decide +kernel
theorem dX8_thrift_32 : decode cX8_thrift 32 = .ok (.getfield 34, 3) := by decide +kernel
theorem dX8_thrift_35 : decode cX8_thrift 35 = .ok (.aload_n 0, 1) := by decide +kernel
theorem dX8_thrift_36 : decode cX8_thrift 36 = .ok (.getfield 65, 3) := by decide +kernel
theorem dX8_thrift_39 : decode cX8_thrift 39 = .ok (.getfield 161, 3) := by decide +kernel
theorem dX8_thrift_42 : decode cX8_thrift 42 = .ok (.iload_n 2, 1) := by decide +kernel
theorem dX8_thrift_43 : decode cX8_thrift 43 = .ok (.iaload, 1) := by decide +kernel
theorem dX8_thrift_44 : decode cX8_thrift 44 = .ok (.i2l, 1) := by decide +kernel
theorem dX8_thrift_45 : decode cX8_thrift 45 = .ok (.invokevirtual 155, 3) := by decide +kernel
theorem dX8_thrift_48 : decode cX8_thrift 48 = .ok (.iinc 2 1, 3) := by decide +kernel
theorem dX8_thrift_51 : decode cX8_thrift 51 = .ok (.goto (-26), 3) := by decide +kernel
theorem dX8_thrift_54 : decode cX8_thrift 54 = .ok (.iload_n 1, 1) := by decide +kernel
theorem dX8_thrift_55 : decode cX8_thrift 55 = .ok (.ireturn, 1) := by decide +kernel
theorem dX8_kth_0 : decode cX8_kth 0 = .ok (.aload_n 0, 1) := by decide +kernel
theorem dX8_kth_1 : decode cX8_kth 1 = .ok (.iload_n 1, 1) := by decide +kernel
theorem dX8_kth_2 : decode cX8_kth 2 = .ok (.iload_n 2, 1) := by decide +kernel
theorem dX8_kth_3 : decode cX8_kth 3 = .ok (.invokevirtual 122, 3) := by decide +kernel
theorem dX8_kth_6 : decode cX8_kth 6 = .ok (.ifCond .eq 7, 3) := by decide +kernel
theorem dX8_kth_9 : decode cX8_kth 9 = .ok (.iload_n 3, 1) := by decide +kernel
theorem dX8_kth_10 : decode cX8_kth 10 = .ok (.ifCond .ge 5, 3) := by decide +kernel
theorem dX8_kth_13 : decode cX8_kth 13 = .ok (.iconst (-1), 1) := by decide +kernel
theorem dX8_kth_14 : decode cX8_kth 14 = .ok (.ireturn, 1) := by decide +kernel
theorem dX8_kth_15 : decode cX8_kth 15 = .ok (.iload_n 3, 1) := by decide +kernel
theorem dX8_kth_16 : decode cX8_kth 16 = .ok (.iload_n 2, 1) := by decide +kernel
theorem dX8_kth_17 : decode cX8_kth 17 = .ok (.iload_n 1, 1) := by decide +kernel
theorem dX8_kth_18 : decode cX8_kth 18 = .ok (.isub, 1) := by decide +kernel
theorem dX8_kth_19 : decode cX8_kth 19 = .ok (.if_icmp .lt 6, 3) := by decide +kernel
theorem dX8_kth_22 : decode cX8_kth 22 = .ok (.bipush (-2), 2) := by decide +kernel
theorem dX8_kth_24 : decode cX8_kth 24 = .ok (.ireturn, 1) := by decide +kernel
theorem dX8_kth_25 : decode cX8_kth 25 = .ok (.aload_n 0, 1) := by decide +kernel
theorem dX8_kth_26 : decode cX8_kth 26 = .ok (.getfield 41, 3) := by decide +kernel
theorem dX8_kth_29 : decode cX8_kth 29 = .ok (.aload_n 0, 1) := by decide +kernel
theorem dX8_kth_30 : decode cX8_kth 30 = .ok (.getfield 9, 3) := by decide +kernel
theorem dX8_kth_33 : decode cX8_kth 33 = .ok (.iload_n 1, 1) := by decide +kernel
theorem dX8_kth_34 : decode cX8_kth 34 = .ok (.iload_n 2, 1) := by decide +kernel
theorem dX8_kth_35 : decode cX8_kth 35 = .ok (.invokevirtual 164, 3) := by decide +kernel
theorem dX8_kth_38 : decode cX8_kth 38 = .ok (.aload_n 0, 1) := by decide +kernel
theorem dX8_kth_39 : decode cX8_kth 39 = .ok (.getfield 41, 3) := by decide +kernel
theorem dX8_kth_42 : decode cX8_kth 42 = .ok (.iload_n 3, 1) := by decide +kernel
theorem dX8_kth_43 : decode cX8_kth 43 = .ok (.invokevirtual 168, 3) := by decide +kernel
theorem dX8_kth_46 : decode cX8_kth 46 = .ok (.istore 4, 2) := by decide +kernel
theorem dX8_kth_48 : decode cX8_kth 48 = .ok (.aload_n 0, 1) := by decide +kernel
theorem dX8_kth_49 : decode cX8_kth 49 = .ok (.aload_n 0, 1) := by decide +kernel
theorem dX8_kth_50 : decode cX8_kth 50 = .ok (.getfield 41, 3) := by decide +kernel
theorem dX8_kth_53 : decode cX8_kth 53 = .ok (.iload 4, 2) := by decide +kernel
theorem dX8_kth_55 : decode cX8_kth 55 = .ok (.invokevirtual 172, 3) := by decide +kernel
theorem dX8_kth_58 : decode cX8_kth 58 = .ok (.i2l, 1) := by decide +kernel
theorem dX8_kth_59 : decode cX8_kth 59 = .ok (.aload_n 0, 1) := by decide +kernel
theorem dX8_kth_60 : decode cX8_kth 60 = .ok (.iload 4, 2) := by decide +kernel
theorem dX8_kth_62 : decode cX8_kth 62 = .ok (.iload_n 1, 1) := by decide +kernel
theorem dX8_kth_63 : decode cX8_kth 63 = .ok (.invokevirtual 175, 3) := by decide +kernel
theorem dX8_kth_66 : decode cX8_kth 66 = .ok (.i2l, 1) := by decide +kernel
theorem dX8_kth_67 : decode cX8_kth 67 = .ok (.invokevirtual 135, 3) := by decide +kernel
theorem dX8_kth_70 : decode cX8_kth 70 = .ok (.iload 4, 2) := by decide +kernel
theorem dX8_kth_72 : decode cX8_kth 72 = .ok (.ireturn, 1) := by decide +kernel
theorem dX8_rank_0 : decode cX8_rank 0 = .ok (.iload_n 1, 1) := by decide +kernel
theorem dX8_rank_1 : decode cX8_rank 1 = .ok (.invokestatic 108, 3) := by decide +kernel
theorem dX8_rank_4 : decode cX8_rank 4 = .ok (.ifCond .eq 15, 3) := by decide +kernel
theorem dX8_rank_7 : decode cX8_rank 7 = .ok (.iload_n 2, 1) := by decide +kernel
theorem dX8_rank_8 : decode cX8_rank 8 = .ok (.ifCond .lt 11, 3) := by decide +kernel
theorem dX8_rank_11 : decode cX8_rank 11 = .ok (.iload_n 2, 1) := by decide +kernel
theorem dX8_rank_12 : decode cX8_rank 12 = .ok (.aload_n 0, 1) := by decide +kernel
theorem dX8_rank_13 : decode cX8_rank 13 = .ok (.getfield 13, 3) := by decide +kernel
theorem dX8_rank_16 : decode cX8_rank 16 = .ok (.if_icmp .le 5, 3) := by decide +kernel
theorem dX8_rank_19 : decode cX8_rank 19 = .ok (.iconst (-1), 1) := by decide +kernel
theorem dX8_rank_20 : decode cX8_rank 20 = .ok (.ireturn, 1) := by decide +kernel
theorem dX8_rank_21 : decode cX8_rank 21 = .ok (.aload_n 0, 1) := by decide +kernel
theorem dX8_rank_22 : decode cX8_rank 22 = .ok (.iload_n 1, 1) := by decide +kernel
theorem dX8_rank_23 : decode cX8_rank 23 = .ok (.iconst 0, 1) := by decide +kernel
theorem dX8_rank_24 : decode cX8_rank 24 = .ok (.iload_n 2, 1) := by decide +kernel
theorem dX8_rank_25 : decode cX8_rank 25 = .ok (.invokevirtual 178, 3) := by decide +kernel
theorem dX8_rank_28 : decode cX8_rank 28 = .ok (.ireturn, 1) := by decide +kernel
theorem dX8_select_0 : decode cX8_select 0 = .ok (.iload_n 1, 1) := by decide +kernel
theorem dX8_select_1 : decode cX8_select 1 = .ok (.invokestatic 108, 3) := by decide +kernel
theorem dX8_select_4 : decode cX8_select 4 = .ok (.ifCond .eq 7, 3) := by decide +kernel
theorem dX8_select_7 : decode cX8_select 7 = .ok (.iload_n 2, 1) := by decide +kernel
theorem dX8_select_8 : decode cX8_select 8 = .ok (.ifCond .ge 5, 3) := by decide +kernel
theorem dX8_select_11 : decode cX8_select 11 = .ok (.iconst (-1), 1) := by decide +kernel
theorem dX8_select_12 : decode cX8_select 12 = .ok (.ireturn, 1) := by decide +kernel
theorem dX8_select_13 : decode cX8_select 13 = .ok (.iconst 0, 1) := by decide +kernel
theorem dX8_select_14 : decode cX8_select 14 = .ok (.istore_n 3, 1) := by decide +kernel
theorem dX8_select_15 : decode cX8_select 15 = .ok (.iconst 0, 1) := by decide +kernel
theorem dX8_select_16 : decode cX8_select 16 = .ok (.istore 4, 2) := by decide +kernel
theorem dX8_select_18 : decode cX8_select 18 = .ok (.iload 4, 2) := by decide +kernel
theorem dX8_select_20 : decode cX8_select 20 = .ok (.aload_n 0, 1) := by decide +kernel
theorem dX8_select_21 : decode cX8_select 21 = .ok (.getfield 13, 3) := by decide +kernel
theorem dX8_select_24 : decode cX8_select 24 = .ok (.if_icmp .ge 31, 3) := by decide +kernel
theorem dX8_select_27 : decode cX8_select 27 = .ok (.aload_n 0, 1) := by decide +kernel
theorem dX8_select_28 : decode cX8_select 28 = .ok (.getfield 9, 3) := by decide +kernel
theorem dX8_select_31 : decode cX8_select 31 = .ok (.iload 4, 2) := by decide +kernel
theorem dX8_select_33 : decode cX8_select 33 = .ok (.iaload, 1) := by decide +kernel
theorem dX8_select_34 : decode cX8_select 34 = .ok (.iload_n 1, 1) := by decide +kernel
theorem dX8_select_35 : decode cX8_select 35 = .ok (.if_icmp .ne 14, 3) := by decide +kernel
theorem dX8_select_38 : decode cX8_select 38 = .ok (.iload_n 3, 1) := by decide +kernel
theorem dX8_select_39 : decode cX8_select 39 = .ok (.iload_n 2, 1) := by decide +kernel
theorem dX8_select_40 : decode cX8_select 40 = .ok (.if_icmp .ne 6, 3) := by decide +kernel
theorem dX8_select_43 : decode cX8_select 43 = .ok (.iload 4, 2) := by decide +kernel
theorem dX8_select_45 : decode cX8_select 45 = .ok (.ireturn, 1) := by decide +kernel
theorem dX8_select_46 : decode cX8_select 46 = .ok (.iinc 3 1, 3) := by decide +kernel
theorem dX8_select_49 : decode cX8_select 49 = .ok (.iinc 4 1, 3) := by decide +kernel
theorem dX8_select_52 : decode cX8_select 52 = .ok (.goto (-34), 3) := by decide +kernel
theorem dX8_select_55 : decode cX8_select 55 = .ok (.bipush (-2), 2) := by decide +kernel
theorem dX8_select_57 : decode cX8_select 57 = .ok (.ireturn, 1) := by decide +kernel
theorem dX8_band_0 : decode cX8_band 0 = .ok (.aload_n 0, 1) := by decide +kernel
theorem dX8_band_1 : decode cX8_band 1 = .ok (.iload_n 1, 1) := by decide +kernel
theorem dX8_band_2 : decode cX8_band 2 = .ok (.iload_n 2, 1) := by decide +kernel
theorem dX8_band_3 : decode cX8_band 3 = .ok (.invokevirtual 122, 3) := by decide +kernel
theorem dX8_band_6 : decode cX8_band 6 = .ok (.ifCond .eq 24, 3) := by decide +kernel
theorem dX8_band_9 : decode cX8_band 9 = .ok (.iload_n 3, 1) := by decide +kernel
theorem dX8_band_10 : decode cX8_band 10 = .ok (.invokestatic 108, 3) := by decide +kernel
theorem dX8_band_13 : decode cX8_band 13 = .ok (.ifCond .eq 17, 3) := by decide +kernel
theorem dX8_band_16 : decode cX8_band 16 = .ok (.iload 4, 2) := by decide +kernel
theorem dX8_band_18 : decode cX8_band 18 = .ok (.invokestatic 108, 3) := by decide +kernel
theorem dX8_band_21 : decode cX8_band 21 = .ok (.ifCond .eq 9, 3) := by decide +kernel
theorem dX8_band_24 : decode cX8_band 24 = .ok (.iload_n 3, 1) := by decide +kernel
theorem dX8_band_25 : decode cX8_band 25 = .ok (.iload 4, 2) := by decide +kernel
theorem dX8_band_27 : decode cX8_band 27 = .ok (.if_icmp .le 5, 3) := by decide +kernel
theorem dX8_band_30 : decode cX8_band 30 = .ok (.iconst (-1), 1) := by decide +kernel
theorem dX8_band_31 : decode cX8_band 31 = .ok (.ireturn, 1) := by decide +kernel
theorem dX8_band_32 : decode cX8_band 32 = .ok (.aload_n 0, 1) := by decide +kernel
theorem dX8_band_33 : decode cX8_band 33 = .ok (.getfield 41, 3) := by decide +kernel
theorem dX8_band_36 : decode cX8_band 36 = .ok (.aload_n 0, 1) := by decide +kernel
theorem dX8_band_37 : decode cX8_band 37 = .ok (.getfield 9, 3) := by decide +kernel
theorem dX8_band_40 : decode cX8_band 40 = .ok (.iload_n 1, 1) := by decide +kernel
theorem dX8_band_41 : decode cX8_band 41 = .ok (.iload_n 2, 1) := by decide +kernel
theorem dX8_band_42 : decode cX8_band 42 = .ok (.invokevirtual 164, 3) := by decide +kernel
theorem dX8_band_45 : decode cX8_band 45 = .ok (.iconst 0, 1) := by decide +kernel
theorem dX8_band_46 : decode cX8_band 46 = .ok (.istore 5, 2) := by decide +kernel
theorem dX8_band_48 : decode cX8_band 48 = .ok (.iload_n 3, 1) := by decide +kernel
theorem dX8_band_49 : decode cX8_band 49 = .ok (.istore 6, 2) := by decide +kernel
theorem dX8_band_51 : decode cX8_band 51 = .ok (.iload 6, 2) := by decide +kernel
theorem dX8_band_53 : decode cX8_band 53 = .ok (.iload 4, 2) := by decide +kernel
theorem dX8_band_55 : decode cX8_band 55 = .ok (.if_icmp .gt 23, 3) := by decide +kernel
theorem dX8_band_58 : decode cX8_band 58 = .ok (.iload 5, 2) := by decide +kernel
theorem dX8_band_60 : decode cX8_band 60 = .ok (.aload_n 0, 1) := by decide +kernel
theorem dX8_band_61 : decode cX8_band 61 = .ok (.getfield 41, 3) := by decide +kernel
theorem dX8_band_64 : decode cX8_band 64 = .ok (.iload 6, 2) := by decide +kernel
theorem dX8_band_66 : decode cX8_band 66 = .ok (.invokevirtual 172, 3) := by decide +kernel
theorem dX8_band_69 : decode cX8_band 69 = .ok (.iadd, 1) := by decide +kernel
theorem dX8_band_70 : decode cX8_band 70 = .ok (.istore 5, 2) := by decide +kernel
theorem dX8_band_72 : decode cX8_band 72 = .ok (.iinc 6 1, 3) := by decide +kernel
theorem dX8_band_75 : decode cX8_band 75 = .ok (.goto (-24), 3) := by decide +kernel
theorem dX8_band_78 : decode cX8_band 78 = .ok (.aload_n 0, 1) := by decide +kernel
theorem dX8_band_79 : decode cX8_band 79 = .ok (.aload_n 0, 1) := by decide +kernel
theorem dX8_band_80 : decode cX8_band 80 = .ok (.getfield 41, 3) := by decide +kernel
theorem dX8_band_83 : decode cX8_band 83 = .ok (.iload_n 3, 1) := by decide +kernel
theorem dX8_band_84 : decode cX8_band 84 = .ok (.iload 4, 2) := by decide +kernel
theorem dX8_band_86 : decode cX8_band 86 = .ok (.invokevirtual 182, 3) := by decide +kernel
theorem dX8_band_89 : decode cX8_band 89 = .ok (.i2l, 1) := by decide +kernel
theorem dX8_band_90 : decode cX8_band 90 = .ok (.invokevirtual 114, 3) := by decide +kernel
theorem dX8_band_93 : decode cX8_band 93 = .ok (.iload 5, 2) := by decide +kernel
theorem dX8_band_95 : decode cX8_band 95 = .ok (.ireturn, 1) := by decide +kernel
theorem dX8_below_0 : decode cX8_below 0 = .ok (.aload_n 0, 1) := by decide +kernel
theorem dX8_below_1 : decode cX8_below 1 = .ok (.iload_n 1, 1) := by decide +kernel
theorem dX8_below_2 : decode cX8_below 2 = .ok (.iload_n 2, 1) := by decide +kernel
theorem dX8_below_3 : decode cX8_below 3 = .ok (.invokevirtual 122, 3) := by decide +kernel
theorem dX8_below_6 : decode cX8_below 6 = .ok (.ifCond .eq 15, 3) := by decide +kernel
theorem dX8_below_9 : decode cX8_below 9 = .ok (.iload_n 3, 1) := by decide +kernel
theorem dX8_below_10 : decode cX8_below 10 = .ok (.iconst 1, 1) := by decide +kernel
theorem dX8_below_11 : decode cX8_below 11 = .ok (.if_icmp .lt 10, 3) := by decide +kernel
theorem dX8_below_14 : decode cX8_below 14 = .ok (.iload_n 3, 1) := by decide +kernel
theorem dX8_below_15 : decode cX8_below 15 = .ok (.sipush 256, 3) := by decide +kernel
theorem dX8_below_18 : decode cX8_below 18 = .ok (.if_icmp .le 5, 3) := by decide +kernel
theorem dX8_below_21 : decode cX8_below 21 = .ok (.iconst (-1), 1) := by decide +kernel
theorem dX8_below_22 : decode cX8_below 22 = .ok (.ireturn, 1) := by decide +kernel
theorem dX8_below_23 : decode cX8_below 23 = .ok (.aload_n 0, 1) := by decide +kernel
theorem dX8_below_24 : decode cX8_below 24 = .ok (.getfield 41, 3) := by decide +kernel
theorem dX8_below_27 : decode cX8_below 27 = .ok (.aload_n 0, 1) := by decide +kernel
theorem dX8_below_28 : decode cX8_below 28 = .ok (.getfield 9, 3) := by decide +kernel
theorem dX8_below_31 : decode cX8_below 31 = .ok (.iload_n 1, 1) := by decide +kernel
theorem dX8_below_32 : decode cX8_below 32 = .ok (.iload_n 2, 1) := by decide +kernel
theorem dX8_below_33 : decode cX8_below 33 = .ok (.invokevirtual 164, 3) := by decide +kernel
theorem dX8_below_36 : decode cX8_below 36 = .ok (.iload_n 3, 1) := by decide +kernel
theorem dX8_below_37 : decode cX8_below 37 = .ok (.iconst 1, 1) := by decide +kernel
theorem dX8_below_38 : decode cX8_below 38 = .ok (.isub, 1) := by decide +kernel
theorem dX8_below_39 : decode cX8_below 39 = .ok (.istore 4, 2) := by decide +kernel
theorem dX8_below_41 : decode cX8_below 41 = .ok (.iload 4, 2) := by decide +kernel
theorem dX8_below_43 : decode cX8_below 43 = .ok (.ifCond .lt 38, 3) := by decide +kernel
theorem dX8_below_46 : decode cX8_below 46 = .ok (.aload_n 0, 1) := by decide +kernel
theorem dX8_below_47 : decode cX8_below 47 = .ok (.getfield 41, 3) := by decide +kernel
theorem dX8_below_50 : decode cX8_below 50 = .ok (.iload 4, 2) := by decide +kernel
theorem dX8_below_52 : decode cX8_below 52 = .ok (.invokevirtual 172, 3) := by decide +kernel
theorem dX8_below_55 : decode cX8_below 55 = .ok (.ifCond .le 20, 3) := by decide +kernel
theorem dX8_below_58 : decode cX8_below 58 = .ok (.aload_n 0, 1) := by decide +kernel
theorem dX8_below_59 : decode cX8_below 59 = .ok (.aload_n 0, 1) := by decide +kernel
theorem dX8_below_60 : decode cX8_below 60 = .ok (.getfield 41, 3) := by decide +kernel
theorem dX8_below_63 : decode cX8_below 63 = .ok (.iload 4, 2) := by decide +kernel
theorem dX8_below_65 : decode cX8_below 65 = .ok (.invokevirtual 172, 3) := by decide +kernel
theorem dX8_below_68 : decode cX8_below 68 = .ok (.i2l, 1) := by decide +kernel
theorem dX8_below_69 : decode cX8_below 69 = .ok (.invokevirtual 114, 3) := by decide +kernel
theorem dX8_below_72 : decode cX8_below 72 = .ok (.iload 4, 2) := by decide +kernel
theorem dX8_below_74 : decode cX8_below 74 = .ok (.ireturn, 1) := by decide +kernel
theorem dX8_below_75 : decode cX8_below 75 = .ok (.iinc 4 (-1), 3) := by decide +kernel
theorem dX8_below_78 : decode cX8_below 78 = .ok (.goto (-37), 3) := by decide +kernel
theorem dX8_below_81 : decode cX8_below 81 = .ok (.bipush (-2), 2) := by decide +kernel
theorem dX8_below_83 : decode cX8_below 83 = .ok (.ireturn, 1) := by decide +kernel
theorem dX8_above_0 : decode cX8_above 0 = .ok (.aload_n 0, 1) := by decide +kernel
theorem dX8_above_1 : decode cX8_above 1 = .ok (.iload_n 1, 1) := by decide +kernel
theorem dX8_above_2 : decode cX8_above 2 = .ok (.iload_n 2, 1) := by decide +kernel
theorem dX8_above_3 : decode cX8_above 3 = .ok (.invokevirtual 122, 3) := by decide +kernel
theorem dX8_above_6 : decode cX8_above 6 = .ok (.ifCond .eq 15, 3) := by decide +kernel
theorem dX8_above_9 : decode cX8_above 9 = .ok (.iload_n 3, 1) := by decide +kernel
theorem dX8_above_10 : decode cX8_above 10 = .ok (.iconst (-1), 1) := by decide +kernel
theorem dX8_above_11 : decode cX8_above 11 = .ok (.if_icmp .lt 10, 3) := by decide +kernel
theorem dX8_above_14 : decode cX8_above 14 = .ok (.iload_n 3, 1) := by decide +kernel
theorem dX8_above_15 : decode cX8_above 15 = .ok (.sipush 254, 3) := by decide +kernel
theorem dX8_above_18 : decode cX8_above 18 = .ok (.if_icmp .le 5, 3) := by decide +kernel
theorem dX8_above_21 : decode cX8_above 21 = .ok (.iconst (-1), 1) := by decide +kernel
theorem dX8_above_22 : decode cX8_above 22 = .ok (.ireturn, 1) := by decide +kernel
theorem dX8_above_23 : decode cX8_above 23 = .ok (.aload_n 0, 1) := by decide +kernel
theorem dX8_above_24 : decode cX8_above 24 = .ok (.getfield 41, 3) := by decide +kernel
theorem dX8_above_27 : decode cX8_above 27 = .ok (.aload_n 0, 1) := by decide +kernel
theorem dX8_above_28 : decode cX8_above 28 = .ok (.getfield 9, 3) := by decide +kernel
theorem dX8_above_31 : decode cX8_above 31 = .ok (.iload_n 1, 1) := by decide +kernel
theorem dX8_above_32 : decode cX8_above 32 = .ok (.iload_n 2, 1) := by decide +kernel
theorem dX8_above_33 : decode cX8_above 33 = .ok (.invokevirtual 164, 3) := by decide +kernel
theorem dX8_above_36 : decode cX8_above 36 = .ok (.iload_n 3, 1) := by decide +kernel
theorem dX8_above_37 : decode cX8_above 37 = .ok (.iconst 1, 1) := by decide +kernel
theorem dX8_above_38 : decode cX8_above 38 = .ok (.iadd, 1) := by decide +kernel
theorem dX8_above_39 : decode cX8_above 39 = .ok (.istore 4, 2) := by decide +kernel
theorem dX8_above_41 : decode cX8_above 41 = .ok (.iload 4, 2) := by decide +kernel
theorem dX8_above_43 : decode cX8_above 43 = .ok (.sipush 255, 3) := by decide +kernel
theorem dX8_above_46 : decode cX8_above 46 = .ok (.if_icmp .gt 38, 3) := by decide +kernel
theorem dX8_above_49 : decode cX8_above 49 = .ok (.aload_n 0, 1) := by decide +kernel
theorem dX8_above_50 : decode cX8_above 50 = .ok (.getfield 41, 3) := by decide +kernel
theorem dX8_above_53 : decode cX8_above 53 = .ok (.iload 4, 2) := by decide +kernel
theorem dX8_above_55 : decode cX8_above 55 = .ok (.invokevirtual 172, 3) := by decide +kernel
theorem dX8_above_58 : decode cX8_above 58 = .ok (.ifCond .le 20, 3) := by decide +kernel
theorem dX8_above_61 : decode cX8_above 61 = .ok (.aload_n 0, 1) := by decide +kernel
theorem dX8_above_62 : decode cX8_above 62 = .ok (.aload_n 0, 1) := by decide +kernel
theorem dX8_above_63 : decode cX8_above 63 = .ok (.getfield 41, 3) := by decide +kernel
theorem dX8_above_66 : decode cX8_above 66 = .ok (.iload 4, 2) := by decide +kernel
theorem dX8_above_68 : decode cX8_above 68 = .ok (.invokevirtual 172, 3) := by decide +kernel
theorem dX8_above_71 : decode cX8_above 71 = .ok (.i2l, 1) := by decide +kernel
theorem dX8_above_72 : decode cX8_above 72 = .ok (.invokevirtual 114, 3) := by decide +kernel
theorem dX8_above_75 : decode cX8_above 75 = .ok (.iload 4, 2) := by decide +kernel
theorem dX8_above_77 : decode cX8_above 77 = .ok (.ireturn, 1) := by decide +kernel
theorem dX8_above_78 : decode cX8_above 78 = .ok (.iinc 4 1, 3) := by decide +kernel
theorem dX8_above_81 : decode cX8_above 81 = .ok (.goto (-40), 3) := by decide +kernel
theorem dX8_above_84 : decode cX8_above 84 = .ok (.bipush (-2), 2) := by decide +kernel
theorem dX8_above_86 : decode cX8_above 86 = .ok (.ireturn, 1) := by decide +kernel
theorem dX8_sums_0 : decode cX8_sums 0 = .ok (.aload_n 0, 1) := by decide +kernel
theorem dX8_sums_1 : decode cX8_sums 1 = .ok (.iload_n 1, 1) := by decide +kernel
theorem dX8_sums_2 : decode cX8_sums 2 = .ok (.iload_n 2, 1) := by decide +kernel
theorem dX8_sums_3 : decode cX8_sums 3 = .ok (.invokevirtual 122, 3) := by decide +kernel
theorem dX8_sums_6 : decode cX8_sums 6 = .ok (.ifCond .eq 7, 3) := by decide +kernel
theorem dX8_sums_9 : decode cX8_sums 9 = .ok (.iload_n 3, 1) := by decide +kernel
theorem dX8_sums_10 : decode cX8_sums 10 = .ok (.ifCond .ge 5, 3) := by decide +kernel
theorem dX8_sums_13 : decode cX8_sums 13 = .ok (.iconst (-1), 1) := by decide +kernel
theorem dX8_sums_14 : decode cX8_sums 14 = .ok (.ireturn, 1) := by decide +kernel
theorem dX8_sums_15 : decode cX8_sums 15 = .ok (.iload_n 3, 1) := by decide +kernel
theorem dX8_sums_16 : decode cX8_sums 16 = .ok (.iload_n 2, 1) := by decide +kernel
theorem dX8_sums_17 : decode cX8_sums 17 = .ok (.iload_n 1, 1) := by decide +kernel
theorem dX8_sums_18 : decode cX8_sums 18 = .ok (.isub, 1) := by decide +kernel
theorem dX8_sums_19 : decode cX8_sums 19 = .ok (.if_icmp .le 6, 3) := by decide +kernel
theorem dX8_sums_22 : decode cX8_sums 22 = .ok (.bipush (-2), 2) := by decide +kernel
theorem dX8_sums_24 : decode cX8_sums 24 = .ok (.ireturn, 1) := by decide +kernel
theorem dX8_sums_25 : decode cX8_sums 25 = .ok (.aload_n 0, 1) := by decide +kernel
theorem dX8_sums_26 : decode cX8_sums 26 = .ok (.getfield 41, 3) := by decide +kernel
theorem dX8_sums_29 : decode cX8_sums 29 = .ok (.aload_n 0, 1) := by decide +kernel
theorem dX8_sums_30 : decode cX8_sums 30 = .ok (.getfield 9, 3) := by decide +kernel
theorem dX8_sums_33 : decode cX8_sums 33 = .ok (.iload_n 1, 1) := by decide +kernel
theorem dX8_sums_34 : decode cX8_sums 34 = .ok (.iload_n 2, 1) := by decide +kernel
theorem dX8_sums_35 : decode cX8_sums 35 = .ok (.invokevirtual 164, 3) := by decide +kernel
theorem dX8_sums_38 : decode cX8_sums 38 = .ok (.iconst 0, 1) := by decide +kernel
theorem dX8_sums_39 : decode cX8_sums 39 = .ok (.istore 4, 2) := by decide +kernel
theorem dX8_sums_41 : decode cX8_sums 41 = .ok (.iconst 0, 1) := by decide +kernel
theorem dX8_sums_42 : decode cX8_sums 42 = .ok (.istore 5, 2) := by decide +kernel
theorem dX8_sums_44 : decode cX8_sums 44 = .ok (.iconst 0, 1) := by decide +kernel
theorem dX8_sums_45 : decode cX8_sums 45 = .ok (.istore 6, 2) := by decide +kernel
theorem dX8_sums_47 : decode cX8_sums 47 = .ok (.iload 6, 2) := by decide +kernel
theorem dX8_sums_49 : decode cX8_sums 49 = .ok (.iload_n 3, 1) := by decide +kernel
theorem dX8_sums_50 : decode cX8_sums 50 = .ok (.if_icmp .ge 43, 3) := by decide +kernel
theorem dX8_sums_53 : decode cX8_sums 53 = .ok (.iload 4, 2) := by decide +kernel
theorem dX8_sums_55 : decode cX8_sums 55 = .ok (.aload_n 0, 1) := by decide +kernel
theorem dX8_sums_56 : decode cX8_sums 56 = .ok (.getfield 41, 3) := by decide +kernel
theorem dX8_sums_59 : decode cX8_sums 59 = .ok (.iload 6, 2) := by decide +kernel
theorem dX8_sums_61 : decode cX8_sums 61 = .ok (.invokevirtual 168, 3) := by decide +kernel
theorem dX8_sums_64 : decode cX8_sums 64 = .ok (.iadd, 1) := by decide +kernel
theorem dX8_sums_65 : decode cX8_sums 65 = .ok (.istore 4, 2) := by decide +kernel
theorem dX8_sums_67 : decode cX8_sums 67 = .ok (.iload 5, 2) := by decide +kernel
theorem dX8_sums_69 : decode cX8_sums 69 = .ok (.aload_n 0, 1) := by decide +kernel
theorem dX8_sums_70 : decode cX8_sums 70 = .ok (.getfield 41, 3) := by decide +kernel
theorem dX8_sums_73 : decode cX8_sums 73 = .ok (.iload_n 2, 1) := by decide +kernel
theorem dX8_sums_74 : decode cX8_sums 74 = .ok (.iload_n 1, 1) := by decide +kernel
theorem dX8_sums_75 : decode cX8_sums 75 = .ok (.isub, 1) := by decide +kernel
theorem dX8_sums_76 : decode cX8_sums 76 = .ok (.iconst 1, 1) := by decide +kernel
theorem dX8_sums_77 : decode cX8_sums 77 = .ok (.isub, 1) := by decide +kernel
theorem dX8_sums_78 : decode cX8_sums 78 = .ok (.iload 6, 2) := by decide +kernel
theorem dX8_sums_80 : decode cX8_sums 80 = .ok (.isub, 1) := by decide +kernel
theorem dX8_sums_81 : decode cX8_sums 81 = .ok (.invokevirtual 168, 3) := by decide +kernel
theorem dX8_sums_84 : decode cX8_sums 84 = .ok (.iadd, 1) := by decide +kernel
theorem dX8_sums_85 : decode cX8_sums 85 = .ok (.istore 5, 2) := by decide +kernel
theorem dX8_sums_87 : decode cX8_sums 87 = .ok (.iinc 6 1, 3) := by decide +kernel
theorem dX8_sums_90 : decode cX8_sums 90 = .ok (.goto (-43), 3) := by decide +kernel
theorem dX8_sums_93 : decode cX8_sums 93 = .ok (.aload_n 0, 1) := by decide +kernel
theorem dX8_sums_94 : decode cX8_sums 94 = .ok (.iload 5, 2) := by decide +kernel
theorem dX8_sums_96 : decode cX8_sums 96 = .ok (.i2l, 1) := by decide +kernel
theorem dX8_sums_97 : decode cX8_sums 97 = .ok (.invokevirtual 114, 3) := by decide +kernel
theorem dX8_sums_100 : decode cX8_sums 100 = .ok (.iload 4, 2) := by decide +kernel
theorem dX8_sums_102 : decode cX8_sums 102 = .ok (.ireturn, 1) := by decide +kernel
theorem dX8_often_0 : decode cX8_often 0 = .ok (.aload_n 0, 1) := by decide +kernel
theorem dX8_often_1 : decode cX8_often 1 = .ok (.iload_n 1, 1) := by decide +kernel
theorem dX8_often_2 : decode cX8_often 2 = .ok (.iload_n 2, 1) := by decide +kernel
theorem dX8_often_3 : decode cX8_often 3 = .ok (.invokevirtual 122, 3) := by decide +kernel
theorem dX8_often_6 : decode cX8_often 6 = .ok (.ifCond .eq 10, 3) := by decide +kernel
theorem dX8_often_9 : decode cX8_often 9 = .ok (.iload_n 3, 1) := by decide +kernel
theorem dX8_often_10 : decode cX8_often 10 = .ok (.invokestatic 185, 3) := by decide +kernel
theorem dX8_often_13 : decode cX8_often 13 = .ok (.ifCond .ne 5, 3) := by decide +kernel
theorem dX8_often_16 : decode cX8_often 16 = .ok (.iconst (-1), 1) := by decide +kernel
theorem dX8_often_17 : decode cX8_often 17 = .ok (.ireturn, 1) := by decide +kernel
theorem dX8_often_18 : decode cX8_often 18 = .ok (.aload_n 0, 1) := by decide +kernel
theorem dX8_often_19 : decode cX8_often 19 = .ok (.getfield 41, 3) := by decide +kernel
theorem dX8_often_22 : decode cX8_often 22 = .ok (.aload_n 0, 1) := by decide +kernel
theorem dX8_often_23 : decode cX8_often 23 = .ok (.getfield 9, 3) := by decide +kernel
theorem dX8_often_26 : decode cX8_often 26 = .ok (.iload_n 1, 1) := by decide +kernel
theorem dX8_often_27 : decode cX8_often 27 = .ok (.iload_n 2, 1) := by decide +kernel
theorem dX8_often_28 : decode cX8_often 28 = .ok (.invokevirtual 164, 3) := by decide +kernel
theorem dX8_often_31 : decode cX8_often 31 = .ok (.aload_n 0, 1) := by decide +kernel
theorem dX8_often_32 : decode cX8_often 32 = .ok (.aload_n 0, 1) := by decide +kernel
theorem dX8_often_33 : decode cX8_often 33 = .ok (.getfield 41, 3) := by decide +kernel
theorem dX8_often_36 : decode cX8_often 36 = .ok (.iload_n 3, 1) := by decide +kernel
theorem dX8_often_37 : decode cX8_often 37 = .ok (.invokevirtual 188, 3) := by decide +kernel
theorem dX8_often_40 : decode cX8_often 40 = .ok (.i2l, 1) := by decide +kernel
theorem dX8_often_41 : decode cX8_often 41 = .ok (.invokevirtual 114, 3) := by decide +kernel
theorem dX8_often_44 : decode cX8_often 44 = .ok (.iconst 0, 1) := by decide +kernel
theorem dX8_often_45 : decode cX8_often 45 = .ok (.istore 4, 2) := by decide +kernel
theorem dX8_often_47 : decode cX8_often 47 = .ok (.iconst 0, 1) := by decide +kernel
theorem dX8_often_48 : decode cX8_often 48 = .ok (.istore 5, 2) := by decide +kernel
theorem dX8_often_50 : decode cX8_often 50 = .ok (.iload 5, 2) := by decide +kernel
theorem dX8_often_52 : decode cX8_often 52 = .ok (.sipush 255, 3) := by decide +kernel
theorem dX8_often_55 : decode cX8_often 55 = .ok (.if_icmp .gt 59, 3) := by decide +kernel
theorem dX8_often_58 : decode cX8_often 58 = .ok (.aload_n 0, 1) := by decide +kernel
theorem dX8_often_59 : decode cX8_often 59 = .ok (.getfield 41, 3) := by decide +kernel
theorem dX8_often_62 : decode cX8_often 62 = .ok (.iload 5, 2) := by decide +kernel
theorem dX8_often_64 : decode cX8_often 64 = .ok (.invokevirtual 172, 3) := by decide +kernel
theorem dX8_often_67 : decode cX8_often 67 = .ok (.iload_n 3, 1) := by decide +kernel
theorem dX8_often_68 : decode cX8_often 68 = .ok (.if_icmp .lt 40, 3) := by decide +kernel
theorem dX8_often_71 : decode cX8_often 71 = .ok (.iload 4, 2) := by decide +kernel
theorem dX8_often_73 : decode cX8_often 73 = .ok (.bipush 16, 2) := by decide +kernel
theorem dX8_often_75 : decode cX8_often 75 = .ok (.if_icmp .ge 30, 3) := by decide +kernel
theorem dX8_often_78 : decode cX8_often 78 = .ok (.aload_n 0, 1) := by decide +kernel
theorem dX8_often_79 : decode cX8_often 79 = .ok (.getfield 34, 3) := by decide +kernel
theorem dX8_often_82 : decode cX8_often 82 = .ok (.iload 5, 2) := by decide +kernel
theorem dX8_often_84 : decode cX8_often 84 = .ok (.i2l, 1) := by decide +kernel
theorem dX8_often_85 : decode cX8_often 85 = .ok (.invokevirtual 155, 3) := by decide +kernel
theorem dX8_often_88 : decode cX8_often 88 = .ok (.aload_n 0, 1) := by decide +kernel
theorem dX8_often_89 : decode cX8_often 89 = .ok (.getfield 34, 3) := by decide +kernel
theorem dX8_often_92 : decode cX8_often 92 = .ok (.aload_n 0, 1) := by decide +kernel
theorem dX8_often_93 : decode cX8_often 93 = .ok (.getfield 41, 3) := by decide +kernel
theorem dX8_often_96 : decode cX8_often 96 = .ok (.iload 5, 2) := by decide +kernel
theorem dX8_often_98 : decode cX8_often 98 = .ok (.invokevirtual 172, 3) := by decide +kernel
theorem dX8_often_101 : decode cX8_often 101 = .ok (.i2l, 1) := by decide +kernel
theorem dX8_often_102 : decode cX8_often 102 = .ok (.invokevirtual 155, 3) := by decide +kernel
theorem dX8_often_105 : decode cX8_often 105 = .ok (.iinc 4 1, 3) := by decide +kernel
theorem dX8_often_108 : decode cX8_often 108 = .ok (.iinc 5 1, 3) := by decide +kernel
theorem dX8_often_111 : decode cX8_often 111 = .ok (.goto (-61), 3) := by decide +kernel
theorem dX8_often_114 : decode cX8_often 114 = .ok (.iload 4, 2) := by decide +kernel
theorem dX8_often_116 : decode cX8_often 116 = .ok (.ireturn, 1) := by decide +kernel
theorem dX8_mode_0 : decode cX8_mode 0 = .ok (.aload_n 0, 1) := by decide +kernel
theorem dX8_mode_1 : decode cX8_mode 1 = .ok (.iload_n 1, 1) := by decide +kernel
theorem dX8_mode_2 : decode cX8_mode 2 = .ok (.iload_n 2, 1) := by decide +kernel
theorem dX8_mode_3 : decode cX8_mode 3 = .ok (.invokevirtual 122, 3) := by decide +kernel
theorem dX8_mode_6 : decode cX8_mode 6 = .ok (.ifCond .ne 5, 3) := by decide +kernel
theorem dX8_mode_9 : decode cX8_mode 9 = .ok (.iconst (-1), 1) := by decide +kernel
theorem dX8_mode_10 : decode cX8_mode 10 = .ok (.ireturn, 1) := by decide +kernel
theorem dX8_mode_11 : decode cX8_mode 11 = .ok (.iload_n 1, 1) := by decide +kernel
theorem dX8_mode_12 : decode cX8_mode 12 = .ok (.iload_n 2, 1) := by decide +kernel
theorem dX8_mode_13 : decode cX8_mode 13 = .ok (.if_icmp .ne 6, 3) := by decide +kernel
theorem dX8_mode_16 : decode cX8_mode 16 = .ok (.bipush (-2), 2) := by decide +kernel
theorem dX8_mode_18 : decode cX8_mode 18 = .ok (.ireturn, 1) := by decide +kernel
theorem dX8_mode_19 : decode cX8_mode 19 = .ok (.aload_n 0, 1) := by decide +kernel
theorem dX8_mode_20 : decode cX8_mode 20 = .ok (.getfield 41, 3) := by decide +kernel
theorem dX8_mode_23 : decode cX8_mode 23 = .ok (.aload_n 0, 1) := by decide +kernel
theorem dX8_mode_24 : decode cX8_mode 24 = .ok (.getfield 9, 3) := by decide +kernel
theorem dX8_mode_27 : decode cX8_mode 27 = .ok (.iload_n 1, 1) := by decide +kernel
theorem dX8_mode_28 : decode cX8_mode 28 = .ok (.iload_n 2, 1) := by decide +kernel
theorem dX8_mode_29 : decode cX8_mode 29 = .ok (.invokevirtual 164, 3) := by decide +kernel
theorem dX8_mode_32 : decode cX8_mode 32 = .ok (.iconst 0, 1) := by decide +kernel
theorem dX8_mode_33 : decode cX8_mode 33 = .ok (.istore_n 3, 1) := by decide +kernel
theorem dX8_mode_34 : decode cX8_mode 34 = .ok (.iconst 1, 1) := by decide +kernel
theorem dX8_mode_35 : decode cX8_mode 35 = .ok (.istore 4, 2) := by decide +kernel
theorem dX8_mode_37 : decode cX8_mode 37 = .ok (.iload 4, 2) := by decide +kernel
theorem dX8_mode_39 : decode cX8_mode 39 = .ok (.sipush 255, 3) := by decide +kernel
theorem dX8_mode_42 : decode cX8_mode 42 = .ok (.if_icmp .gt 32, 3) := by decide +kernel
theorem dX8_mode_45 : decode cX8_mode 45 = .ok (.aload_n 0, 1) := by decide +kernel
theorem dX8_mode_46 : decode cX8_mode 46 = .ok (.getfield 41, 3) := by decide +kernel
theorem dX8_mode_49 : decode cX8_mode 49 = .ok (.iload 4, 2) := by decide +kernel
theorem dX8_mode_51 : decode cX8_mode 51 = .ok (.invokevirtual 172, 3) := by decide +kernel
theorem dX8_mode_54 : decode cX8_mode 54 = .ok (.aload_n 0, 1) := by decide +kernel
theorem dX8_mode_55 : decode cX8_mode 55 = .ok (.getfield 41, 3) := by decide +kernel
theorem dX8_mode_58 : decode cX8_mode 58 = .ok (.iload_n 3, 1) := by decide +kernel
theorem dX8_mode_59 : decode cX8_mode 59 = .ok (.invokevirtual 172, 3) := by decide +kernel
theorem dX8_mode_62 : decode cX8_mode 62 = .ok (.if_icmp .le 6, 3) := by decide +kernel
theorem dX8_mode_65 : decode cX8_mode 65 = .ok (.iload 4, 2) := by decide +kernel
theorem dX8_mode_67 : decode cX8_mode 67 = .ok (.istore_n 3, 1) := by decide +kernel
theorem dX8_mode_68 : decode cX8_mode 68 = .ok (.iinc 4 1, 3) := by decide +kernel
theorem dX8_mode_71 : decode cX8_mode 71 = .ok (.goto (-34), 3) := by decide +kernel
theorem dX8_mode_74 : decode cX8_mode 74 = .ok (.aload_n 0, 1) := by decide +kernel
theorem dX8_mode_75 : decode cX8_mode 75 = .ok (.aload_n 0, 1) := by decide +kernel
theorem dX8_mode_76 : decode cX8_mode 76 = .ok (.getfield 41, 3) := by decide +kernel
theorem dX8_mode_79 : decode cX8_mode 79 = .ok (.iload_n 3, 1) := by decide +kernel
theorem dX8_mode_80 : decode cX8_mode 80 = .ok (.invokevirtual 172, 3) := by decide +kernel
theorem dX8_mode_83 : decode cX8_mode 83 = .ok (.i2l, 1) := by decide +kernel
theorem dX8_mode_84 : decode cX8_mode 84 = .ok (.invokevirtual 114, 3) := by decide +kernel
theorem dX8_mode_87 : decode cX8_mode 87 = .ok (.iload_n 3, 1) := by decide +kernel
theorem dX8_mode_88 : decode cX8_mode 88 = .ok (.ireturn, 1) := by decide +kernel
theorem dX8_across_0 : decode cX8_across 0 = .ok (.aload_n 0, 1) := by decide +kernel
theorem dX8_across_1 : decode cX8_across 1 = .ok (.iload_n 1, 1) := by decide +kernel
theorem dX8_across_2 : decode cX8_across 2 = .ok (.iload_n 2, 1) := by decide +kernel
theorem dX8_across_3 : decode cX8_across 3 = .ok (.invokevirtual 122, 3) := by decide +kernel
theorem dX8_across_6 : decode cX8_across 6 = .ok (.ifCond .eq 15, 3) := by decide +kernel
theorem dX8_across_9 : decode cX8_across 9 = .ok (.iload_n 3, 1) := by decide +kernel
theorem dX8_across_10 : decode cX8_across 10 = .ok (.invokestatic 108, 3) := by decide +kernel
theorem dX8_across_13 : decode cX8_across 13 = .ok (.ifCond .eq 8, 3) := by decide +kernel
theorem dX8_across_16 : decode cX8_across 16 = .ok (.iload 4, 2) := by decide +kernel
theorem dX8_across_18 : decode cX8_across 18 = .ok (.ifCond .ge 5, 3) := by decide +kernel
theorem dX8_across_21 : decode cX8_across 21 = .ok (.iconst (-1), 1) := by decide +kernel
theorem dX8_across_22 : decode cX8_across 22 = .ok (.ireturn, 1) := by decide +kernel
theorem dX8_across_23 : decode cX8_across 23 = .ok (.aload_n 0, 1) := by decide +kernel
theorem dX8_across_24 : decode cX8_across 24 = .ok (.getfield 41, 3) := by decide +kernel
theorem dX8_across_27 : decode cX8_across 27 = .ok (.aload_n 0, 1) := by decide +kernel
theorem dX8_across_28 : decode cX8_across 28 = .ok (.getfield 9, 3) := by decide +kernel
theorem dX8_across_31 : decode cX8_across 31 = .ok (.iload_n 1, 1) := by decide +kernel
theorem dX8_across_32 : decode cX8_across 32 = .ok (.iload_n 2, 1) := by decide +kernel
theorem dX8_across_33 : decode cX8_across 33 = .ok (.invokevirtual 164, 3) := by decide +kernel
theorem dX8_across_36 : decode cX8_across 36 = .ok (.iconst 0, 1) := by decide +kernel
theorem dX8_across_37 : decode cX8_across 37 = .ok (.istore 5, 2) := by decide +kernel
theorem dX8_across_39 : decode cX8_across 39 = .ok (.iconst 0, 1) := by decide +kernel
theorem dX8_across_40 : decode cX8_across 40 = .ok (.istore 6, 2) := by decide +kernel
theorem dX8_across_42 : decode cX8_across 42 = .ok (.iload 6, 2) := by decide +kernel
theorem dX8_across_44 : decode cX8_across 44 = .ok (.sipush 255, 3) := by decide +kernel
theorem dX8_across_47 : decode cX8_across 47 = .ok (.if_icmp .gt 44, 3) := by decide +kernel
theorem dX8_across_50 : decode cX8_across 50 = .ok (.iload 5, 2) := by decide +kernel
theorem dX8_across_52 : decode cX8_across 52 = .ok (.aload_n 0, 1) := by decide +kernel
theorem dX8_across_53 : decode cX8_across 53 = .ok (.getfield 41, 3) := by decide +kernel
theorem dX8_across_56 : decode cX8_across 56 = .ok (.iload 6, 2) := by decide +kernel
theorem dX8_across_58 : decode cX8_across 58 = .ok (.iload_n 3, 1) := by decide +kernel
theorem dX8_across_59 : decode cX8_across 59 = .ok (.ixor, 1) := by decide +kernel
theorem dX8_across_60 : decode cX8_across 60 = .ok (.invokevirtual 172, 3) := by decide +kernel
theorem dX8_across_63 : decode cX8_across 63 = .ok (.iadd, 1) := by decide +kernel
theorem dX8_across_64 : decode cX8_across 64 = .ok (.istore 5, 2) := by decide +kernel
theorem dX8_across_66 : decode cX8_across 66 = .ok (.iload 4, 2) := by decide +kernel
theorem dX8_across_68 : decode cX8_across 68 = .ok (.iload 5, 2) := by decide +kernel
theorem dX8_across_70 : decode cX8_across 70 = .ok (.if_icmp .ge 15, 3) := by decide +kernel
theorem dX8_across_73 : decode cX8_across 73 = .ok (.aload_n 0, 1) := by decide +kernel
theorem dX8_across_74 : decode cX8_across 74 = .ok (.iload 6, 2) := by decide +kernel
theorem dX8_across_76 : decode cX8_across 76 = .ok (.iload_n 3, 1) := by decide +kernel
theorem dX8_across_77 : decode cX8_across 77 = .ok (.ixor, 1) := by decide +kernel
theorem dX8_across_78 : decode cX8_across 78 = .ok (.i2l, 1) := by decide +kernel
theorem dX8_across_79 : decode cX8_across 79 = .ok (.invokevirtual 114, 3) := by decide +kernel
theorem dX8_across_82 : decode cX8_across 82 = .ok (.iload 6, 2) := by decide +kernel
theorem dX8_across_84 : decode cX8_across 84 = .ok (.ireturn, 1) := by decide +kernel
theorem dX8_across_85 : decode cX8_across 85 = .ok (.iinc 6 1, 3) := by decide +kernel
theorem dX8_across_88 : decode cX8_across 88 = .ok (.goto (-46), 3) := by decide +kernel
theorem dX8_across_91 : decode cX8_across 91 = .ok (.bipush (-2), 2) := by decide +kernel
theorem dX8_across_93 : decode cX8_across 93 = .ok (.ireturn, 1) := by decide +kernel
theorem dX8_turned_0 : decode cX8_turned 0 = .ok (.aload_n 0, 1) := by decide +kernel
theorem dX8_turned_1 : decode cX8_turned 1 = .ok (.iload_n 1, 1) := by decide +kernel
theorem dX8_turned_2 : decode cX8_turned 2 = .ok (.iload_n 2, 1) := by decide +kernel
theorem dX8_turned_3 : decode cX8_turned 3 = .ok (.invokevirtual 122, 3) := by decide +kernel
theorem dX8_turned_6 : decode cX8_turned 6 = .ok (.ifCond .ne 5, 3) := by decide +kernel
theorem dX8_turned_9 : decode cX8_turned 9 = .ok (.iconst (-1), 1) := by decide +kernel
theorem dX8_turned_10 : decode cX8_turned 10 = .ok (.ireturn, 1) := by decide +kernel
theorem dX8_turned_11 : decode cX8_turned 11 = .ok (.iconst 0, 1) := by decide +kernel
theorem dX8_turned_12 : decode cX8_turned 12 = .ok (.istore_n 3, 1) := by decide +kernel
theorem dX8_turned_13 : decode cX8_turned 13 = .ok (.iconst 0, 1) := by decide +kernel
theorem dX8_turned_14 : decode cX8_turned 14 = .ok (.istore 4, 2) := by decide +kernel
theorem dX8_turned_16 : decode cX8_turned 16 = .ok (.iload_n 1, 1) := by decide +kernel
theorem dX8_turned_17 : decode cX8_turned 17 = .ok (.istore 5, 2) := by decide +kernel
theorem dX8_turned_19 : decode cX8_turned 19 = .ok (.iload 5, 2) := by decide +kernel
theorem dX8_turned_21 : decode cX8_turned 21 = .ok (.iload_n 2, 1) := by decide +kernel
theorem dX8_turned_22 : decode cX8_turned 22 = .ok (.if_icmp .ge 70, 3) := by decide +kernel
theorem dX8_turned_25 : decode cX8_turned 25 = .ok (.iload 5, 2) := by decide +kernel
theorem dX8_turned_27 : decode cX8_turned 27 = .ok (.iconst 1, 1) := by decide +kernel
theorem dX8_turned_28 : decode cX8_turned 28 = .ok (.iadd, 1) := by decide +kernel
theorem dX8_turned_29 : decode cX8_turned 29 = .ok (.istore 6, 2) := by decide +kernel
theorem dX8_turned_31 : decode cX8_turned 31 = .ok (.iload 6, 2) := by decide +kernel
theorem dX8_turned_33 : decode cX8_turned 33 = .ok (.iload_n 2, 1) := by decide +kernel
theorem dX8_turned_34 : decode cX8_turned 34 = .ok (.if_icmp .ge 52, 3) := by decide +kernel
theorem dX8_turned_37 : decode cX8_turned 37 = .ok (.aload_n 0, 1) := by decide +kernel
theorem dX8_turned_38 : decode cX8_turned 38 = .ok (.getfield 9, 3) := by decide +kernel
theorem dX8_turned_41 : decode cX8_turned 41 = .ok (.iload 5, 2) := by decide +kernel
theorem dX8_turned_43 : decode cX8_turned 43 = .ok (.iaload, 1) := by decide +kernel
theorem dX8_turned_44 : decode cX8_turned 44 = .ok (.aload_n 0, 1) := by decide +kernel
theorem dX8_turned_45 : decode cX8_turned 45 = .ok (.getfield 9, 3) := by decide +kernel
theorem dX8_turned_48 : decode cX8_turned 48 = .ok (.iload 6, 2) := by decide +kernel
theorem dX8_turned_50 : decode cX8_turned 50 = .ok (.iaload, 1) := by decide +kernel
theorem dX8_turned_51 : decode cX8_turned 51 = .ok (.if_icmp .le 9, 3) := by decide +kernel
theorem dX8_turned_54 : decode cX8_turned 54 = .ok (.iinc 3 1, 3) := by decide +kernel
theorem dX8_turned_57 : decode cX8_turned 57 = .ok (.goto 23, 3) := by decide +kernel
theorem dX8_turned_60 : decode cX8_turned 60 = .ok (.aload_n 0, 1) := by decide +kernel
theorem dX8_turned_61 : decode cX8_turned 61 = .ok (.getfield 9, 3) := by decide +kernel
theorem dX8_turned_64 : decode cX8_turned 64 = .ok (.iload 5, 2) := by decide +kernel
theorem dX8_turned_66 : decode cX8_turned 66 = .ok (.iaload, 1) := by decide +kernel
theorem dX8_turned_67 : decode cX8_turned 67 = .ok (.aload_n 0, 1) := by decide +kernel
theorem dX8_turned_68 : decode cX8_turned 68 = .ok (.getfield 9, 3) := by decide +kernel
theorem dX8_turned_71 : decode cX8_turned 71 = .ok (.iload 6, 2) := by decide +kernel
theorem dX8_turned_73 : decode cX8_turned 73 = .ok (.iaload, 1) := by decide +kernel
theorem dX8_turned_74 : decode cX8_turned 74 = .ok (.if_icmp .ne 6, 3) := by decide +kernel
theorem dX8_turned_77 : decode cX8_turned 77 = .ok (.iinc 4 1, 3) := by decide +kernel
theorem dX8_turned_80 : decode cX8_turned 80 = .ok (.iinc 6 1, 3) := by decide +kernel
theorem dX8_turned_83 : decode cX8_turned 83 = .ok (.goto (-52), 3) := by decide +kernel
theorem dX8_turned_86 : decode cX8_turned 86 = .ok (.iinc 5 1, 3) := by decide +kernel
theorem dX8_turned_89 : decode cX8_turned 89 = .ok (.goto (-70), 3) := by decide +kernel
theorem dX8_turned_92 : decode cX8_turned 92 = .ok (.aload_n 0, 1) := by decide +kernel
theorem dX8_turned_93 : decode cX8_turned 93 = .ok (.iload 4, 2) := by decide +kernel
theorem dX8_turned_95 : decode cX8_turned 95 = .ok (.i2l, 1) := by decide +kernel
theorem dX8_turned_96 : decode cX8_turned 96 = .ok (.invokevirtual 114, 3) := by decide +kernel
theorem dX8_turned_99 : decode cX8_turned 99 = .ok (.iload_n 3, 1) := by decide +kernel
theorem dX8_turned_100 : decode cX8_turned 100 = .ok (.ireturn, 1) := by decide +kernel
theorem dX8_spread_0 : decode cX8_spread 0 = .ok (.aload_n 0, 1) := by decide +kernel
theorem dX8_spread_1 : decode cX8_spread 1 = .ok (.iload_n 1, 1) := by decide +kernel
theorem dX8_spread_2 : decode cX8_spread 2 = .ok (.iload_n 2, 1) := by decide +kernel
theorem dX8_spread_3 : decode cX8_spread 3 = .ok (.invokevirtual 122, 3) := by decide +kernel
theorem dX8_spread_6 : decode cX8_spread 6 = .ok (.ifCond .eq 13, 3) := by decide +kernel
theorem dX8_spread_9 : decode cX8_spread 9 = .ok (.iload_n 3, 1) := by decide +kernel
theorem dX8_spread_10 : decode cX8_spread 10 = .ok (.iconst 1, 1) := by decide +kernel
theorem dX8_spread_11 : decode cX8_spread 11 = .ok (.if_icmp .lt 8, 3) := by decide +kernel
theorem dX8_spread_14 : decode cX8_spread 14 = .ok (.iload_n 3, 1) := by decide +kernel
theorem dX8_spread_15 : decode cX8_spread 15 = .ok (.iconst 4, 1) := by decide +kernel
theorem dX8_spread_16 : decode cX8_spread 16 = .ok (.if_icmp .le 5, 3) := by decide +kernel
theorem dX8_spread_19 : decode cX8_spread 19 = .ok (.iconst (-1), 1) := by decide +kernel
theorem dX8_spread_20 : decode cX8_spread 20 = .ok (.ireturn, 1) := by decide +kernel
theorem dX8_spread_21 : decode cX8_spread 21 = .ok (.aload_n 0, 1) := by decide +kernel
theorem dX8_spread_22 : decode cX8_spread 22 = .ok (.getfield 41, 3) := by decide +kernel
theorem dX8_spread_25 : decode cX8_spread 25 = .ok (.aload_n 0, 1) := by decide +kernel
theorem dX8_spread_26 : decode cX8_spread 26 = .ok (.getfield 9, 3) := by decide +kernel
theorem dX8_spread_29 : decode cX8_spread 29 = .ok (.iload_n 1, 1) := by decide +kernel
theorem dX8_spread_30 : decode cX8_spread 30 = .ok (.iload_n 2, 1) := by decide +kernel
theorem dX8_spread_31 : decode cX8_spread 31 = .ok (.invokevirtual 164, 3) := by decide +kernel
theorem dX8_spread_34 : decode cX8_spread 34 = .ok (.iconst 0, 1) := by decide +kernel
theorem dX8_spread_35 : decode cX8_spread 35 = .ok (.istore 4, 2) := by decide +kernel
theorem dX8_spread_37 : decode cX8_spread 37 = .ok (.aload_n 0, 1) := by decide +kernel
theorem dX8_spread_38 : decode cX8_spread 38 = .ok (.getfield 34, 3) := by decide +kernel
theorem dX8_spread_41 : decode cX8_spread 41 = .ok (.invokevirtual 152, 3) := by decide +kernel
theorem dX8_spread_44 : decode cX8_spread 44 = .ok (.iconst 0, 1) := by decide +kernel
theorem dX8_spread_45 : decode cX8_spread 45 = .ok (.istore 5, 2) := by decide +kernel
theorem dX8_spread_47 : decode cX8_spread 47 = .ok (.iload 5, 2) := by decide +kernel
theorem dX8_spread_49 : decode cX8_spread 49 = .ok (.iconst 1, 1) := by decide +kernel
theorem dX8_spread_50 : decode cX8_spread 50 = .ok (.iload_n 3, 1) := by decide +kernel
theorem dX8_spread_51 : decode cX8_spread 51 = .ok (.ishl, 1) := by decide +kernel
theorem dX8_spread_52 : decode cX8_spread 52 = .ok (.if_icmp .ge 39, 3) := by decide +kernel
theorem dX8_spread_55 : decode cX8_spread 55 = .ok (.aload_n 0, 1) := by decide +kernel
theorem dX8_spread_56 : decode cX8_spread 56 = .ok (.getfield 41, 3) := by decide +kernel
theorem dX8_spread_59 : decode cX8_spread 59 = .ok (.iload_n 3, 1) := by decide +kernel
theorem dX8_spread_60 : decode cX8_spread 60 = .ok (.iload 5, 2) := by decide +kernel
theorem dX8_spread_62 : decode cX8_spread 62 = .ok (.invokevirtual 191, 3) := by decide +kernel
theorem dX8_spread_65 : decode cX8_spread 65 = .ok (.istore 6, 2) := by decide +kernel
theorem dX8_spread_67 : decode cX8_spread 67 = .ok (.aload_n 0, 1) := by decide +kernel
theorem dX8_spread_68 : decode cX8_spread 68 = .ok (.getfield 34, 3) := by decide +kernel
theorem dX8_spread_71 : decode cX8_spread 71 = .ok (.iload 6, 2) := by decide +kernel
theorem dX8_spread_73 : decode cX8_spread 73 = .ok (.i2l, 1) := by decide +kernel
theorem dX8_spread_74 : decode cX8_spread 74 = .ok (.invokevirtual 155, 3) := by decide +kernel
theorem dX8_spread_77 : decode cX8_spread 77 = .ok (.iload 6, 2) := by decide +kernel
theorem dX8_spread_79 : decode cX8_spread 79 = .ok (.ifCond .le 6, 3) := by decide +kernel
theorem dX8_spread_82 : decode cX8_spread 82 = .ok (.iinc 4 1, 3) := by decide +kernel
theorem dX8_spread_85 : decode cX8_spread 85 = .ok (.iinc 5 1, 3) := by decide +kernel
theorem dX8_spread_88 : decode cX8_spread 88 = .ok (.goto (-41), 3) := by decide +kernel
theorem dX8_spread_91 : decode cX8_spread 91 = .ok (.iload 4, 2) := by decide +kernel
theorem dX8_spread_93 : decode cX8_spread 93 = .ok (.ireturn, 1) := by decide +kernel
theorem dX8_nearest_0 : decode cX8_nearest 0 = .ok (.aload_n 0, 1) := by decide +kernel
theorem dX8_nearest_1 : decode cX8_nearest 1 = .ok (.iload_n 1, 1) := by decide +kernel
theorem dX8_nearest_2 : decode cX8_nearest 2 = .ok (.iload_n 2, 1) := by decide +kernel
theorem dX8_nearest_3 : decode cX8_nearest 3 = .ok (.invokevirtual 122, 3) := by decide +kernel
theorem dX8_nearest_6 : decode cX8_nearest 6 = .ok (.ifCond .ne 5, 3) := by decide +kernel
theorem dX8_nearest_9 : decode cX8_nearest 9 = .ok (.iconst (-1), 1) := by decide +kernel
theorem dX8_nearest_10 : decode cX8_nearest 10 = .ok (.ireturn, 1) := by decide +kernel
theorem dX8_nearest_11 : decode cX8_nearest 11 = .ok (.iload_n 2, 1) := by decide +kernel
theorem dX8_nearest_12 : decode cX8_nearest 12 = .ok (.iload_n 1, 1) := by decide +kernel
theorem dX8_nearest_13 : decode cX8_nearest 13 = .ok (.isub, 1) := by decide +kernel
theorem dX8_nearest_14 : decode cX8_nearest 14 = .ok (.iconst 2, 1) := by decide +kernel
