-- ===== PART A: goes FIRST, ahead of the names: the tables' words, and 'selects' of the private methods out of them =====
/-- a private method of a class that the tables say can be made, by its rows of tables_1 -/
def lw_okq (q : MethodName × Nat) : Prop := (q.1.cls ≠ "java/lang/invoke/MethodHandle" ∧ q.1.cls ≠ "java/lang/invoke/VarHandle") ∧ Cond.instantiable q.1.cls q.2 ∈ tables_1 ∧ Cond.privateMethod q.1 ∈ tables_1 ∧ Cond.instanceMethod q.1 ∈ tables_1
set_option maxRecDepth 100000 in
theorem lw_p0 : lw_okq (⟨"PlaneColumn$PartReader", "readPart", "(LPlaneColumn$Signs;)I"⟩, 3) := ⟨⟨by decide +kernel, by decide +kernel⟩, List.mem_of_getElem? (i := 98) (by first | rfl | decide +kernel), List.mem_of_getElem? (i := 227) (by first | rfl | decide +kernel), List.mem_of_getElem? (i := 228) (by first | rfl | decide +kernel)⟩
set_option maxRecDepth 100000 in
theorem lw_p1 : lw_okq (⟨"PlaneColumn$PartReader", "readDigits", "(LPlaneColumn$Signs;III)I"⟩, 3) := ⟨⟨by decide +kernel, by decide +kernel⟩, List.mem_of_getElem? (i := 98) (by first | rfl | decide +kernel), List.mem_of_getElem? (i := 231) (by first | rfl | decide +kernel), List.mem_of_getElem? (i := 232) (by first | rfl | decide +kernel)⟩
set_option maxRecDepth 100000 in
theorem lw_p2 : lw_okq (⟨"PlaneColumn", "settle", "()I"⟩, 11) := ⟨⟨by decide +kernel, by decide +kernel⟩, List.mem_of_getElem? (i := 21) (by first | rfl | decide +kernel), List.mem_of_getElem? (i := 249) (by first | rfl | decide +kernel), List.mem_of_getElem? (i := 250) (by first | rfl | decide +kernel)⟩
set_option maxRecDepth 100000 in
theorem lw_p3 : lw_okq (⟨"PlaneColumn$Levels", "startOrder", "()V"⟩, 4) := ⟨⟨by decide +kernel, by decide +kernel⟩, List.mem_of_getElem? (i := 29) (by first | rfl | decide +kernel), List.mem_of_getElem? (i := 261) (by first | rfl | decide +kernel), List.mem_of_getElem? (i := 262) (by first | rfl | decide +kernel)⟩
set_option maxRecDepth 100000 in
theorem lw_p4 : lw_okq (⟨"PlaneColumn$Levels", "bitsInOrder", "([II)J"⟩, 4) := ⟨⟨by decide +kernel, by decide +kernel⟩, List.mem_of_getElem? (i := 29) (by first | rfl | decide +kernel), List.mem_of_getElem? (i := 265) (by first | rfl | decide +kernel), List.mem_of_getElem? (i := 266) (by first | rfl | decide +kernel)⟩
set_option maxRecDepth 100000 in
theorem lw_p5 : lw_okq (⟨"PlaneColumn$Levels", "part", "(J)V"⟩, 4) := ⟨⟨by decide +kernel, by decide +kernel⟩, List.mem_of_getElem? (i := 29) (by first | rfl | decide +kernel), List.mem_of_getElem? (i := 275) (by first | rfl | decide +kernel), List.mem_of_getElem? (i := 276) (by first | rfl | decide +kernel)⟩
set_option maxRecDepth 100000 in
theorem lw_p6 : lw_okq (⟨"PlaneColumn$PlaneReader", "readBits", "(LPlaneColumn$Signs;III)I"⟩, 2) := ⟨⟨by decide +kernel, by decide +kernel⟩, List.mem_of_getElem? (i := 116) (by first | rfl | decide +kernel), List.mem_of_getElem? (i := 291) (by first | rfl | decide +kernel), List.mem_of_getElem? (i := 292) (by first | rfl | decide +kernel)⟩
set_option maxRecDepth 100000 in
theorem lw_p7 : lw_okq (⟨"PlaneColumn", "isPlace", "(I)Z"⟩, 11) := ⟨⟨by decide +kernel, by decide +kernel⟩, List.mem_of_getElem? (i := 21) (by first | rfl | decide +kernel), List.mem_of_getElem? (i := 322) (by first | rfl | decide +kernel), List.mem_of_getElem? (i := 323) (by first | rfl | decide +kernel)⟩
set_option maxRecDepth 100000 in
theorem lw_p8 : lw_okq (⟨"PlaneColumn", "tell", "(J)V"⟩, 11) := ⟨⟨by decide +kernel, by decide +kernel⟩, List.mem_of_getElem? (i := 21) (by first | rfl | decide +kernel), List.mem_of_getElem? (i := 326) (by first | rfl | decide +kernel), List.mem_of_getElem? (i := 327) (by first | rfl | decide +kernel)⟩
set_option maxRecDepth 100000 in
theorem lw_p9 : lw_okq (⟨"PlaneColumn", "exchange", "(II)V"⟩, 11) := ⟨⟨by decide +kernel, by decide +kernel⟩, List.mem_of_getElem? (i := 21) (by first | rfl | decide +kernel), List.mem_of_getElem? (i := 346) (by first | rfl | decide +kernel), List.mem_of_getElem? (i := 347) (by first | rfl | decide +kernel)⟩
set_option maxRecDepth 100000 in
theorem lw_p10 : lw_okq (⟨"PlaneColumn", "isSpan", "(II)Z"⟩, 11) := ⟨⟨by decide +kernel, by decide +kernel⟩, List.mem_of_getElem? (i := 21) (by first | rfl | decide +kernel), List.mem_of_getElem? (i := 354) (by first | rfl | decide +kernel), List.mem_of_getElem? (i := 355) (by first | rfl | decide +kernel)⟩
set_option maxRecDepth 100000 in
theorem lw_p11 : lw_okq (⟨"PlaneColumn", "tell", "(JJ)V"⟩, 11) := ⟨⟨by decide +kernel, by decide +kernel⟩, List.mem_of_getElem? (i := 21) (by first | rfl | decide +kernel), List.mem_of_getElem? (i := 377) (by first | rfl | decide +kernel), List.mem_of_getElem? (i := 378) (by first | rfl | decide +kernel)⟩
set_option maxRecDepth 100000 in
theorem lw_p12 : lw_okq (⟨"PlaneColumn$OrderSearch", "takeLine", "([I)I"⟩, 9) := ⟨⟨by decide +kernel, by decide +kernel⟩, List.mem_of_getElem? (i := 131) (by first | rfl | decide +kernel), List.mem_of_getElem? (i := 408) (by first | rfl | decide +kernel), List.mem_of_getElem? (i := 409) (by first | rfl | decide +kernel)⟩
set_option maxRecDepth 100000 in
theorem lw_p13 : lw_okq (⟨"PlaneColumn$OrderSearch", "tryBits", "(III)V"⟩, 9) := ⟨⟨by decide +kernel, by decide +kernel⟩, List.mem_of_getElem? (i := 131) (by first | rfl | decide +kernel), List.mem_of_getElem? (i := 421) (by first | rfl | decide +kernel), List.mem_of_getElem? (i := 422) (by first | rfl | decide +kernel)⟩
set_option maxRecDepth 100000 in
theorem lw_p14 : lw_okq (⟨"PlaneColumn$OrderSearch", "changesOf", "([J)J"⟩, 9) := ⟨⟨by decide +kernel, by decide +kernel⟩, List.mem_of_getElem? (i := 131) (by first | rfl | decide +kernel), List.mem_of_getElem? (i := 425) (by first | rfl | decide +kernel), List.mem_of_getElem? (i := 426) (by first | rfl | decide +kernel)⟩
set_option maxRecDepth 100000 in
theorem lw_p15 : lw_okq (⟨"PlaneColumn$OrderSearch", "takeBit", "(III)V"⟩, 9) := ⟨⟨by decide +kernel, by decide +kernel⟩, List.mem_of_getElem? (i := 131) (by first | rfl | decide +kernel), List.mem_of_getElem? (i := 430) (by first | rfl | decide +kernel), List.mem_of_getElem? (i := 431) (by first | rfl | decide +kernel)⟩
def lw_privs_1 : List (MethodName × Nat) := [(⟨"PlaneColumn$PartReader", "readPart", "(LPlaneColumn$Signs;)I"⟩, 3), (⟨"PlaneColumn$PartReader", "readDigits", "(LPlaneColumn$Signs;III)I"⟩, 3), (⟨"PlaneColumn", "settle", "()I"⟩, 11), (⟨"PlaneColumn$Levels", "startOrder", "()V"⟩, 4), (⟨"PlaneColumn$Levels", "bitsInOrder", "([II)J"⟩, 4), (⟨"PlaneColumn$Levels", "part", "(J)V"⟩, 4), (⟨"PlaneColumn$PlaneReader", "readBits", "(LPlaneColumn$Signs;III)I"⟩, 2), (⟨"PlaneColumn", "isPlace", "(I)Z"⟩, 11), (⟨"PlaneColumn", "tell", "(J)V"⟩, 11), (⟨"PlaneColumn", "exchange", "(II)V"⟩, 11), (⟨"PlaneColumn", "isSpan", "(II)Z"⟩, 11), (⟨"PlaneColumn", "tell", "(JJ)V"⟩, 11), (⟨"PlaneColumn$OrderSearch", "takeLine", "([I)I"⟩, 9), (⟨"PlaneColumn$OrderSearch", "tryBits", "(III)V"⟩, 9), (⟨"PlaneColumn$OrderSearch", "changesOf", "([J)J"⟩, 9), (⟨"PlaneColumn$OrderSearch", "takeBit", "(III)V"⟩, 9)]
theorem lw_r1 : ∀ q ∈ lw_privs_1, lw_okq q := List.forall_mem_cons.mpr ⟨lw_p0, List.forall_mem_cons.mpr ⟨lw_p1, List.forall_mem_cons.mpr ⟨lw_p2, List.forall_mem_cons.mpr ⟨lw_p3, List.forall_mem_cons.mpr ⟨lw_p4, List.forall_mem_cons.mpr ⟨lw_p5, List.forall_mem_cons.mpr ⟨lw_p6, List.forall_mem_cons.mpr ⟨lw_p7, List.forall_mem_cons.mpr ⟨lw_p8, List.forall_mem_cons.mpr ⟨lw_p9, List.forall_mem_cons.mpr ⟨lw_p10, List.forall_mem_cons.mpr ⟨lw_p11, List.forall_mem_cons.mpr ⟨lw_p12, List.forall_mem_cons.mpr ⟨lw_p13, List.forall_mem_cons.mpr ⟨lw_p14, List.forall_mem_cons.mpr ⟨lw_p15, fun _ h => absurd h List.not_mem_nil⟩⟩⟩⟩⟩⟩⟩⟩⟩⟩⟩⟩⟩⟩⟩⟩
set_option maxRecDepth 100000 in
theorem lw_p16 : lw_okq (⟨"PlaneColumn$OrderSearch", "part", "([J[JI)V"⟩, 9) := ⟨⟨by decide +kernel, by decide +kernel⟩, List.mem_of_getElem? (i := 131) (by first | rfl | decide +kernel), List.mem_of_getElem? (i := 435) (by first | rfl | decide +kernel), List.mem_of_getElem? (i := 436) (by first | rfl | decide +kernel)⟩
set_option maxRecDepth 100000 in
theorem lw_p17 : lw_okq (⟨"PlaneColumn$OrderSearch", "fillOrder", "(I)V"⟩, 9) := ⟨⟨by decide +kernel, by decide +kernel⟩, List.mem_of_getElem? (i := 131) (by first | rfl | decide +kernel), List.mem_of_getElem? (i := 439) (by first | rfl | decide +kernel), List.mem_of_getElem? (i := 440) (by first | rfl | decide +kernel)⟩
set_option maxRecDepth 100000 in
theorem lw_p18 : lw_okq (⟨"PlaneColumn$Tally", "sort", "()V"⟩, 3) := ⟨⟨by decide +kernel, by decide +kernel⟩, List.mem_of_getElem? (i := 81) (by first | rfl | decide +kernel), List.mem_of_getElem? (i := 454) (by first | rfl | decide +kernel), List.mem_of_getElem? (i := 455) (by first | rfl | decide +kernel)⟩
set_option maxRecDepth 100000 in
theorem lw_p19 : lw_okq (⟨"PlaneColumn", "nextPlaceOf", "(II)I"⟩, 11) := ⟨⟨by decide +kernel, by decide +kernel⟩, List.mem_of_getElem? (i := 21) (by first | rfl | decide +kernel), List.mem_of_getElem? (i := 471) (by first | rfl | decide +kernel), List.mem_of_getElem? (i := 472) (by first | rfl | decide +kernel)⟩
set_option maxRecDepth 100000 in
theorem lw_p20 : lw_okq (⟨"PlaneColumn", "timesIn", "(III)I"⟩, 11) := ⟨⟨by decide +kernel, by decide +kernel⟩, List.mem_of_getElem? (i := 21) (by first | rfl | decide +kernel), List.mem_of_getElem? (i := 479) (by first | rfl | decide +kernel), List.mem_of_getElem? (i := 480) (by first | rfl | decide +kernel)⟩
set_option maxRecDepth 100000 in
theorem lw_p21 : lw_okq (⟨"PlaneColumn", "apart", "(I)I"⟩, 11) := ⟨⟨by decide +kernel, by decide +kernel⟩, List.mem_of_getElem? (i := 21) (by first | rfl | decide +kernel), List.mem_of_getElem? (i := 542) (by first | rfl | decide +kernel), List.mem_of_getElem? (i := 543) (by first | rfl | decide +kernel)⟩
set_option maxRecDepth 100000 in
theorem lw_p22 : lw_okq (⟨"PlaneColumn", "reachFrom", "(II)I"⟩, 11) := ⟨⟨by decide +kernel, by decide +kernel⟩, List.mem_of_getElem? (i := 21) (by first | rfl | decide +kernel), List.mem_of_getElem? (i := 550) (by first | rfl | decide +kernel), List.mem_of_getElem? (i := 551) (by first | rfl | decide +kernel)⟩
set_option maxRecDepth 100000 in
theorem lw_p23 : lw_okq (⟨"PlaneColumn", "step", "(I)I"⟩, 11) := ⟨⟨by decide +kernel, by decide +kernel⟩, List.mem_of_getElem? (i := 21) (by first | rfl | decide +kernel), List.mem_of_getElem? (i := 566) (by first | rfl | decide +kernel), List.mem_of_getElem? (i := 567) (by first | rfl | decide +kernel)⟩
set_option maxRecDepth 100000 in
theorem lw_p24 : lw_okq (⟨"PlaneColumn", "lengthWith", "(III)I"⟩, 11) := ⟨⟨by decide +kernel, by decide +kernel⟩, List.mem_of_getElem? (i := 21) (by first | rfl | decide +kernel), List.mem_of_getElem? (i := 574) (by first | rfl | decide +kernel), List.mem_of_getElem? (i := 575) (by first | rfl | decide +kernel)⟩
set_option maxRecDepth 100000 in
theorem lw_p25 : lw_okq (⟨"PlaneColumn$Climbs", "goOn", "(II)V"⟩, 3) := ⟨⟨by decide +kernel, by decide +kernel⟩, List.mem_of_getElem? (i := 168) (by first | rfl | decide +kernel), List.mem_of_getElem? (i := 590) (by first | rfl | decide +kernel), List.mem_of_getElem? (i := 591) (by first | rfl | decide +kernel)⟩
set_option maxRecDepth 100000 in
theorem lw_p26 : lw_okq (⟨"PlaneColumn", "takeBoth", "(IIII)Z"⟩, 11) := ⟨⟨by decide +kernel, by decide +kernel⟩, List.mem_of_getElem? (i := 21) (by first | rfl | decide +kernel), List.mem_of_getElem? (i := 617) (by first | rfl | decide +kernel), List.mem_of_getElem? (i := 618) (by first | rfl | decide +kernel)⟩
set_option maxRecDepth 100000 in
theorem lw_p27 : lw_okq (⟨"PlaneColumn", "unlikeNumbers", "()I"⟩, 11) := ⟨⟨by decide +kernel, by decide +kernel⟩, List.mem_of_getElem? (i := 21) (by first | rfl | decide +kernel), List.mem_of_getElem? (i := 642) (by first | rfl | decide +kernel), List.mem_of_getElem? (i := 643) (by first | rfl | decide +kernel)⟩
set_option maxRecDepth 100000 in
theorem lw_p28 : lw_okq (⟨"PlaneColumn", "sumOfAll", "()I"⟩, 11) := ⟨⟨by decide +kernel, by decide +kernel⟩, List.mem_of_getElem? (i := 21) (by first | rfl | decide +kernel), List.mem_of_getElem? (i := 646) (by first | rfl | decide +kernel), List.mem_of_getElem? (i := 647) (by first | rfl | decide +kernel)⟩
set_option maxRecDepth 100000 in
theorem lw_p29 : lw_okq (⟨"PlaneColumn", "onesOfAll", "()I"⟩, 11) := ⟨⟨by decide +kernel, by decide +kernel⟩, List.mem_of_getElem? (i := 21) (by first | rfl | decide +kernel), List.mem_of_getElem? (i := 650) (by first | rfl | decide +kernel), List.mem_of_getElem? (i := 651) (by first | rfl | decide +kernel)⟩
set_option maxRecDepth 100000 in
theorem lw_p30 : lw_okq (⟨"java/lang/Throwable", "fillInStackTrace", "(I)Ljava/lang/Throwable;"⟩, 6) := ⟨⟨by decide +kernel, by decide +kernel⟩, List.mem_of_getElem? (i := 699) (by first | rfl | decide +kernel), List.mem_of_getElem? (i := 697) (by first | rfl | decide +kernel), List.mem_of_getElem? (i := 698) (by first | rfl | decide +kernel)⟩
set_option maxRecDepth 100000 in
theorem lw_p31 : lw_okq (⟨"PlaneColumnModel", "reads", "()V"⟩, 24) := ⟨⟨by decide +kernel, by decide +kernel⟩, List.mem_of_getElem? (i := 740) (by first | rfl | decide +kernel), List.mem_of_getElem? (i := 823) (by first | rfl | decide +kernel), List.mem_of_getElem? (i := 824) (by first | rfl | decide +kernel)⟩
def lw_privs_2 : List (MethodName × Nat) := [(⟨"PlaneColumn$OrderSearch", "part", "([J[JI)V"⟩, 9), (⟨"PlaneColumn$OrderSearch", "fillOrder", "(I)V"⟩, 9), (⟨"PlaneColumn$Tally", "sort", "()V"⟩, 3), (⟨"PlaneColumn", "nextPlaceOf", "(II)I"⟩, 11), (⟨"PlaneColumn", "timesIn", "(III)I"⟩, 11), (⟨"PlaneColumn", "apart", "(I)I"⟩, 11), (⟨"PlaneColumn", "reachFrom", "(II)I"⟩, 11), (⟨"PlaneColumn", "step", "(I)I"⟩, 11), (⟨"PlaneColumn", "lengthWith", "(III)I"⟩, 11), (⟨"PlaneColumn$Climbs", "goOn", "(II)V"⟩, 3), (⟨"PlaneColumn", "takeBoth", "(IIII)Z"⟩, 11), (⟨"PlaneColumn", "unlikeNumbers", "()I"⟩, 11), (⟨"PlaneColumn", "sumOfAll", "()I"⟩, 11), (⟨"PlaneColumn", "onesOfAll", "()I"⟩, 11), (⟨"java/lang/Throwable", "fillInStackTrace", "(I)Ljava/lang/Throwable;"⟩, 6), (⟨"PlaneColumnModel", "reads", "()V"⟩, 24)]
theorem lw_r2 : ∀ q ∈ lw_privs_2, lw_okq q := List.forall_mem_cons.mpr ⟨lw_p16, List.forall_mem_cons.mpr ⟨lw_p17, List.forall_mem_cons.mpr ⟨lw_p18, List.forall_mem_cons.mpr ⟨lw_p19, List.forall_mem_cons.mpr ⟨lw_p20, List.forall_mem_cons.mpr ⟨lw_p21, List.forall_mem_cons.mpr ⟨lw_p22, List.forall_mem_cons.mpr ⟨lw_p23, List.forall_mem_cons.mpr ⟨lw_p24, List.forall_mem_cons.mpr ⟨lw_p25, List.forall_mem_cons.mpr ⟨lw_p26, List.forall_mem_cons.mpr ⟨lw_p27, List.forall_mem_cons.mpr ⟨lw_p28, List.forall_mem_cons.mpr ⟨lw_p29, List.forall_mem_cons.mpr ⟨lw_p30, List.forall_mem_cons.mpr ⟨lw_p31, fun _ h => absurd h List.not_mem_nil⟩⟩⟩⟩⟩⟩⟩⟩⟩⟩⟩⟩⟩⟩⟩⟩
set_option maxRecDepth 100000 in
theorem lw_p32 : lw_okq (⟨"PlaneColumnModel", "readsPart", "()Z"⟩, 24) := ⟨⟨by decide +kernel, by decide +kernel⟩, List.mem_of_getElem? (i := 740) (by first | rfl | decide +kernel), List.mem_of_getElem? (i := 827) (by first | rfl | decide +kernel), List.mem_of_getElem? (i := 828) (by first | rfl | decide +kernel)⟩
set_option maxRecDepth 100000 in
theorem lw_p33 : lw_okq (⟨"PlaneColumnModel", "number", "(III)I"⟩, 24) := ⟨⟨by decide +kernel, by decide +kernel⟩, List.mem_of_getElem? (i := 740) (by first | rfl | decide +kernel), List.mem_of_getElem? (i := 831) (by first | rfl | decide +kernel), List.mem_of_getElem? (i := 832) (by first | rfl | decide +kernel)⟩
set_option maxRecDepth 100000 in
theorem lw_p34 : lw_okq (⟨"PlaneColumnModel", "isDigit", "()Z"⟩, 24) := ⟨⟨by decide +kernel, by decide +kernel⟩, List.mem_of_getElem? (i := 740) (by first | rfl | decide +kernel), List.mem_of_getElem? (i := 835) (by first | rfl | decide +kernel), List.mem_of_getElem? (i := 836) (by first | rfl | decide +kernel)⟩
set_option maxRecDepth 100000 in
theorem lw_p35 : lw_okq (⟨"PlaneColumnModel", "takes", "(I)Z"⟩, 24) := ⟨⟨by decide +kernel, by decide +kernel⟩, List.mem_of_getElem? (i := 740) (by first | rfl | decide +kernel), List.mem_of_getElem? (i := 841) (by first | rfl | decide +kernel), List.mem_of_getElem? (i := 842) (by first | rfl | decide +kernel)⟩
set_option maxRecDepth 100000 in
theorem lw_p36 : lw_okq (⟨"PlaneColumnModel", "becomesRead", "()V"⟩, 24) := ⟨⟨by decide +kernel, by decide +kernel⟩, List.mem_of_getElem? (i := 740) (by first | rfl | decide +kernel), List.mem_of_getElem? (i := 848) (by first | rfl | decide +kernel), List.mem_of_getElem? (i := 849) (by first | rfl | decide +kernel)⟩
set_option maxRecDepth 100000 in
theorem lw_p37 : lw_okq (⟨"PlaneColumnModel", "readsRow", "(I)Z"⟩, 24) := ⟨⟨by decide +kernel, by decide +kernel⟩, List.mem_of_getElem? (i := 740) (by first | rfl | decide +kernel), List.mem_of_getElem? (i := 856) (by first | rfl | decide +kernel), List.mem_of_getElem? (i := 857) (by first | rfl | decide +kernel)⟩
set_option maxRecDepth 100000 in
theorem lw_p38 : lw_okq (⟨"PlaneColumnModel", "isPlace", "(I)Z"⟩, 24) := ⟨⟨by decide +kernel, by decide +kernel⟩, List.mem_of_getElem? (i := 740) (by first | rfl | decide +kernel), List.mem_of_getElem? (i := 872) (by first | rfl | decide +kernel), List.mem_of_getElem? (i := 873) (by first | rfl | decide +kernel)⟩
set_option maxRecDepth 100000 in
theorem lw_p39 : lw_okq (⟨"PlaneColumnModel", "keepsBits", "()V"⟩, 24) := ⟨⟨by decide +kernel, by decide +kernel⟩, List.mem_of_getElem? (i := 740) (by first | rfl | decide +kernel), List.mem_of_getElem? (i := 876) (by first | rfl | decide +kernel), List.mem_of_getElem? (i := 877) (by first | rfl | decide +kernel)⟩
set_option maxRecDepth 100000 in
theorem lw_p40 : lw_okq (⟨"PlaneColumnModel", "laysLevel", "(I)V"⟩, 24) := ⟨⟨by decide +kernel, by decide +kernel⟩, List.mem_of_getElem? (i := 740) (by first | rfl | decide +kernel), List.mem_of_getElem? (i := 880) (by first | rfl | decide +kernel), List.mem_of_getElem? (i := 881) (by first | rfl | decide +kernel)⟩
set_option maxRecDepth 100000 in
theorem lw_p41 : lw_okq (⟨"PlaneColumnModel", "begins", "()V"⟩, 24) := ⟨⟨by decide +kernel, by decide +kernel⟩, List.mem_of_getElem? (i := 740) (by first | rfl | decide +kernel), List.mem_of_getElem? (i := 884) (by first | rfl | decide +kernel), List.mem_of_getElem? (i := 885) (by first | rfl | decide +kernel)⟩
set_option maxRecDepth 100000 in
theorem lw_p42 : lw_okq (⟨"PlaneColumnModel", "parts", "(I)V"⟩, 24) := ⟨⟨by decide +kernel, by decide +kernel⟩, List.mem_of_getElem? (i := 740) (by first | rfl | decide +kernel), List.mem_of_getElem? (i := 888) (by first | rfl | decide +kernel), List.mem_of_getElem? (i := 889) (by first | rfl | decide +kernel)⟩
set_option maxRecDepth 100000 in
theorem lw_p43 : lw_okq (⟨"PlaneColumnModel", "otherBits", "()I"⟩, 24) := ⟨⟨by decide +kernel, by decide +kernel⟩, List.mem_of_getElem? (i := 740) (by first | rfl | decide +kernel), List.mem_of_getElem? (i := 895) (by first | rfl | decide +kernel), List.mem_of_getElem? (i := 896) (by first | rfl | decide +kernel)⟩
set_option maxRecDepth 100000 in
theorem lw_p44 : lw_okq (⟨"PlaneColumnModel", "enters", "(J)V"⟩, 24) := ⟨⟨by decide +kernel, by decide +kernel⟩, List.mem_of_getElem? (i := 740) (by first | rfl | decide +kernel), List.mem_of_getElem? (i := 899) (by first | rfl | decide +kernel), List.mem_of_getElem? (i := 900) (by first | rfl | decide +kernel)⟩
set_option maxRecDepth 100000 in
theorem lw_p45 : lw_okq (⟨"PlaneColumnModel", "exchanges", "(II)V"⟩, 24) := ⟨⟨by decide +kernel, by decide +kernel⟩, List.mem_of_getElem? (i := 740) (by first | rfl | decide +kernel), List.mem_of_getElem? (i := 911) (by first | rfl | decide +kernel), List.mem_of_getElem? (i := 912) (by first | rfl | decide +kernel)⟩
set_option maxRecDepth 100000 in
theorem lw_p46 : lw_okq (⟨"PlaneColumnModel", "isSpan", "(II)Z"⟩, 24) := ⟨⟨by decide +kernel, by decide +kernel⟩, List.mem_of_getElem? (i := 740) (by first | rfl | decide +kernel), List.mem_of_getElem? (i := 919) (by first | rfl | decide +kernel), List.mem_of_getElem? (i := 920) (by first | rfl | decide +kernel)⟩
set_option maxRecDepth 100000 in
theorem lw_p47 : lw_okq (⟨"PlaneColumnModel", "runsOf", "(I)I"⟩, 24) := ⟨⟨by decide +kernel, by decide +kernel⟩, List.mem_of_getElem? (i := 740) (by first | rfl | decide +kernel), List.mem_of_getElem? (i := 928) (by first | rfl | decide +kernel), List.mem_of_getElem? (i := 929) (by first | rfl | decide +kernel)⟩
def lw_privs_3 : List (MethodName × Nat) := [(⟨"PlaneColumnModel", "readsPart", "()Z"⟩, 24), (⟨"PlaneColumnModel", "number", "(III)I"⟩, 24), (⟨"PlaneColumnModel", "isDigit", "()Z"⟩, 24), (⟨"PlaneColumnModel", "takes", "(I)Z"⟩, 24), (⟨"PlaneColumnModel", "becomesRead", "()V"⟩, 24), (⟨"PlaneColumnModel", "readsRow", "(I)Z"⟩, 24), (⟨"PlaneColumnModel", "isPlace", "(I)Z"⟩, 24), (⟨"PlaneColumnModel", "keepsBits", "()V"⟩, 24), (⟨"PlaneColumnModel", "laysLevel", "(I)V"⟩, 24), (⟨"PlaneColumnModel", "begins", "()V"⟩, 24), (⟨"PlaneColumnModel", "parts", "(I)V"⟩, 24), (⟨"PlaneColumnModel", "otherBits", "()I"⟩, 24), (⟨"PlaneColumnModel", "enters", "(J)V"⟩, 24), (⟨"PlaneColumnModel", "exchanges", "(II)V"⟩, 24), (⟨"PlaneColumnModel", "isSpan", "(II)Z"⟩, 24), (⟨"PlaneColumnModel", "runsOf", "(I)I"⟩, 24)]
theorem lw_r3 : ∀ q ∈ lw_privs_3, lw_okq q := List.forall_mem_cons.mpr ⟨lw_p32, List.forall_mem_cons.mpr ⟨lw_p33, List.forall_mem_cons.mpr ⟨lw_p34, List.forall_mem_cons.mpr ⟨lw_p35, List.forall_mem_cons.mpr ⟨lw_p36, List.forall_mem_cons.mpr ⟨lw_p37, List.forall_mem_cons.mpr ⟨lw_p38, List.forall_mem_cons.mpr ⟨lw_p39, List.forall_mem_cons.mpr ⟨lw_p40, List.forall_mem_cons.mpr ⟨lw_p41, List.forall_mem_cons.mpr ⟨lw_p42, List.forall_mem_cons.mpr ⟨lw_p43, List.forall_mem_cons.mpr ⟨lw_p44, List.forall_mem_cons.mpr ⟨lw_p45, List.forall_mem_cons.mpr ⟨lw_p46, List.forall_mem_cons.mpr ⟨lw_p47, fun _ h => absurd h List.not_mem_nil⟩⟩⟩⟩⟩⟩⟩⟩⟩⟩⟩⟩⟩⟩⟩⟩
set_option maxRecDepth 100000 in
theorem lw_p48 : lw_okq (⟨"PlaneColumnModel", "triesBits", "(III)V"⟩, 24) := ⟨⟨by decide +kernel, by decide +kernel⟩, List.mem_of_getElem? (i := 740) (by first | rfl | decide +kernel), List.mem_of_getElem? (i := 949) (by first | rfl | decide +kernel), List.mem_of_getElem? (i := 950) (by first | rfl | decide +kernel)⟩
set_option maxRecDepth 100000 in
theorem lw_p49 : lw_okq (⟨"PlaneColumnModel", "sorts", "(II)V"⟩, 24) := ⟨⟨by decide +kernel, by decide +kernel⟩, List.mem_of_getElem? (i := 740) (by first | rfl | decide +kernel), List.mem_of_getElem? (i := 957) (by first | rfl | decide +kernel), List.mem_of_getElem? (i := 958) (by first | rfl | decide +kernel)⟩
set_option maxRecDepth 100000 in
theorem lw_p50 : lw_okq (⟨"PlaneColumnModel", "counts", "(III)V"⟩, 24) := ⟨⟨by decide +kernel, by decide +kernel⟩, List.mem_of_getElem? (i := 740) (by first | rfl | decide +kernel), List.mem_of_getElem? (i := 961) (by first | rfl | decide +kernel), List.mem_of_getElem? (i := 962) (by first | rfl | decide +kernel)⟩
set_option maxRecDepth 100000 in
theorem lw_p51 : lw_okq (⟨"PlaneColumnModel", "times", "(II)I"⟩, 24) := ⟨⟨by decide +kernel, by decide +kernel⟩, List.mem_of_getElem? (i := 740) (by first | rfl | decide +kernel), List.mem_of_getElem? (i := 965) (by first | rfl | decide +kernel), List.mem_of_getElem? (i := 966) (by first | rfl | decide +kernel)⟩
set_option maxRecDepth 100000 in
theorem lw_p52 : lw_okq (⟨"PlaneColumnModel", "visits", "(IIII)I"⟩, 24) := ⟨⟨by decide +kernel, by decide +kernel⟩, List.mem_of_getElem? (i := 740) (by first | rfl | decide +kernel), List.mem_of_getElem? (i := 981) (by first | rfl | decide +kernel), List.mem_of_getElem? (i := 982) (by first | rfl | decide +kernel)⟩
set_option maxRecDepth 100000 in
theorem lw_p53 : lw_okq (⟨"PlaneColumnModel", "within", "(III)I"⟩, 24) := ⟨⟨by decide +kernel, by decide +kernel⟩, List.mem_of_getElem? (i := 740) (by first | rfl | decide +kernel), List.mem_of_getElem? (i := 985) (by first | rfl | decide +kernel), List.mem_of_getElem? (i := 986) (by first | rfl | decide +kernel)⟩
set_option maxRecDepth 100000 in
theorem lw_p54 : lw_okq (⟨"PlaneColumnModel", "nodes", "(IZ)I"⟩, 24) := ⟨⟨by decide +kernel, by decide +kernel⟩, List.mem_of_getElem? (i := 740) (by first | rfl | decide +kernel), List.mem_of_getElem? (i := 1013) (by first | rfl | decide +kernel), List.mem_of_getElem? (i := 1014) (by first | rfl | decide +kernel)⟩
set_option maxRecDepth 100000 in
theorem lw_p55 : lw_okq (⟨"PlaneColumnModel", "counts", "(IIII)Z"⟩, 24) := ⟨⟨by decide +kernel, by decide +kernel⟩, List.mem_of_getElem? (i := 740) (by first | rfl | decide +kernel), List.mem_of_getElem? (i := 1076) (by first | rfl | decide +kernel), List.mem_of_getElem? (i := 1077) (by first | rfl | decide +kernel)⟩
set_option maxRecDepth 100000 in
theorem lw_p56 : lw_okq (⟨"PlaneColumnModel", "unlike", "()I"⟩, 24) := ⟨⟨by decide +kernel, by decide +kernel⟩, List.mem_of_getElem? (i := 740) (by first | rfl | decide +kernel), List.mem_of_getElem? (i := 1096) (by first | rfl | decide +kernel), List.mem_of_getElem? (i := 1097) (by first | rfl | decide +kernel)⟩
set_option maxRecDepth 100000 in
theorem lw_p57 : lw_okq (⟨"PlaneColumnModel", "together", "(Z)I"⟩, 24) := ⟨⟨by decide +kernel, by decide +kernel⟩, List.mem_of_getElem? (i := 740) (by first | rfl | decide +kernel), List.mem_of_getElem? (i := 1100) (by first | rfl | decide +kernel), List.mem_of_getElem? (i := 1101) (by first | rfl | decide +kernel)⟩
def lw_privs_4 : List (MethodName × Nat) := [(⟨"PlaneColumnModel", "triesBits", "(III)V"⟩, 24), (⟨"PlaneColumnModel", "sorts", "(II)V"⟩, 24), (⟨"PlaneColumnModel", "counts", "(III)V"⟩, 24), (⟨"PlaneColumnModel", "times", "(II)I"⟩, 24), (⟨"PlaneColumnModel", "visits", "(IIII)I"⟩, 24), (⟨"PlaneColumnModel", "within", "(III)I"⟩, 24), (⟨"PlaneColumnModel", "nodes", "(IZ)I"⟩, 24), (⟨"PlaneColumnModel", "counts", "(IIII)Z"⟩, 24), (⟨"PlaneColumnModel", "unlike", "()I"⟩, 24), (⟨"PlaneColumnModel", "together", "(Z)I"⟩, 24)]
theorem lw_r4 : ∀ q ∈ lw_privs_4, lw_okq q := List.forall_mem_cons.mpr ⟨lw_p48, List.forall_mem_cons.mpr ⟨lw_p49, List.forall_mem_cons.mpr ⟨lw_p50, List.forall_mem_cons.mpr ⟨lw_p51, List.forall_mem_cons.mpr ⟨lw_p52, List.forall_mem_cons.mpr ⟨lw_p53, List.forall_mem_cons.mpr ⟨lw_p54, List.forall_mem_cons.mpr ⟨lw_p55, List.forall_mem_cons.mpr ⟨lw_p56, List.forall_mem_cons.mpr ⟨lw_p57, fun _ h => absurd h List.not_mem_nil⟩⟩⟩⟩⟩⟩⟩⟩⟩⟩
def lw_privs : List (MethodName × Nat) := lw_privs_1 ++ (lw_privs_2 ++ (lw_privs_3 ++ (lw_privs_4)))
def lw_tbl : List Cond := k2_sels lw_privs ++ tables_1
set_option maxRecDepth 100000 in
theorem lw_privs_ok : ∀ q ∈ lw_privs, lw_okq q := by
  show ∀ q ∈ lw_privs_1 ++ (lw_privs_2 ++ (lw_privs_3 ++ (lw_privs_4))), lw_okq q
  exact List.forall_mem_append.mpr ⟨lw_r1, List.forall_mem_append.mpr ⟨lw_r2, List.forall_mem_append.mpr ⟨lw_r3, lw_r4⟩⟩⟩
