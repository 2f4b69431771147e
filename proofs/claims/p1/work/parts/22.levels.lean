set_option maxHeartbeats 4000000 in
set_option maxRecDepth 100000 in
theorem k0_J13_bitCount_95d88 (l : Launch) (D : va_G) (cI cJ : ClassId)  : cpI l yJ13_bitCount_95d88 wsJ13_bitCount_95d88 ({ frames := 0, cells := 0, slots := 0, locals := 0 } : Room) D (tyIJ cI cJ) [.long 0] [] (fun (r : Int32) => r = 0) := by
  refine cpI.of (cc := cJ13_bitCount_95d88) (maxL := 2) (ret := (some .int)) (by decide) rfl (Nat.le_of_ble_eq_true rfl) ?_
  intro p e s m below meth c ls hx hb hr hts hown hml hlocks hname hK hN hP hl
  have hl : lv_has ls 2 [(0, .long 0)] := hl
  have hown : s.vm.findClass RJ13 = some m.cls := hown
  refine lv_lload_n hx hb dJ13_bitCount_95d88_0 rfl (lv_at hl 0 rfl) ?_
  refine lv_lload_n hx hb dJ13_bitCount_95d88_1 rfl (lv_at hl 0 rfl) ?_
  refine lv_iconst (v := 1) hx hb dJ13_bitCount_95d88_2 (by decide +kernel) ?_
  refine lv_lushr (v := 0) hx hb dJ13_bitCount_95d88_3 (by decide +kernel) ?_
  refine lv_ldc2 (v := 6148914691236517205) hx hb hown (hts (.constantLong RJ13 314 (6148914691236517205)) (by decide +kernel)) dJ13_bitCount_95d88_4 ?_
  refine lv_land hx hb dJ13_bitCount_95d88_7 ?_
  refine my_eql (y := 0) (by decide +kernel) ?_
  refine lv_lsub hx hb dJ13_bitCount_95d88_8 ?_
  refine my_eql (y := 0) (by decide +kernel) ?_
  refine lv_lstore_n (lv' := [(0, .long 0)]) hx hb dJ13_bitCount_95d88_9 rfl hl (by decide) rfl (fun ls hl => ?_)
  refine lv_lload_n hx hb dJ13_bitCount_95d88_10 rfl (lv_at hl 0 rfl) ?_
  refine lv_ldc2 (v := 3689348814741910323) hx hb hown (hts (.constantLong RJ13 316 (3689348814741910323)) (by decide +kernel)) dJ13_bitCount_95d88_11 ?_
  refine lv_land hx hb dJ13_bitCount_95d88_14 ?_
  refine my_eql (y := 0) (by decide +kernel) ?_
  refine lv_lload_n hx hb dJ13_bitCount_95d88_15 rfl (lv_at hl 0 rfl) ?_
  refine lv_iconst (v := 2) hx hb dJ13_bitCount_95d88_16 (by decide +kernel) ?_
  refine lv_lushr (v := 0) hx hb dJ13_bitCount_95d88_17 (by decide +kernel) ?_
  refine lv_ldc2 (v := 3689348814741910323) hx hb hown (hts (.constantLong RJ13 316 (3689348814741910323)) (by decide +kernel)) dJ13_bitCount_95d88_18 ?_
  refine lv_land hx hb dJ13_bitCount_95d88_21 ?_
  refine my_eql (y := 0) (by decide +kernel) ?_
  refine lv_ladd hx hb dJ13_bitCount_95d88_22 ?_
  refine my_eql (y := 0) (by decide +kernel) ?_
  refine lv_lstore_n (lv' := [(0, .long 0)]) hx hb dJ13_bitCount_95d88_23 rfl hl (by decide) rfl (fun ls hl => ?_)
  refine lv_lload_n hx hb dJ13_bitCount_95d88_24 rfl (lv_at hl 0 rfl) ?_
  refine lv_lload_n hx hb dJ13_bitCount_95d88_25 rfl (lv_at hl 0 rfl) ?_
  refine lv_iconst (v := 4) hx hb dJ13_bitCount_95d88_26 (by decide +kernel) ?_
  refine lv_lushr (v := 0) hx hb dJ13_bitCount_95d88_27 (by decide +kernel) ?_
  refine lv_ladd hx hb dJ13_bitCount_95d88_28 ?_
  refine my_eql (y := 0) (by decide +kernel) ?_
  refine lv_ldc2 (v := 1085102592571150095) hx hb hown (hts (.constantLong RJ13 318 (1085102592571150095)) (by decide +kernel)) dJ13_bitCount_95d88_29 ?_
  refine lv_land hx hb dJ13_bitCount_95d88_32 ?_
  refine my_eql (y := 0) (by decide +kernel) ?_
  refine lv_lstore_n (lv' := [(0, .long 0)]) hx hb dJ13_bitCount_95d88_33 rfl hl (by decide) rfl (fun ls hl => ?_)
  refine lv_lload_n hx hb dJ13_bitCount_95d88_34 rfl (lv_at hl 0 rfl) ?_
  refine lv_lload_n hx hb dJ13_bitCount_95d88_35 rfl (lv_at hl 0 rfl) ?_
  refine lv_bipush (v := 8) hx hb dJ13_bitCount_95d88_36 (by decide +kernel) ?_
  refine lv_lushr (v := 0) hx hb dJ13_bitCount_95d88_38 (by decide +kernel) ?_
  refine lv_ladd hx hb dJ13_bitCount_95d88_39 ?_
  refine my_eql (y := 0) (by decide +kernel) ?_
  refine lv_lstore_n (lv' := [(0, .long 0)]) hx hb dJ13_bitCount_95d88_40 rfl hl (by decide) rfl (fun ls hl => ?_)
  refine lv_lload_n hx hb dJ13_bitCount_95d88_41 rfl (lv_at hl 0 rfl) ?_
  refine lv_lload_n hx hb dJ13_bitCount_95d88_42 rfl (lv_at hl 0 rfl) ?_
  refine lv_bipush (v := 16) hx hb dJ13_bitCount_95d88_43 (by decide +kernel) ?_
  refine lv_lushr (v := 0) hx hb dJ13_bitCount_95d88_45 (by decide +kernel) ?_
  refine lv_ladd hx hb dJ13_bitCount_95d88_46 ?_
  refine my_eql (y := 0) (by decide +kernel) ?_
  refine lv_lstore_n (lv' := [(0, .long 0)]) hx hb dJ13_bitCount_95d88_47 rfl hl (by decide) rfl (fun ls hl => ?_)
  refine lv_lload_n hx hb dJ13_bitCount_95d88_48 rfl (lv_at hl 0 rfl) ?_
  refine lv_lload_n hx hb dJ13_bitCount_95d88_49 rfl (lv_at hl 0 rfl) ?_
  refine lv_bipush (v := 32) hx hb dJ13_bitCount_95d88_50 (by decide +kernel) ?_
  refine lv_lushr (v := 0) hx hb dJ13_bitCount_95d88_52 (by decide +kernel) ?_
  refine lv_ladd hx hb dJ13_bitCount_95d88_53 ?_
  refine my_eql (y := 0) (by decide +kernel) ?_
  refine lv_lstore_n (lv' := [(0, .long 0)]) hx hb dJ13_bitCount_95d88_54 rfl hl (by decide) rfl (fun ls hl => ?_)
  refine lv_lload_n hx hb dJ13_bitCount_95d88_55 rfl (lv_at hl 0 rfl) ?_
  refine lv_l2i (v := 0) hx hb dJ13_bitCount_95d88_56 (by decide +kernel) ?_
  refine lv_bipush (v := 127) hx hb dJ13_bitCount_95d88_57 (by decide +kernel) ?_
  refine lv_iand hx hb dJ13_bitCount_95d88_59 ?_
  refine my_eqi (y := 0) (by decide +kernel) ?_
  exact my_rpI hx hb hr hlocks (rfl) dJ13_bitCount_95d88_60
set_option maxHeartbeats 4000000 in
set_option maxRecDepth 100000 in
theorem kr_J13_bitCount_95d88 (l : Launch) (D : va_G) (cI cJ : ClassId) (v : Int64) : cpI l yJ13_bitCount_95d88 wsJ13_bitCount_95d88 ({ frames := 0, cells := 0, slots := 0, locals := 0 } : Room) D (tyIJ cI cJ) [.long v] [] (fun (r : Int32) => True) := by
  refine cpI.of (cc := cJ13_bitCount_95d88) (maxL := 2) (ret := (some .int)) (by decide) rfl (Nat.le_of_ble_eq_true rfl) ?_
  intro p e s m below meth c ls hx hb hr hts hown hml hlocks hname hK hN hP hl
  have hl : lv_has ls 2 [(0, .long v)] := hl
  have hown : s.vm.findClass RJ13 = some m.cls := hown
  refine lv_lload_n hx hb dJ13_bitCount_95d88_0 rfl (lv_at hl 0 rfl) ?_
  refine lv_lload_n hx hb dJ13_bitCount_95d88_1 rfl (lv_at hl 0 rfl) ?_
  refine lv_iconst (v := 1) hx hb dJ13_bitCount_95d88_2 (by decide +kernel) ?_
  refine lv_lushr hx hb dJ13_bitCount_95d88_3 rfl ?_
  refine lv_topl (fun z_1 ez_1 => ?_)
  refine lv_ldc2 (v := 6148914691236517205) hx hb hown (hts (.constantLong RJ13 314 (6148914691236517205)) (by decide +kernel)) dJ13_bitCount_95d88_4 ?_
  refine lv_land hx hb dJ13_bitCount_95d88_7 ?_
  refine lv_topl (fun z_2 ez_2 => ?_)
  refine lv_lsub hx hb dJ13_bitCount_95d88_8 ?_
  refine lv_topl (fun z_3 ez_3 => ?_)
  refine lv_lstore_n (lv' := [(0, .long z_3)]) hx hb dJ13_bitCount_95d88_9 rfl hl (by decide) rfl (fun ls hl => ?_)
  refine lv_lload_n hx hb dJ13_bitCount_95d88_10 rfl (lv_at hl 0 rfl) ?_
  refine lv_ldc2 (v := 3689348814741910323) hx hb hown (hts (.constantLong RJ13 316 (3689348814741910323)) (by decide +kernel)) dJ13_bitCount_95d88_11 ?_
  refine lv_land hx hb dJ13_bitCount_95d88_14 ?_
  refine lv_topl (fun z_4 ez_4 => ?_)
  refine lv_lload_n hx hb dJ13_bitCount_95d88_15 rfl (lv_at hl 0 rfl) ?_
  refine lv_iconst (v := 2) hx hb dJ13_bitCount_95d88_16 (by decide +kernel) ?_
  refine lv_lushr hx hb dJ13_bitCount_95d88_17 rfl ?_
  refine lv_topl (fun z_5 ez_5 => ?_)
  refine lv_ldc2 (v := 3689348814741910323) hx hb hown (hts (.constantLong RJ13 316 (3689348814741910323)) (by decide +kernel)) dJ13_bitCount_95d88_18 ?_
  refine lv_land hx hb dJ13_bitCount_95d88_21 ?_
  refine lv_topl (fun z_6 ez_6 => ?_)
  refine lv_ladd hx hb dJ13_bitCount_95d88_22 ?_
  refine lv_topl (fun z_7 ez_7 => ?_)
  refine lv_lstore_n (lv' := [(0, .long z_7)]) hx hb dJ13_bitCount_95d88_23 rfl hl (by decide) rfl (fun ls hl => ?_)
  refine lv_lload_n hx hb dJ13_bitCount_95d88_24 rfl (lv_at hl 0 rfl) ?_
  refine lv_lload_n hx hb dJ13_bitCount_95d88_25 rfl (lv_at hl 0 rfl) ?_
  refine lv_iconst (v := 4) hx hb dJ13_bitCount_95d88_26 (by decide +kernel) ?_
  refine lv_lushr hx hb dJ13_bitCount_95d88_27 rfl ?_
  refine lv_topl (fun z_8 ez_8 => ?_)
  refine lv_ladd hx hb dJ13_bitCount_95d88_28 ?_
  refine lv_topl (fun z_9 ez_9 => ?_)
  refine lv_ldc2 (v := 1085102592571150095) hx hb hown (hts (.constantLong RJ13 318 (1085102592571150095)) (by decide +kernel)) dJ13_bitCount_95d88_29 ?_
  refine lv_land hx hb dJ13_bitCount_95d88_32 ?_
  refine lv_topl (fun z_10 ez_10 => ?_)
  refine lv_lstore_n (lv' := [(0, .long z_10)]) hx hb dJ13_bitCount_95d88_33 rfl hl (by decide) rfl (fun ls hl => ?_)
  refine lv_lload_n hx hb dJ13_bitCount_95d88_34 rfl (lv_at hl 0 rfl) ?_
  refine lv_lload_n hx hb dJ13_bitCount_95d88_35 rfl (lv_at hl 0 rfl) ?_
  refine lv_bipush (v := 8) hx hb dJ13_bitCount_95d88_36 (by decide +kernel) ?_
  refine lv_lushr hx hb dJ13_bitCount_95d88_38 rfl ?_
  refine lv_topl (fun z_11 ez_11 => ?_)
  refine lv_ladd hx hb dJ13_bitCount_95d88_39 ?_
  refine lv_topl (fun z_12 ez_12 => ?_)
  refine lv_lstore_n (lv' := [(0, .long z_12)]) hx hb dJ13_bitCount_95d88_40 rfl hl (by decide) rfl (fun ls hl => ?_)
  refine lv_lload_n hx hb dJ13_bitCount_95d88_41 rfl (lv_at hl 0 rfl) ?_
  refine lv_lload_n hx hb dJ13_bitCount_95d88_42 rfl (lv_at hl 0 rfl) ?_
  refine lv_bipush (v := 16) hx hb dJ13_bitCount_95d88_43 (by decide +kernel) ?_
  refine lv_lushr hx hb dJ13_bitCount_95d88_45 rfl ?_
  refine lv_topl (fun z_13 ez_13 => ?_)
  refine lv_ladd hx hb dJ13_bitCount_95d88_46 ?_
  refine lv_topl (fun z_14 ez_14 => ?_)
  refine lv_lstore_n (lv' := [(0, .long z_14)]) hx hb dJ13_bitCount_95d88_47 rfl hl (by decide) rfl (fun ls hl => ?_)
  refine lv_lload_n hx hb dJ13_bitCount_95d88_48 rfl (lv_at hl 0 rfl) ?_
  refine lv_lload_n hx hb dJ13_bitCount_95d88_49 rfl (lv_at hl 0 rfl) ?_
  refine lv_bipush (v := 32) hx hb dJ13_bitCount_95d88_50 (by decide +kernel) ?_
  refine lv_lushr hx hb dJ13_bitCount_95d88_52 rfl ?_
  refine lv_topl (fun z_15 ez_15 => ?_)
  refine lv_ladd hx hb dJ13_bitCount_95d88_53 ?_
  refine lv_topl (fun z_16 ez_16 => ?_)
  refine lv_lstore_n (lv' := [(0, .long z_16)]) hx hb dJ13_bitCount_95d88_54 rfl hl (by decide) rfl (fun ls hl => ?_)
  refine lv_lload_n hx hb dJ13_bitCount_95d88_55 rfl (lv_at hl 0 rfl) ?_
  refine lv_l2i hx hb dJ13_bitCount_95d88_56 rfl ?_
  refine lv_topi (fun z_17 ez_17 => ?_)
  refine lv_bipush (v := 127) hx hb dJ13_bitCount_95d88_57 (by decide +kernel) ?_
  refine lv_iand hx hb dJ13_bitCount_95d88_59 ?_
  refine lv_topi (fun z_18 ez_18 => ?_)
  exact my_rpI hx hb hr hlocks (trivial) dJ13_bitCount_95d88_60
set_option maxHeartbeats 4000000 in
set_option maxRecDepth 100000 in
theorem k0_J6_bitCount_0f7a4 (l : Launch) (D : va_G) (cI cJ : ClassId)  : cpI l yJ6_bitCount_0f7a4 wsJ6_bitCount_0f7a4 ({ frames := 0, cells := 0, slots := 0, locals := 0 } : Room) D (tyIJ cI cJ) [.int 0] [] (fun (r : Int32) => r = 0) := by
  refine cpI.of (cc := cJ6_bitCount_0f7a4) (maxL := 1) (ret := (some .int)) (by decide) rfl (Nat.le_of_ble_eq_true rfl) ?_
  intro p e s m below meth c ls hx hb hr hts hown hml hlocks hname hK hN hP hl
  have hl : lv_has ls 1 [(0, .int 0)] := hl
  have hown : s.vm.findClass RJ6 = some m.cls := hown
  refine lv_iload_n hx hb dJ6_bitCount_0f7a4_0 rfl (lv_at hl 0 rfl) ?_
  refine lv_iload_n hx hb dJ6_bitCount_0f7a4_1 rfl (lv_at hl 0 rfl) ?_
  refine lv_iconst (v := 1) hx hb dJ6_bitCount_0f7a4_2 (by decide +kernel) ?_
  refine lv_iushr (v := 0) hx hb dJ6_bitCount_0f7a4_3 (by decide +kernel) ?_
  refine lv_ldcw (v := 1431655765) hx hb hown (hts (.constant RJ6 265 (1431655765)) (by decide +kernel)) dJ6_bitCount_0f7a4_4 ?_
  refine lv_iand hx hb dJ6_bitCount_0f7a4_7 ?_
  refine my_eqi (y := 0) (by decide +kernel) ?_
  refine lv_isub hx hb dJ6_bitCount_0f7a4_8 ?_
  refine my_eqi (y := 0) (by decide +kernel) ?_
  refine lv_istore_n (lv' := [(0, .int 0)]) hx hb dJ6_bitCount_0f7a4_9 rfl hl (by decide) rfl (fun ls hl => ?_)
  refine lv_iload_n hx hb dJ6_bitCount_0f7a4_10 rfl (lv_at hl 0 rfl) ?_
  refine lv_ldcw (v := 858993459) hx hb hown (hts (.constant RJ6 266 (858993459)) (by decide +kernel)) dJ6_bitCount_0f7a4_11 ?_
  refine lv_iand hx hb dJ6_bitCount_0f7a4_14 ?_
  refine my_eqi (y := 0) (by decide +kernel) ?_
  refine lv_iload_n hx hb dJ6_bitCount_0f7a4_15 rfl (lv_at hl 0 rfl) ?_
  refine lv_iconst (v := 2) hx hb dJ6_bitCount_0f7a4_16 (by decide +kernel) ?_
  refine lv_iushr (v := 0) hx hb dJ6_bitCount_0f7a4_17 (by decide +kernel) ?_
  refine lv_ldcw (v := 858993459) hx hb hown (hts (.constant RJ6 266 (858993459)) (by decide +kernel)) dJ6_bitCount_0f7a4_18 ?_
  refine lv_iand hx hb dJ6_bitCount_0f7a4_21 ?_
  refine my_eqi (y := 0) (by decide +kernel) ?_
  refine lv_iadd hx hb dJ6_bitCount_0f7a4_22 ?_
  refine my_eqi (y := 0) (by decide +kernel) ?_
  refine lv_istore_n (lv' := [(0, .int 0)]) hx hb dJ6_bitCount_0f7a4_23 rfl hl (by decide) rfl (fun ls hl => ?_)
  refine lv_iload_n hx hb dJ6_bitCount_0f7a4_24 rfl (lv_at hl 0 rfl) ?_
  refine lv_iload_n hx hb dJ6_bitCount_0f7a4_25 rfl (lv_at hl 0 rfl) ?_
  refine lv_iconst (v := 4) hx hb dJ6_bitCount_0f7a4_26 (by decide +kernel) ?_
  refine lv_iushr (v := 0) hx hb dJ6_bitCount_0f7a4_27 (by decide +kernel) ?_
  refine lv_iadd hx hb dJ6_bitCount_0f7a4_28 ?_
  refine my_eqi (y := 0) (by decide +kernel) ?_
  refine lv_ldcw (v := 252645135) hx hb hown (hts (.constant RJ6 267 (252645135)) (by decide +kernel)) dJ6_bitCount_0f7a4_29 ?_
  refine lv_iand hx hb dJ6_bitCount_0f7a4_32 ?_
  refine my_eqi (y := 0) (by decide +kernel) ?_
  refine lv_istore_n (lv' := [(0, .int 0)]) hx hb dJ6_bitCount_0f7a4_33 rfl hl (by decide) rfl (fun ls hl => ?_)
  refine lv_iload_n hx hb dJ6_bitCount_0f7a4_34 rfl (lv_at hl 0 rfl) ?_
  refine lv_iload_n hx hb dJ6_bitCount_0f7a4_35 rfl (lv_at hl 0 rfl) ?_
  refine lv_bipush (v := 8) hx hb dJ6_bitCount_0f7a4_36 (by decide +kernel) ?_
  refine lv_iushr (v := 0) hx hb dJ6_bitCount_0f7a4_38 (by decide +kernel) ?_
  refine lv_iadd hx hb dJ6_bitCount_0f7a4_39 ?_
  refine my_eqi (y := 0) (by decide +kernel) ?_
  refine lv_istore_n (lv' := [(0, .int 0)]) hx hb dJ6_bitCount_0f7a4_40 rfl hl (by decide) rfl (fun ls hl => ?_)
  refine lv_iload_n hx hb dJ6_bitCount_0f7a4_41 rfl (lv_at hl 0 rfl) ?_
  refine lv_iload_n hx hb dJ6_bitCount_0f7a4_42 rfl (lv_at hl 0 rfl) ?_
  refine lv_bipush (v := 16) hx hb dJ6_bitCount_0f7a4_43 (by decide +kernel) ?_
  refine lv_iushr (v := 0) hx hb dJ6_bitCount_0f7a4_45 (by decide +kernel) ?_
  refine lv_iadd hx hb dJ6_bitCount_0f7a4_46 ?_
  refine my_eqi (y := 0) (by decide +kernel) ?_
  refine lv_istore_n (lv' := [(0, .int 0)]) hx hb dJ6_bitCount_0f7a4_47 rfl hl (by decide) rfl (fun ls hl => ?_)
  refine lv_iload_n hx hb dJ6_bitCount_0f7a4_48 rfl (lv_at hl 0 rfl) ?_
  refine lv_bipush (v := 63) hx hb dJ6_bitCount_0f7a4_49 (by decide +kernel) ?_
  refine lv_iand hx hb dJ6_bitCount_0f7a4_51 ?_
  refine my_eqi (y := 0) (by decide +kernel) ?_
  exact my_rpI hx hb hr hlocks (rfl) dJ6_bitCount_0f7a4_52
set_option maxHeartbeats 4000000 in
set_option maxRecDepth 100000 in
theorem kr_X8_bitAt (l : Launch) (D : va_G) (cI cJ : ClassId) (v : Int64) (k : Int32) : cpI l yX8_bitAt wsX8_bitAt ({ frames := 0, cells := 0, slots := 0, locals := 0 } : Room) D (tyIJ cI cJ) [.long v, .int k] [] (fun (r : Int32) => True) := by
  refine cpI.of (cc := cX8_bitAt) (maxL := 3) (ret := (some .int)) (by decide) rfl (Nat.le_of_ble_eq_true rfl) ?_
  intro p e s m below meth c ls hx hb hr hts hown hml hlocks hname hK hN hP hl
  have hl : lv_has ls 3 [(0, .long v), (2, .int k)] := hl
  have hown : s.vm.findClass RX8 = some m.cls := hown
  refine lv_lload_n hx hb dX8_bitAt_0 rfl (lv_at hl 0 rfl) ?_
  refine lv_iload_n hx hb dX8_bitAt_1 rfl (lv_at hl 1 rfl) ?_
  refine lv_lushr hx hb dX8_bitAt_2 rfl ?_
  refine lv_topl (fun z_1 ez_1 => ?_)
  refine lv_lconst (v := 1) hx hb dX8_bitAt_3 (by decide +kernel) ?_
  refine lv_land hx hb dX8_bitAt_4 ?_
  refine lv_topl (fun z_2 ez_2 => ?_)
  refine lv_l2i hx hb dX8_bitAt_5 rfl ?_
  refine lv_topi (fun z_3 ez_3 => ?_)
  exact my_rpI hx hb hr hlocks (trivial) dX8_bitAt_6
set_option maxHeartbeats 4000000 in
set_option maxRecDepth 100000 in
theorem k0_X1_startOrder (l : Launch) (D : va_G) (cI cJ : ClassId) (h0 : Nat) (bb : Nat) (bo : Nat) (bs : Nat) : ctV l yX1_startOrder wsX1_startOrder ({ frames := 0, cells := 0, slots := 0, locals := 0 } : Room) D (tyIJ cI cJ) [.ref h0] [(h0, .inr (1, [.ref bb, .ref bo, .ref bs, .int 0]))] (fun (u : va_W) => u = [(h0, .inr (1, [.ref bb, .ref bo, .ref bs, .int 0]))]) := by
  refine ctV.of (cc := cX1_startOrder) (maxL := 2) (ret := none) (by decide) rfl (Nat.le_of_ble_eq_true rfl) ?_
  intro p e s m below meth c ls A hx hb hr hts hown hml hlocks hname hA hK hN hP hD hS hl
  have hl : lv_has ls 2 [(0, .ref h0)] := hl
  have hown : s.vm.findClass RX1 = some m.cls := hown
  have hi1 : ∀ w ∈ u_ws RX1 TX1 4, w ∈ wsX1_startOrder := by decide +kernel
  have fl22 := hts (.fieldLink RX1 22 "PlaneColumn$Levels" "size" "I") (by decide +kernel)
  refine lv_iconst (v := 0) hx hb dX1_startOrder_0 (by decide +kernel) ?_
  refine lv_istore_n (lv' := [(1, .int 0), (0, .ref h0)]) hx hb dX1_startOrder_1 rfl hl (by decide) rfl (fun ls hl => ?_)
  refine lv_iload_n hx hb dX1_startOrder_2 rfl (lv_at hl 0 rfl) ?_
  refine lv_aload_n hx hb dX1_startOrder_3 rfl (lv_at hl 1 rfl) ?_
  refine va_get (ci := 1) (v := .int 0) (C := RX1) (T := TX1) (N := 4) hx hb hts hi1 hown hK hP 0 rfl rfl 3 (by decide) fl22 (fun _ h9 => h9) rfl dX1_startOrder_4 ?_
  refine lv_icmp_ge (tgt := 23) hx hb dX1_startOrder_7 (by decide) (fun c7 => ?_) (fun c7 => ?_)
  ·
    exact my_retV hx hb hr hlocks hK hS [(h0, .inr (1, [.ref bb, .ref bo, .ref bs, .int 0]))] (hP.sub [0] rfl) (hD.sub [0] (by decide) rfl) (rfl) dX1_startOrder_23
  ·
    exact absurd c7 (by decide +kernel)
set_option maxHeartbeats 4000000 in
set_option maxRecDepth 100000 in
theorem k0_X1_bitsInOrder (l : Launch) (D : va_G) (cI cJ : ClassId) (h0 : Nat) (bb : Nat) (bo : Nat) (bs : Nat) (nn : Nat) (b : Int32) : cpL l yX1_bitsInOrder wsX1_bitsInOrder ({ frames := 0, cells := 0, slots := 0, locals := 0 } : Room) D (tyIJ cI cJ) [.ref h0, .ref nn, .int b] [(h0, .inr (1, [.ref bb, .ref bo, .ref bs, .int 0]))] (fun (r : Int64) => r = 0) := by
  refine cpL.of (cc := cX1_bitsInOrder) (maxL := 6) (ret := (some .long)) (by decide) rfl (Nat.le_of_ble_eq_true rfl) ?_
  intro p e s m below meth c ls hx hb hr hts hown hml hlocks hname hK hN hP hl
  have hl : lv_has ls 6 [(0, .ref h0), (1, .ref nn), (2, .int b)] := hl
  have hown : s.vm.findClass RX1 = some m.cls := hown
  have hi1 : ∀ w ∈ u_ws RX1 TX1 4, w ∈ wsX1_bitsInOrder := by decide +kernel
  have fl22 := hts (.fieldLink RX1 22 "PlaneColumn$Levels" "size" "I") (by decide +kernel)
  refine lv_lconst (v := 0) hx hb dX1_bitsInOrder_0 (by decide +kernel) ?_
  refine lv_lstore_n (lv' := [(3, .long 0), (0, .ref h0), (1, .ref nn), (2, .int b)]) hx hb dX1_bitsInOrder_1 rfl hl (by decide) rfl (fun ls hl => ?_)
  refine lv_iconst (v := 0) hx hb dX1_bitsInOrder_2 (by decide +kernel) ?_
  refine lv_istore (lv' := [(5, .int 0), (3, .long 0), (0, .ref h0), (1, .ref nn), (2, .int b)]) hx hb dX1_bitsInOrder_3 hl (by decide) rfl (fun ls hl => ?_)
  refine lv_iload hx hb dX1_bitsInOrder_5 (lv_at hl 0 rfl) ?_
  refine lv_aload_n hx hb dX1_bitsInOrder_7 rfl (lv_at hl 2 rfl) ?_
  refine va_get (ci := 1) (v := .int 0) (C := RX1) (T := TX1) (N := 4) hx hb hts hi1 hown hK hP 0 rfl rfl 3 (by decide) fl22 (fun _ h9 => h9) rfl dX1_bitsInOrder_8 ?_
  refine lv_icmp_ge (tgt := 40) hx hb dX1_bitsInOrder_11 (by decide) (fun c11 => ?_) (fun c11 => ?_)
  ·
    refine lv_lload_n hx hb dX1_bitsInOrder_40 rfl (lv_at hl 1 rfl) ?_
    exact my_rpL hx hb hr hlocks (rfl) dX1_bitsInOrder_41
  ·
    exact absurd c11 (by decide +kernel)
set_option maxHeartbeats 4000000 in
set_option maxRecDepth 100000 in
theorem k0_X1_part (l : Launch) (D : va_G) (cI cJ : ClassId) (h0 : Nat) (bb : Nat) (bo : Nat) (bs : Nat) (f : Nat → Int32) (g : Nat → Int32) (v : Int64) : ctV l yX1_part wsX1_part ({ frames := 2, cells := 0, slots := 0, locals := 120 } : Room) D (tyIJ cI cJ) [.ref h0, .long v] [(h0, .inr (1, [.ref bb, .ref bo, .ref bs, .int 0])), (bo, .inl (cI, 64, .inl f)), (bs, .inl (cI, 64, .inl g))] (fun (u : va_W) => u = [(h0, .inr (1, [.ref bb, .ref bo, .ref bs, .int 0])), (bo, .inl (cI, 64, .inl f)), (bs, .inl (cI, 64, .inl g))]) := by
  refine ctV.of (cc := cX1_part) (maxL := 6) (ret := none) (by decide) rfl (Nat.le_of_ble_eq_true rfl) ?_
  intro p e s m below meth c ls A hx hb hr hts hown hml hlocks hname hA hK hN hP hD hS hl
  have hl : lv_has ls 6 [(0, .ref h0), (1, .long v)] := hl
  have hown : s.vm.findClass RX1 = some m.cls := hown
  have hi1 : ∀ w ∈ u_ws RX1 TX1 4, w ∈ wsX1_part := by decide +kernel
  have fl15 := hts (.fieldLink RX1 15 "PlaneColumn$Levels" "order" "[I") (by decide +kernel)
  have fl19 := hts (.fieldLink RX1 19 "PlaneColumn$Levels" "ones" "[I") (by decide +kernel)
  have fl22 := hts (.fieldLink RX1 22 "PlaneColumn$Levels" "size" "I") (by decide +kernel)
  refine lv_iconst (v := 0) hx hb dX1_part_0 (by decide +kernel) ?_
  refine lv_istore_n (lv' := [(3, .int 0), (0, .ref h0), (1, .long v)]) hx hb dX1_part_1 rfl hl (by decide) rfl (fun ls hl => ?_)
  refine lv_iconst (v := 0) hx hb dX1_part_2 (by decide +kernel) ?_
  refine lv_istore (lv' := [(4, .int 0), (3, .int 0), (0, .ref h0), (1, .long v)]) hx hb dX1_part_3 hl (by decide) rfl (fun ls hl => ?_)
  refine lv_iconst (v := 0) hx hb dX1_part_5 (by decide +kernel) ?_
  refine lv_istore (lv' := [(5, .int 0), (4, .int 0), (3, .int 0), (0, .ref h0), (1, .long v)]) hx hb dX1_part_6 hl (by decide) rfl (fun ls hl => ?_)
  refine lv_iload hx hb dX1_part_8 (lv_at hl 0 rfl) ?_
  refine lv_aload_n hx hb dX1_part_10 rfl (lv_at hl 3 rfl) ?_
  refine va_get (ci := 1) (v := .int 0) (C := RX1) (T := TX1) (N := 4) hx hb hts hi1 hown hK hP 0 rfl rfl 3 (by decide) fl22 (fun _ h9 => h9) rfl dX1_part_11 ?_
  refine lv_icmp_ge (tgt := 68) hx hb dX1_part_14 (by decide) (fun c14 => ?_) (fun c14 => ?_)
  ·
    refine lv_aload_n hx hb dX1_part_68 rfl (lv_at hl 3 rfl) ?_
    refine va_get (ci := 1) (v := .ref bs) (C := RX1) (T := TX1) (N := 4) hx hb hts hi1 hown hK hP 0 rfl rfl 2 (by decide) fl19 (fun _ h9 => h9) rfl dX1_part_69 ?_
    refine lv_iconst (v := 0) hx hb dX1_part_72 (by decide +kernel) ?_
    refine lv_aload_n hx hb dX1_part_73 rfl (lv_at hl 3 rfl) ?_
    refine va_get (ci := 1) (v := .ref bo) (C := RX1) (T := TX1) (N := 4) hx hb hts hi1 hown hK hP 0 rfl rfl 1 (by decide) fl15 (fun _ h9 => h9) rfl dX1_part_74 ?_
    refine lv_iload_n hx hb dX1_part_77 rfl (lv_at hl 2 rfl) ?_
    refine lv_iload hx hb dX1_part_78 (lv_at hl 1 rfl) ?_
    refine va_copyi hx hb (hml.trans hl.1.symm) hown (hts (.methodLink RX1 47 arraycopyName) (by decide +kernel)) (hts (.native arraycopyName) (by decide +kernel)) (hts (.static arraycopyName) (by decide +kernel)) (hts (.initialized "java/lang/System") (by decide +kernel)) hK hP hD hS 2 1 0 0 rfl rfl rfl rfl rfl (by decide +kernel) (by decide +kernel) (by decide +kernel) (by decide +kernel) (by decide +kernel) (fun _ _ => rfl) (Nat.le_of_ble_eq_true rfl) (Nat.le_of_ble_eq_true rfl) dX1_part_80 (fun H locs hP hD hS => ?_)
    have eC : va_cpy g f (0 : Int32).toNatClampNeg (0 : Int32).toNatClampNeg (0 : Int32).toNatClampNeg = f := my_cpy0 _ _ _ _ (by decide +kernel)
    rw [eC] at hP hD
    have hP : va_P D vwCl [(h0, .inr (1, [.ref bb, .ref bo, .ref bs, .int 0])), (bo, .inl (cI, 64, .inl f)), (bs, .inl (cI, 64, .inl g))] H := hP
    have hD : va_D A [(h0, .inr (1, [.ref bb, .ref bo, .ref bs, .int 0])), (bo, .inl (cI, 64, .inl f)), (bs, .inl (cI, 64, .inl g))] := hD
    exact my_retV hx hb hr hlocks hK hS [(h0, .inr (1, [.ref bb, .ref bo, .ref bs, .int 0])), (bo, .inl (cI, 64, .inl f)), (bs, .inl (cI, 64, .inl g))] (hP.sub [0, 1, 2] rfl) (hD.sub [0, 1, 2] (by decide) rfl) (rfl) dX1_part_83
  ·
    exact absurd c14 (by decide +kernel)
set_option maxHeartbeats 4000000 in
set_option maxRecDepth 100000 in
theorem k0_X1_remake (l : Launch) (D : va_G) (cI cJ : ClassId) (h0 : Nat) (bb : Nat) (bo : Nat) (bs : Nat) (nn : Nat) (z : Int32) (f : Nat → Int32) (g : Nat → Int32) : ctI l yX1_remake wsX1_remake ({ frames := 3, cells := 0, slots := 0, locals := 180 } : Room) D (tyIJ cI cJ) [.ref h0, .ref nn, .int 0] [(h0, .inr (1, [.ref bb, .ref bo, .ref bs, .int z])), (bo, .inl (cI, 64, .inl f)), (bs, .inl (cI, 64, .inl g)), (bb, .inl (cJ, 8, .inr (.inl (fun _ => (0 : Int64)))))] (fun (r : Int32) (u : va_W) => u = [(h0, .inr (1, [.ref bb, .ref bo, .ref bs, .int 0])), (bo, .inl (cI, 64, .inl f)), (bs, .inl (cI, 64, .inl g)), (bb, .inl (cJ, 8, .inr (.inl (fun _ => (0 : Int64)))))] ∧ r = 0) := by
  refine ctI.of (cc := cX1_remake) (maxL := 7) (ret := (some .int)) (by decide) rfl (Nat.le_of_ble_eq_true rfl) ?_
  intro p e s m below meth c ls A hx hb hr hts hown hml hlocks hname hA hK hN hP hD hS hl
  have hl : lv_has ls 7 [(0, .ref h0), (1, .ref nn), (2, .int 0)] := hl
  have hown : s.vm.findClass RX1 = some m.cls := hown
  have hi1 : ∀ w ∈ u_ws RX1 TX1 4, w ∈ wsX1_remake := by decide +kernel
  have fl22 := hts (.fieldLink RX1 22 "PlaneColumn$Levels" "size" "I") (by decide +kernel)
  have fl9 := hts (.fieldLink RX1 9 "PlaneColumn$Levels" "bits" "[J") (by decide +kernel)
  refine lv_aload_n hx hb dX1_remake_0 rfl (lv_at hl 0 rfl) ?_
  refine lv_iload_n hx hb dX1_remake_1 rfl (lv_at hl 2 rfl) ?_
  refine va_put (ci := 1) (v := .int 0) (ty := (.int)) (C := RX1) (T := TX1) (N := 4) hx hb hts hi1 tyX1 tyX1_ok nmX1 hown hK hP hD hS 0 rfl rfl 3 (by decide) fl22 (fun _ h9 => h9) rfl (by decide +kernel) rfl rfl (Nat.le_of_ble_eq_true rfl) dX1_remake_2 (fun H locs hP hD hS => ?_)
  have hP : va_P D vwCl [(h0, .inr (1, [.ref bb, .ref bo, .ref bs, .int 0])), (bo, .inl (cI, 64, .inl f)), (bs, .inl (cI, 64, .inl g)), (bb, .inl (cJ, 8, .inr (.inl (fun _ => (0 : Int64)))))] H := hP
  have hD : va_D A [(h0, .inr (1, [.ref bb, .ref bo, .ref bs, .int 0])), (bo, .inl (cI, 64, .inl f)), (bs, .inl (cI, 64, .inl g)), (bb, .inl (cJ, 8, .inr (.inl (fun _ => (0 : Int64)))))] := hD
  refine lv_iconst (v := 0) hx hb dX1_remake_5 (by decide +kernel) ?_
  refine lv_istore_n (lv' := [(3, .int 0), (0, .ref h0), (1, .ref nn), (2, .int 0)]) hx hb dX1_remake_6 rfl hl (by decide) rfl (fun ls hl => ?_)
  refine lv_aload_n hx hb dX1_remake_7 rfl (lv_at hl 1 rfl) ?_
  refine my_goV (wr := [(bo, .inl (cI, 64, .inl f)), (bs, .inl (cI, 64, .inl g)), (bb, .inl (cJ, 8, .inr (.inl (fun _ => (0 : Int64)))))]) hP hD hS hA [0] [1, 2, 3] rfl rfl (by decide) (by decide) (my_cV (As := []) (rest := []) (ci := 1) (wc := [(h0, .inr (1, [.ref bb, .ref bo, .ref bs, .int 0]))]) ⟨hx, hb, hml, hown, hts⟩ (cwV 0 hts gX1_remake_X1_startOrder rfl rfl rfl (by decide +kernel) ⟨Nat.le_of_ble_eq_true rfl, Nat.le_of_ble_eq_true rfl⟩) hN hK hP hD [0] rfl (by decide) rfl 0 rfl rfl rfl rfl hl.1 rfl (Nat.le_of_ble_eq_true rfl) dX1_remake_8 ⟨Nat.le_of_ble_eq_true rfl, Nat.le_of_ble_eq_true rfl⟩  ((k0_X1_startOrder l D cI cJ h0 bb bo bs) _)) (fun u H locs hp hP hD hS => ?_)
  obtain rfl := hp
  have hP : va_P D vwCl [(bo, .inl (cI, 64, .inl f)), (bs, .inl (cI, 64, .inl g)), (bb, .inl (cJ, 8, .inr (.inl (fun _ => (0 : Int64))))), (h0, .inr (1, [.ref bb, .ref bo, .ref bs, .int 0]))] H := hP
  have hD : va_D A [(bo, .inl (cI, 64, .inl f)), (bs, .inl (cI, 64, .inl g)), (bb, .inl (cJ, 8, .inr (.inl (fun _ => (0 : Int64))))), (h0, .inr (1, [.ref bb, .ref bo, .ref bs, .int 0]))] := hD
  refine lv_iconst (v := 0) hx hb dX1_remake_11 (by decide +kernel) ?_
  refine lv_istore (lv' := [(4, .int 0), (3, .int 0), (0, .ref h0), (1, .ref nn), (2, .int 0)]) hx hb dX1_remake_12 hl (by decide) rfl (fun ls hl => ?_)
  refine lv_iload hx hb dX1_remake_14 (lv_at hl 0 rfl) ?_
  refine lv_bipush (v := 8) hx hb dX1_remake_16 (by decide +kernel) ?_
  refine lv_icmp_ge (tgt := 70) hx hb dX1_remake_18 (by decide) (fun c18 => ?_) (fun c18 => ?_)
  ·
    exact absurd c18 (by decide +kernel)
  ·
    refine lv_aload_n hx hb dX1_remake_21 rfl (lv_at hl 2 rfl) ?_
    refine lv_aload_n hx hb dX1_remake_22 rfl (lv_at hl 3 rfl) ?_
    refine lv_bipush (v := 7) hx hb dX1_remake_23 (by decide +kernel) ?_
    refine lv_iload hx hb dX1_remake_25 (lv_at hl 0 rfl) ?_
    refine lv_isub hx hb dX1_remake_27 ?_
    refine my_eqi (y := 7) (by decide +kernel) ?_
    refine my_gpL (my_pV (As := [.ref nn, .int 7]) (rest := []) (ci := 1) ⟨hx, hb, hml, hown, hts⟩ (cwV 2 hts gX1_remake_X1_bitsInOrder rfl rfl rfl (by decide +kernel) ⟨Nat.le_of_ble_eq_true rfl, Nat.le_of_ble_eq_true rfl⟩) hN hK hP [3] rfl 3 rfl rfl rfl rfl hl.1 rfl (Nat.le_of_ble_eq_true rfl) dX1_remake_28 ⟨Nat.le_of_ble_eq_true rfl, Nat.le_of_ble_eq_true rfl⟩  (k0_X1_bitsInOrder l D cI cJ h0 bb bo bs nn (7 : Int32))) (fun r hp => ?_)
    obtain rfl := hp
    refine lv_lstore (lv' := [(5, .long 0), (4, .int 0), (3, .int 0), (0, .ref h0), (1, .ref nn), (2, .int 0)]) hx hb dX1_remake_31 hl (by decide) rfl (fun ls hl => ?_)
    refine lv_iload_n hx hb dX1_remake_33 rfl (lv_at hl 2 rfl) ?_
    refine lv_lload hx hb dX1_remake_34 (lv_at hl 0 rfl) ?_
    refine lv_aload_n hx hb dX1_remake_36 rfl (lv_at hl 3 rfl) ?_
    refine va_get (ci := 1) (v := .ref bb) (C := RX1) (T := TX1) (N := 4) hx hb hts hi1 hown hK hP 3 rfl rfl 0 (by decide) fl9 (fun _ h9 => h9) rfl dX1_remake_37 ?_
    refine lv_iload hx hb dX1_remake_40 (lv_at hl 1 rfl) ?_
    refine va_lald hx hb hK hP 2 1 rfl rfl (vp_in_nI (n := 0) (by omega) (by omega)) dX1_remake_42 ?_
    refine my_eql (y := 0) rfl ?_
    refine lv_lxor hx hb dX1_remake_43 ?_
    refine my_eql (y := 0) (by decide +kernel) ?_
    refine my_gpI (my_pS (As := [.long 0]) (rest := [.int 0]) ⟨hx, hb, hml, hown, hts⟩ (va_cwS 1 hts gX1_remake_J13_bitCount_95d88 rfl rfl rfl (by decide +kernel) ⟨Nat.le_of_ble_eq_true rfl, Nat.le_of_ble_eq_true rfl⟩) hN hK hP [] rfl rfl hl.1 rfl (Nat.le_of_ble_eq_true rfl) dX1_remake_44 ⟨Nat.le_of_ble_eq_true rfl, Nat.le_of_ble_eq_true rfl⟩  (k0_J13_bitCount_95d88 l D cI cJ )) (fun r hp => ?_)
    obtain rfl := hp
    refine lv_iadd hx hb dX1_remake_47 ?_
    refine my_eqi (y := 0) (by decide +kernel) ?_
    refine lv_istore_n (lv' := [(3, .int 0), (5, .long 0), (4, .int 0), (0, .ref h0), (1, .ref nn), (2, .int 0)]) hx hb dX1_remake_48 rfl hl (by decide) rfl (fun ls hl => ?_)
    refine lv_aload_n hx hb dX1_remake_49 rfl (lv_at hl 3 rfl) ?_
    refine va_get (ci := 1) (v := .ref bb) (C := RX1) (T := TX1) (N := 4) hx hb hts hi1 hown hK hP 3 rfl rfl 0 (by decide) fl9 (fun _ h9 => h9) rfl dX1_remake_50 ?_
    refine lv_iload hx hb dX1_remake_53 (lv_at hl 2 rfl) ?_
    refine lv_lload hx hb dX1_remake_55 (lv_at hl 1 rfl) ?_
    refine va_last hx hb hK hP hD hS 2 1 rfl rfl (vp_in_nI (n := 0) (by omega) (by omega)) dX1_remake_57 (fun H locs hP hD hS => ?_)
    have eU : vp_updL (fun _ => (0 : Int64)) (0 : Int32).toNatClampNeg 0 = (fun _ => (0 : Int64)) := my_upd0L _
    rw [eU] at hP hD
    have hP : va_P D vwCl [(bo, .inl (cI, 64, .inl f)), (bs, .inl (cI, 64, .inl g)), (bb, .inl (cJ, 8, .inr (.inl (fun _ => (0 : Int64))))), (h0, .inr (1, [.ref bb, .ref bo, .ref bs, .int 0]))] H := hP
    have hD : va_D A [(bo, .inl (cI, 64, .inl f)), (bs, .inl (cI, 64, .inl g)), (bb, .inl (cJ, 8, .inr (.inl (fun _ => (0 : Int64))))), (h0, .inr (1, [.ref bb, .ref bo, .ref bs, .int 0]))] := hD
    refine lv_aload_n hx hb dX1_remake_58 rfl (lv_at hl 3 rfl) ?_
    refine lv_lload hx hb dX1_remake_59 (lv_at hl 1 rfl) ?_
    refine my_goV (wr := [(bb, .inl (cJ, 8, .inr (.inl (fun _ => (0 : Int64)))))]) hP hD hS hA [3, 0, 1] [2] rfl rfl (by decide) (by decide) (my_cV (As := [.long 0]) (rest := []) (ci := 1) (wc := [(h0, .inr (1, [.ref bb, .ref bo, .ref bs, .int 0])), (bo, .inl (cI, 64, .inl f)), (bs, .inl (cI, 64, .inl g))]) ⟨hx, hb, hml, hown, hts⟩ (cwV 1 hts gX1_remake_X1_part rfl rfl rfl (by decide +kernel) ⟨Nat.le_of_ble_eq_true rfl, Nat.le_of_ble_eq_true rfl⟩) hN hK hP hD [3, 0, 1] rfl (by decide) rfl 3 rfl rfl rfl rfl hl.1 rfl (Nat.le_of_ble_eq_true rfl) dX1_remake_61 ⟨Nat.le_of_ble_eq_true rfl, Nat.le_of_ble_eq_true rfl⟩  ((k0_X1_part l D cI cJ h0 bb bo bs f g (0 : Int64)) _)) (fun u H locs hp hP hD hS => ?_)
    obtain rfl := hp
    have hP : va_P D vwCl [(bb, .inl (cJ, 8, .inr (.inl (fun _ => (0 : Int64))))), (h0, .inr (1, [.ref bb, .ref bo, .ref bs, .int 0])), (bo, .inl (cI, 64, .inl f)), (bs, .inl (cI, 64, .inl g))] H := hP
    have hD : va_D A [(bb, .inl (cJ, 8, .inr (.inl (fun _ => (0 : Int64))))), (h0, .inr (1, [.ref bb, .ref bo, .ref bs, .int 0])), (bo, .inl (cI, 64, .inl f)), (bs, .inl (cI, 64, .inl g))] := hD
    refine lv_iinc (v := 1) (lv' := [(4, .int 1), (3, .int 0), (5, .long 0), (0, .ref h0), (1, .ref nn), (2, .int 0)]) hx hb dX1_remake_64 hl (k := 2) rfl (by decide +kernel) (by decide) rfl (fun ls hl => ?_)
    refine lv_goto (tgt := 14) hx hb dX1_remake_67 (by decide) ?_
    refine lv_iload hx hb dX1_remake_14 (lv_at hl 0 rfl) ?_
    refine lv_bipush (v := 8) hx hb dX1_remake_16 (by decide +kernel) ?_
    refine lv_icmp_ge (tgt := 70) hx hb dX1_remake_18 (by decide) (fun c18 => ?_) (fun c18 => ?_)
    ·
      exact absurd c18 (by decide +kernel)
    ·
      refine lv_aload_n hx hb dX1_remake_21 rfl (lv_at hl 3 rfl) ?_
      refine lv_aload_n hx hb dX1_remake_22 rfl (lv_at hl 4 rfl) ?_
      refine lv_bipush (v := 7) hx hb dX1_remake_23 (by decide +kernel) ?_
      refine lv_iload hx hb dX1_remake_25 (lv_at hl 0 rfl) ?_
      refine lv_isub hx hb dX1_remake_27 ?_
      refine my_eqi (y := 6) (by decide +kernel) ?_
      refine my_gpL (my_pV (As := [.ref nn, .int 6]) (rest := []) (ci := 1) ⟨hx, hb, hml, hown, hts⟩ (cwV 2 hts gX1_remake_X1_bitsInOrder rfl rfl rfl (by decide +kernel) ⟨Nat.le_of_ble_eq_true rfl, Nat.le_of_ble_eq_true rfl⟩) hN hK hP [1] rfl 1 rfl rfl rfl rfl hl.1 rfl (Nat.le_of_ble_eq_true rfl) dX1_remake_28 ⟨Nat.le_of_ble_eq_true rfl, Nat.le_of_ble_eq_true rfl⟩  (k0_X1_bitsInOrder l D cI cJ h0 bb bo bs nn (6 : Int32))) (fun r hp => ?_)
      obtain rfl := hp
      refine lv_lstore (lv' := [(5, .long 0), (4, .int 1), (3, .int 0), (0, .ref h0), (1, .ref nn), (2, .int 0)]) hx hb dX1_remake_31 hl (by decide) rfl (fun ls hl => ?_)
      refine lv_iload_n hx hb dX1_remake_33 rfl (lv_at hl 2 rfl) ?_
      refine lv_lload hx hb dX1_remake_34 (lv_at hl 0 rfl) ?_
      refine lv_aload_n hx hb dX1_remake_36 rfl (lv_at hl 3 rfl) ?_
      refine va_get (ci := 1) (v := .ref bb) (C := RX1) (T := TX1) (N := 4) hx hb hts hi1 hown hK hP 1 rfl rfl 0 (by decide) fl9 (fun _ h9 => h9) rfl dX1_remake_37 ?_
      refine lv_iload hx hb dX1_remake_40 (lv_at hl 1 rfl) ?_
      refine va_lald hx hb hK hP 0 1 rfl rfl (vp_in_nI (n := 1) (by omega) (by omega)) dX1_remake_42 ?_
      refine my_eql (y := 0) rfl ?_
      refine lv_lxor hx hb dX1_remake_43 ?_
      refine my_eql (y := 0) (by decide +kernel) ?_
      refine my_gpI (my_pS (As := [.long 0]) (rest := [.int 0]) ⟨hx, hb, hml, hown, hts⟩ (va_cwS 1 hts gX1_remake_J13_bitCount_95d88 rfl rfl rfl (by decide +kernel) ⟨Nat.le_of_ble_eq_true rfl, Nat.le_of_ble_eq_true rfl⟩) hN hK hP [] rfl rfl hl.1 rfl (Nat.le_of_ble_eq_true rfl) dX1_remake_44 ⟨Nat.le_of_ble_eq_true rfl, Nat.le_of_ble_eq_true rfl⟩  (k0_J13_bitCount_95d88 l D cI cJ )) (fun r hp => ?_)
      obtain rfl := hp
      refine lv_iadd hx hb dX1_remake_47 ?_
      refine my_eqi (y := 0) (by decide +kernel) ?_
      refine lv_istore_n (lv' := [(3, .int 0), (5, .long 0), (4, .int 1), (0, .ref h0), (1, .ref nn), (2, .int 0)]) hx hb dX1_remake_48 rfl hl (by decide) rfl (fun ls hl => ?_)
      refine lv_aload_n hx hb dX1_remake_49 rfl (lv_at hl 3 rfl) ?_
      refine va_get (ci := 1) (v := .ref bb) (C := RX1) (T := TX1) (N := 4) hx hb hts hi1 hown hK hP 1 rfl rfl 0 (by decide) fl9 (fun _ h9 => h9) rfl dX1_remake_50 ?_
      refine lv_iload hx hb dX1_remake_53 (lv_at hl 2 rfl) ?_
      refine lv_lload hx hb dX1_remake_55 (lv_at hl 1 rfl) ?_
      refine va_last hx hb hK hP hD hS 0 1 rfl rfl (vp_in_nI (n := 1) (by omega) (by omega)) dX1_remake_57 (fun H locs hP hD hS => ?_)
      have eU : vp_updL (fun _ => (0 : Int64)) (1 : Int32).toNatClampNeg 0 = (fun _ => (0 : Int64)) := my_upd0L _
      rw [eU] at hP hD
      have hP : va_P D vwCl [(bb, .inl (cJ, 8, .inr (.inl (fun _ => (0 : Int64))))), (h0, .inr (1, [.ref bb, .ref bo, .ref bs, .int 0])), (bo, .inl (cI, 64, .inl f)), (bs, .inl (cI, 64, .inl g))] H := hP
      have hD : va_D A [(bb, .inl (cJ, 8, .inr (.inl (fun _ => (0 : Int64))))), (h0, .inr (1, [.ref bb, .ref bo, .ref bs, .int 0])), (bo, .inl (cI, 64, .inl f)), (bs, .inl (cI, 64, .inl g))] := hD
      refine lv_aload_n hx hb dX1_remake_58 rfl (lv_at hl 3 rfl) ?_
      refine lv_lload hx hb dX1_remake_59 (lv_at hl 1 rfl) ?_
      refine my_goV (wr := [(bb, .inl (cJ, 8, .inr (.inl (fun _ => (0 : Int64)))))]) hP hD hS hA [1, 2, 3] [0] rfl rfl (by decide) (by decide) (my_cV (As := [.long 0]) (rest := []) (ci := 1) (wc := [(h0, .inr (1, [.ref bb, .ref bo, .ref bs, .int 0])), (bo, .inl (cI, 64, .inl f)), (bs, .inl (cI, 64, .inl g))]) ⟨hx, hb, hml, hown, hts⟩ (cwV 1 hts gX1_remake_X1_part rfl rfl rfl (by decide +kernel) ⟨Nat.le_of_ble_eq_true rfl, Nat.le_of_ble_eq_true rfl⟩) hN hK hP hD [1, 2, 3] rfl (by decide) rfl 1 rfl rfl rfl rfl hl.1 rfl (Nat.le_of_ble_eq_true rfl) dX1_remake_61 ⟨Nat.le_of_ble_eq_true rfl, Nat.le_of_ble_eq_true rfl⟩  ((k0_X1_part l D cI cJ h0 bb bo bs f g (0 : Int64)) _)) (fun u H locs hp hP hD hS => ?_)
      obtain rfl := hp
      have hP : va_P D vwCl [(bb, .inl (cJ, 8, .inr (.inl (fun _ => (0 : Int64))))), (h0, .inr (1, [.ref bb, .ref bo, .ref bs, .int 0])), (bo, .inl (cI, 64, .inl f)), (bs, .inl (cI, 64, .inl g))] H := hP
      have hD : va_D A [(bb, .inl (cJ, 8, .inr (.inl (fun _ => (0 : Int64))))), (h0, .inr (1, [.ref bb, .ref bo, .ref bs, .int 0])), (bo, .inl (cI, 64, .inl f)), (bs, .inl (cI, 64, .inl g))] := hD
      refine lv_iinc (v := 2) (lv' := [(4, .int 2), (3, .int 0), (5, .long 0), (0, .ref h0), (1, .ref nn), (2, .int 0)]) hx hb dX1_remake_64 hl (k := 2) rfl (by decide +kernel) (by decide) rfl (fun ls hl => ?_)
      refine lv_goto (tgt := 14) hx hb dX1_remake_67 (by decide) ?_
      refine lv_iload hx hb dX1_remake_14 (lv_at hl 0 rfl) ?_
      refine lv_bipush (v := 8) hx hb dX1_remake_16 (by decide +kernel) ?_
      refine lv_icmp_ge (tgt := 70) hx hb dX1_remake_18 (by decide) (fun c18 => ?_) (fun c18 => ?_)
      ·
        exact absurd c18 (by decide +kernel)
      ·
        refine lv_aload_n hx hb dX1_remake_21 rfl (lv_at hl 3 rfl) ?_
        refine lv_aload_n hx hb dX1_remake_22 rfl (lv_at hl 4 rfl) ?_
        refine lv_bipush (v := 7) hx hb dX1_remake_23 (by decide +kernel) ?_
        refine lv_iload hx hb dX1_remake_25 (lv_at hl 0 rfl) ?_
        refine lv_isub hx hb dX1_remake_27 ?_
        refine my_eqi (y := 5) (by decide +kernel) ?_
        refine my_gpL (my_pV (As := [.ref nn, .int 5]) (rest := []) (ci := 1) ⟨hx, hb, hml, hown, hts⟩ (cwV 2 hts gX1_remake_X1_bitsInOrder rfl rfl rfl (by decide +kernel) ⟨Nat.le_of_ble_eq_true rfl, Nat.le_of_ble_eq_true rfl⟩) hN hK hP [1] rfl 1 rfl rfl rfl rfl hl.1 rfl (Nat.le_of_ble_eq_true rfl) dX1_remake_28 ⟨Nat.le_of_ble_eq_true rfl, Nat.le_of_ble_eq_true rfl⟩  (k0_X1_bitsInOrder l D cI cJ h0 bb bo bs nn (5 : Int32))) (fun r hp => ?_)
        obtain rfl := hp
        refine lv_lstore (lv' := [(5, .long 0), (4, .int 2), (3, .int 0), (0, .ref h0), (1, .ref nn), (2, .int 0)]) hx hb dX1_remake_31 hl (by decide) rfl (fun ls hl => ?_)
        refine lv_iload_n hx hb dX1_remake_33 rfl (lv_at hl 2 rfl) ?_
        refine lv_lload hx hb dX1_remake_34 (lv_at hl 0 rfl) ?_
        refine lv_aload_n hx hb dX1_remake_36 rfl (lv_at hl 3 rfl) ?_
        refine va_get (ci := 1) (v := .ref bb) (C := RX1) (T := TX1) (N := 4) hx hb hts hi1 hown hK hP 1 rfl rfl 0 (by decide) fl9 (fun _ h9 => h9) rfl dX1_remake_37 ?_
        refine lv_iload hx hb dX1_remake_40 (lv_at hl 1 rfl) ?_
        refine va_lald hx hb hK hP 0 1 rfl rfl (vp_in_nI (n := 2) (by omega) (by omega)) dX1_remake_42 ?_
        refine my_eql (y := 0) rfl ?_
        refine lv_lxor hx hb dX1_remake_43 ?_
        refine my_eql (y := 0) (by decide +kernel) ?_
        refine my_gpI (my_pS (As := [.long 0]) (rest := [.int 0]) ⟨hx, hb, hml, hown, hts⟩ (va_cwS 1 hts gX1_remake_J13_bitCount_95d88 rfl rfl rfl (by decide +kernel) ⟨Nat.le_of_ble_eq_true rfl, Nat.le_of_ble_eq_true rfl⟩) hN hK hP [] rfl rfl hl.1 rfl (Nat.le_of_ble_eq_true rfl) dX1_remake_44 ⟨Nat.le_of_ble_eq_true rfl, Nat.le_of_ble_eq_true rfl⟩  (k0_J13_bitCount_95d88 l D cI cJ )) (fun r hp => ?_)
        obtain rfl := hp
        refine lv_iadd hx hb dX1_remake_47 ?_
        refine my_eqi (y := 0) (by decide +kernel) ?_
        refine lv_istore_n (lv' := [(3, .int 0), (5, .long 0), (4, .int 2), (0, .ref h0), (1, .ref nn), (2, .int 0)]) hx hb dX1_remake_48 rfl hl (by decide) rfl (fun ls hl => ?_)
        refine lv_aload_n hx hb dX1_remake_49 rfl (lv_at hl 3 rfl) ?_
        refine va_get (ci := 1) (v := .ref bb) (C := RX1) (T := TX1) (N := 4) hx hb hts hi1 hown hK hP 1 rfl rfl 0 (by decide) fl9 (fun _ h9 => h9) rfl dX1_remake_50 ?_
        refine lv_iload hx hb dX1_remake_53 (lv_at hl 2 rfl) ?_
        refine lv_lload hx hb dX1_remake_55 (lv_at hl 1 rfl) ?_
        refine va_last hx hb hK hP hD hS 0 1 rfl rfl (vp_in_nI (n := 2) (by omega) (by omega)) dX1_remake_57 (fun H locs hP hD hS => ?_)
        have eU : vp_updL (fun _ => (0 : Int64)) (2 : Int32).toNatClampNeg 0 = (fun _ => (0 : Int64)) := my_upd0L _
        rw [eU] at hP hD
        have hP : va_P D vwCl [(bb, .inl (cJ, 8, .inr (.inl (fun _ => (0 : Int64))))), (h0, .inr (1, [.ref bb, .ref bo, .ref bs, .int 0])), (bo, .inl (cI, 64, .inl f)), (bs, .inl (cI, 64, .inl g))] H := hP
        have hD : va_D A [(bb, .inl (cJ, 8, .inr (.inl (fun _ => (0 : Int64))))), (h0, .inr (1, [.ref bb, .ref bo, .ref bs, .int 0])), (bo, .inl (cI, 64, .inl f)), (bs, .inl (cI, 64, .inl g))] := hD
        refine lv_aload_n hx hb dX1_remake_58 rfl (lv_at hl 3 rfl) ?_
        refine lv_lload hx hb dX1_remake_59 (lv_at hl 1 rfl) ?_
        refine my_goV (wr := [(bb, .inl (cJ, 8, .inr (.inl (fun _ => (0 : Int64)))))]) hP hD hS hA [1, 2, 3] [0] rfl rfl (by decide) (by decide) (my_cV (As := [.long 0]) (rest := []) (ci := 1) (wc := [(h0, .inr (1, [.ref bb, .ref bo, .ref bs, .int 0])), (bo, .inl (cI, 64, .inl f)), (bs, .inl (cI, 64, .inl g))]) ⟨hx, hb, hml, hown, hts⟩ (cwV 1 hts gX1_remake_X1_part rfl rfl rfl (by decide +kernel) ⟨Nat.le_of_ble_eq_true rfl, Nat.le_of_ble_eq_true rfl⟩) hN hK hP hD [1, 2, 3] rfl (by decide) rfl 1 rfl rfl rfl rfl hl.1 rfl (Nat.le_of_ble_eq_true rfl) dX1_remake_61 ⟨Nat.le_of_ble_eq_true rfl, Nat.le_of_ble_eq_true rfl⟩  ((k0_X1_part l D cI cJ h0 bb bo bs f g (0 : Int64)) _)) (fun u H locs hp hP hD hS => ?_)
        obtain rfl := hp
        have hP : va_P D vwCl [(bb, .inl (cJ, 8, .inr (.inl (fun _ => (0 : Int64))))), (h0, .inr (1, [.ref bb, .ref bo, .ref bs, .int 0])), (bo, .inl (cI, 64, .inl f)), (bs, .inl (cI, 64, .inl g))] H := hP
        have hD : va_D A [(bb, .inl (cJ, 8, .inr (.inl (fun _ => (0 : Int64))))), (h0, .inr (1, [.ref bb, .ref bo, .ref bs, .int 0])), (bo, .inl (cI, 64, .inl f)), (bs, .inl (cI, 64, .inl g))] := hD
        refine lv_iinc (v := 3) (lv' := [(4, .int 3), (3, .int 0), (5, .long 0), (0, .ref h0), (1, .ref nn), (2, .int 0)]) hx hb dX1_remake_64 hl (k := 2) rfl (by decide +kernel) (by decide) rfl (fun ls hl => ?_)
        refine lv_goto (tgt := 14) hx hb dX1_remake_67 (by decide) ?_
        refine lv_iload hx hb dX1_remake_14 (lv_at hl 0 rfl) ?_
        refine lv_bipush (v := 8) hx hb dX1_remake_16 (by decide +kernel) ?_
        refine lv_icmp_ge (tgt := 70) hx hb dX1_remake_18 (by decide) (fun c18 => ?_) (fun c18 => ?_)
        ·
          exact absurd c18 (by decide +kernel)
        ·
          refine lv_aload_n hx hb dX1_remake_21 rfl (lv_at hl 3 rfl) ?_
          refine lv_aload_n hx hb dX1_remake_22 rfl (lv_at hl 4 rfl) ?_
          refine lv_bipush (v := 7) hx hb dX1_remake_23 (by decide +kernel) ?_
          refine lv_iload hx hb dX1_remake_25 (lv_at hl 0 rfl) ?_
          refine lv_isub hx hb dX1_remake_27 ?_
          refine my_eqi (y := 4) (by decide +kernel) ?_
          refine my_gpL (my_pV (As := [.ref nn, .int 4]) (rest := []) (ci := 1) ⟨hx, hb, hml, hown, hts⟩ (cwV 2 hts gX1_remake_X1_bitsInOrder rfl rfl rfl (by decide +kernel) ⟨Nat.le_of_ble_eq_true rfl, Nat.le_of_ble_eq_true rfl⟩) hN hK hP [1] rfl 1 rfl rfl rfl rfl hl.1 rfl (Nat.le_of_ble_eq_true rfl) dX1_remake_28 ⟨Nat.le_of_ble_eq_true rfl, Nat.le_of_ble_eq_true rfl⟩  (k0_X1_bitsInOrder l D cI cJ h0 bb bo bs nn (4 : Int32))) (fun r hp => ?_)
          obtain rfl := hp
          refine lv_lstore (lv' := [(5, .long 0), (4, .int 3), (3, .int 0), (0, .ref h0), (1, .ref nn), (2, .int 0)]) hx hb dX1_remake_31 hl (by decide) rfl (fun ls hl => ?_)
          refine lv_iload_n hx hb dX1_remake_33 rfl (lv_at hl 2 rfl) ?_
          refine lv_lload hx hb dX1_remake_34 (lv_at hl 0 rfl) ?_
          refine lv_aload_n hx hb dX1_remake_36 rfl (lv_at hl 3 rfl) ?_
          refine va_get (ci := 1) (v := .ref bb) (C := RX1) (T := TX1) (N := 4) hx hb hts hi1 hown hK hP 1 rfl rfl 0 (by decide) fl9 (fun _ h9 => h9) rfl dX1_remake_37 ?_
          refine lv_iload hx hb dX1_remake_40 (lv_at hl 1 rfl) ?_
          refine va_lald hx hb hK hP 0 1 rfl rfl (vp_in_nI (n := 3) (by omega) (by omega)) dX1_remake_42 ?_
          refine my_eql (y := 0) rfl ?_
          refine lv_lxor hx hb dX1_remake_43 ?_
          refine my_eql (y := 0) (by decide +kernel) ?_
          refine my_gpI (my_pS (As := [.long 0]) (rest := [.int 0]) ⟨hx, hb, hml, hown, hts⟩ (va_cwS 1 hts gX1_remake_J13_bitCount_95d88 rfl rfl rfl (by decide +kernel) ⟨Nat.le_of_ble_eq_true rfl, Nat.le_of_ble_eq_true rfl⟩) hN hK hP [] rfl rfl hl.1 rfl (Nat.le_of_ble_eq_true rfl) dX1_remake_44 ⟨Nat.le_of_ble_eq_true rfl, Nat.le_of_ble_eq_true rfl⟩  (k0_J13_bitCount_95d88 l D cI cJ )) (fun r hp => ?_)
          obtain rfl := hp
          refine lv_iadd hx hb dX1_remake_47 ?_
          refine my_eqi (y := 0) (by decide +kernel) ?_
          refine lv_istore_n (lv' := [(3, .int 0), (5, .long 0), (4, .int 3), (0, .ref h0), (1, .ref nn), (2, .int 0)]) hx hb dX1_remake_48 rfl hl (by decide) rfl (fun ls hl => ?_)
          refine lv_aload_n hx hb dX1_remake_49 rfl (lv_at hl 3 rfl) ?_
          refine va_get (ci := 1) (v := .ref bb) (C := RX1) (T := TX1) (N := 4) hx hb hts hi1 hown hK hP 1 rfl rfl 0 (by decide) fl9 (fun _ h9 => h9) rfl dX1_remake_50 ?_
          refine lv_iload hx hb dX1_remake_53 (lv_at hl 2 rfl) ?_
          refine lv_lload hx hb dX1_remake_55 (lv_at hl 1 rfl) ?_
          refine va_last hx hb hK hP hD hS 0 1 rfl rfl (vp_in_nI (n := 3) (by omega) (by omega)) dX1_remake_57 (fun H locs hP hD hS => ?_)
          have eU : vp_updL (fun _ => (0 : Int64)) (3 : Int32).toNatClampNeg 0 = (fun _ => (0 : Int64)) := my_upd0L _
          rw [eU] at hP hD
          have hP : va_P D vwCl [(bb, .inl (cJ, 8, .inr (.inl (fun _ => (0 : Int64))))), (h0, .inr (1, [.ref bb, .ref bo, .ref bs, .int 0])), (bo, .inl (cI, 64, .inl f)), (bs, .inl (cI, 64, .inl g))] H := hP
          have hD : va_D A [(bb, .inl (cJ, 8, .inr (.inl (fun _ => (0 : Int64))))), (h0, .inr (1, [.ref bb, .ref bo, .ref bs, .int 0])), (bo, .inl (cI, 64, .inl f)), (bs, .inl (cI, 64, .inl g))] := hD
          refine lv_aload_n hx hb dX1_remake_58 rfl (lv_at hl 3 rfl) ?_
          refine lv_lload hx hb dX1_remake_59 (lv_at hl 1 rfl) ?_
          refine my_goV (wr := [(bb, .inl (cJ, 8, .inr (.inl (fun _ => (0 : Int64)))))]) hP hD hS hA [1, 2, 3] [0] rfl rfl (by decide) (by decide) (my_cV (As := [.long 0]) (rest := []) (ci := 1) (wc := [(h0, .inr (1, [.ref bb, .ref bo, .ref bs, .int 0])), (bo, .inl (cI, 64, .inl f)), (bs, .inl (cI, 64, .inl g))]) ⟨hx, hb, hml, hown, hts⟩ (cwV 1 hts gX1_remake_X1_part rfl rfl rfl (by decide +kernel) ⟨Nat.le_of_ble_eq_true rfl, Nat.le_of_ble_eq_true rfl⟩) hN hK hP hD [1, 2, 3] rfl (by decide) rfl 1 rfl rfl rfl rfl hl.1 rfl (Nat.le_of_ble_eq_true rfl) dX1_remake_61 ⟨Nat.le_of_ble_eq_true rfl, Nat.le_of_ble_eq_true rfl⟩  ((k0_X1_part l D cI cJ h0 bb bo bs f g (0 : Int64)) _)) (fun u H locs hp hP hD hS => ?_)
          obtain rfl := hp
          have hP : va_P D vwCl [(bb, .inl (cJ, 8, .inr (.inl (fun _ => (0 : Int64))))), (h0, .inr (1, [.ref bb, .ref bo, .ref bs, .int 0])), (bo, .inl (cI, 64, .inl f)), (bs, .inl (cI, 64, .inl g))] H := hP
          have hD : va_D A [(bb, .inl (cJ, 8, .inr (.inl (fun _ => (0 : Int64))))), (h0, .inr (1, [.ref bb, .ref bo, .ref bs, .int 0])), (bo, .inl (cI, 64, .inl f)), (bs, .inl (cI, 64, .inl g))] := hD
          refine lv_iinc (v := 4) (lv' := [(4, .int 4), (3, .int 0), (5, .long 0), (0, .ref h0), (1, .ref nn), (2, .int 0)]) hx hb dX1_remake_64 hl (k := 2) rfl (by decide +kernel) (by decide) rfl (fun ls hl => ?_)
          refine lv_goto (tgt := 14) hx hb dX1_remake_67 (by decide) ?_
          refine lv_iload hx hb dX1_remake_14 (lv_at hl 0 rfl) ?_
          refine lv_bipush (v := 8) hx hb dX1_remake_16 (by decide +kernel) ?_
          refine lv_icmp_ge (tgt := 70) hx hb dX1_remake_18 (by decide) (fun c18 => ?_) (fun c18 => ?_)
          ·
            exact absurd c18 (by decide +kernel)
          ·
            refine lv_aload_n hx hb dX1_remake_21 rfl (lv_at hl 3 rfl) ?_
            refine lv_aload_n hx hb dX1_remake_22 rfl (lv_at hl 4 rfl) ?_
            refine lv_bipush (v := 7) hx hb dX1_remake_23 (by decide +kernel) ?_
            refine lv_iload hx hb dX1_remake_25 (lv_at hl 0 rfl) ?_
            refine lv_isub hx hb dX1_remake_27 ?_
            refine my_eqi (y := 3) (by decide +kernel) ?_
            refine my_gpL (my_pV (As := [.ref nn, .int 3]) (rest := []) (ci := 1) ⟨hx, hb, hml, hown, hts⟩ (cwV 2 hts gX1_remake_X1_bitsInOrder rfl rfl rfl (by decide +kernel) ⟨Nat.le_of_ble_eq_true rfl, Nat.le_of_ble_eq_true rfl⟩) hN hK hP [1] rfl 1 rfl rfl rfl rfl hl.1 rfl (Nat.le_of_ble_eq_true rfl) dX1_remake_28 ⟨Nat.le_of_ble_eq_true rfl, Nat.le_of_ble_eq_true rfl⟩  (k0_X1_bitsInOrder l D cI cJ h0 bb bo bs nn (3 : Int32))) (fun r hp => ?_)
            obtain rfl := hp
            refine lv_lstore (lv' := [(5, .long 0), (4, .int 4), (3, .int 0), (0, .ref h0), (1, .ref nn), (2, .int 0)]) hx hb dX1_remake_31 hl (by decide) rfl (fun ls hl => ?_)
            refine lv_iload_n hx hb dX1_remake_33 rfl (lv_at hl 2 rfl) ?_
            refine lv_lload hx hb dX1_remake_34 (lv_at hl 0 rfl) ?_
            refine lv_aload_n hx hb dX1_remake_36 rfl (lv_at hl 3 rfl) ?_
            refine va_get (ci := 1) (v := .ref bb) (C := RX1) (T := TX1) (N := 4) hx hb hts hi1 hown hK hP 1 rfl rfl 0 (by decide) fl9 (fun _ h9 => h9) rfl dX1_remake_37 ?_
            refine lv_iload hx hb dX1_remake_40 (lv_at hl 1 rfl) ?_
            refine va_lald hx hb hK hP 0 1 rfl rfl (vp_in_nI (n := 4) (by omega) (by omega)) dX1_remake_42 ?_
            refine my_eql (y := 0) rfl ?_
            refine lv_lxor hx hb dX1_remake_43 ?_
            refine my_eql (y := 0) (by decide +kernel) ?_
            refine my_gpI (my_pS (As := [.long 0]) (rest := [.int 0]) ⟨hx, hb, hml, hown, hts⟩ (va_cwS 1 hts gX1_remake_J13_bitCount_95d88 rfl rfl rfl (by decide +kernel) ⟨Nat.le_of_ble_eq_true rfl, Nat.le_of_ble_eq_true rfl⟩) hN hK hP [] rfl rfl hl.1 rfl (Nat.le_of_ble_eq_true rfl) dX1_remake_44 ⟨Nat.le_of_ble_eq_true rfl, Nat.le_of_ble_eq_true rfl⟩  (k0_J13_bitCount_95d88 l D cI cJ )) (fun r hp => ?_)
            obtain rfl := hp
            refine lv_iadd hx hb dX1_remake_47 ?_
            refine my_eqi (y := 0) (by decide +kernel) ?_
            refine lv_istore_n (lv' := [(3, .int 0), (5, .long 0), (4, .int 4), (0, .ref h0), (1, .ref nn), (2, .int 0)]) hx hb dX1_remake_48 rfl hl (by decide) rfl (fun ls hl => ?_)
            refine lv_aload_n hx hb dX1_remake_49 rfl (lv_at hl 3 rfl) ?_
            refine va_get (ci := 1) (v := .ref bb) (C := RX1) (T := TX1) (N := 4) hx hb hts hi1 hown hK hP 1 rfl rfl 0 (by decide) fl9 (fun _ h9 => h9) rfl dX1_remake_50 ?_
            refine lv_iload hx hb dX1_remake_53 (lv_at hl 2 rfl) ?_
            refine lv_lload hx hb dX1_remake_55 (lv_at hl 1 rfl) ?_
            refine va_last hx hb hK hP hD hS 0 1 rfl rfl (vp_in_nI (n := 4) (by omega) (by omega)) dX1_remake_57 (fun H locs hP hD hS => ?_)
            have eU : vp_updL (fun _ => (0 : Int64)) (4 : Int32).toNatClampNeg 0 = (fun _ => (0 : Int64)) := my_upd0L _
            rw [eU] at hP hD
            have hP : va_P D vwCl [(bb, .inl (cJ, 8, .inr (.inl (fun _ => (0 : Int64))))), (h0, .inr (1, [.ref bb, .ref bo, .ref bs, .int 0])), (bo, .inl (cI, 64, .inl f)), (bs, .inl (cI, 64, .inl g))] H := hP
            have hD : va_D A [(bb, .inl (cJ, 8, .inr (.inl (fun _ => (0 : Int64))))), (h0, .inr (1, [.ref bb, .ref bo, .ref bs, .int 0])), (bo, .inl (cI, 64, .inl f)), (bs, .inl (cI, 64, .inl g))] := hD
            refine lv_aload_n hx hb dX1_remake_58 rfl (lv_at hl 3 rfl) ?_
            refine lv_lload hx hb dX1_remake_59 (lv_at hl 1 rfl) ?_
            refine my_goV (wr := [(bb, .inl (cJ, 8, .inr (.inl (fun _ => (0 : Int64)))))]) hP hD hS hA [1, 2, 3] [0] rfl rfl (by decide) (by decide) (my_cV (As := [.long 0]) (rest := []) (ci := 1) (wc := [(h0, .inr (1, [.ref bb, .ref bo, .ref bs, .int 0])), (bo, .inl (cI, 64, .inl f)), (bs, .inl (cI, 64, .inl g))]) ⟨hx, hb, hml, hown, hts⟩ (cwV 1 hts gX1_remake_X1_part rfl rfl rfl (by decide +kernel) ⟨Nat.le_of_ble_eq_true rfl, Nat.le_of_ble_eq_true rfl⟩) hN hK hP hD [1, 2, 3] rfl (by decide) rfl 1 rfl rfl rfl rfl hl.1 rfl (Nat.le_of_ble_eq_true rfl) dX1_remake_61 ⟨Nat.le_of_ble_eq_true rfl, Nat.le_of_ble_eq_true rfl⟩  ((k0_X1_part l D cI cJ h0 bb bo bs f g (0 : Int64)) _)) (fun u H locs hp hP hD hS => ?_)
            obtain rfl := hp
            have hP : va_P D vwCl [(bb, .inl (cJ, 8, .inr (.inl (fun _ => (0 : Int64))))), (h0, .inr (1, [.ref bb, .ref bo, .ref bs, .int 0])), (bo, .inl (cI, 64, .inl f)), (bs, .inl (cI, 64, .inl g))] H := hP
            have hD : va_D A [(bb, .inl (cJ, 8, .inr (.inl (fun _ => (0 : Int64))))), (h0, .inr (1, [.ref bb, .ref bo, .ref bs, .int 0])), (bo, .inl (cI, 64, .inl f)), (bs, .inl (cI, 64, .inl g))] := hD
            refine lv_iinc (v := 5) (lv' := [(4, .int 5), (3, .int 0), (5, .long 0), (0, .ref h0), (1, .ref nn), (2, .int 0)]) hx hb dX1_remake_64 hl (k := 2) rfl (by decide +kernel) (by decide) rfl (fun ls hl => ?_)
            refine lv_goto (tgt := 14) hx hb dX1_remake_67 (by decide) ?_
            refine lv_iload hx hb dX1_remake_14 (lv_at hl 0 rfl) ?_
            refine lv_bipush (v := 8) hx hb dX1_remake_16 (by decide +kernel) ?_
            refine lv_icmp_ge (tgt := 70) hx hb dX1_remake_18 (by decide) (fun c18 => ?_) (fun c18 => ?_)
            ·
              exact absurd c18 (by decide +kernel)
            ·
              refine lv_aload_n hx hb dX1_remake_21 rfl (lv_at hl 3 rfl) ?_
              refine lv_aload_n hx hb dX1_remake_22 rfl (lv_at hl 4 rfl) ?_
              refine lv_bipush (v := 7) hx hb dX1_remake_23 (by decide +kernel) ?_
              refine lv_iload hx hb dX1_remake_25 (lv_at hl 0 rfl) ?_
              refine lv_isub hx hb dX1_remake_27 ?_
              refine my_eqi (y := 2) (by decide +kernel) ?_
              refine my_gpL (my_pV (As := [.ref nn, .int 2]) (rest := []) (ci := 1) ⟨hx, hb, hml, hown, hts⟩ (cwV 2 hts gX1_remake_X1_bitsInOrder rfl rfl rfl (by decide +kernel) ⟨Nat.le_of_ble_eq_true rfl, Nat.le_of_ble_eq_true rfl⟩) hN hK hP [1] rfl 1 rfl rfl rfl rfl hl.1 rfl (Nat.le_of_ble_eq_true rfl) dX1_remake_28 ⟨Nat.le_of_ble_eq_true rfl, Nat.le_of_ble_eq_true rfl⟩  (k0_X1_bitsInOrder l D cI cJ h0 bb bo bs nn (2 : Int32))) (fun r hp => ?_)
              obtain rfl := hp
              refine lv_lstore (lv' := [(5, .long 0), (4, .int 5), (3, .int 0), (0, .ref h0), (1, .ref nn), (2, .int 0)]) hx hb dX1_remake_31 hl (by decide) rfl (fun ls hl => ?_)
              refine lv_iload_n hx hb dX1_remake_33 rfl (lv_at hl 2 rfl) ?_
              refine lv_lload hx hb dX1_remake_34 (lv_at hl 0 rfl) ?_
              refine lv_aload_n hx hb dX1_remake_36 rfl (lv_at hl 3 rfl) ?_
              refine va_get (ci := 1) (v := .ref bb) (C := RX1) (T := TX1) (N := 4) hx hb hts hi1 hown hK hP 1 rfl rfl 0 (by decide) fl9 (fun _ h9 => h9) rfl dX1_remake_37 ?_
              refine lv_iload hx hb dX1_remake_40 (lv_at hl 1 rfl) ?_
              refine va_lald hx hb hK hP 0 1 rfl rfl (vp_in_nI (n := 5) (by omega) (by omega)) dX1_remake_42 ?_
              refine my_eql (y := 0) rfl ?_
              refine lv_lxor hx hb dX1_remake_43 ?_
              refine my_eql (y := 0) (by decide +kernel) ?_
              refine my_gpI (my_pS (As := [.long 0]) (rest := [.int 0]) ⟨hx, hb, hml, hown, hts⟩ (va_cwS 1 hts gX1_remake_J13_bitCount_95d88 rfl rfl rfl (by decide +kernel) ⟨Nat.le_of_ble_eq_true rfl, Nat.le_of_ble_eq_true rfl⟩) hN hK hP [] rfl rfl hl.1 rfl (Nat.le_of_ble_eq_true rfl) dX1_remake_44 ⟨Nat.le_of_ble_eq_true rfl, Nat.le_of_ble_eq_true rfl⟩  (k0_J13_bitCount_95d88 l D cI cJ )) (fun r hp => ?_)
              obtain rfl := hp
              refine lv_iadd hx hb dX1_remake_47 ?_
              refine my_eqi (y := 0) (by decide +kernel) ?_
              refine lv_istore_n (lv' := [(3, .int 0), (5, .long 0), (4, .int 5), (0, .ref h0), (1, .ref nn), (2, .int 0)]) hx hb dX1_remake_48 rfl hl (by decide) rfl (fun ls hl => ?_)
              refine lv_aload_n hx hb dX1_remake_49 rfl (lv_at hl 3 rfl) ?_
              refine va_get (ci := 1) (v := .ref bb) (C := RX1) (T := TX1) (N := 4) hx hb hts hi1 hown hK hP 1 rfl rfl 0 (by decide) fl9 (fun _ h9 => h9) rfl dX1_remake_50 ?_
              refine lv_iload hx hb dX1_remake_53 (lv_at hl 2 rfl) ?_
              refine lv_lload hx hb dX1_remake_55 (lv_at hl 1 rfl) ?_
              refine va_last hx hb hK hP hD hS 0 1 rfl rfl (vp_in_nI (n := 5) (by omega) (by omega)) dX1_remake_57 (fun H locs hP hD hS => ?_)
              have eU : vp_updL (fun _ => (0 : Int64)) (5 : Int32).toNatClampNeg 0 = (fun _ => (0 : Int64)) := my_upd0L _
              rw [eU] at hP hD
              have hP : va_P D vwCl [(bb, .inl (cJ, 8, .inr (.inl (fun _ => (0 : Int64))))), (h0, .inr (1, [.ref bb, .ref bo, .ref bs, .int 0])), (bo, .inl (cI, 64, .inl f)), (bs, .inl (cI, 64, .inl g))] H := hP
              have hD : va_D A [(bb, .inl (cJ, 8, .inr (.inl (fun _ => (0 : Int64))))), (h0, .inr (1, [.ref bb, .ref bo, .ref bs, .int 0])), (bo, .inl (cI, 64, .inl f)), (bs, .inl (cI, 64, .inl g))] := hD
              refine lv_aload_n hx hb dX1_remake_58 rfl (lv_at hl 3 rfl) ?_
              refine lv_lload hx hb dX1_remake_59 (lv_at hl 1 rfl) ?_
              refine my_goV (wr := [(bb, .inl (cJ, 8, .inr (.inl (fun _ => (0 : Int64)))))]) hP hD hS hA [1, 2, 3] [0] rfl rfl (by decide) (by decide) (my_cV (As := [.long 0]) (rest := []) (ci := 1) (wc := [(h0, .inr (1, [.ref bb, .ref bo, .ref bs, .int 0])), (bo, .inl (cI, 64, .inl f)), (bs, .inl (cI, 64, .inl g))]) ⟨hx, hb, hml, hown, hts⟩ (cwV 1 hts gX1_remake_X1_part rfl rfl rfl (by decide +kernel) ⟨Nat.le_of_ble_eq_true rfl, Nat.le_of_ble_eq_true rfl⟩) hN hK hP hD [1, 2, 3] rfl (by decide) rfl 1 rfl rfl rfl rfl hl.1 rfl (Nat.le_of_ble_eq_true rfl) dX1_remake_61 ⟨Nat.le_of_ble_eq_true rfl, Nat.le_of_ble_eq_true rfl⟩  ((k0_X1_part l D cI cJ h0 bb bo bs f g (0 : Int64)) _)) (fun u H locs hp hP hD hS => ?_)
              obtain rfl := hp
              have hP : va_P D vwCl [(bb, .inl (cJ, 8, .inr (.inl (fun _ => (0 : Int64))))), (h0, .inr (1, [.ref bb, .ref bo, .ref bs, .int 0])), (bo, .inl (cI, 64, .inl f)), (bs, .inl (cI, 64, .inl g))] H := hP
              have hD : va_D A [(bb, .inl (cJ, 8, .inr (.inl (fun _ => (0 : Int64))))), (h0, .inr (1, [.ref bb, .ref bo, .ref bs, .int 0])), (bo, .inl (cI, 64, .inl f)), (bs, .inl (cI, 64, .inl g))] := hD
              refine lv_iinc (v := 6) (lv' := [(4, .int 6), (3, .int 0), (5, .long 0), (0, .ref h0), (1, .ref nn), (2, .int 0)]) hx hb dX1_remake_64 hl (k := 2) rfl (by decide +kernel) (by decide) rfl (fun ls hl => ?_)
              refine lv_goto (tgt := 14) hx hb dX1_remake_67 (by decide) ?_
              refine lv_iload hx hb dX1_remake_14 (lv_at hl 0 rfl) ?_
              refine lv_bipush (v := 8) hx hb dX1_remake_16 (by decide +kernel) ?_
              refine lv_icmp_ge (tgt := 70) hx hb dX1_remake_18 (by decide) (fun c18 => ?_) (fun c18 => ?_)
              ·
                exact absurd c18 (by decide +kernel)
              ·
                refine lv_aload_n hx hb dX1_remake_21 rfl (lv_at hl 3 rfl) ?_
                refine lv_aload_n hx hb dX1_remake_22 rfl (lv_at hl 4 rfl) ?_
                refine lv_bipush (v := 7) hx hb dX1_remake_23 (by decide +kernel) ?_
                refine lv_iload hx hb dX1_remake_25 (lv_at hl 0 rfl) ?_
                refine lv_isub hx hb dX1_remake_27 ?_
                refine my_eqi (y := 1) (by decide +kernel) ?_
                refine my_gpL (my_pV (As := [.ref nn, .int 1]) (rest := []) (ci := 1) ⟨hx, hb, hml, hown, hts⟩ (cwV 2 hts gX1_remake_X1_bitsInOrder rfl rfl rfl (by decide +kernel) ⟨Nat.le_of_ble_eq_true rfl, Nat.le_of_ble_eq_true rfl⟩) hN hK hP [1] rfl 1 rfl rfl rfl rfl hl.1 rfl (Nat.le_of_ble_eq_true rfl) dX1_remake_28 ⟨Nat.le_of_ble_eq_true rfl, Nat.le_of_ble_eq_true rfl⟩  (k0_X1_bitsInOrder l D cI cJ h0 bb bo bs nn (1 : Int32))) (fun r hp => ?_)
                obtain rfl := hp
                refine lv_lstore (lv' := [(5, .long 0), (4, .int 6), (3, .int 0), (0, .ref h0), (1, .ref nn), (2, .int 0)]) hx hb dX1_remake_31 hl (by decide) rfl (fun ls hl => ?_)
                refine lv_iload_n hx hb dX1_remake_33 rfl (lv_at hl 2 rfl) ?_
                refine lv_lload hx hb dX1_remake_34 (lv_at hl 0 rfl) ?_
                refine lv_aload_n hx hb dX1_remake_36 rfl (lv_at hl 3 rfl) ?_
                refine va_get (ci := 1) (v := .ref bb) (C := RX1) (T := TX1) (N := 4) hx hb hts hi1 hown hK hP 1 rfl rfl 0 (by decide) fl9 (fun _ h9 => h9) rfl dX1_remake_37 ?_
                refine lv_iload hx hb dX1_remake_40 (lv_at hl 1 rfl) ?_
                refine va_lald hx hb hK hP 0 1 rfl rfl (vp_in_nI (n := 6) (by omega) (by omega)) dX1_remake_42 ?_
                refine my_eql (y := 0) rfl ?_
                refine lv_lxor hx hb dX1_remake_43 ?_
                refine my_eql (y := 0) (by decide +kernel) ?_
                refine my_gpI (my_pS (As := [.long 0]) (rest := [.int 0]) ⟨hx, hb, hml, hown, hts⟩ (va_cwS 1 hts gX1_remake_J13_bitCount_95d88 rfl rfl rfl (by decide +kernel) ⟨Nat.le_of_ble_eq_true rfl, Nat.le_of_ble_eq_true rfl⟩) hN hK hP [] rfl rfl hl.1 rfl (Nat.le_of_ble_eq_true rfl) dX1_remake_44 ⟨Nat.le_of_ble_eq_true rfl, Nat.le_of_ble_eq_true rfl⟩  (k0_J13_bitCount_95d88 l D cI cJ )) (fun r hp => ?_)
                obtain rfl := hp
                refine lv_iadd hx hb dX1_remake_47 ?_
                refine my_eqi (y := 0) (by decide +kernel) ?_
                refine lv_istore_n (lv' := [(3, .int 0), (5, .long 0), (4, .int 6), (0, .ref h0), (1, .ref nn), (2, .int 0)]) hx hb dX1_remake_48 rfl hl (by decide) rfl (fun ls hl => ?_)
                refine lv_aload_n hx hb dX1_remake_49 rfl (lv_at hl 3 rfl) ?_
                refine va_get (ci := 1) (v := .ref bb) (C := RX1) (T := TX1) (N := 4) hx hb hts hi1 hown hK hP 1 rfl rfl 0 (by decide) fl9 (fun _ h9 => h9) rfl dX1_remake_50 ?_
                refine lv_iload hx hb dX1_remake_53 (lv_at hl 2 rfl) ?_
                refine lv_lload hx hb dX1_remake_55 (lv_at hl 1 rfl) ?_
                refine va_last hx hb hK hP hD hS 0 1 rfl rfl (vp_in_nI (n := 6) (by omega) (by omega)) dX1_remake_57 (fun H locs hP hD hS => ?_)
                have eU : vp_updL (fun _ => (0 : Int64)) (6 : Int32).toNatClampNeg 0 = (fun _ => (0 : Int64)) := my_upd0L _
                rw [eU] at hP hD
                have hP : va_P D vwCl [(bb, .inl (cJ, 8, .inr (.inl (fun _ => (0 : Int64))))), (h0, .inr (1, [.ref bb, .ref bo, .ref bs, .int 0])), (bo, .inl (cI, 64, .inl f)), (bs, .inl (cI, 64, .inl g))] H := hP
                have hD : va_D A [(bb, .inl (cJ, 8, .inr (.inl (fun _ => (0 : Int64))))), (h0, .inr (1, [.ref bb, .ref bo, .ref bs, .int 0])), (bo, .inl (cI, 64, .inl f)), (bs, .inl (cI, 64, .inl g))] := hD
                refine lv_aload_n hx hb dX1_remake_58 rfl (lv_at hl 3 rfl) ?_
                refine lv_lload hx hb dX1_remake_59 (lv_at hl 1 rfl) ?_
                refine my_goV (wr := [(bb, .inl (cJ, 8, .inr (.inl (fun _ => (0 : Int64)))))]) hP hD hS hA [1, 2, 3] [0] rfl rfl (by decide) (by decide) (my_cV (As := [.long 0]) (rest := []) (ci := 1) (wc := [(h0, .inr (1, [.ref bb, .ref bo, .ref bs, .int 0])), (bo, .inl (cI, 64, .inl f)), (bs, .inl (cI, 64, .inl g))]) ⟨hx, hb, hml, hown, hts⟩ (cwV 1 hts gX1_remake_X1_part rfl rfl rfl (by decide +kernel) ⟨Nat.le_of_ble_eq_true rfl, Nat.le_of_ble_eq_true rfl⟩) hN hK hP hD [1, 2, 3] rfl (by decide) rfl 1 rfl rfl rfl rfl hl.1 rfl (Nat.le_of_ble_eq_true rfl) dX1_remake_61 ⟨Nat.le_of_ble_eq_true rfl, Nat.le_of_ble_eq_true rfl⟩  ((k0_X1_part l D cI cJ h0 bb bo bs f g (0 : Int64)) _)) (fun u H locs hp hP hD hS => ?_)
                obtain rfl := hp
                have hP : va_P D vwCl [(bb, .inl (cJ, 8, .inr (.inl (fun _ => (0 : Int64))))), (h0, .inr (1, [.ref bb, .ref bo, .ref bs, .int 0])), (bo, .inl (cI, 64, .inl f)), (bs, .inl (cI, 64, .inl g))] H := hP
                have hD : va_D A [(bb, .inl (cJ, 8, .inr (.inl (fun _ => (0 : Int64))))), (h0, .inr (1, [.ref bb, .ref bo, .ref bs, .int 0])), (bo, .inl (cI, 64, .inl f)), (bs, .inl (cI, 64, .inl g))] := hD
                refine lv_iinc (v := 7) (lv' := [(4, .int 7), (3, .int 0), (5, .long 0), (0, .ref h0), (1, .ref nn), (2, .int 0)]) hx hb dX1_remake_64 hl (k := 2) rfl (by decide +kernel) (by decide) rfl (fun ls hl => ?_)
                refine lv_goto (tgt := 14) hx hb dX1_remake_67 (by decide) ?_
                refine lv_iload hx hb dX1_remake_14 (lv_at hl 0 rfl) ?_
                refine lv_bipush (v := 8) hx hb dX1_remake_16 (by decide +kernel) ?_
                refine lv_icmp_ge (tgt := 70) hx hb dX1_remake_18 (by decide) (fun c18 => ?_) (fun c18 => ?_)
                ·
                  exact absurd c18 (by decide +kernel)
                ·
                  refine lv_aload_n hx hb dX1_remake_21 rfl (lv_at hl 3 rfl) ?_
                  refine lv_aload_n hx hb dX1_remake_22 rfl (lv_at hl 4 rfl) ?_
                  refine lv_bipush (v := 7) hx hb dX1_remake_23 (by decide +kernel) ?_
                  refine lv_iload hx hb dX1_remake_25 (lv_at hl 0 rfl) ?_
                  refine lv_isub hx hb dX1_remake_27 ?_
                  refine my_eqi (y := 0) (by decide +kernel) ?_
                  refine my_gpL (my_pV (As := [.ref nn, .int 0]) (rest := []) (ci := 1) ⟨hx, hb, hml, hown, hts⟩ (cwV 2 hts gX1_remake_X1_bitsInOrder rfl rfl rfl (by decide +kernel) ⟨Nat.le_of_ble_eq_true rfl, Nat.le_of_ble_eq_true rfl⟩) hN hK hP [1] rfl 1 rfl rfl rfl rfl hl.1 rfl (Nat.le_of_ble_eq_true rfl) dX1_remake_28 ⟨Nat.le_of_ble_eq_true rfl, Nat.le_of_ble_eq_true rfl⟩  (k0_X1_bitsInOrder l D cI cJ h0 bb bo bs nn (0 : Int32))) (fun r hp => ?_)
                  obtain rfl := hp
                  refine lv_lstore (lv' := [(5, .long 0), (4, .int 7), (3, .int 0), (0, .ref h0), (1, .ref nn), (2, .int 0)]) hx hb dX1_remake_31 hl (by decide) rfl (fun ls hl => ?_)
                  refine lv_iload_n hx hb dX1_remake_33 rfl (lv_at hl 2 rfl) ?_
                  refine lv_lload hx hb dX1_remake_34 (lv_at hl 0 rfl) ?_
                  refine lv_aload_n hx hb dX1_remake_36 rfl (lv_at hl 3 rfl) ?_
                  refine va_get (ci := 1) (v := .ref bb) (C := RX1) (T := TX1) (N := 4) hx hb hts hi1 hown hK hP 1 rfl rfl 0 (by decide) fl9 (fun _ h9 => h9) rfl dX1_remake_37 ?_
                  refine lv_iload hx hb dX1_remake_40 (lv_at hl 1 rfl) ?_
                  refine va_lald hx hb hK hP 0 1 rfl rfl (vp_in_nI (n := 7) (by omega) (by omega)) dX1_remake_42 ?_
                  refine my_eql (y := 0) rfl ?_
                  refine lv_lxor hx hb dX1_remake_43 ?_
                  refine my_eql (y := 0) (by decide +kernel) ?_
                  refine my_gpI (my_pS (As := [.long 0]) (rest := [.int 0]) ⟨hx, hb, hml, hown, hts⟩ (va_cwS 1 hts gX1_remake_J13_bitCount_95d88 rfl rfl rfl (by decide +kernel) ⟨Nat.le_of_ble_eq_true rfl, Nat.le_of_ble_eq_true rfl⟩) hN hK hP [] rfl rfl hl.1 rfl (Nat.le_of_ble_eq_true rfl) dX1_remake_44 ⟨Nat.le_of_ble_eq_true rfl, Nat.le_of_ble_eq_true rfl⟩  (k0_J13_bitCount_95d88 l D cI cJ )) (fun r hp => ?_)
                  obtain rfl := hp
                  refine lv_iadd hx hb dX1_remake_47 ?_
                  refine my_eqi (y := 0) (by decide +kernel) ?_
                  refine lv_istore_n (lv' := [(3, .int 0), (5, .long 0), (4, .int 7), (0, .ref h0), (1, .ref nn), (2, .int 0)]) hx hb dX1_remake_48 rfl hl (by decide) rfl (fun ls hl => ?_)
                  refine lv_aload_n hx hb dX1_remake_49 rfl (lv_at hl 3 rfl) ?_
                  refine va_get (ci := 1) (v := .ref bb) (C := RX1) (T := TX1) (N := 4) hx hb hts hi1 hown hK hP 1 rfl rfl 0 (by decide) fl9 (fun _ h9 => h9) rfl dX1_remake_50 ?_
                  refine lv_iload hx hb dX1_remake_53 (lv_at hl 2 rfl) ?_
                  refine lv_lload hx hb dX1_remake_55 (lv_at hl 1 rfl) ?_
                  refine va_last hx hb hK hP hD hS 0 1 rfl rfl (vp_in_nI (n := 7) (by omega) (by omega)) dX1_remake_57 (fun H locs hP hD hS => ?_)
                  have eU : vp_updL (fun _ => (0 : Int64)) (7 : Int32).toNatClampNeg 0 = (fun _ => (0 : Int64)) := my_upd0L _
                  rw [eU] at hP hD
                  have hP : va_P D vwCl [(bb, .inl (cJ, 8, .inr (.inl (fun _ => (0 : Int64))))), (h0, .inr (1, [.ref bb, .ref bo, .ref bs, .int 0])), (bo, .inl (cI, 64, .inl f)), (bs, .inl (cI, 64, .inl g))] H := hP
                  have hD : va_D A [(bb, .inl (cJ, 8, .inr (.inl (fun _ => (0 : Int64))))), (h0, .inr (1, [.ref bb, .ref bo, .ref bs, .int 0])), (bo, .inl (cI, 64, .inl f)), (bs, .inl (cI, 64, .inl g))] := hD
                  refine lv_aload_n hx hb dX1_remake_58 rfl (lv_at hl 3 rfl) ?_
                  refine lv_lload hx hb dX1_remake_59 (lv_at hl 1 rfl) ?_
                  refine my_goV (wr := [(bb, .inl (cJ, 8, .inr (.inl (fun _ => (0 : Int64)))))]) hP hD hS hA [1, 2, 3] [0] rfl rfl (by decide) (by decide) (my_cV (As := [.long 0]) (rest := []) (ci := 1) (wc := [(h0, .inr (1, [.ref bb, .ref bo, .ref bs, .int 0])), (bo, .inl (cI, 64, .inl f)), (bs, .inl (cI, 64, .inl g))]) ⟨hx, hb, hml, hown, hts⟩ (cwV 1 hts gX1_remake_X1_part rfl rfl rfl (by decide +kernel) ⟨Nat.le_of_ble_eq_true rfl, Nat.le_of_ble_eq_true rfl⟩) hN hK hP hD [1, 2, 3] rfl (by decide) rfl 1 rfl rfl rfl rfl hl.1 rfl (Nat.le_of_ble_eq_true rfl) dX1_remake_61 ⟨Nat.le_of_ble_eq_true rfl, Nat.le_of_ble_eq_true rfl⟩  ((k0_X1_part l D cI cJ h0 bb bo bs f g (0 : Int64)) _)) (fun u H locs hp hP hD hS => ?_)
                  obtain rfl := hp
                  have hP : va_P D vwCl [(bb, .inl (cJ, 8, .inr (.inl (fun _ => (0 : Int64))))), (h0, .inr (1, [.ref bb, .ref bo, .ref bs, .int 0])), (bo, .inl (cI, 64, .inl f)), (bs, .inl (cI, 64, .inl g))] H := hP
                  have hD : va_D A [(bb, .inl (cJ, 8, .inr (.inl (fun _ => (0 : Int64))))), (h0, .inr (1, [.ref bb, .ref bo, .ref bs, .int 0])), (bo, .inl (cI, 64, .inl f)), (bs, .inl (cI, 64, .inl g))] := hD
                  refine lv_iinc (v := 8) (lv' := [(4, .int 8), (3, .int 0), (5, .long 0), (0, .ref h0), (1, .ref nn), (2, .int 0)]) hx hb dX1_remake_64 hl (k := 2) rfl (by decide +kernel) (by decide) rfl (fun ls hl => ?_)
                  refine lv_goto (tgt := 14) hx hb dX1_remake_67 (by decide) ?_
                  refine lv_iload hx hb dX1_remake_14 (lv_at hl 0 rfl) ?_
                  refine lv_bipush (v := 8) hx hb dX1_remake_16 (by decide +kernel) ?_
                  refine lv_icmp_ge (tgt := 70) hx hb dX1_remake_18 (by decide) (fun c18 => ?_) (fun c18 => ?_)
                  ·
                    refine lv_iload_n hx hb dX1_remake_70 rfl (lv_at hl 1 rfl) ?_
                    exact my_retI hx hb hr hlocks hK hS [(h0, .inr (1, [.ref bb, .ref bo, .ref bs, .int 0])), (bo, .inl (cI, 64, .inl f)), (bs, .inl (cI, 64, .inl g)), (bb, .inl (cJ, 8, .inr (.inl (fun _ => (0 : Int64)))))] (hP.sub [1, 2, 3, 0] rfl) (hD.sub [1, 2, 3, 0] (by decide) rfl) (⟨rfl, rfl⟩) dX1_remake_71
                  ·
                    exact absurd c18 (by decide +kernel)
set_option maxHeartbeats 4000000 in
set_option maxRecDepth 100000 in
theorem k1_X1_startOrder (l : Launch) (D : va_G) (cI cJ : ClassId) (h0 : Nat) (bb : Nat) (bo : Nat) (bs : Nat) (f : Nat → Int32) : ctV l yX1_startOrder wsX1_startOrder ({ frames := 0, cells := 0, slots := 0, locals := 0 } : Room) D (tyIJ cI cJ) [.ref h0] [(h0, .inr (1, [.ref bb, .ref bo, .ref bs, .int 1])), (bo, .inl (cI, 64, .inl f))] (fun (u : va_W) => ∃ (f' : Nat → Int32), u = [(h0, .inr (1, [.ref bb, .ref bo, .ref bs, .int 1])), (bo, .inl (cI, 64, .inl f'))] ∧ f' 0 = 0) := by
  refine ctV.of (cc := cX1_startOrder) (maxL := 2) (ret := none) (by decide) rfl (Nat.le_of_ble_eq_true rfl) ?_
  intro p e s m below meth c ls A hx hb hr hts hown hml hlocks hname hA hK hN hP hD hS hl
  have hl : lv_has ls 2 [(0, .ref h0)] := hl
  have hown : s.vm.findClass RX1 = some m.cls := hown
  have hi1 : ∀ w ∈ u_ws RX1 TX1 4, w ∈ wsX1_startOrder := by decide +kernel
  have fl15 := hts (.fieldLink RX1 15 "PlaneColumn$Levels" "order" "[I") (by decide +kernel)
  have fl22 := hts (.fieldLink RX1 22 "PlaneColumn$Levels" "size" "I") (by decide +kernel)
  refine lv_iconst (v := 0) hx hb dX1_startOrder_0 (by decide +kernel) ?_
  refine lv_istore_n (lv' := [(1, .int 0), (0, .ref h0)]) hx hb dX1_startOrder_1 rfl hl (by decide) rfl (fun ls hl => ?_)
  refine lv_iload_n hx hb dX1_startOrder_2 rfl (lv_at hl 0 rfl) ?_
  refine lv_aload_n hx hb dX1_startOrder_3 rfl (lv_at hl 1 rfl) ?_
  refine va_get (ci := 1) (v := .int 1) (C := RX1) (T := TX1) (N := 4) hx hb hts hi1 hown hK hP 0 rfl rfl 3 (by decide) fl22 (fun _ h9 => h9) rfl dX1_startOrder_4 ?_
  refine lv_icmp_ge (tgt := 23) hx hb dX1_startOrder_7 (by decide) (fun c7 => ?_) (fun c7 => ?_)
  ·
    exact absurd c7 (by decide +kernel)
  ·
    refine lv_aload_n hx hb dX1_startOrder_10 rfl (lv_at hl 1 rfl) ?_
    refine va_get (ci := 1) (v := .ref bo) (C := RX1) (T := TX1) (N := 4) hx hb hts hi1 hown hK hP 0 rfl rfl 1 (by decide) fl15 (fun _ h9 => h9) rfl dX1_startOrder_11 ?_
    refine lv_iload_n hx hb dX1_startOrder_14 rfl (lv_at hl 0 rfl) ?_
    refine lv_iload_n hx hb dX1_startOrder_15 rfl (lv_at hl 0 rfl) ?_
    refine va_iast hx hb hK hP hD hS 1 0 rfl rfl (vp_in_nI (n := 0) (by omega) (by omega)) dX1_startOrder_16 (fun H locs hP hD hS => ?_)
    have eU : upd f (0 : Int32).toNatClampNeg 0 = upd f 0 0 := by rw [show (0 : Int32).toNatClampNeg = 0 from by decide +kernel]
    rw [eU] at hP hD
    have hP : va_P D vwCl [(h0, .inr (1, [.ref bb, .ref bo, .ref bs, .int 1])), (bo, .inl (cI, 64, .inl (upd f 0 0)))] H := hP
    have hD : va_D A [(h0, .inr (1, [.ref bb, .ref bo, .ref bs, .int 1])), (bo, .inl (cI, 64, .inl (upd f 0 0)))] := hD
    refine lv_iinc (v := 1) (lv' := [(1, .int 1), (0, .ref h0)]) hx hb dX1_startOrder_17 hl (k := 0) rfl (by decide +kernel) (by decide) rfl (fun ls hl => ?_)
    refine lv_goto (tgt := 2) hx hb dX1_startOrder_20 (by decide) ?_
    refine lv_iload_n hx hb dX1_startOrder_2 rfl (lv_at hl 0 rfl) ?_
    refine lv_aload_n hx hb dX1_startOrder_3 rfl (lv_at hl 1 rfl) ?_
    refine va_get (ci := 1) (v := .int 1) (C := RX1) (T := TX1) (N := 4) hx hb hts hi1 hown hK hP 0 rfl rfl 3 (by decide) fl22 (fun _ h9 => h9) rfl dX1_startOrder_4 ?_
    refine lv_icmp_ge (tgt := 23) hx hb dX1_startOrder_7 (by decide) (fun c7 => ?_) (fun c7 => ?_)
    ·
      exact my_retV hx hb hr hlocks hK hS [(h0, .inr (1, [.ref bb, .ref bo, .ref bs, .int 1])), (bo, .inl (cI, 64, .inl (upd f 0 0)))] (hP.sub [0, 1] rfl) (hD.sub [0, 1] (by decide) rfl) (⟨(upd f 0 0), rfl, (by simp [upd])⟩) dX1_startOrder_23
    ·
      exact absurd c7 (by decide +kernel)
set_option maxHeartbeats 4000000 in
set_option maxRecDepth 100000 in
theorem k1_X1_bitsInOrder (l : Launch) (D : va_G) (cI cJ : ClassId) (h0 : Nat) (bb : Nat) (bo : Nat) (bs : Nat) (nn : Nat) (b : Int32) (f : Nat → Int32) (q : Nat → Int32) (hf : f 0 = 0) : cpL l yX1_bitsInOrder wsX1_bitsInOrder ({ frames := 0, cells := 0, slots := 0, locals := 0 } : Room) D (tyIJ cI cJ) [.ref h0, .ref nn, .int b] [(h0, .inr (1, [.ref bb, .ref bo, .ref bs, .int 1])), (bo, .inl (cI, 64, .inl f)), (nn, .inl (cI, 64, .inl q))] (fun (r : Int64) => True) := by
  refine cpL.of (cc := cX1_bitsInOrder) (maxL := 6) (ret := (some .long)) (by decide) rfl (Nat.le_of_ble_eq_true rfl) ?_
  intro p e s m below meth c ls hx hb hr hts hown hml hlocks hname hK hN hP hl
  have hl : lv_has ls 6 [(0, .ref h0), (1, .ref nn), (2, .int b)] := hl
  have hown : s.vm.findClass RX1 = some m.cls := hown
  have hi1 : ∀ w ∈ u_ws RX1 TX1 4, w ∈ wsX1_bitsInOrder := by decide +kernel
  have fl15 := hts (.fieldLink RX1 15 "PlaneColumn$Levels" "order" "[I") (by decide +kernel)
  have fl22 := hts (.fieldLink RX1 22 "PlaneColumn$Levels" "size" "I") (by decide +kernel)
  refine lv_lconst (v := 0) hx hb dX1_bitsInOrder_0 (by decide +kernel) ?_
  refine lv_lstore_n (lv' := [(3, .long 0), (0, .ref h0), (1, .ref nn), (2, .int b)]) hx hb dX1_bitsInOrder_1 rfl hl (by decide) rfl (fun ls hl => ?_)
  refine lv_iconst (v := 0) hx hb dX1_bitsInOrder_2 (by decide +kernel) ?_
  refine lv_istore (lv' := [(5, .int 0), (3, .long 0), (0, .ref h0), (1, .ref nn), (2, .int b)]) hx hb dX1_bitsInOrder_3 hl (by decide) rfl (fun ls hl => ?_)
  refine lv_iload hx hb dX1_bitsInOrder_5 (lv_at hl 0 rfl) ?_
  refine lv_aload_n hx hb dX1_bitsInOrder_7 rfl (lv_at hl 2 rfl) ?_
  refine va_get (ci := 1) (v := .int 1) (C := RX1) (T := TX1) (N := 4) hx hb hts hi1 hown hK hP 0 rfl rfl 3 (by decide) fl22 (fun _ h9 => h9) rfl dX1_bitsInOrder_8 ?_
  refine lv_icmp_ge (tgt := 40) hx hb dX1_bitsInOrder_11 (by decide) (fun c11 => ?_) (fun c11 => ?_)
  ·
    exact absurd c11 (by decide +kernel)
  ·
    refine lv_lload_n hx hb dX1_bitsInOrder_14 rfl (lv_at hl 1 rfl) ?_
    refine lv_aload_n hx hb dX1_bitsInOrder_15 rfl (lv_at hl 3 rfl) ?_
    refine lv_aload_n hx hb dX1_bitsInOrder_16 rfl (lv_at hl 2 rfl) ?_
    refine va_get (ci := 1) (v := .ref bo) (C := RX1) (T := TX1) (N := 4) hx hb hts hi1 hown hK hP 0 rfl rfl 1 (by decide) fl15 (fun _ h9 => h9) rfl dX1_bitsInOrder_17 ?_
    refine lv_iload hx hb dX1_bitsInOrder_20 (lv_at hl 0 rfl) ?_
    refine va_iald hx hb hK hP 1 0 rfl rfl (vp_in_nI (n := 0) (by omega) (by omega)) dX1_bitsInOrder_22 ?_
    refine my_eqi (y := 0) (hf) ?_
    refine va_iald hx hb hK hP 2 0 rfl rfl (vp_in_nI (n := 0) (by omega) (by omega)) dX1_bitsInOrder_23 ?_
    refine my_eqi (y := q 0) (congrArg q (show (0 : Int32).toNatClampNeg = 0 by decide +kernel)) ?_
    refine lv_iload_n hx hb dX1_bitsInOrder_24 rfl (lv_at hl 4 rfl) ?_
    refine lv_ishr hx hb dX1_bitsInOrder_25 ?_
    refine lv_topi (fun z_1 ez_1 => ?_)
    refine lv_iconst (v := 1) hx hb dX1_bitsInOrder_26 (by decide +kernel) ?_
    refine lv_iand hx hb dX1_bitsInOrder_27 ?_
    refine lv_topi (fun z_2 ez_2 => ?_)
    refine lv_i2l (v := z_2.toInt64) hx hb dX1_bitsInOrder_28 rfl ?_
    refine lv_iload hx hb dX1_bitsInOrder_29 (lv_at hl 0 rfl) ?_
    refine lv_lshl hx hb dX1_bitsInOrder_31 rfl ?_
    refine lv_topl (fun z_3 ez_3 => ?_)
    refine lv_lor hx hb dX1_bitsInOrder_32 ?_
    refine lv_topl (fun z_4 ez_4 => ?_)
    refine lv_lstore_n (lv' := [(3, .long z_4), (5, .int 0), (0, .ref h0), (1, .ref nn), (2, .int b)]) hx hb dX1_bitsInOrder_33 rfl hl (by decide) rfl (fun ls hl => ?_)
    refine lv_iinc (v := 1) (lv' := [(5, .int 1), (3, .long z_4), (0, .ref h0), (1, .ref nn), (2, .int b)]) hx hb dX1_bitsInOrder_34 hl (k := 1) rfl (by decide +kernel) (by decide) rfl (fun ls hl => ?_)
    refine lv_goto (tgt := 5) hx hb dX1_bitsInOrder_37 (by decide) ?_
    refine lv_iload hx hb dX1_bitsInOrder_5 (lv_at hl 0 rfl) ?_
    refine lv_aload_n hx hb dX1_bitsInOrder_7 rfl (lv_at hl 2 rfl) ?_
    refine va_get (ci := 1) (v := .int 1) (C := RX1) (T := TX1) (N := 4) hx hb hts hi1 hown hK hP 0 rfl rfl 3 (by decide) fl22 (fun _ h9 => h9) rfl dX1_bitsInOrder_8 ?_
    refine lv_icmp_ge (tgt := 40) hx hb dX1_bitsInOrder_11 (by decide) (fun c11 => ?_) (fun c11 => ?_)
    ·
      refine lv_lload_n hx hb dX1_bitsInOrder_40 rfl (lv_at hl 1 rfl) ?_
      exact my_rpL hx hb hr hlocks (trivial) dX1_bitsInOrder_41
    ·
      exact absurd c11 (by decide +kernel)
set_option maxHeartbeats 4000000 in
set_option maxRecDepth 100000 in
theorem k1_X1_part (l : Launch) (D : va_G) (cI cJ : ClassId) (h0 : Nat) (bb : Nat) (bo : Nat) (bs : Nat) (f : Nat → Int32) (g : Nat → Int32) (v : Int64) (hf : f 0 = 0) : ctV l yX1_part wsX1_part ({ frames := 2, cells := 0, slots := 0, locals := 120 } : Room) D (tyIJ cI cJ) [.ref h0, .long v] [(h0, .inr (1, [.ref bb, .ref bo, .ref bs, .int 1])), (bo, .inl (cI, 64, .inl f)), (bs, .inl (cI, 64, .inl g))] (fun (u : va_W) => ∃ (f' : Nat → Int32) (g' : Nat → Int32), u = [(h0, .inr (1, [.ref bb, .ref bo, .ref bs, .int 1])), (bo, .inl (cI, 64, .inl f')), (bs, .inl (cI, 64, .inl g'))] ∧ f' 0 = 0) := by
  refine ctV.of (cc := cX1_part) (maxL := 6) (ret := none) (by decide) rfl (Nat.le_of_ble_eq_true rfl) ?_
  intro p e s m below meth c ls A hx hb hr hts hown hml hlocks hname hA hK hN hP hD hS hl
  have hl : lv_has ls 6 [(0, .ref h0), (1, .long v)] := hl
  have hown : s.vm.findClass RX1 = some m.cls := hown
  have hi1 : ∀ w ∈ u_ws RX1 TX1 4, w ∈ wsX1_part := by decide +kernel
  have fl15 := hts (.fieldLink RX1 15 "PlaneColumn$Levels" "order" "[I") (by decide +kernel)
  have fl19 := hts (.fieldLink RX1 19 "PlaneColumn$Levels" "ones" "[I") (by decide +kernel)
  have fl22 := hts (.fieldLink RX1 22 "PlaneColumn$Levels" "size" "I") (by decide +kernel)
  refine lv_iconst (v := 0) hx hb dX1_part_0 (by decide +kernel) ?_
  refine lv_istore_n (lv' := [(3, .int 0), (0, .ref h0), (1, .long v)]) hx hb dX1_part_1 rfl hl (by decide) rfl (fun ls hl => ?_)
  refine lv_iconst (v := 0) hx hb dX1_part_2 (by decide +kernel) ?_
  refine lv_istore (lv' := [(4, .int 0), (3, .int 0), (0, .ref h0), (1, .long v)]) hx hb dX1_part_3 hl (by decide) rfl (fun ls hl => ?_)
  refine lv_iconst (v := 0) hx hb dX1_part_5 (by decide +kernel) ?_
  refine lv_istore (lv' := [(5, .int 0), (4, .int 0), (3, .int 0), (0, .ref h0), (1, .long v)]) hx hb dX1_part_6 hl (by decide) rfl (fun ls hl => ?_)
  refine lv_iload hx hb dX1_part_8 (lv_at hl 0 rfl) ?_
  refine lv_aload_n hx hb dX1_part_10 rfl (lv_at hl 3 rfl) ?_
  refine va_get (ci := 1) (v := .int 1) (C := RX1) (T := TX1) (N := 4) hx hb hts hi1 hown hK hP 0 rfl rfl 3 (by decide) fl22 (fun _ h9 => h9) rfl dX1_part_11 ?_
  refine lv_icmp_ge (tgt := 68) hx hb dX1_part_14 (by decide) (fun c14 => ?_) (fun c14 => ?_)
  ·
    exact absurd c14 (by decide +kernel)
  ·
    refine lv_lload_n hx hb dX1_part_17 rfl (lv_at hl 4 rfl) ?_
    refine lv_iload hx hb dX1_part_18 (lv_at hl 0 rfl) ?_
    refine my_gpI (my_pSN (As := [.long v, .int 0]) (rest := []) ⟨hx, hb, hml, hown, hts⟩ ⟨va_cnB 2 hts ggX1_part_X8_bitAt rfl rfl rfl (nw_m_RX1_43 hN) (hts (.initialized RX8) (by decide +kernel)) (by decide +kernel) ⟨Nat.le_of_ble_eq_true rfl, Nat.le_of_ble_eq_true rfl⟩, hts (.static yX8_bitAt) (by decide +kernel), trivial⟩ hN hK hP [] rfl rfl hl.1 rfl (Nat.le_of_ble_eq_true rfl) dX1_part_20 ⟨Nat.le_of_ble_eq_true rfl, Nat.le_of_ble_eq_true rfl⟩  (kr_X8_bitAt l D cI cJ v (0 : Int32))) (fun r hp => ?_)
    obtain _ := hp
    obtain ⟨r_1, rfl⟩ : ∃ z, z = r := ⟨_, rfl⟩
    refine lv_if_ne (tgt := 45) hx hb dX1_part_23 (by decide) (fun c23 => ?_) (fun c23 => ?_)
    ·
      have d23 : r_1.toInt ≠ (0 : Int) := my_ne c23 rfl (by decide +kernel)
      refine lv_aload_n hx hb dX1_part_45 rfl (lv_at hl 3 rfl) ?_
      refine va_get (ci := 1) (v := .ref bs) (C := RX1) (T := TX1) (N := 4) hx hb hts hi1 hown hK hP 0 rfl rfl 2 (by decide) fl19 (fun _ h9 => h9) rfl dX1_part_46 ?_
      refine lv_iload hx hb dX1_part_49 (lv_at hl 1 rfl) ?_
      refine lv_aload_n hx hb dX1_part_51 rfl (lv_at hl 3 rfl) ?_
      refine va_get (ci := 1) (v := .ref bo) (C := RX1) (T := TX1) (N := 4) hx hb hts hi1 hown hK hP 0 rfl rfl 1 (by decide) fl15 (fun _ h9 => h9) rfl dX1_part_52 ?_
      refine lv_iload hx hb dX1_part_55 (lv_at hl 0 rfl) ?_
      refine va_iald hx hb hK hP 1 0 rfl rfl (vp_in_nI (n := 0) (by omega) (by omega)) dX1_part_57 ?_
      refine my_eqi (y := f 0) (congrArg f (show (0 : Int32).toNatClampNeg = 0 by decide +kernel)) ?_
      refine va_iast hx hb hK hP hD hS 2 0 rfl rfl (vp_in_nI (n := 0) (by omega) (by omega)) dX1_part_58 (fun H locs hP hD hS => ?_)
      have eU : upd g (0 : Int32).toNatClampNeg (f 0) = upd g 0 (f 0) := by rw [show (0 : Int32).toNatClampNeg = 0 from by decide +kernel]
      rw [eU] at hP hD
      have hP : va_P D vwCl [(h0, .inr (1, [.ref bb, .ref bo, .ref bs, .int 1])), (bo, .inl (cI, 64, .inl f)), (bs, .inl (cI, 64, .inl (upd g 0 (f 0))))] H := hP
      have hD : va_D A [(h0, .inr (1, [.ref bb, .ref bo, .ref bs, .int 1])), (bo, .inl (cI, 64, .inl f)), (bs, .inl (cI, 64, .inl (upd g 0 (f 0))))] := hD
      refine lv_iinc (v := 1) (lv' := [(4, .int 1), (5, .int 0), (3, .int 0), (0, .ref h0), (1, .long v)]) hx hb dX1_part_59 hl (k := 1) rfl (by decide +kernel) (by decide) rfl (fun ls hl => ?_)
      refine lv_iinc (v := 1) (lv' := [(5, .int 1), (4, .int 1), (3, .int 0), (0, .ref h0), (1, .long v)]) hx hb dX1_part_62 hl (k := 1) rfl (by decide +kernel) (by decide) rfl (fun ls hl => ?_)
      refine lv_goto (tgt := 8) hx hb dX1_part_65 (by decide) ?_
      refine lv_iload hx hb dX1_part_8 (lv_at hl 0 rfl) ?_
      refine lv_aload_n hx hb dX1_part_10 rfl (lv_at hl 3 rfl) ?_
      refine va_get (ci := 1) (v := .int 1) (C := RX1) (T := TX1) (N := 4) hx hb hts hi1 hown hK hP 0 rfl rfl 3 (by decide) fl22 (fun _ h9 => h9) rfl dX1_part_11 ?_
      refine lv_icmp_ge (tgt := 68) hx hb dX1_part_14 (by decide) (fun c14 => ?_) (fun c14 => ?_)
      ·
        refine lv_aload_n hx hb dX1_part_68 rfl (lv_at hl 3 rfl) ?_
        refine va_get (ci := 1) (v := .ref bs) (C := RX1) (T := TX1) (N := 4) hx hb hts hi1 hown hK hP 0 rfl rfl 2 (by decide) fl19 (fun _ h9 => h9) rfl dX1_part_69 ?_
        refine lv_iconst (v := 0) hx hb dX1_part_72 (by decide +kernel) ?_
        refine lv_aload_n hx hb dX1_part_73 rfl (lv_at hl 3 rfl) ?_
        refine va_get (ci := 1) (v := .ref bo) (C := RX1) (T := TX1) (N := 4) hx hb hts hi1 hown hK hP 0 rfl rfl 1 (by decide) fl15 (fun _ h9 => h9) rfl dX1_part_74 ?_
        refine lv_iload_n hx hb dX1_part_77 rfl (lv_at hl 2 rfl) ?_
        refine lv_iload hx hb dX1_part_78 (lv_at hl 1 rfl) ?_
        refine va_copyi hx hb (hml.trans hl.1.symm) hown (hts (.methodLink RX1 47 arraycopyName) (by decide +kernel)) (hts (.native arraycopyName) (by decide +kernel)) (hts (.static arraycopyName) (by decide +kernel)) (hts (.initialized "java/lang/System") (by decide +kernel)) hK hP hD hS 2 1 0 0 rfl rfl rfl rfl rfl (by decide +kernel) (by decide +kernel) (by decide +kernel) (by decide +kernel) (by decide +kernel) (fun _ _ => rfl) (Nat.le_of_ble_eq_true rfl) (Nat.le_of_ble_eq_true rfl) dX1_part_80 (fun H locs hP hD hS => ?_)
        have hP : va_P D vwCl [(h0, .inr (1, [.ref bb, .ref bo, .ref bs, .int 1])), (bo, .inl (cI, 64, .inl (va_cpy (upd g 0 (f 0)) f (0 : Int32).toNatClampNeg (0 : Int32).toNatClampNeg (1 : Int32).toNatClampNeg))), (bs, .inl (cI, 64, .inl (upd g 0 (f 0))))] H := hP
        have hD : va_D A [(h0, .inr (1, [.ref bb, .ref bo, .ref bs, .int 1])), (bo, .inl (cI, 64, .inl (va_cpy (upd g 0 (f 0)) f (0 : Int32).toNatClampNeg (0 : Int32).toNatClampNeg (1 : Int32).toNatClampNeg))), (bs, .inl (cI, 64, .inl (upd g 0 (f 0))))] := hD
        exact my_retV hx hb hr hlocks hK hS [(h0, .inr (1, [.ref bb, .ref bo, .ref bs, .int 1])), (bo, .inl (cI, 64, .inl (va_cpy (upd g 0 (f 0)) f (0 : Int32).toNatClampNeg (0 : Int32).toNatClampNeg (1 : Int32).toNatClampNeg))), (bs, .inl (cI, 64, .inl (upd g 0 (f 0))))] (hP.sub [0, 1, 2] rfl) (hD.sub [0, 1, 2] (by decide) rfl) (⟨(va_cpy (upd g 0 (f 0)) f (0 : Int32).toNatClampNeg (0 : Int32).toNatClampNeg (1 : Int32).toNatClampNeg), (upd g 0 (f 0)), rfl, (by simp [upd, va_cpy, hf])⟩) dX1_part_83
      ·
        exact absurd c14 (by decide +kernel)
    ·
      have d23 : r_1.toInt = (0 : Int) := my_eq c23 rfl (by decide +kernel)
      refine lv_aload_n hx hb dX1_part_26 rfl (lv_at hl 3 rfl) ?_
      refine va_get (ci := 1) (v := .ref bo) (C := RX1) (T := TX1) (N := 4) hx hb hts hi1 hown hK hP 0 rfl rfl 1 (by decide) fl15 (fun _ h9 => h9) rfl dX1_part_27 ?_
      refine lv_iload_n hx hb dX1_part_30 rfl (lv_at hl 2 rfl) ?_
      refine lv_aload_n hx hb dX1_part_31 rfl (lv_at hl 3 rfl) ?_
      refine va_get (ci := 1) (v := .ref bo) (C := RX1) (T := TX1) (N := 4) hx hb hts hi1 hown hK hP 0 rfl rfl 1 (by decide) fl15 (fun _ h9 => h9) rfl dX1_part_32 ?_
      refine lv_iload hx hb dX1_part_35 (lv_at hl 0 rfl) ?_
      refine va_iald hx hb hK hP 1 0 rfl rfl (vp_in_nI (n := 0) (by omega) (by omega)) dX1_part_37 ?_
      refine my_eqi (y := f 0) (congrArg f (show (0 : Int32).toNatClampNeg = 0 by decide +kernel)) ?_
      refine va_iast hx hb hK hP hD hS 1 0 rfl rfl (vp_in_nI (n := 0) (by omega) (by omega)) dX1_part_38 (fun H locs hP hD hS => ?_)
      have eU : upd f (0 : Int32).toNatClampNeg (f 0) = upd f 0 (f 0) := by rw [show (0 : Int32).toNatClampNeg = 0 from by decide +kernel]
      rw [eU] at hP hD
      have hP : va_P D vwCl [(h0, .inr (1, [.ref bb, .ref bo, .ref bs, .int 1])), (bo, .inl (cI, 64, .inl (upd f 0 (f 0)))), (bs, .inl (cI, 64, .inl g))] H := hP
      have hD : va_D A [(h0, .inr (1, [.ref bb, .ref bo, .ref bs, .int 1])), (bo, .inl (cI, 64, .inl (upd f 0 (f 0)))), (bs, .inl (cI, 64, .inl g))] := hD
      refine lv_iinc (v := 1) (lv' := [(3, .int 1), (5, .int 0), (4, .int 0), (0, .ref h0), (1, .long v)]) hx hb dX1_part_39 hl (k := 2) rfl (by decide +kernel) (by decide) rfl (fun ls hl => ?_)
      refine lv_goto (tgt := 62) hx hb dX1_part_42 (by decide) ?_
      refine lv_iinc (v := 1) (lv' := [(5, .int 1), (3, .int 1), (4, .int 0), (0, .ref h0), (1, .long v)]) hx hb dX1_part_62 hl (k := 1) rfl (by decide +kernel) (by decide) rfl (fun ls hl => ?_)
      refine lv_goto (tgt := 8) hx hb dX1_part_65 (by decide) ?_
      refine lv_iload hx hb dX1_part_8 (lv_at hl 0 rfl) ?_
      refine lv_aload_n hx hb dX1_part_10 rfl (lv_at hl 3 rfl) ?_
      refine va_get (ci := 1) (v := .int 1) (C := RX1) (T := TX1) (N := 4) hx hb hts hi1 hown hK hP 0 rfl rfl 3 (by decide) fl22 (fun _ h9 => h9) rfl dX1_part_11 ?_
      refine lv_icmp_ge (tgt := 68) hx hb dX1_part_14 (by decide) (fun c14 => ?_) (fun c14 => ?_)
      ·
        refine lv_aload_n hx hb dX1_part_68 rfl (lv_at hl 3 rfl) ?_
        refine va_get (ci := 1) (v := .ref bs) (C := RX1) (T := TX1) (N := 4) hx hb hts hi1 hown hK hP 0 rfl rfl 2 (by decide) fl19 (fun _ h9 => h9) rfl dX1_part_69 ?_
        refine lv_iconst (v := 0) hx hb dX1_part_72 (by decide +kernel) ?_
        refine lv_aload_n hx hb dX1_part_73 rfl (lv_at hl 3 rfl) ?_
        refine va_get (ci := 1) (v := .ref bo) (C := RX1) (T := TX1) (N := 4) hx hb hts hi1 hown hK hP 0 rfl rfl 1 (by decide) fl15 (fun _ h9 => h9) rfl dX1_part_74 ?_
        refine lv_iload_n hx hb dX1_part_77 rfl (lv_at hl 1 rfl) ?_
        refine lv_iload hx hb dX1_part_78 (lv_at hl 2 rfl) ?_
        refine va_copyi hx hb (hml.trans hl.1.symm) hown (hts (.methodLink RX1 47 arraycopyName) (by decide +kernel)) (hts (.native arraycopyName) (by decide +kernel)) (hts (.static arraycopyName) (by decide +kernel)) (hts (.initialized "java/lang/System") (by decide +kernel)) hK hP hD hS 2 1 0 0 rfl rfl rfl rfl rfl (by decide +kernel) (by decide +kernel) (by decide +kernel) (by decide +kernel) (by decide +kernel) (fun _ _ => rfl) (Nat.le_of_ble_eq_true rfl) (Nat.le_of_ble_eq_true rfl) dX1_part_80 (fun H locs hP hD hS => ?_)
        have hP : va_P D vwCl [(h0, .inr (1, [.ref bb, .ref bo, .ref bs, .int 1])), (bo, .inl (cI, 64, .inl (va_cpy g (upd f 0 (f 0)) (0 : Int32).toNatClampNeg (1 : Int32).toNatClampNeg (0 : Int32).toNatClampNeg))), (bs, .inl (cI, 64, .inl g))] H := hP
        have hD : va_D A [(h0, .inr (1, [.ref bb, .ref bo, .ref bs, .int 1])), (bo, .inl (cI, 64, .inl (va_cpy g (upd f 0 (f 0)) (0 : Int32).toNatClampNeg (1 : Int32).toNatClampNeg (0 : Int32).toNatClampNeg))), (bs, .inl (cI, 64, .inl g))] := hD
        exact my_retV hx hb hr hlocks hK hS [(h0, .inr (1, [.ref bb, .ref bo, .ref bs, .int 1])), (bo, .inl (cI, 64, .inl (va_cpy g (upd f 0 (f 0)) (0 : Int32).toNatClampNeg (1 : Int32).toNatClampNeg (0 : Int32).toNatClampNeg))), (bs, .inl (cI, 64, .inl g))] (hP.sub [0, 1, 2] rfl) (hD.sub [0, 1, 2] (by decide) rfl) (⟨(va_cpy g (upd f 0 (f 0)) (0 : Int32).toNatClampNeg (1 : Int32).toNatClampNeg (0 : Int32).toNatClampNeg), g, rfl, (by simp [upd, va_cpy, hf])⟩) dX1_part_83
      ·
        exact absurd c14 (by decide +kernel)
set_option maxHeartbeats 4000000 in
set_option maxRecDepth 100000 in
theorem k1_X1_remake (l : Launch) (D : va_G) (cI cJ : ClassId) (h0 : Nat) (bb : Nat) (bo : Nat) (bs : Nat) (nn : Nat) (z : Int32) (f : Nat → Int32) (g : Nat → Int32) (q : Nat → Int32) (b : Nat → Int64) : ctI l yX1_remake wsX1_remake ({ frames := 3, cells := 0, slots := 0, locals := 180 } : Room) D (tyIJ cI cJ) [.ref h0, .ref nn, .int 1] [(h0, .inr (1, [.ref bb, .ref bo, .ref bs, .int z])), (bo, .inl (cI, 64, .inl f)), (bs, .inl (cI, 64, .inl g)), (bb, .inl (cJ, 8, .inr (.inl b))), (nn, .inl (cI, 64, .inl q))] (fun (r : Int32) (u : va_W) => u = [(h0, .inr (1, [.ref bb, .ref bo, .ref bs, .int 1]))]) := by
  refine ctI.of (cc := cX1_remake) (maxL := 7) (ret := (some .int)) (by decide) rfl (Nat.le_of_ble_eq_true rfl) ?_
  intro p e s m below meth c ls A hx hb hr hts hown hml hlocks hname hA hK hN hP hD hS hl
  have hl : lv_has ls 7 [(0, .ref h0), (1, .ref nn), (2, .int 1)] := hl
  have hown : s.vm.findClass RX1 = some m.cls := hown
  have hi1 : ∀ w ∈ u_ws RX1 TX1 4, w ∈ wsX1_remake := by decide +kernel
  have fl22 := hts (.fieldLink RX1 22 "PlaneColumn$Levels" "size" "I") (by decide +kernel)
  have fl9 := hts (.fieldLink RX1 9 "PlaneColumn$Levels" "bits" "[J") (by decide +kernel)
  refine lv_aload_n hx hb dX1_remake_0 rfl (lv_at hl 0 rfl) ?_
  refine lv_iload_n hx hb dX1_remake_1 rfl (lv_at hl 2 rfl) ?_
  refine va_put (ci := 1) (v := .int 1) (ty := (.int)) (C := RX1) (T := TX1) (N := 4) hx hb hts hi1 tyX1 tyX1_ok nmX1 hown hK hP hD hS 0 rfl rfl 3 (by decide) fl22 (fun _ h9 => h9) rfl (by decide +kernel) rfl rfl (Nat.le_of_ble_eq_true rfl) dX1_remake_2 (fun H locs hP hD hS => ?_)
  have hP : va_P D vwCl [(h0, .inr (1, [.ref bb, .ref bo, .ref bs, .int 1])), (bo, .inl (cI, 64, .inl f)), (bs, .inl (cI, 64, .inl g)), (bb, .inl (cJ, 8, .inr (.inl b))), (nn, .inl (cI, 64, .inl q))] H := hP
  have hD : va_D A [(h0, .inr (1, [.ref bb, .ref bo, .ref bs, .int 1])), (bo, .inl (cI, 64, .inl f)), (bs, .inl (cI, 64, .inl g)), (bb, .inl (cJ, 8, .inr (.inl b))), (nn, .inl (cI, 64, .inl q))] := hD
  refine lv_iconst (v := 0) hx hb dX1_remake_5 (by decide +kernel) ?_
  refine lv_istore_n (lv' := [(3, .int 0), (0, .ref h0), (1, .ref nn), (2, .int 1)]) hx hb dX1_remake_6 rfl hl (by decide) rfl (fun ls hl => ?_)
  refine lv_aload_n hx hb dX1_remake_7 rfl (lv_at hl 1 rfl) ?_
  refine my_goV (wr := [(bs, .inl (cI, 64, .inl g)), (bb, .inl (cJ, 8, .inr (.inl b))), (nn, .inl (cI, 64, .inl q))]) hP hD hS hA [0, 1] [2, 3, 4] rfl rfl (by decide) (by decide) (my_cV (As := []) (rest := []) (ci := 1) (wc := [(h0, .inr (1, [.ref bb, .ref bo, .ref bs, .int 1])), (bo, .inl (cI, 64, .inl f))]) ⟨hx, hb, hml, hown, hts⟩ (cwV 0 hts gX1_remake_X1_startOrder rfl rfl rfl (by decide +kernel) ⟨Nat.le_of_ble_eq_true rfl, Nat.le_of_ble_eq_true rfl⟩) hN hK hP hD [0, 1] rfl (by decide) rfl 0 rfl rfl rfl rfl hl.1 rfl (Nat.le_of_ble_eq_true rfl) dX1_remake_8 ⟨Nat.le_of_ble_eq_true rfl, Nat.le_of_ble_eq_true rfl⟩  ((k1_X1_startOrder l D cI cJ h0 bb bo bs f) _)) (fun u H locs hp hP hD hS => ?_)
  obtain ⟨f_1, rfl, ha_2⟩ := hp
  have hP : va_P D vwCl [(bs, .inl (cI, 64, .inl g)), (bb, .inl (cJ, 8, .inr (.inl b))), (nn, .inl (cI, 64, .inl q)), (h0, .inr (1, [.ref bb, .ref bo, .ref bs, .int 1])), (bo, .inl (cI, 64, .inl f_1))] H := hP
  have hD : va_D A [(bs, .inl (cI, 64, .inl g)), (bb, .inl (cJ, 8, .inr (.inl b))), (nn, .inl (cI, 64, .inl q)), (h0, .inr (1, [.ref bb, .ref bo, .ref bs, .int 1])), (bo, .inl (cI, 64, .inl f_1))] := hD
  refine lv_iconst (v := 0) hx hb dX1_remake_11 (by decide +kernel) ?_
  refine lv_istore (lv' := [(4, .int 0), (3, .int 0), (0, .ref h0), (1, .ref nn), (2, .int 1)]) hx hb dX1_remake_12 hl (by decide) rfl (fun ls hl => ?_)
  refine lv_iload hx hb dX1_remake_14 (lv_at hl 0 rfl) ?_
  refine lv_bipush (v := 8) hx hb dX1_remake_16 (by decide +kernel) ?_
  refine lv_icmp_ge (tgt := 70) hx hb dX1_remake_18 (by decide) (fun c18 => ?_) (fun c18 => ?_)
  ·
    exact absurd c18 (by decide +kernel)
  ·
    refine lv_aload_n hx hb dX1_remake_21 rfl (lv_at hl 2 rfl) ?_
    refine lv_aload_n hx hb dX1_remake_22 rfl (lv_at hl 3 rfl) ?_
    refine lv_bipush (v := 7) hx hb dX1_remake_23 (by decide +kernel) ?_
    refine lv_iload hx hb dX1_remake_25 (lv_at hl 0 rfl) ?_
    refine lv_isub hx hb dX1_remake_27 ?_
    refine my_eqi (y := 7) (by decide +kernel) ?_
    refine my_gpL (my_pV (As := [.ref nn, .int 7]) (rest := []) (ci := 1) ⟨hx, hb, hml, hown, hts⟩ (cwV 2 hts gX1_remake_X1_bitsInOrder rfl rfl rfl (by decide +kernel) ⟨Nat.le_of_ble_eq_true rfl, Nat.le_of_ble_eq_true rfl⟩) hN hK hP [3, 4, 2] rfl 3 rfl rfl rfl rfl hl.1 rfl (Nat.le_of_ble_eq_true rfl) dX1_remake_28 ⟨Nat.le_of_ble_eq_true rfl, Nat.le_of_ble_eq_true rfl⟩  (k1_X1_bitsInOrder l D cI cJ h0 bb bo bs nn (7 : Int32) f_1 q (by assumption))) (fun r hp => ?_)
    obtain _ := hp
    obtain ⟨r_3, rfl⟩ : ∃ z, z = r := ⟨_, rfl⟩
    refine lv_lstore (lv' := [(5, .long r_3), (4, .int 0), (3, .int 0), (0, .ref h0), (1, .ref nn), (2, .int 1)]) hx hb dX1_remake_31 hl (by decide) rfl (fun ls hl => ?_)
    refine lv_iload_n hx hb dX1_remake_33 rfl (lv_at hl 2 rfl) ?_
    refine lv_lload hx hb dX1_remake_34 (lv_at hl 0 rfl) ?_
    refine lv_aload_n hx hb dX1_remake_36 rfl (lv_at hl 3 rfl) ?_
    refine va_get (ci := 1) (v := .ref bb) (C := RX1) (T := TX1) (N := 4) hx hb hts hi1 hown hK hP 3 rfl rfl 0 (by decide) fl9 (fun _ h9 => h9) rfl dX1_remake_37 ?_
    refine lv_iload hx hb dX1_remake_40 (lv_at hl 1 rfl) ?_
    refine va_lald hx hb hK hP 1 1 rfl rfl (vp_in_nI (n := 0) (by omega) (by omega)) dX1_remake_42 ?_
    refine my_eql (y := b 0) (congrArg b (show (0 : Int32).toNatClampNeg = 0 by decide +kernel)) ?_
    refine lv_lxor hx hb dX1_remake_43 ?_
    refine lv_topl (fun z_4 ez_4 => ?_)
    refine my_gpI (my_pS (As := [.long z_4]) (rest := [.int 0]) ⟨hx, hb, hml, hown, hts⟩ (va_cwS 1 hts gX1_remake_J13_bitCount_95d88 rfl rfl rfl (by decide +kernel) ⟨Nat.le_of_ble_eq_true rfl, Nat.le_of_ble_eq_true rfl⟩) hN hK hP [] rfl rfl hl.1 rfl (Nat.le_of_ble_eq_true rfl) dX1_remake_44 ⟨Nat.le_of_ble_eq_true rfl, Nat.le_of_ble_eq_true rfl⟩  (kr_J13_bitCount_95d88 l D cI cJ z_4)) (fun r hp => ?_)
    obtain _ := hp
    obtain ⟨r_5, rfl⟩ : ∃ z, z = r := ⟨_, rfl⟩
    refine lv_iadd hx hb dX1_remake_47 ?_
    refine lv_topi (fun z_6 ez_6 => ?_)
    refine lv_istore_n (lv' := [(3, .int z_6), (5, .long r_3), (4, .int 0), (0, .ref h0), (1, .ref nn), (2, .int 1)]) hx hb dX1_remake_48 rfl hl (by decide) rfl (fun ls hl => ?_)
    refine lv_aload_n hx hb dX1_remake_49 rfl (lv_at hl 3 rfl) ?_
    refine va_get (ci := 1) (v := .ref bb) (C := RX1) (T := TX1) (N := 4) hx hb hts hi1 hown hK hP 3 rfl rfl 0 (by decide) fl9 (fun _ h9 => h9) rfl dX1_remake_50 ?_
    refine lv_iload hx hb dX1_remake_53 (lv_at hl 2 rfl) ?_
    refine lv_lload hx hb dX1_remake_55 (lv_at hl 1 rfl) ?_
    refine va_last hx hb hK hP hD hS 1 1 rfl rfl (vp_in_nI (n := 0) (by omega) (by omega)) dX1_remake_57 (fun H locs hP hD hS => ?_)
    have eU : vp_updL b (0 : Int32).toNatClampNeg r_3 = vp_updL b 0 r_3 := by rw [show (0 : Int32).toNatClampNeg = 0 from by decide +kernel]
    rw [eU] at hP hD
    have hP : va_P D vwCl [(bs, .inl (cI, 64, .inl g)), (bb, .inl (cJ, 8, .inr (.inl (vp_updL b 0 r_3)))), (nn, .inl (cI, 64, .inl q)), (h0, .inr (1, [.ref bb, .ref bo, .ref bs, .int 1])), (bo, .inl (cI, 64, .inl f_1))] H := hP
    have hD : va_D A [(bs, .inl (cI, 64, .inl g)), (bb, .inl (cJ, 8, .inr (.inl (vp_updL b 0 r_3)))), (nn, .inl (cI, 64, .inl q)), (h0, .inr (1, [.ref bb, .ref bo, .ref bs, .int 1])), (bo, .inl (cI, 64, .inl f_1))] := hD
    refine lv_aload_n hx hb dX1_remake_58 rfl (lv_at hl 3 rfl) ?_
    refine lv_lload hx hb dX1_remake_59 (lv_at hl 1 rfl) ?_
    refine my_goV (wr := [(bb, .inl (cJ, 8, .inr (.inl (vp_updL b 0 r_3)))), (nn, .inl (cI, 64, .inl q))]) hP hD hS hA [3, 4, 0] [1, 2] rfl rfl (by decide) (by decide) (my_cV (As := [.long r_3]) (rest := []) (ci := 1) (wc := [(h0, .inr (1, [.ref bb, .ref bo, .ref bs, .int 1])), (bo, .inl (cI, 64, .inl f_1)), (bs, .inl (cI, 64, .inl g))]) ⟨hx, hb, hml, hown, hts⟩ (cwV 1 hts gX1_remake_X1_part rfl rfl rfl (by decide +kernel) ⟨Nat.le_of_ble_eq_true rfl, Nat.le_of_ble_eq_true rfl⟩) hN hK hP hD [3, 4, 0] rfl (by decide) rfl 3 rfl rfl rfl rfl hl.1 rfl (Nat.le_of_ble_eq_true rfl) dX1_remake_61 ⟨Nat.le_of_ble_eq_true rfl, Nat.le_of_ble_eq_true rfl⟩  ((k1_X1_part l D cI cJ h0 bb bo bs f_1 g r_3 (by assumption)) _)) (fun u H locs hp hP hD hS => ?_)
    obtain ⟨f_7, g_8, rfl, ha_9⟩ := hp
    have hP : va_P D vwCl [(bb, .inl (cJ, 8, .inr (.inl (vp_updL b 0 r_3)))), (nn, .inl (cI, 64, .inl q)), (h0, .inr (1, [.ref bb, .ref bo, .ref bs, .int 1])), (bo, .inl (cI, 64, .inl f_7)), (bs, .inl (cI, 64, .inl g_8))] H := hP
    have hD : va_D A [(bb, .inl (cJ, 8, .inr (.inl (vp_updL b 0 r_3)))), (nn, .inl (cI, 64, .inl q)), (h0, .inr (1, [.ref bb, .ref bo, .ref bs, .int 1])), (bo, .inl (cI, 64, .inl f_7)), (bs, .inl (cI, 64, .inl g_8))] := hD
    refine lv_iinc (v := 1) (lv' := [(4, .int 1), (3, .int z_6), (5, .long r_3), (0, .ref h0), (1, .ref nn), (2, .int 1)]) hx hb dX1_remake_64 hl (k := 2) rfl (by decide +kernel) (by decide) rfl (fun ls hl => ?_)
    refine lv_goto (tgt := 14) hx hb dX1_remake_67 (by decide) ?_
    refine lv_iload hx hb dX1_remake_14 (lv_at hl 0 rfl) ?_
    refine lv_bipush (v := 8) hx hb dX1_remake_16 (by decide +kernel) ?_
    refine lv_icmp_ge (tgt := 70) hx hb dX1_remake_18 (by decide) (fun c18 => ?_) (fun c18 => ?_)
    ·
      exact absurd c18 (by decide +kernel)
    ·
      refine lv_aload_n hx hb dX1_remake_21 rfl (lv_at hl 3 rfl) ?_
      refine lv_aload_n hx hb dX1_remake_22 rfl (lv_at hl 4 rfl) ?_
      refine lv_bipush (v := 7) hx hb dX1_remake_23 (by decide +kernel) ?_
      refine lv_iload hx hb dX1_remake_25 (lv_at hl 0 rfl) ?_
      refine lv_isub hx hb dX1_remake_27 ?_
      refine my_eqi (y := 6) (by decide +kernel) ?_
      refine my_gpL (my_pV (As := [.ref nn, .int 6]) (rest := []) (ci := 1) ⟨hx, hb, hml, hown, hts⟩ (cwV 2 hts gX1_remake_X1_bitsInOrder rfl rfl rfl (by decide +kernel) ⟨Nat.le_of_ble_eq_true rfl, Nat.le_of_ble_eq_true rfl⟩) hN hK hP [2, 3, 1] rfl 2 rfl rfl rfl rfl hl.1 rfl (Nat.le_of_ble_eq_true rfl) dX1_remake_28 ⟨Nat.le_of_ble_eq_true rfl, Nat.le_of_ble_eq_true rfl⟩  (k1_X1_bitsInOrder l D cI cJ h0 bb bo bs nn (6 : Int32) f_7 q (by assumption))) (fun r hp => ?_)
      obtain _ := hp
      obtain ⟨r_10, rfl⟩ : ∃ z, z = r := ⟨_, rfl⟩
      refine lv_lstore (lv' := [(5, .long r_10), (4, .int 1), (3, .int z_6), (0, .ref h0), (1, .ref nn), (2, .int 1)]) hx hb dX1_remake_31 hl (by decide) rfl (fun ls hl => ?_)
      refine lv_iload_n hx hb dX1_remake_33 rfl (lv_at hl 2 rfl) ?_
      refine lv_lload hx hb dX1_remake_34 (lv_at hl 0 rfl) ?_
      refine lv_aload_n hx hb dX1_remake_36 rfl (lv_at hl 3 rfl) ?_
      refine va_get (ci := 1) (v := .ref bb) (C := RX1) (T := TX1) (N := 4) hx hb hts hi1 hown hK hP 2 rfl rfl 0 (by decide) fl9 (fun _ h9 => h9) rfl dX1_remake_37 ?_
      refine lv_iload hx hb dX1_remake_40 (lv_at hl 1 rfl) ?_
      refine va_lald hx hb hK hP 0 1 rfl rfl (vp_in_nI (n := 1) (by omega) (by omega)) dX1_remake_42 ?_
      refine my_eql (y := (vp_updL b 0 r_3) 1) (congrArg (vp_updL b 0 r_3) (show (1 : Int32).toNatClampNeg = 1 by decide +kernel)) ?_
      refine lv_lxor hx hb dX1_remake_43 ?_
      refine lv_topl (fun z_11 ez_11 => ?_)
      refine my_gpI (my_pS (As := [.long z_11]) (rest := [.int z_6]) ⟨hx, hb, hml, hown, hts⟩ (va_cwS 1 hts gX1_remake_J13_bitCount_95d88 rfl rfl rfl (by decide +kernel) ⟨Nat.le_of_ble_eq_true rfl, Nat.le_of_ble_eq_true rfl⟩) hN hK hP [] rfl rfl hl.1 rfl (Nat.le_of_ble_eq_true rfl) dX1_remake_44 ⟨Nat.le_of_ble_eq_true rfl, Nat.le_of_ble_eq_true rfl⟩  (kr_J13_bitCount_95d88 l D cI cJ z_11)) (fun r hp => ?_)
      obtain _ := hp
      obtain ⟨r_12, rfl⟩ : ∃ z, z = r := ⟨_, rfl⟩
      refine lv_iadd hx hb dX1_remake_47 ?_
      refine lv_topi (fun z_13 ez_13 => ?_)
      refine lv_istore_n (lv' := [(3, .int z_13), (5, .long r_10), (4, .int 1), (0, .ref h0), (1, .ref nn), (2, .int 1)]) hx hb dX1_remake_48 rfl hl (by decide) rfl (fun ls hl => ?_)
      refine lv_aload_n hx hb dX1_remake_49 rfl (lv_at hl 3 rfl) ?_
      refine va_get (ci := 1) (v := .ref bb) (C := RX1) (T := TX1) (N := 4) hx hb hts hi1 hown hK hP 2 rfl rfl 0 (by decide) fl9 (fun _ h9 => h9) rfl dX1_remake_50 ?_
      refine lv_iload hx hb dX1_remake_53 (lv_at hl 2 rfl) ?_
      refine lv_lload hx hb dX1_remake_55 (lv_at hl 1 rfl) ?_
      refine va_last hx hb hK hP hD hS 0 1 rfl rfl (vp_in_nI (n := 1) (by omega) (by omega)) dX1_remake_57 (fun H locs hP hD hS => ?_)
      have eU : vp_updL (vp_updL b 0 r_3) (1 : Int32).toNatClampNeg r_10 = vp_updL (vp_updL b 0 r_3) 1 r_10 := by rw [show (1 : Int32).toNatClampNeg = 1 from by decide +kernel]
      rw [eU] at hP hD
      have hP : va_P D vwCl [(bb, .inl (cJ, 8, .inr (.inl (vp_updL (vp_updL b 0 r_3) 1 r_10)))), (nn, .inl (cI, 64, .inl q)), (h0, .inr (1, [.ref bb, .ref bo, .ref bs, .int 1])), (bo, .inl (cI, 64, .inl f_7)), (bs, .inl (cI, 64, .inl g_8))] H := hP
      have hD : va_D A [(bb, .inl (cJ, 8, .inr (.inl (vp_updL (vp_updL b 0 r_3) 1 r_10)))), (nn, .inl (cI, 64, .inl q)), (h0, .inr (1, [.ref bb, .ref bo, .ref bs, .int 1])), (bo, .inl (cI, 64, .inl f_7)), (bs, .inl (cI, 64, .inl g_8))] := hD
      refine lv_aload_n hx hb dX1_remake_58 rfl (lv_at hl 3 rfl) ?_
      refine lv_lload hx hb dX1_remake_59 (lv_at hl 1 rfl) ?_
      refine my_goV (wr := [(bb, .inl (cJ, 8, .inr (.inl (vp_updL (vp_updL b 0 r_3) 1 r_10)))), (nn, .inl (cI, 64, .inl q))]) hP hD hS hA [2, 3, 4] [0, 1] rfl rfl (by decide) (by decide) (my_cV (As := [.long r_10]) (rest := []) (ci := 1) (wc := [(h0, .inr (1, [.ref bb, .ref bo, .ref bs, .int 1])), (bo, .inl (cI, 64, .inl f_7)), (bs, .inl (cI, 64, .inl g_8))]) ⟨hx, hb, hml, hown, hts⟩ (cwV 1 hts gX1_remake_X1_part rfl rfl rfl (by decide +kernel) ⟨Nat.le_of_ble_eq_true rfl, Nat.le_of_ble_eq_true rfl⟩) hN hK hP hD [2, 3, 4] rfl (by decide) rfl 2 rfl rfl rfl rfl hl.1 rfl (Nat.le_of_ble_eq_true rfl) dX1_remake_61 ⟨Nat.le_of_ble_eq_true rfl, Nat.le_of_ble_eq_true rfl⟩  ((k1_X1_part l D cI cJ h0 bb bo bs f_7 g_8 r_10 (by assumption)) _)) (fun u H locs hp hP hD hS => ?_)
      obtain ⟨f_14, g_15, rfl, ha_16⟩ := hp
      have hP : va_P D vwCl [(bb, .inl (cJ, 8, .inr (.inl (vp_updL (vp_updL b 0 r_3) 1 r_10)))), (nn, .inl (cI, 64, .inl q)), (h0, .inr (1, [.ref bb, .ref bo, .ref bs, .int 1])), (bo, .inl (cI, 64, .inl f_14)), (bs, .inl (cI, 64, .inl g_15))] H := hP
      have hD : va_D A [(bb, .inl (cJ, 8, .inr (.inl (vp_updL (vp_updL b 0 r_3) 1 r_10)))), (nn, .inl (cI, 64, .inl q)), (h0, .inr (1, [.ref bb, .ref bo, .ref bs, .int 1])), (bo, .inl (cI, 64, .inl f_14)), (bs, .inl (cI, 64, .inl g_15))] := hD
      refine lv_iinc (v := 2) (lv' := [(4, .int 2), (3, .int z_13), (5, .long r_10), (0, .ref h0), (1, .ref nn), (2, .int 1)]) hx hb dX1_remake_64 hl (k := 2) rfl (by decide +kernel) (by decide) rfl (fun ls hl => ?_)
      refine lv_goto (tgt := 14) hx hb dX1_remake_67 (by decide) ?_
      refine lv_iload hx hb dX1_remake_14 (lv_at hl 0 rfl) ?_
      refine lv_bipush (v := 8) hx hb dX1_remake_16 (by decide +kernel) ?_
      refine lv_icmp_ge (tgt := 70) hx hb dX1_remake_18 (by decide) (fun c18 => ?_) (fun c18 => ?_)
      ·
        exact absurd c18 (by decide +kernel)
      ·
        refine lv_aload_n hx hb dX1_remake_21 rfl (lv_at hl 3 rfl) ?_
        refine lv_aload_n hx hb dX1_remake_22 rfl (lv_at hl 4 rfl) ?_
        refine lv_bipush (v := 7) hx hb dX1_remake_23 (by decide +kernel) ?_
        refine lv_iload hx hb dX1_remake_25 (lv_at hl 0 rfl) ?_
        refine lv_isub hx hb dX1_remake_27 ?_
        refine my_eqi (y := 5) (by decide +kernel) ?_
        refine my_gpL (my_pV (As := [.ref nn, .int 5]) (rest := []) (ci := 1) ⟨hx, hb, hml, hown, hts⟩ (cwV 2 hts gX1_remake_X1_bitsInOrder rfl rfl rfl (by decide +kernel) ⟨Nat.le_of_ble_eq_true rfl, Nat.le_of_ble_eq_true rfl⟩) hN hK hP [2, 3, 1] rfl 2 rfl rfl rfl rfl hl.1 rfl (Nat.le_of_ble_eq_true rfl) dX1_remake_28 ⟨Nat.le_of_ble_eq_true rfl, Nat.le_of_ble_eq_true rfl⟩  (k1_X1_bitsInOrder l D cI cJ h0 bb bo bs nn (5 : Int32) f_14 q (by assumption))) (fun r hp => ?_)
        obtain _ := hp
        obtain ⟨r_17, rfl⟩ : ∃ z, z = r := ⟨_, rfl⟩
        refine lv_lstore (lv' := [(5, .long r_17), (4, .int 2), (3, .int z_13), (0, .ref h0), (1, .ref nn), (2, .int 1)]) hx hb dX1_remake_31 hl (by decide) rfl (fun ls hl => ?_)
        refine lv_iload_n hx hb dX1_remake_33 rfl (lv_at hl 2 rfl) ?_
        refine lv_lload hx hb dX1_remake_34 (lv_at hl 0 rfl) ?_
        refine lv_aload_n hx hb dX1_remake_36 rfl (lv_at hl 3 rfl) ?_
        refine va_get (ci := 1) (v := .ref bb) (C := RX1) (T := TX1) (N := 4) hx hb hts hi1 hown hK hP 2 rfl rfl 0 (by decide) fl9 (fun _ h9 => h9) rfl dX1_remake_37 ?_
        refine lv_iload hx hb dX1_remake_40 (lv_at hl 1 rfl) ?_
        refine va_lald hx hb hK hP 0 1 rfl rfl (vp_in_nI (n := 2) (by omega) (by omega)) dX1_remake_42 ?_
        refine my_eql (y := (vp_updL (vp_updL b 0 r_3) 1 r_10) 2) (congrArg (vp_updL (vp_updL b 0 r_3) 1 r_10) (show (2 : Int32).toNatClampNeg = 2 by decide +kernel)) ?_
        refine lv_lxor hx hb dX1_remake_43 ?_
        refine lv_topl (fun z_18 ez_18 => ?_)
        refine my_gpI (my_pS (As := [.long z_18]) (rest := [.int z_13]) ⟨hx, hb, hml, hown, hts⟩ (va_cwS 1 hts gX1_remake_J13_bitCount_95d88 rfl rfl rfl (by decide +kernel) ⟨Nat.le_of_ble_eq_true rfl, Nat.le_of_ble_eq_true rfl⟩) hN hK hP [] rfl rfl hl.1 rfl (Nat.le_of_ble_eq_true rfl) dX1_remake_44 ⟨Nat.le_of_ble_eq_true rfl, Nat.le_of_ble_eq_true rfl⟩  (kr_J13_bitCount_95d88 l D cI cJ z_18)) (fun r hp => ?_)
        obtain _ := hp
        obtain ⟨r_19, rfl⟩ : ∃ z, z = r := ⟨_, rfl⟩
        refine lv_iadd hx hb dX1_remake_47 ?_
        refine lv_topi (fun z_20 ez_20 => ?_)
        refine lv_istore_n (lv' := [(3, .int z_20), (5, .long r_17), (4, .int 2), (0, .ref h0), (1, .ref nn), (2, .int 1)]) hx hb dX1_remake_48 rfl hl (by decide) rfl (fun ls hl => ?_)
        refine lv_aload_n hx hb dX1_remake_49 rfl (lv_at hl 3 rfl) ?_
        refine va_get (ci := 1) (v := .ref bb) (C := RX1) (T := TX1) (N := 4) hx hb hts hi1 hown hK hP 2 rfl rfl 0 (by decide) fl9 (fun _ h9 => h9) rfl dX1_remake_50 ?_
        refine lv_iload hx hb dX1_remake_53 (lv_at hl 2 rfl) ?_
        refine lv_lload hx hb dX1_remake_55 (lv_at hl 1 rfl) ?_
        refine va_last hx hb hK hP hD hS 0 1 rfl rfl (vp_in_nI (n := 2) (by omega) (by omega)) dX1_remake_57 (fun H locs hP hD hS => ?_)
        have eU : vp_updL (vp_updL (vp_updL b 0 r_3) 1 r_10) (2 : Int32).toNatClampNeg r_17 = vp_updL (vp_updL (vp_updL b 0 r_3) 1 r_10) 2 r_17 := by rw [show (2 : Int32).toNatClampNeg = 2 from by decide +kernel]
        rw [eU] at hP hD
        have hP : va_P D vwCl [(bb, .inl (cJ, 8, .inr (.inl (vp_updL (vp_updL (vp_updL b 0 r_3) 1 r_10) 2 r_17)))), (nn, .inl (cI, 64, .inl q)), (h0, .inr (1, [.ref bb, .ref bo, .ref bs, .int 1])), (bo, .inl (cI, 64, .inl f_14)), (bs, .inl (cI, 64, .inl g_15))] H := hP
        have hD : va_D A [(bb, .inl (cJ, 8, .inr (.inl (vp_updL (vp_updL (vp_updL b 0 r_3) 1 r_10) 2 r_17)))), (nn, .inl (cI, 64, .inl q)), (h0, .inr (1, [.ref bb, .ref bo, .ref bs, .int 1])), (bo, .inl (cI, 64, .inl f_14)), (bs, .inl (cI, 64, .inl g_15))] := hD
        refine lv_aload_n hx hb dX1_remake_58 rfl (lv_at hl 3 rfl) ?_
        refine lv_lload hx hb dX1_remake_59 (lv_at hl 1 rfl) ?_
        refine my_goV (wr := [(bb, .inl (cJ, 8, .inr (.inl (vp_updL (vp_updL (vp_updL b 0 r_3) 1 r_10) 2 r_17)))), (nn, .inl (cI, 64, .inl q))]) hP hD hS hA [2, 3, 4] [0, 1] rfl rfl (by decide) (by decide) (my_cV (As := [.long r_17]) (rest := []) (ci := 1) (wc := [(h0, .inr (1, [.ref bb, .ref bo, .ref bs, .int 1])), (bo, .inl (cI, 64, .inl f_14)), (bs, .inl (cI, 64, .inl g_15))]) ⟨hx, hb, hml, hown, hts⟩ (cwV 1 hts gX1_remake_X1_part rfl rfl rfl (by decide +kernel) ⟨Nat.le_of_ble_eq_true rfl, Nat.le_of_ble_eq_true rfl⟩) hN hK hP hD [2, 3, 4] rfl (by decide) rfl 2 rfl rfl rfl rfl hl.1 rfl (Nat.le_of_ble_eq_true rfl) dX1_remake_61 ⟨Nat.le_of_ble_eq_true rfl, Nat.le_of_ble_eq_true rfl⟩  ((k1_X1_part l D cI cJ h0 bb bo bs f_14 g_15 r_17 (by assumption)) _)) (fun u H locs hp hP hD hS => ?_)
        obtain ⟨f_21, g_22, rfl, ha_23⟩ := hp
        have hP : va_P D vwCl [(bb, .inl (cJ, 8, .inr (.inl (vp_updL (vp_updL (vp_updL b 0 r_3) 1 r_10) 2 r_17)))), (nn, .inl (cI, 64, .inl q)), (h0, .inr (1, [.ref bb, .ref bo, .ref bs, .int 1])), (bo, .inl (cI, 64, .inl f_21)), (bs, .inl (cI, 64, .inl g_22))] H := hP
        have hD : va_D A [(bb, .inl (cJ, 8, .inr (.inl (vp_updL (vp_updL (vp_updL b 0 r_3) 1 r_10) 2 r_17)))), (nn, .inl (cI, 64, .inl q)), (h0, .inr (1, [.ref bb, .ref bo, .ref bs, .int 1])), (bo, .inl (cI, 64, .inl f_21)), (bs, .inl (cI, 64, .inl g_22))] := hD
        refine lv_iinc (v := 3) (lv' := [(4, .int 3), (3, .int z_20), (5, .long r_17), (0, .ref h0), (1, .ref nn), (2, .int 1)]) hx hb dX1_remake_64 hl (k := 2) rfl (by decide +kernel) (by decide) rfl (fun ls hl => ?_)
        refine lv_goto (tgt := 14) hx hb dX1_remake_67 (by decide) ?_
        refine lv_iload hx hb dX1_remake_14 (lv_at hl 0 rfl) ?_
        refine lv_bipush (v := 8) hx hb dX1_remake_16 (by decide +kernel) ?_
        refine lv_icmp_ge (tgt := 70) hx hb dX1_remake_18 (by decide) (fun c18 => ?_) (fun c18 => ?_)
        ·
          exact absurd c18 (by decide +kernel)
        ·
          refine lv_aload_n hx hb dX1_remake_21 rfl (lv_at hl 3 rfl) ?_
          refine lv_aload_n hx hb dX1_remake_22 rfl (lv_at hl 4 rfl) ?_
          refine lv_bipush (v := 7) hx hb dX1_remake_23 (by decide +kernel) ?_
          refine lv_iload hx hb dX1_remake_25 (lv_at hl 0 rfl) ?_
          refine lv_isub hx hb dX1_remake_27 ?_
          refine my_eqi (y := 4) (by decide +kernel) ?_
          refine my_gpL (my_pV (As := [.ref nn, .int 4]) (rest := []) (ci := 1) ⟨hx, hb, hml, hown, hts⟩ (cwV 2 hts gX1_remake_X1_bitsInOrder rfl rfl rfl (by decide +kernel) ⟨Nat.le_of_ble_eq_true rfl, Nat.le_of_ble_eq_true rfl⟩) hN hK hP [2, 3, 1] rfl 2 rfl rfl rfl rfl hl.1 rfl (Nat.le_of_ble_eq_true rfl) dX1_remake_28 ⟨Nat.le_of_ble_eq_true rfl, Nat.le_of_ble_eq_true rfl⟩  (k1_X1_bitsInOrder l D cI cJ h0 bb bo bs nn (4 : Int32) f_21 q (by assumption))) (fun r hp => ?_)
          obtain _ := hp
          obtain ⟨r_24, rfl⟩ : ∃ z, z = r := ⟨_, rfl⟩
          refine lv_lstore (lv' := [(5, .long r_24), (4, .int 3), (3, .int z_20), (0, .ref h0), (1, .ref nn), (2, .int 1)]) hx hb dX1_remake_31 hl (by decide) rfl (fun ls hl => ?_)
          refine lv_iload_n hx hb dX1_remake_33 rfl (lv_at hl 2 rfl) ?_
          refine lv_lload hx hb dX1_remake_34 (lv_at hl 0 rfl) ?_
          refine lv_aload_n hx hb dX1_remake_36 rfl (lv_at hl 3 rfl) ?_
          refine va_get (ci := 1) (v := .ref bb) (C := RX1) (T := TX1) (N := 4) hx hb hts hi1 hown hK hP 2 rfl rfl 0 (by decide) fl9 (fun _ h9 => h9) rfl dX1_remake_37 ?_
          refine lv_iload hx hb dX1_remake_40 (lv_at hl 1 rfl) ?_
          refine va_lald hx hb hK hP 0 1 rfl rfl (vp_in_nI (n := 3) (by omega) (by omega)) dX1_remake_42 ?_
          refine my_eql (y := (vp_updL (vp_updL (vp_updL b 0 r_3) 1 r_10) 2 r_17) 3) (congrArg (vp_updL (vp_updL (vp_updL b 0 r_3) 1 r_10) 2 r_17) (show (3 : Int32).toNatClampNeg = 3 by decide +kernel)) ?_
          refine lv_lxor hx hb dX1_remake_43 ?_
          refine lv_topl (fun z_25 ez_25 => ?_)
          refine my_gpI (my_pS (As := [.long z_25]) (rest := [.int z_20]) ⟨hx, hb, hml, hown, hts⟩ (va_cwS 1 hts gX1_remake_J13_bitCount_95d88 rfl rfl rfl (by decide +kernel) ⟨Nat.le_of_ble_eq_true rfl, Nat.le_of_ble_eq_true rfl⟩) hN hK hP [] rfl rfl hl.1 rfl (Nat.le_of_ble_eq_true rfl) dX1_remake_44 ⟨Nat.le_of_ble_eq_true rfl, Nat.le_of_ble_eq_true rfl⟩  (kr_J13_bitCount_95d88 l D cI cJ z_25)) (fun r hp => ?_)
          obtain _ := hp
          obtain ⟨r_26, rfl⟩ : ∃ z, z = r := ⟨_, rfl⟩
          refine lv_iadd hx hb dX1_remake_47 ?_
          refine lv_topi (fun z_27 ez_27 => ?_)
          refine lv_istore_n (lv' := [(3, .int z_27), (5, .long r_24), (4, .int 3), (0, .ref h0), (1, .ref nn), (2, .int 1)]) hx hb dX1_remake_48 rfl hl (by decide) rfl (fun ls hl => ?_)
          refine lv_aload_n hx hb dX1_remake_49 rfl (lv_at hl 3 rfl) ?_
          refine va_get (ci := 1) (v := .ref bb) (C := RX1) (T := TX1) (N := 4) hx hb hts hi1 hown hK hP 2 rfl rfl 0 (by decide) fl9 (fun _ h9 => h9) rfl dX1_remake_50 ?_
          refine lv_iload hx hb dX1_remake_53 (lv_at hl 2 rfl) ?_
          refine lv_lload hx hb dX1_remake_55 (lv_at hl 1 rfl) ?_
          refine va_last hx hb hK hP hD hS 0 1 rfl rfl (vp_in_nI (n := 3) (by omega) (by omega)) dX1_remake_57 (fun H locs hP hD hS => ?_)
          have eU : vp_updL (vp_updL (vp_updL (vp_updL b 0 r_3) 1 r_10) 2 r_17) (3 : Int32).toNatClampNeg r_24 = vp_updL (vp_updL (vp_updL (vp_updL b 0 r_3) 1 r_10) 2 r_17) 3 r_24 := by rw [show (3 : Int32).toNatClampNeg = 3 from by decide +kernel]
          rw [eU] at hP hD
          have hP : va_P D vwCl [(bb, .inl (cJ, 8, .inr (.inl (vp_updL (vp_updL (vp_updL (vp_updL b 0 r_3) 1 r_10) 2 r_17) 3 r_24)))), (nn, .inl (cI, 64, .inl q)), (h0, .inr (1, [.ref bb, .ref bo, .ref bs, .int 1])), (bo, .inl (cI, 64, .inl f_21)), (bs, .inl (cI, 64, .inl g_22))] H := hP
          have hD : va_D A [(bb, .inl (cJ, 8, .inr (.inl (vp_updL (vp_updL (vp_updL (vp_updL b 0 r_3) 1 r_10) 2 r_17) 3 r_24)))), (nn, .inl (cI, 64, .inl q)), (h0, .inr (1, [.ref bb, .ref bo, .ref bs, .int 1])), (bo, .inl (cI, 64, .inl f_21)), (bs, .inl (cI, 64, .inl g_22))] := hD
          refine lv_aload_n hx hb dX1_remake_58 rfl (lv_at hl 3 rfl) ?_
          refine lv_lload hx hb dX1_remake_59 (lv_at hl 1 rfl) ?_
          refine my_goV (wr := [(bb, .inl (cJ, 8, .inr (.inl (vp_updL (vp_updL (vp_updL (vp_updL b 0 r_3) 1 r_10) 2 r_17) 3 r_24)))), (nn, .inl (cI, 64, .inl q))]) hP hD hS hA [2, 3, 4] [0, 1] rfl rfl (by decide) (by decide) (my_cV (As := [.long r_24]) (rest := []) (ci := 1) (wc := [(h0, .inr (1, [.ref bb, .ref bo, .ref bs, .int 1])), (bo, .inl (cI, 64, .inl f_21)), (bs, .inl (cI, 64, .inl g_22))]) ⟨hx, hb, hml, hown, hts⟩ (cwV 1 hts gX1_remake_X1_part rfl rfl rfl (by decide +kernel) ⟨Nat.le_of_ble_eq_true rfl, Nat.le_of_ble_eq_true rfl⟩) hN hK hP hD [2, 3, 4] rfl (by decide) rfl 2 rfl rfl rfl rfl hl.1 rfl (Nat.le_of_ble_eq_true rfl) dX1_remake_61 ⟨Nat.le_of_ble_eq_true rfl, Nat.le_of_ble_eq_true rfl⟩  ((k1_X1_part l D cI cJ h0 bb bo bs f_21 g_22 r_24 (by assumption)) _)) (fun u H locs hp hP hD hS => ?_)
          obtain ⟨f_28, g_29, rfl, ha_30⟩ := hp
          have hP : va_P D vwCl [(bb, .inl (cJ, 8, .inr (.inl (vp_updL (vp_updL (vp_updL (vp_updL b 0 r_3) 1 r_10) 2 r_17) 3 r_24)))), (nn, .inl (cI, 64, .inl q)), (h0, .inr (1, [.ref bb, .ref bo, .ref bs, .int 1])), (bo, .inl (cI, 64, .inl f_28)), (bs, .inl (cI, 64, .inl g_29))] H := hP
          have hD : va_D A [(bb, .inl (cJ, 8, .inr (.inl (vp_updL (vp_updL (vp_updL (vp_updL b 0 r_3) 1 r_10) 2 r_17) 3 r_24)))), (nn, .inl (cI, 64, .inl q)), (h0, .inr (1, [.ref bb, .ref bo, .ref bs, .int 1])), (bo, .inl (cI, 64, .inl f_28)), (bs, .inl (cI, 64, .inl g_29))] := hD
          refine lv_iinc (v := 4) (lv' := [(4, .int 4), (3, .int z_27), (5, .long r_24), (0, .ref h0), (1, .ref nn), (2, .int 1)]) hx hb dX1_remake_64 hl (k := 2) rfl (by decide +kernel) (by decide) rfl (fun ls hl => ?_)
          refine lv_goto (tgt := 14) hx hb dX1_remake_67 (by decide) ?_
          refine lv_iload hx hb dX1_remake_14 (lv_at hl 0 rfl) ?_
          refine lv_bipush (v := 8) hx hb dX1_remake_16 (by decide +kernel) ?_
          refine lv_icmp_ge (tgt := 70) hx hb dX1_remake_18 (by decide) (fun c18 => ?_) (fun c18 => ?_)
          ·
            exact absurd c18 (by decide +kernel)
          ·
            refine lv_aload_n hx hb dX1_remake_21 rfl (lv_at hl 3 rfl) ?_
            refine lv_aload_n hx hb dX1_remake_22 rfl (lv_at hl 4 rfl) ?_
            refine lv_bipush (v := 7) hx hb dX1_remake_23 (by decide +kernel) ?_
            refine lv_iload hx hb dX1_remake_25 (lv_at hl 0 rfl) ?_
            refine lv_isub hx hb dX1_remake_27 ?_
            refine my_eqi (y := 3) (by decide +kernel) ?_
            refine my_gpL (my_pV (As := [.ref nn, .int 3]) (rest := []) (ci := 1) ⟨hx, hb, hml, hown, hts⟩ (cwV 2 hts gX1_remake_X1_bitsInOrder rfl rfl rfl (by decide +kernel) ⟨Nat.le_of_ble_eq_true rfl, Nat.le_of_ble_eq_true rfl⟩) hN hK hP [2, 3, 1] rfl 2 rfl rfl rfl rfl hl.1 rfl (Nat.le_of_ble_eq_true rfl) dX1_remake_28 ⟨Nat.le_of_ble_eq_true rfl, Nat.le_of_ble_eq_true rfl⟩  (k1_X1_bitsInOrder l D cI cJ h0 bb bo bs nn (3 : Int32) f_28 q (by assumption))) (fun r hp => ?_)
            obtain _ := hp
            obtain ⟨r_31, rfl⟩ : ∃ z, z = r := ⟨_, rfl⟩
            refine lv_lstore (lv' := [(5, .long r_31), (4, .int 4), (3, .int z_27), (0, .ref h0), (1, .ref nn), (2, .int 1)]) hx hb dX1_remake_31 hl (by decide) rfl (fun ls hl => ?_)
            refine lv_iload_n hx hb dX1_remake_33 rfl (lv_at hl 2 rfl) ?_
            refine lv_lload hx hb dX1_remake_34 (lv_at hl 0 rfl) ?_
            refine lv_aload_n hx hb dX1_remake_36 rfl (lv_at hl 3 rfl) ?_
            refine va_get (ci := 1) (v := .ref bb) (C := RX1) (T := TX1) (N := 4) hx hb hts hi1 hown hK hP 2 rfl rfl 0 (by decide) fl9 (fun _ h9 => h9) rfl dX1_remake_37 ?_
            refine lv_iload hx hb dX1_remake_40 (lv_at hl 1 rfl) ?_
            refine va_lald hx hb hK hP 0 1 rfl rfl (vp_in_nI (n := 4) (by omega) (by omega)) dX1_remake_42 ?_
            refine my_eql (y := (vp_updL (vp_updL (vp_updL (vp_updL b 0 r_3) 1 r_10) 2 r_17) 3 r_24) 4) (congrArg (vp_updL (vp_updL (vp_updL (vp_updL b 0 r_3) 1 r_10) 2 r_17) 3 r_24) (show (4 : Int32).toNatClampNeg = 4 by decide +kernel)) ?_
            refine lv_lxor hx hb dX1_remake_43 ?_
            refine lv_topl (fun z_32 ez_32 => ?_)
            refine my_gpI (my_pS (As := [.long z_32]) (rest := [.int z_27]) ⟨hx, hb, hml, hown, hts⟩ (va_cwS 1 hts gX1_remake_J13_bitCount_95d88 rfl rfl rfl (by decide +kernel) ⟨Nat.le_of_ble_eq_true rfl, Nat.le_of_ble_eq_true rfl⟩) hN hK hP [] rfl rfl hl.1 rfl (Nat.le_of_ble_eq_true rfl) dX1_remake_44 ⟨Nat.le_of_ble_eq_true rfl, Nat.le_of_ble_eq_true rfl⟩  (kr_J13_bitCount_95d88 l D cI cJ z_32)) (fun r hp => ?_)
            obtain _ := hp
            obtain ⟨r_33, rfl⟩ : ∃ z, z = r := ⟨_, rfl⟩
            refine lv_iadd hx hb dX1_remake_47 ?_
            refine lv_topi (fun z_34 ez_34 => ?_)
            refine lv_istore_n (lv' := [(3, .int z_34), (5, .long r_31), (4, .int 4), (0, .ref h0), (1, .ref nn), (2, .int 1)]) hx hb dX1_remake_48 rfl hl (by decide) rfl (fun ls hl => ?_)
            refine lv_aload_n hx hb dX1_remake_49 rfl (lv_at hl 3 rfl) ?_
            refine va_get (ci := 1) (v := .ref bb) (C := RX1) (T := TX1) (N := 4) hx hb hts hi1 hown hK hP 2 rfl rfl 0 (by decide) fl9 (fun _ h9 => h9) rfl dX1_remake_50 ?_
            refine lv_iload hx hb dX1_remake_53 (lv_at hl 2 rfl) ?_
            refine lv_lload hx hb dX1_remake_55 (lv_at hl 1 rfl) ?_
            refine va_last hx hb hK hP hD hS 0 1 rfl rfl (vp_in_nI (n := 4) (by omega) (by omega)) dX1_remake_57 (fun H locs hP hD hS => ?_)
            have eU : vp_updL (vp_updL (vp_updL (vp_updL (vp_updL b 0 r_3) 1 r_10) 2 r_17) 3 r_24) (4 : Int32).toNatClampNeg r_31 = vp_updL (vp_updL (vp_updL (vp_updL (vp_updL b 0 r_3) 1 r_10) 2 r_17) 3 r_24) 4 r_31 := by rw [show (4 : Int32).toNatClampNeg = 4 from by decide +kernel]
            rw [eU] at hP hD
            have hP : va_P D vwCl [(bb, .inl (cJ, 8, .inr (.inl (vp_updL (vp_updL (vp_updL (vp_updL (vp_updL b 0 r_3) 1 r_10) 2 r_17) 3 r_24) 4 r_31)))), (nn, .inl (cI, 64, .inl q)), (h0, .inr (1, [.ref bb, .ref bo, .ref bs, .int 1])), (bo, .inl (cI, 64, .inl f_28)), (bs, .inl (cI, 64, .inl g_29))] H := hP
            have hD : va_D A [(bb, .inl (cJ, 8, .inr (.inl (vp_updL (vp_updL (vp_updL (vp_updL (vp_updL b 0 r_3) 1 r_10) 2 r_17) 3 r_24) 4 r_31)))), (nn, .inl (cI, 64, .inl q)), (h0, .inr (1, [.ref bb, .ref bo, .ref bs, .int 1])), (bo, .inl (cI, 64, .inl f_28)), (bs, .inl (cI, 64, .inl g_29))] := hD
            refine lv_aload_n hx hb dX1_remake_58 rfl (lv_at hl 3 rfl) ?_
            refine lv_lload hx hb dX1_remake_59 (lv_at hl 1 rfl) ?_
            refine my_goV (wr := [(bb, .inl (cJ, 8, .inr (.inl (vp_updL (vp_updL (vp_updL (vp_updL (vp_updL b 0 r_3) 1 r_10) 2 r_17) 3 r_24) 4 r_31)))), (nn, .inl (cI, 64, .inl q))]) hP hD hS hA [2, 3, 4] [0, 1] rfl rfl (by decide) (by decide) (my_cV (As := [.long r_31]) (rest := []) (ci := 1) (wc := [(h0, .inr (1, [.ref bb, .ref bo, .ref bs, .int 1])), (bo, .inl (cI, 64, .inl f_28)), (bs, .inl (cI, 64, .inl g_29))]) ⟨hx, hb, hml, hown, hts⟩ (cwV 1 hts gX1_remake_X1_part rfl rfl rfl (by decide +kernel) ⟨Nat.le_of_ble_eq_true rfl, Nat.le_of_ble_eq_true rfl⟩) hN hK hP hD [2, 3, 4] rfl (by decide) rfl 2 rfl rfl rfl rfl hl.1 rfl (Nat.le_of_ble_eq_true rfl) dX1_remake_61 ⟨Nat.le_of_ble_eq_true rfl, Nat.le_of_ble_eq_true rfl⟩  ((k1_X1_part l D cI cJ h0 bb bo bs f_28 g_29 r_31 (by assumption)) _)) (fun u H locs hp hP hD hS => ?_)
            obtain ⟨f_35, g_36, rfl, ha_37⟩ := hp
            have hP : va_P D vwCl [(bb, .inl (cJ, 8, .inr (.inl (vp_updL (vp_updL (vp_updL (vp_updL (vp_updL b 0 r_3) 1 r_10) 2 r_17) 3 r_24) 4 r_31)))), (nn, .inl (cI, 64, .inl q)), (h0, .inr (1, [.ref bb, .ref bo, .ref bs, .int 1])), (bo, .inl (cI, 64, .inl f_35)), (bs, .inl (cI, 64, .inl g_36))] H := hP
            have hD : va_D A [(bb, .inl (cJ, 8, .inr (.inl (vp_updL (vp_updL (vp_updL (vp_updL (vp_updL b 0 r_3) 1 r_10) 2 r_17) 3 r_24) 4 r_31)))), (nn, .inl (cI, 64, .inl q)), (h0, .inr (1, [.ref bb, .ref bo, .ref bs, .int 1])), (bo, .inl (cI, 64, .inl f_35)), (bs, .inl (cI, 64, .inl g_36))] := hD
            refine lv_iinc (v := 5) (lv' := [(4, .int 5), (3, .int z_34), (5, .long r_31), (0, .ref h0), (1, .ref nn), (2, .int 1)]) hx hb dX1_remake_64 hl (k := 2) rfl (by decide +kernel) (by decide) rfl (fun ls hl => ?_)
            refine lv_goto (tgt := 14) hx hb dX1_remake_67 (by decide) ?_
            refine lv_iload hx hb dX1_remake_14 (lv_at hl 0 rfl) ?_
            refine lv_bipush (v := 8) hx hb dX1_remake_16 (by decide +kernel) ?_
            refine lv_icmp_ge (tgt := 70) hx hb dX1_remake_18 (by decide) (fun c18 => ?_) (fun c18 => ?_)
            ·
              exact absurd c18 (by decide +kernel)
            ·
              refine lv_aload_n hx hb dX1_remake_21 rfl (lv_at hl 3 rfl) ?_
              refine lv_aload_n hx hb dX1_remake_22 rfl (lv_at hl 4 rfl) ?_
              refine lv_bipush (v := 7) hx hb dX1_remake_23 (by decide +kernel) ?_
              refine lv_iload hx hb dX1_remake_25 (lv_at hl 0 rfl) ?_
              refine lv_isub hx hb dX1_remake_27 ?_
              refine my_eqi (y := 2) (by decide +kernel) ?_
              refine my_gpL (my_pV (As := [.ref nn, .int 2]) (rest := []) (ci := 1) ⟨hx, hb, hml, hown, hts⟩ (cwV 2 hts gX1_remake_X1_bitsInOrder rfl rfl rfl (by decide +kernel) ⟨Nat.le_of_ble_eq_true rfl, Nat.le_of_ble_eq_true rfl⟩) hN hK hP [2, 3, 1] rfl 2 rfl rfl rfl rfl hl.1 rfl (Nat.le_of_ble_eq_true rfl) dX1_remake_28 ⟨Nat.le_of_ble_eq_true rfl, Nat.le_of_ble_eq_true rfl⟩  (k1_X1_bitsInOrder l D cI cJ h0 bb bo bs nn (2 : Int32) f_35 q (by assumption))) (fun r hp => ?_)
              obtain _ := hp
              obtain ⟨r_38, rfl⟩ : ∃ z, z = r := ⟨_, rfl⟩
              refine lv_lstore (lv' := [(5, .long r_38), (4, .int 5), (3, .int z_34), (0, .ref h0), (1, .ref nn), (2, .int 1)]) hx hb dX1_remake_31 hl (by decide) rfl (fun ls hl => ?_)
              refine lv_iload_n hx hb dX1_remake_33 rfl (lv_at hl 2 rfl) ?_
              refine lv_lload hx hb dX1_remake_34 (lv_at hl 0 rfl) ?_
              refine lv_aload_n hx hb dX1_remake_36 rfl (lv_at hl 3 rfl) ?_
              refine va_get (ci := 1) (v := .ref bb) (C := RX1) (T := TX1) (N := 4) hx hb hts hi1 hown hK hP 2 rfl rfl 0 (by decide) fl9 (fun _ h9 => h9) rfl dX1_remake_37 ?_
              refine lv_iload hx hb dX1_remake_40 (lv_at hl 1 rfl) ?_
              refine va_lald hx hb hK hP 0 1 rfl rfl (vp_in_nI (n := 5) (by omega) (by omega)) dX1_remake_42 ?_
              refine my_eql (y := (vp_updL (vp_updL (vp_updL (vp_updL (vp_updL b 0 r_3) 1 r_10) 2 r_17) 3 r_24) 4 r_31) 5) (congrArg (vp_updL (vp_updL (vp_updL (vp_updL (vp_updL b 0 r_3) 1 r_10) 2 r_17) 3 r_24) 4 r_31) (show (5 : Int32).toNatClampNeg = 5 by decide +kernel)) ?_
              refine lv_lxor hx hb dX1_remake_43 ?_
              refine lv_topl (fun z_39 ez_39 => ?_)
              refine my_gpI (my_pS (As := [.long z_39]) (rest := [.int z_34]) ⟨hx, hb, hml, hown, hts⟩ (va_cwS 1 hts gX1_remake_J13_bitCount_95d88 rfl rfl rfl (by decide +kernel) ⟨Nat.le_of_ble_eq_true rfl, Nat.le_of_ble_eq_true rfl⟩) hN hK hP [] rfl rfl hl.1 rfl (Nat.le_of_ble_eq_true rfl) dX1_remake_44 ⟨Nat.le_of_ble_eq_true rfl, Nat.le_of_ble_eq_true rfl⟩  (kr_J13_bitCount_95d88 l D cI cJ z_39)) (fun r hp => ?_)
              obtain _ := hp
              obtain ⟨r_40, rfl⟩ : ∃ z, z = r := ⟨_, rfl⟩
              refine lv_iadd hx hb dX1_remake_47 ?_
              refine lv_topi (fun z_41 ez_41 => ?_)
              refine lv_istore_n (lv' := [(3, .int z_41), (5, .long r_38), (4, .int 5), (0, .ref h0), (1, .ref nn), (2, .int 1)]) hx hb dX1_remake_48 rfl hl (by decide) rfl (fun ls hl => ?_)
              refine lv_aload_n hx hb dX1_remake_49 rfl (lv_at hl 3 rfl) ?_
              refine va_get (ci := 1) (v := .ref bb) (C := RX1) (T := TX1) (N := 4) hx hb hts hi1 hown hK hP 2 rfl rfl 0 (by decide) fl9 (fun _ h9 => h9) rfl dX1_remake_50 ?_
              refine lv_iload hx hb dX1_remake_53 (lv_at hl 2 rfl) ?_
              refine lv_lload hx hb dX1_remake_55 (lv_at hl 1 rfl) ?_
              refine va_last hx hb hK hP hD hS 0 1 rfl rfl (vp_in_nI (n := 5) (by omega) (by omega)) dX1_remake_57 (fun H locs hP hD hS => ?_)
              have eU : vp_updL (vp_updL (vp_updL (vp_updL (vp_updL (vp_updL b 0 r_3) 1 r_10) 2 r_17) 3 r_24) 4 r_31) (5 : Int32).toNatClampNeg r_38 = vp_updL (vp_updL (vp_updL (vp_updL (vp_updL (vp_updL b 0 r_3) 1 r_10) 2 r_17) 3 r_24) 4 r_31) 5 r_38 := by rw [show (5 : Int32).toNatClampNeg = 5 from by decide +kernel]
              rw [eU] at hP hD
              have hP : va_P D vwCl [(bb, .inl (cJ, 8, .inr (.inl (vp_updL (vp_updL (vp_updL (vp_updL (vp_updL (vp_updL b 0 r_3) 1 r_10) 2 r_17) 3 r_24) 4 r_31) 5 r_38)))), (nn, .inl (cI, 64, .inl q)), (h0, .inr (1, [.ref bb, .ref bo, .ref bs, .int 1])), (bo, .inl (cI, 64, .inl f_35)), (bs, .inl (cI, 64, .inl g_36))] H := hP
              have hD : va_D A [(bb, .inl (cJ, 8, .inr (.inl (vp_updL (vp_updL (vp_updL (vp_updL (vp_updL (vp_updL b 0 r_3) 1 r_10) 2 r_17) 3 r_24) 4 r_31) 5 r_38)))), (nn, .inl (cI, 64, .inl q)), (h0, .inr (1, [.ref bb, .ref bo, .ref bs, .int 1])), (bo, .inl (cI, 64, .inl f_35)), (bs, .inl (cI, 64, .inl g_36))] := hD
              refine lv_aload_n hx hb dX1_remake_58 rfl (lv_at hl 3 rfl) ?_
              refine lv_lload hx hb dX1_remake_59 (lv_at hl 1 rfl) ?_
              refine my_goV (wr := [(bb, .inl (cJ, 8, .inr (.inl (vp_updL (vp_updL (vp_updL (vp_updL (vp_updL (vp_updL b 0 r_3) 1 r_10) 2 r_17) 3 r_24) 4 r_31) 5 r_38)))), (nn, .inl (cI, 64, .inl q))]) hP hD hS hA [2, 3, 4] [0, 1] rfl rfl (by decide) (by decide) (my_cV (As := [.long r_38]) (rest := []) (ci := 1) (wc := [(h0, .inr (1, [.ref bb, .ref bo, .ref bs, .int 1])), (bo, .inl (cI, 64, .inl f_35)), (bs, .inl (cI, 64, .inl g_36))]) ⟨hx, hb, hml, hown, hts⟩ (cwV 1 hts gX1_remake_X1_part rfl rfl rfl (by decide +kernel) ⟨Nat.le_of_ble_eq_true rfl, Nat.le_of_ble_eq_true rfl⟩) hN hK hP hD [2, 3, 4] rfl (by decide) rfl 2 rfl rfl rfl rfl hl.1 rfl (Nat.le_of_ble_eq_true rfl) dX1_remake_61 ⟨Nat.le_of_ble_eq_true rfl, Nat.le_of_ble_eq_true rfl⟩  ((k1_X1_part l D cI cJ h0 bb bo bs f_35 g_36 r_38 (by assumption)) _)) (fun u H locs hp hP hD hS => ?_)
              obtain ⟨f_42, g_43, rfl, ha_44⟩ := hp
              have hP : va_P D vwCl [(bb, .inl (cJ, 8, .inr (.inl (vp_updL (vp_updL (vp_updL (vp_updL (vp_updL (vp_updL b 0 r_3) 1 r_10) 2 r_17) 3 r_24) 4 r_31) 5 r_38)))), (nn, .inl (cI, 64, .inl q)), (h0, .inr (1, [.ref bb, .ref bo, .ref bs, .int 1])), (bo, .inl (cI, 64, .inl f_42)), (bs, .inl (cI, 64, .inl g_43))] H := hP
              have hD : va_D A [(bb, .inl (cJ, 8, .inr (.inl (vp_updL (vp_updL (vp_updL (vp_updL (vp_updL (vp_updL b 0 r_3) 1 r_10) 2 r_17) 3 r_24) 4 r_31) 5 r_38)))), (nn, .inl (cI, 64, .inl q)), (h0, .inr (1, [.ref bb, .ref bo, .ref bs, .int 1])), (bo, .inl (cI, 64, .inl f_42)), (bs, .inl (cI, 64, .inl g_43))] := hD
              refine lv_iinc (v := 6) (lv' := [(4, .int 6), (3, .int z_41), (5, .long r_38), (0, .ref h0), (1, .ref nn), (2, .int 1)]) hx hb dX1_remake_64 hl (k := 2) rfl (by decide +kernel) (by decide) rfl (fun ls hl => ?_)
              refine lv_goto (tgt := 14) hx hb dX1_remake_67 (by decide) ?_
              refine lv_iload hx hb dX1_remake_14 (lv_at hl 0 rfl) ?_
              refine lv_bipush (v := 8) hx hb dX1_remake_16 (by decide +kernel) ?_
              refine lv_icmp_ge (tgt := 70) hx hb dX1_remake_18 (by decide) (fun c18 => ?_) (fun c18 => ?_)
              ·
                exact absurd c18 (by decide +kernel)
              ·
                refine lv_aload_n hx hb dX1_remake_21 rfl (lv_at hl 3 rfl) ?_
                refine lv_aload_n hx hb dX1_remake_22 rfl (lv_at hl 4 rfl) ?_
                refine lv_bipush (v := 7) hx hb dX1_remake_23 (by decide +kernel) ?_
                refine lv_iload hx hb dX1_remake_25 (lv_at hl 0 rfl) ?_
                refine lv_isub hx hb dX1_remake_27 ?_
                refine my_eqi (y := 1) (by decide +kernel) ?_
                refine my_gpL (my_pV (As := [.ref nn, .int 1]) (rest := []) (ci := 1) ⟨hx, hb, hml, hown, hts⟩ (cwV 2 hts gX1_remake_X1_bitsInOrder rfl rfl rfl (by decide +kernel) ⟨Nat.le_of_ble_eq_true rfl, Nat.le_of_ble_eq_true rfl⟩) hN hK hP [2, 3, 1] rfl 2 rfl rfl rfl rfl hl.1 rfl (Nat.le_of_ble_eq_true rfl) dX1_remake_28 ⟨Nat.le_of_ble_eq_true rfl, Nat.le_of_ble_eq_true rfl⟩  (k1_X1_bitsInOrder l D cI cJ h0 bb bo bs nn (1 : Int32) f_42 q (by assumption))) (fun r hp => ?_)
                obtain _ := hp
                obtain ⟨r_45, rfl⟩ : ∃ z, z = r := ⟨_, rfl⟩
                refine lv_lstore (lv' := [(5, .long r_45), (4, .int 6), (3, .int z_41), (0, .ref h0), (1, .ref nn), (2, .int 1)]) hx hb dX1_remake_31 hl (by decide) rfl (fun ls hl => ?_)
                refine lv_iload_n hx hb dX1_remake_33 rfl (lv_at hl 2 rfl) ?_
                refine lv_lload hx hb dX1_remake_34 (lv_at hl 0 rfl) ?_
                refine lv_aload_n hx hb dX1_remake_36 rfl (lv_at hl 3 rfl) ?_
                refine va_get (ci := 1) (v := .ref bb) (C := RX1) (T := TX1) (N := 4) hx hb hts hi1 hown hK hP 2 rfl rfl 0 (by decide) fl9 (fun _ h9 => h9) rfl dX1_remake_37 ?_
                refine lv_iload hx hb dX1_remake_40 (lv_at hl 1 rfl) ?_
                refine va_lald hx hb hK hP 0 1 rfl rfl (vp_in_nI (n := 6) (by omega) (by omega)) dX1_remake_42 ?_
                refine my_eql (y := (vp_updL (vp_updL (vp_updL (vp_updL (vp_updL (vp_updL b 0 r_3) 1 r_10) 2 r_17) 3 r_24) 4 r_31) 5 r_38) 6) (congrArg (vp_updL (vp_updL (vp_updL (vp_updL (vp_updL (vp_updL b 0 r_3) 1 r_10) 2 r_17) 3 r_24) 4 r_31) 5 r_38) (show (6 : Int32).toNatClampNeg = 6 by decide +kernel)) ?_
                refine lv_lxor hx hb dX1_remake_43 ?_
                refine lv_topl (fun z_46 ez_46 => ?_)
                refine my_gpI (my_pS (As := [.long z_46]) (rest := [.int z_41]) ⟨hx, hb, hml, hown, hts⟩ (va_cwS 1 hts gX1_remake_J13_bitCount_95d88 rfl rfl rfl (by decide +kernel) ⟨Nat.le_of_ble_eq_true rfl, Nat.le_of_ble_eq_true rfl⟩) hN hK hP [] rfl rfl hl.1 rfl (Nat.le_of_ble_eq_true rfl) dX1_remake_44 ⟨Nat.le_of_ble_eq_true rfl, Nat.le_of_ble_eq_true rfl⟩  (kr_J13_bitCount_95d88 l D cI cJ z_46)) (fun r hp => ?_)
                obtain _ := hp
                obtain ⟨r_47, rfl⟩ : ∃ z, z = r := ⟨_, rfl⟩
                refine lv_iadd hx hb dX1_remake_47 ?_
                refine lv_topi (fun z_48 ez_48 => ?_)
                refine lv_istore_n (lv' := [(3, .int z_48), (5, .long r_45), (4, .int 6), (0, .ref h0), (1, .ref nn), (2, .int 1)]) hx hb dX1_remake_48 rfl hl (by decide) rfl (fun ls hl => ?_)
                refine lv_aload_n hx hb dX1_remake_49 rfl (lv_at hl 3 rfl) ?_
                refine va_get (ci := 1) (v := .ref bb) (C := RX1) (T := TX1) (N := 4) hx hb hts hi1 hown hK hP 2 rfl rfl 0 (by decide) fl9 (fun _ h9 => h9) rfl dX1_remake_50 ?_
                refine lv_iload hx hb dX1_remake_53 (lv_at hl 2 rfl) ?_
                refine lv_lload hx hb dX1_remake_55 (lv_at hl 1 rfl) ?_
                refine va_last hx hb hK hP hD hS 0 1 rfl rfl (vp_in_nI (n := 6) (by omega) (by omega)) dX1_remake_57 (fun H locs hP hD hS => ?_)
                have eU : vp_updL (vp_updL (vp_updL (vp_updL (vp_updL (vp_updL (vp_updL b 0 r_3) 1 r_10) 2 r_17) 3 r_24) 4 r_31) 5 r_38) (6 : Int32).toNatClampNeg r_45 = vp_updL (vp_updL (vp_updL (vp_updL (vp_updL (vp_updL (vp_updL b 0 r_3) 1 r_10) 2 r_17) 3 r_24) 4 r_31) 5 r_38) 6 r_45 := by rw [show (6 : Int32).toNatClampNeg = 6 from by decide +kernel]
                rw [eU] at hP hD
                have hP : va_P D vwCl [(bb, .inl (cJ, 8, .inr (.inl (vp_updL (vp_updL (vp_updL (vp_updL (vp_updL (vp_updL (vp_updL b 0 r_3) 1 r_10) 2 r_17) 3 r_24) 4 r_31) 5 r_38) 6 r_45)))), (nn, .inl (cI, 64, .inl q)), (h0, .inr (1, [.ref bb, .ref bo, .ref bs, .int 1])), (bo, .inl (cI, 64, .inl f_42)), (bs, .inl (cI, 64, .inl g_43))] H := hP
                have hD : va_D A [(bb, .inl (cJ, 8, .inr (.inl (vp_updL (vp_updL (vp_updL (vp_updL (vp_updL (vp_updL (vp_updL b 0 r_3) 1 r_10) 2 r_17) 3 r_24) 4 r_31) 5 r_38) 6 r_45)))), (nn, .inl (cI, 64, .inl q)), (h0, .inr (1, [.ref bb, .ref bo, .ref bs, .int 1])), (bo, .inl (cI, 64, .inl f_42)), (bs, .inl (cI, 64, .inl g_43))] := hD
                refine lv_aload_n hx hb dX1_remake_58 rfl (lv_at hl 3 rfl) ?_
                refine lv_lload hx hb dX1_remake_59 (lv_at hl 1 rfl) ?_
                refine my_goV (wr := [(bb, .inl (cJ, 8, .inr (.inl (vp_updL (vp_updL (vp_updL (vp_updL (vp_updL (vp_updL (vp_updL b 0 r_3) 1 r_10) 2 r_17) 3 r_24) 4 r_31) 5 r_38) 6 r_45)))), (nn, .inl (cI, 64, .inl q))]) hP hD hS hA [2, 3, 4] [0, 1] rfl rfl (by decide) (by decide) (my_cV (As := [.long r_45]) (rest := []) (ci := 1) (wc := [(h0, .inr (1, [.ref bb, .ref bo, .ref bs, .int 1])), (bo, .inl (cI, 64, .inl f_42)), (bs, .inl (cI, 64, .inl g_43))]) ⟨hx, hb, hml, hown, hts⟩ (cwV 1 hts gX1_remake_X1_part rfl rfl rfl (by decide +kernel) ⟨Nat.le_of_ble_eq_true rfl, Nat.le_of_ble_eq_true rfl⟩) hN hK hP hD [2, 3, 4] rfl (by decide) rfl 2 rfl rfl rfl rfl hl.1 rfl (Nat.le_of_ble_eq_true rfl) dX1_remake_61 ⟨Nat.le_of_ble_eq_true rfl, Nat.le_of_ble_eq_true rfl⟩  ((k1_X1_part l D cI cJ h0 bb bo bs f_42 g_43 r_45 (by assumption)) _)) (fun u H locs hp hP hD hS => ?_)
                obtain ⟨f_49, g_50, rfl, ha_51⟩ := hp
                have hP : va_P D vwCl [(bb, .inl (cJ, 8, .inr (.inl (vp_updL (vp_updL (vp_updL (vp_updL (vp_updL (vp_updL (vp_updL b 0 r_3) 1 r_10) 2 r_17) 3 r_24) 4 r_31) 5 r_38) 6 r_45)))), (nn, .inl (cI, 64, .inl q)), (h0, .inr (1, [.ref bb, .ref bo, .ref bs, .int 1])), (bo, .inl (cI, 64, .inl f_49)), (bs, .inl (cI, 64, .inl g_50))] H := hP
                have hD : va_D A [(bb, .inl (cJ, 8, .inr (.inl (vp_updL (vp_updL (vp_updL (vp_updL (vp_updL (vp_updL (vp_updL b 0 r_3) 1 r_10) 2 r_17) 3 r_24) 4 r_31) 5 r_38) 6 r_45)))), (nn, .inl (cI, 64, .inl q)), (h0, .inr (1, [.ref bb, .ref bo, .ref bs, .int 1])), (bo, .inl (cI, 64, .inl f_49)), (bs, .inl (cI, 64, .inl g_50))] := hD
                refine lv_iinc (v := 7) (lv' := [(4, .int 7), (3, .int z_48), (5, .long r_45), (0, .ref h0), (1, .ref nn), (2, .int 1)]) hx hb dX1_remake_64 hl (k := 2) rfl (by decide +kernel) (by decide) rfl (fun ls hl => ?_)
                refine lv_goto (tgt := 14) hx hb dX1_remake_67 (by decide) ?_
                refine lv_iload hx hb dX1_remake_14 (lv_at hl 0 rfl) ?_
                refine lv_bipush (v := 8) hx hb dX1_remake_16 (by decide +kernel) ?_
                refine lv_icmp_ge (tgt := 70) hx hb dX1_remake_18 (by decide) (fun c18 => ?_) (fun c18 => ?_)
                ·
                  exact absurd c18 (by decide +kernel)
                ·
                  refine lv_aload_n hx hb dX1_remake_21 rfl (lv_at hl 3 rfl) ?_
                  refine lv_aload_n hx hb dX1_remake_22 rfl (lv_at hl 4 rfl) ?_
                  refine lv_bipush (v := 7) hx hb dX1_remake_23 (by decide +kernel) ?_
                  refine lv_iload hx hb dX1_remake_25 (lv_at hl 0 rfl) ?_
                  refine lv_isub hx hb dX1_remake_27 ?_
                  refine my_eqi (y := 0) (by decide +kernel) ?_
                  refine my_gpL (my_pV (As := [.ref nn, .int 0]) (rest := []) (ci := 1) ⟨hx, hb, hml, hown, hts⟩ (cwV 2 hts gX1_remake_X1_bitsInOrder rfl rfl rfl (by decide +kernel) ⟨Nat.le_of_ble_eq_true rfl, Nat.le_of_ble_eq_true rfl⟩) hN hK hP [2, 3, 1] rfl 2 rfl rfl rfl rfl hl.1 rfl (Nat.le_of_ble_eq_true rfl) dX1_remake_28 ⟨Nat.le_of_ble_eq_true rfl, Nat.le_of_ble_eq_true rfl⟩  (k1_X1_bitsInOrder l D cI cJ h0 bb bo bs nn (0 : Int32) f_49 q (by assumption))) (fun r hp => ?_)
                  obtain _ := hp
                  obtain ⟨r_52, rfl⟩ : ∃ z, z = r := ⟨_, rfl⟩
                  refine lv_lstore (lv' := [(5, .long r_52), (4, .int 7), (3, .int z_48), (0, .ref h0), (1, .ref nn), (2, .int 1)]) hx hb dX1_remake_31 hl (by decide) rfl (fun ls hl => ?_)
                  refine lv_iload_n hx hb dX1_remake_33 rfl (lv_at hl 2 rfl) ?_
                  refine lv_lload hx hb dX1_remake_34 (lv_at hl 0 rfl) ?_
                  refine lv_aload_n hx hb dX1_remake_36 rfl (lv_at hl 3 rfl) ?_
                  refine va_get (ci := 1) (v := .ref bb) (C := RX1) (T := TX1) (N := 4) hx hb hts hi1 hown hK hP 2 rfl rfl 0 (by decide) fl9 (fun _ h9 => h9) rfl dX1_remake_37 ?_
                  refine lv_iload hx hb dX1_remake_40 (lv_at hl 1 rfl) ?_
                  refine va_lald hx hb hK hP 0 1 rfl rfl (vp_in_nI (n := 7) (by omega) (by omega)) dX1_remake_42 ?_
                  refine my_eql (y := (vp_updL (vp_updL (vp_updL (vp_updL (vp_updL (vp_updL (vp_updL b 0 r_3) 1 r_10) 2 r_17) 3 r_24) 4 r_31) 5 r_38) 6 r_45) 7) (congrArg (vp_updL (vp_updL (vp_updL (vp_updL (vp_updL (vp_updL (vp_updL b 0 r_3) 1 r_10) 2 r_17) 3 r_24) 4 r_31) 5 r_38) 6 r_45) (show (7 : Int32).toNatClampNeg = 7 by decide +kernel)) ?_
                  refine lv_lxor hx hb dX1_remake_43 ?_
                  refine lv_topl (fun z_53 ez_53 => ?_)
                  refine my_gpI (my_pS (As := [.long z_53]) (rest := [.int z_48]) ⟨hx, hb, hml, hown, hts⟩ (va_cwS 1 hts gX1_remake_J13_bitCount_95d88 rfl rfl rfl (by decide +kernel) ⟨Nat.le_of_ble_eq_true rfl, Nat.le_of_ble_eq_true rfl⟩) hN hK hP [] rfl rfl hl.1 rfl (Nat.le_of_ble_eq_true rfl) dX1_remake_44 ⟨Nat.le_of_ble_eq_true rfl, Nat.le_of_ble_eq_true rfl⟩  (kr_J13_bitCount_95d88 l D cI cJ z_53)) (fun r hp => ?_)
                  obtain _ := hp
                  obtain ⟨r_54, rfl⟩ : ∃ z, z = r := ⟨_, rfl⟩
                  refine lv_iadd hx hb dX1_remake_47 ?_
                  refine lv_topi (fun z_55 ez_55 => ?_)
                  refine lv_istore_n (lv' := [(3, .int z_55), (5, .long r_52), (4, .int 7), (0, .ref h0), (1, .ref nn), (2, .int 1)]) hx hb dX1_remake_48 rfl hl (by decide) rfl (fun ls hl => ?_)
                  refine lv_aload_n hx hb dX1_remake_49 rfl (lv_at hl 3 rfl) ?_
                  refine va_get (ci := 1) (v := .ref bb) (C := RX1) (T := TX1) (N := 4) hx hb hts hi1 hown hK hP 2 rfl rfl 0 (by decide) fl9 (fun _ h9 => h9) rfl dX1_remake_50 ?_
                  refine lv_iload hx hb dX1_remake_53 (lv_at hl 2 rfl) ?_
                  refine lv_lload hx hb dX1_remake_55 (lv_at hl 1 rfl) ?_
                  refine va_last hx hb hK hP hD hS 0 1 rfl rfl (vp_in_nI (n := 7) (by omega) (by omega)) dX1_remake_57 (fun H locs hP hD hS => ?_)
                  have eU : vp_updL (vp_updL (vp_updL (vp_updL (vp_updL (vp_updL (vp_updL (vp_updL b 0 r_3) 1 r_10) 2 r_17) 3 r_24) 4 r_31) 5 r_38) 6 r_45) (7 : Int32).toNatClampNeg r_52 = vp_updL (vp_updL (vp_updL (vp_updL (vp_updL (vp_updL (vp_updL (vp_updL b 0 r_3) 1 r_10) 2 r_17) 3 r_24) 4 r_31) 5 r_38) 6 r_45) 7 r_52 := by rw [show (7 : Int32).toNatClampNeg = 7 from by decide +kernel]
                  rw [eU] at hP hD
                  have hP : va_P D vwCl [(bb, .inl (cJ, 8, .inr (.inl (vp_updL (vp_updL (vp_updL (vp_updL (vp_updL (vp_updL (vp_updL (vp_updL b 0 r_3) 1 r_10) 2 r_17) 3 r_24) 4 r_31) 5 r_38) 6 r_45) 7 r_52)))), (nn, .inl (cI, 64, .inl q)), (h0, .inr (1, [.ref bb, .ref bo, .ref bs, .int 1])), (bo, .inl (cI, 64, .inl f_49)), (bs, .inl (cI, 64, .inl g_50))] H := hP
                  have hD : va_D A [(bb, .inl (cJ, 8, .inr (.inl (vp_updL (vp_updL (vp_updL (vp_updL (vp_updL (vp_updL (vp_updL (vp_updL b 0 r_3) 1 r_10) 2 r_17) 3 r_24) 4 r_31) 5 r_38) 6 r_45) 7 r_52)))), (nn, .inl (cI, 64, .inl q)), (h0, .inr (1, [.ref bb, .ref bo, .ref bs, .int 1])), (bo, .inl (cI, 64, .inl f_49)), (bs, .inl (cI, 64, .inl g_50))] := hD
                  refine lv_aload_n hx hb dX1_remake_58 rfl (lv_at hl 3 rfl) ?_
                  refine lv_lload hx hb dX1_remake_59 (lv_at hl 1 rfl) ?_
                  refine my_goV (wr := [(bb, .inl (cJ, 8, .inr (.inl (vp_updL (vp_updL (vp_updL (vp_updL (vp_updL (vp_updL (vp_updL (vp_updL b 0 r_3) 1 r_10) 2 r_17) 3 r_24) 4 r_31) 5 r_38) 6 r_45) 7 r_52)))), (nn, .inl (cI, 64, .inl q))]) hP hD hS hA [2, 3, 4] [0, 1] rfl rfl (by decide) (by decide) (my_cV (As := [.long r_52]) (rest := []) (ci := 1) (wc := [(h0, .inr (1, [.ref bb, .ref bo, .ref bs, .int 1])), (bo, .inl (cI, 64, .inl f_49)), (bs, .inl (cI, 64, .inl g_50))]) ⟨hx, hb, hml, hown, hts⟩ (cwV 1 hts gX1_remake_X1_part rfl rfl rfl (by decide +kernel) ⟨Nat.le_of_ble_eq_true rfl, Nat.le_of_ble_eq_true rfl⟩) hN hK hP hD [2, 3, 4] rfl (by decide) rfl 2 rfl rfl rfl rfl hl.1 rfl (Nat.le_of_ble_eq_true rfl) dX1_remake_61 ⟨Nat.le_of_ble_eq_true rfl, Nat.le_of_ble_eq_true rfl⟩  ((k1_X1_part l D cI cJ h0 bb bo bs f_49 g_50 r_52 (by assumption)) _)) (fun u H locs hp hP hD hS => ?_)
                  obtain ⟨f_56, g_57, rfl, ha_58⟩ := hp
                  have hP : va_P D vwCl [(bb, .inl (cJ, 8, .inr (.inl (vp_updL (vp_updL (vp_updL (vp_updL (vp_updL (vp_updL (vp_updL (vp_updL b 0 r_3) 1 r_10) 2 r_17) 3 r_24) 4 r_31) 5 r_38) 6 r_45) 7 r_52)))), (nn, .inl (cI, 64, .inl q)), (h0, .inr (1, [.ref bb, .ref bo, .ref bs, .int 1])), (bo, .inl (cI, 64, .inl f_56)), (bs, .inl (cI, 64, .inl g_57))] H := hP
                  have hD : va_D A [(bb, .inl (cJ, 8, .inr (.inl (vp_updL (vp_updL (vp_updL (vp_updL (vp_updL (vp_updL (vp_updL (vp_updL b 0 r_3) 1 r_10) 2 r_17) 3 r_24) 4 r_31) 5 r_38) 6 r_45) 7 r_52)))), (nn, .inl (cI, 64, .inl q)), (h0, .inr (1, [.ref bb, .ref bo, .ref bs, .int 1])), (bo, .inl (cI, 64, .inl f_56)), (bs, .inl (cI, 64, .inl g_57))] := hD
                  refine lv_iinc (v := 8) (lv' := [(4, .int 8), (3, .int z_55), (5, .long r_52), (0, .ref h0), (1, .ref nn), (2, .int 1)]) hx hb dX1_remake_64 hl (k := 2) rfl (by decide +kernel) (by decide) rfl (fun ls hl => ?_)
                  refine lv_goto (tgt := 14) hx hb dX1_remake_67 (by decide) ?_
                  refine lv_iload hx hb dX1_remake_14 (lv_at hl 0 rfl) ?_
                  refine lv_bipush (v := 8) hx hb dX1_remake_16 (by decide +kernel) ?_
                  refine lv_icmp_ge (tgt := 70) hx hb dX1_remake_18 (by decide) (fun c18 => ?_) (fun c18 => ?_)
                  ·
                    refine lv_iload_n hx hb dX1_remake_70 rfl (lv_at hl 1 rfl) ?_
                    exact my_retI hx hb hr hlocks hK hS [(h0, .inr (1, [.ref bb, .ref bo, .ref bs, .int 1]))] (hP.sub [2] rfl) (hD.sub [2] (by decide) rfl) (rfl) dX1_remake_71
                  ·
                    exact absurd c18 (by decide +kernel)
set_option maxHeartbeats 4000000 in
set_option maxRecDepth 100000 in
theorem k_X2_forget (l : Launch) (D : va_G) (cI cJ : ClassId) (xr : Nat) (r1 : Nat) (r2 : Nat) (r3 : Nat) (r4 : Nat) (r5 : Nat) (r6 : Int32) (r7 : Int32) (r8 : Int32) (z : Int32) : ctV l yX2_forget wsX2_forget ({ frames := 0, cells := 0, slots := 0, locals := 0 } : Room) D (tyIJ cI cJ) [.ref xr] [(xr, .inr (2, [.ref r1, .ref r2, .ref r3, .ref r4, .ref r5, .int r6, .int r7, .int r8, .int z]))] (fun (u : va_W) => u = [(xr, .inr (2, [.ref r1, .ref r2, .ref r3, .ref r4, .ref r5, .int r6, .int r7, .int r8, .int 0]))]) := by
  refine ctV.of (cc := cX2_forget) (maxL := 1) (ret := none) (by decide) rfl (Nat.le_of_ble_eq_true rfl) ?_
  intro p e s m below meth c ls A hx hb hr hts hown hml hlocks hname hA hK hN hP hD hS hl
  have hl : lv_has ls 1 [(0, .ref xr)] := hl
  have hown : s.vm.findClass RX2 = some m.cls := hown
  have hi2 : ∀ w ∈ u_ws RX2 TX2 9, w ∈ wsX2_forget := by decide +kernel
  have fl40 := hts (.fieldLink RX2 40 "PlaneColumn$OrderSearch" "known" "Z") (by decide +kernel)
  refine lv_aload_n hx hb dX2_forget_0 rfl (lv_at hl 0 rfl) ?_
  refine lv_iconst (v := 0) hx hb dX2_forget_1 (by decide +kernel) ?_
  refine va_put (ci := 2) (v := .int 0) (ty := (.boolean)) (C := RX2) (T := TX2) (N := 9) hx hb hts hi2 tyX2 tyX2_ok nmX2 hown hK hP hD hS 0 rfl rfl 8 (by decide) fl40 (fun _ h9 => h9) rfl (by decide +kernel) (by decide +kernel) (by decide +kernel) (Nat.le_of_ble_eq_true rfl) dX2_forget_2 (fun H locs hP hD hS => ?_)
  have hP : va_P D vwCl [(xr, .inr (2, [.ref r1, .ref r2, .ref r3, .ref r4, .ref r5, .int r6, .int r7, .int r8, .int 0]))] H := hP
  have hD : va_D A [(xr, .inr (2, [.ref r1, .ref r2, .ref r3, .ref r4, .ref r5, .int r6, .int r7, .int r8, .int 0]))] := hD
  exact my_retV hx hb hr hlocks hK hS [(xr, .inr (2, [.ref r1, .ref r2, .ref r3, .ref r4, .ref r5, .int r6, .int r7, .int r8, .int 0]))] (hP.sub [0] rfl) (hD.sub [0] (by decide) rfl) (rfl) dX2_forget_5
set_option maxHeartbeats 4000000 in
set_option maxRecDepth 100000 in
theorem k0_X8_settle (l : Launch) (D : va_G) (cI cJ : ClassId) (x0 : Nat) (xn : Nat) (xl : Nat) (xt : Nat) (xo : Nat) (xf : Nat) (xs : Nat) (xp : Nat) (xq : Nat) (xr : Nat) (xc : Nat) (r1 : Nat) (r2 : Nat) (r3 : Nat) (r4 : Nat) (r5 : Nat) (r6 : Int32) (r7 : Int32) (r8 : Int32) (bb : Nat) (bo : Nat) (bs : Nat) (z : Int32) (y : Int32) (f : Nat → Int32) (g : Nat → Int32) : ctI l yX8_settle wsX8_settle ({ frames := 4, cells := 0, slots := 0, locals := 240 } : Room) D (tyIJ cI cJ) [.ref x0] [(x0, .inr (8, [.ref xn, .int 0, .ref xl, .ref xt, .ref xo, .ref xf, .ref xs, .ref xp, .ref xq, .ref xr, .ref xc])), (xr, .inr (2, [.ref r1, .ref r2, .ref r3, .ref r4, .ref r5, .int r6, .int r7, .int r8, .int y])), (xl, .inr (1, [.ref bb, .ref bo, .ref bs, .int z])), (bo, .inl (cI, 64, .inl f)), (bs, .inl (cI, 64, .inl g)), (bb, .inl (cJ, 8, .inr (.inl (fun _ => (0 : Int64)))))] (fun (r : Int32) (u : va_W) => u = [(x0, .inr (8, [.ref xn, .int 0, .ref xl, .ref xt, .ref xo, .ref xf, .ref xs, .ref xp, .ref xq, .ref xr, .ref xc]))] ∧ r = 0) := by
  refine ctI.of (cc := cX8_settle) (maxL := 1) (ret := (some .int)) (by decide) rfl (Nat.le_of_ble_eq_true rfl) ?_
  intro p e s m below meth c ls A hx hb hr hts hown hml hlocks hname hA hK hN hP hD hS hl
  have hl : lv_has ls 1 [(0, .ref x0)] := hl
  have hown : s.vm.findClass RX8 = some m.cls := hown
  have hi8 : ∀ w ∈ u_ws RX8 TX8 11, w ∈ wsX8_settle := by decide +kernel
  have fl13 := hts (.fieldLink RX8 13 "PlaneColumn" "size" "I") (by decide +kernel)
  have fl20 := hts (.fieldLink RX8 20 "PlaneColumn" "levels" "LPlaneColumn$Levels;") (by decide +kernel)
  have fl65 := hts (.fieldLink RX8 65 "PlaneColumn" "orderSearch" "LPlaneColumn$OrderSearch;") (by decide +kernel)
  have fl9 := hts (.fieldLink RX8 9 "PlaneColumn" "numbers" "[I") (by decide +kernel)
  refine lv_aload_n hx hb dX8_settle_0 rfl (lv_at hl 0 rfl) ?_
  refine va_get (ci := 8) (v := .ref xr) (C := RX8) (T := TX8) (N := 11) hx hb hts hi8 hown hK hP 0 rfl rfl 9 (by decide) fl65 (fun _ h9 => h9) rfl dX8_settle_1 ?_
  refine my_goV (wr := [(x0, .inr (8, [.ref xn, .int 0, .ref xl, .ref xt, .ref xo, .ref xf, .ref xs, .ref xp, .ref xq, .ref xr, .ref xc])), (xl, .inr (1, [.ref bb, .ref bo, .ref bs, .int z])), (bo, .inl (cI, 64, .inl f)), (bs, .inl (cI, 64, .inl g)), (bb, .inl (cJ, 8, .inr (.inl (fun _ => (0 : Int64)))))]) hP hD hS hA [1] [0, 2, 3, 4, 5] rfl rfl (by decide) (by decide) (my_cV (As := []) (rest := []) (ci := 2) (wc := [(xr, .inr (2, [.ref r1, .ref r2, .ref r3, .ref r4, .ref r5, .int r6, .int r7, .int r8, .int y]))]) ⟨hx, hb, hml, hown, hts⟩ (cwV 0 hts gX8_settle_X2_forget rfl rfl rfl (by decide +kernel) ⟨Nat.le_of_ble_eq_true rfl, Nat.le_of_ble_eq_true rfl⟩) hN hK hP hD [1] rfl (by decide) rfl 1 rfl rfl rfl rfl hl.1 rfl (Nat.le_of_ble_eq_true rfl) dX8_settle_4 ⟨Nat.le_of_ble_eq_true rfl, Nat.le_of_ble_eq_true rfl⟩  ((k_X2_forget l D cI cJ xr r1 r2 r3 r4 r5 r6 r7 r8 y) _)) (fun u H locs hp hP hD hS => ?_)
  obtain rfl := hp
  have hP : va_P D vwCl [(x0, .inr (8, [.ref xn, .int 0, .ref xl, .ref xt, .ref xo, .ref xf, .ref xs, .ref xp, .ref xq, .ref xr, .ref xc])), (xl, .inr (1, [.ref bb, .ref bo, .ref bs, .int z])), (bo, .inl (cI, 64, .inl f)), (bs, .inl (cI, 64, .inl g)), (bb, .inl (cJ, 8, .inr (.inl (fun _ => (0 : Int64))))), (xr, .inr (2, [.ref r1, .ref r2, .ref r3, .ref r4, .ref r5, .int r6, .int r7, .int r8, .int 0]))] H := hP
  have hD : va_D A [(x0, .inr (8, [.ref xn, .int 0, .ref xl, .ref xt, .ref xo, .ref xf, .ref xs, .ref xp, .ref xq, .ref xr, .ref xc])), (xl, .inr (1, [.ref bb, .ref bo, .ref bs, .int z])), (bo, .inl (cI, 64, .inl f)), (bs, .inl (cI, 64, .inl g)), (bb, .inl (cJ, 8, .inr (.inl (fun _ => (0 : Int64))))), (xr, .inr (2, [.ref r1, .ref r2, .ref r3, .ref r4, .ref r5, .int r6, .int r7, .int r8, .int 0]))] := hD
  refine lv_aload_n hx hb dX8_settle_7 rfl (lv_at hl 0 rfl) ?_
  refine va_get (ci := 8) (v := .ref xl) (C := RX8) (T := TX8) (N := 11) hx hb hts hi8 hown hK hP 0 rfl rfl 2 (by decide) fl20 (fun _ h9 => h9) rfl dX8_settle_8 ?_
  refine lv_aload_n hx hb dX8_settle_11 rfl (lv_at hl 0 rfl) ?_
  refine va_get (ci := 8) (v := .ref xn) (C := RX8) (T := TX8) (N := 11) hx hb hts hi8 hown hK hP 0 rfl rfl 0 (by decide) fl9 (fun _ h9 => h9) rfl dX8_settle_12 ?_
  refine lv_aload_n hx hb dX8_settle_15 rfl (lv_at hl 0 rfl) ?_
  refine va_get (ci := 8) (v := .int 0) (C := RX8) (T := TX8) (N := 11) hx hb hts hi8 hown hK hP 0 rfl rfl 1 (by decide) fl13 (fun _ h9 => h9) rfl dX8_settle_16 ?_
  refine my_goI (wr := [(x0, .inr (8, [.ref xn, .int 0, .ref xl, .ref xt, .ref xo, .ref xf, .ref xs, .ref xp, .ref xq, .ref xr, .ref xc])), (xr, .inr (2, [.ref r1, .ref r2, .ref r3, .ref r4, .ref r5, .int r6, .int r7, .int r8, .int 0]))]) hP hD hS hA [1, 2, 3, 4] [0, 5] rfl rfl (by decide) (by decide) (my_cV (As := [.ref xn, .int 0]) (rest := []) (ci := 1) (wc := [(xl, .inr (1, [.ref bb, .ref bo, .ref bs, .int z])), (bo, .inl (cI, 64, .inl f)), (bs, .inl (cI, 64, .inl g)), (bb, .inl (cJ, 8, .inr (.inl (fun _ => (0 : Int64)))))]) ⟨hx, hb, hml, hown, hts⟩ (cwV 2 hts gX8_settle_X1_remake rfl rfl rfl (by decide +kernel) ⟨Nat.le_of_ble_eq_true rfl, Nat.le_of_ble_eq_true rfl⟩) hN hK hP hD [1, 2, 3, 4] rfl (by decide) rfl 1 rfl rfl rfl rfl hl.1 rfl (Nat.le_of_ble_eq_true rfl) dX8_settle_19 ⟨Nat.le_of_ble_eq_true rfl, Nat.le_of_ble_eq_true rfl⟩  ((k0_X1_remake l D cI cJ xl bb bo bs xn z f g) _)) (fun r u H locs hp hP hD hS => ?_)
  obtain ⟨rfl, rfl⟩ := hp
  have hP : va_P D vwCl [(x0, .inr (8, [.ref xn, .int 0, .ref xl, .ref xt, .ref xo, .ref xf, .ref xs, .ref xp, .ref xq, .ref xr, .ref xc])), (xr, .inr (2, [.ref r1, .ref r2, .ref r3, .ref r4, .ref r5, .int r6, .int r7, .int r8, .int 0])), (xl, .inr (1, [.ref bb, .ref bo, .ref bs, .int 0])), (bo, .inl (cI, 64, .inl f)), (bs, .inl (cI, 64, .inl g)), (bb, .inl (cJ, 8, .inr (.inl (fun _ => (0 : Int64)))))] H := hP
  have hD : va_D A [(x0, .inr (8, [.ref xn, .int 0, .ref xl, .ref xt, .ref xo, .ref xf, .ref xs, .ref xp, .ref xq, .ref xr, .ref xc])), (xr, .inr (2, [.ref r1, .ref r2, .ref r3, .ref r4, .ref r5, .int r6, .int r7, .int r8, .int 0])), (xl, .inr (1, [.ref bb, .ref bo, .ref bs, .int 0])), (bo, .inl (cI, 64, .inl f)), (bs, .inl (cI, 64, .inl g)), (bb, .inl (cJ, 8, .inr (.inl (fun _ => (0 : Int64)))))] := hD
  exact my_retI hx hb hr hlocks hK hS [(x0, .inr (8, [.ref xn, .int 0, .ref xl, .ref xt, .ref xo, .ref xf, .ref xs, .ref xp, .ref xq, .ref xr, .ref xc]))] (hP.sub [0] rfl) (hD.sub [0] (by decide) rfl) (⟨rfl, rfl⟩) dX8_settle_22
set_option maxHeartbeats 4000000 in
set_option maxRecDepth 100000 in
theorem k1_X8_settle (l : Launch) (D : va_G) (cI cJ : ClassId) (x0 : Nat) (xn : Nat) (xl : Nat) (xt : Nat) (xo : Nat) (xf : Nat) (xs : Nat) (xp : Nat) (xq : Nat) (xr : Nat) (xc : Nat) (r1 : Nat) (r2 : Nat) (r3 : Nat) (r4 : Nat) (r5 : Nat) (r6 : Int32) (r7 : Int32) (r8 : Int32) (bb : Nat) (bo : Nat) (bs : Nat) (z : Int32) (y : Int32) (f : Nat → Int32) (g : Nat → Int32) (q : Nat → Int32) (b : Nat → Int64) : ctI l yX8_settle wsX8_settle ({ frames := 4, cells := 0, slots := 0, locals := 240 } : Room) D (tyIJ cI cJ) [.ref x0] [(x0, .inr (8, [.ref xn, .int 1, .ref xl, .ref xt, .ref xo, .ref xf, .ref xs, .ref xp, .ref xq, .ref xr, .ref xc])), (xr, .inr (2, [.ref r1, .ref r2, .ref r3, .ref r4, .ref r5, .int r6, .int r7, .int r8, .int y])), (xl, .inr (1, [.ref bb, .ref bo, .ref bs, .int z])), (bo, .inl (cI, 64, .inl f)), (bs, .inl (cI, 64, .inl g)), (bb, .inl (cJ, 8, .inr (.inl b))), (xn, .inl (cI, 64, .inl q))] (fun (r : Int32) (u : va_W) => u = [(x0, .inr (8, [.ref xn, .int 1, .ref xl, .ref xt, .ref xo, .ref xf, .ref xs, .ref xp, .ref xq, .ref xr, .ref xc]))]) := by
  refine ctI.of (cc := cX8_settle) (maxL := 1) (ret := (some .int)) (by decide) rfl (Nat.le_of_ble_eq_true rfl) ?_
  intro p e s m below meth c ls A hx hb hr hts hown hml hlocks hname hA hK hN hP hD hS hl
  have hl : lv_has ls 1 [(0, .ref x0)] := hl
  have hown : s.vm.findClass RX8 = some m.cls := hown
  have hi8 : ∀ w ∈ u_ws RX8 TX8 11, w ∈ wsX8_settle := by decide +kernel
  have fl13 := hts (.fieldLink RX8 13 "PlaneColumn" "size" "I") (by decide +kernel)
  have fl20 := hts (.fieldLink RX8 20 "PlaneColumn" "levels" "LPlaneColumn$Levels;") (by decide +kernel)
  have fl65 := hts (.fieldLink RX8 65 "PlaneColumn" "orderSearch" "LPlaneColumn$OrderSearch;") (by decide +kernel)
  have fl9 := hts (.fieldLink RX8 9 "PlaneColumn" "numbers" "[I") (by decide +kernel)
  refine lv_aload_n hx hb dX8_settle_0 rfl (lv_at hl 0 rfl) ?_
  refine va_get (ci := 8) (v := .ref xr) (C := RX8) (T := TX8) (N := 11) hx hb hts hi8 hown hK hP 0 rfl rfl 9 (by decide) fl65 (fun _ h9 => h9) rfl dX8_settle_1 ?_
  refine my_goV (wr := [(x0, .inr (8, [.ref xn, .int 1, .ref xl, .ref xt, .ref xo, .ref xf, .ref xs, .ref xp, .ref xq, .ref xr, .ref xc])), (xl, .inr (1, [.ref bb, .ref bo, .ref bs, .int z])), (bo, .inl (cI, 64, .inl f)), (bs, .inl (cI, 64, .inl g)), (bb, .inl (cJ, 8, .inr (.inl b))), (xn, .inl (cI, 64, .inl q))]) hP hD hS hA [1] [0, 2, 3, 4, 5, 6] rfl rfl (by decide) (by decide) (my_cV (As := []) (rest := []) (ci := 2) (wc := [(xr, .inr (2, [.ref r1, .ref r2, .ref r3, .ref r4, .ref r5, .int r6, .int r7, .int r8, .int y]))]) ⟨hx, hb, hml, hown, hts⟩ (cwV 0 hts gX8_settle_X2_forget rfl rfl rfl (by decide +kernel) ⟨Nat.le_of_ble_eq_true rfl, Nat.le_of_ble_eq_true rfl⟩) hN hK hP hD [1] rfl (by decide) rfl 1 rfl rfl rfl rfl hl.1 rfl (Nat.le_of_ble_eq_true rfl) dX8_settle_4 ⟨Nat.le_of_ble_eq_true rfl, Nat.le_of_ble_eq_true rfl⟩  ((k_X2_forget l D cI cJ xr r1 r2 r3 r4 r5 r6 r7 r8 y) _)) (fun u H locs hp hP hD hS => ?_)
  obtain rfl := hp
  have hP : va_P D vwCl [(x0, .inr (8, [.ref xn, .int 1, .ref xl, .ref xt, .ref xo, .ref xf, .ref xs, .ref xp, .ref xq, .ref xr, .ref xc])), (xl, .inr (1, [.ref bb, .ref bo, .ref bs, .int z])), (bo, .inl (cI, 64, .inl f)), (bs, .inl (cI, 64, .inl g)), (bb, .inl (cJ, 8, .inr (.inl b))), (xn, .inl (cI, 64, .inl q)), (xr, .inr (2, [.ref r1, .ref r2, .ref r3, .ref r4, .ref r5, .int r6, .int r7, .int r8, .int 0]))] H := hP
  have hD : va_D A [(x0, .inr (8, [.ref xn, .int 1, .ref xl, .ref xt, .ref xo, .ref xf, .ref xs, .ref xp, .ref xq, .ref xr, .ref xc])), (xl, .inr (1, [.ref bb, .ref bo, .ref bs, .int z])), (bo, .inl (cI, 64, .inl f)), (bs, .inl (cI, 64, .inl g)), (bb, .inl (cJ, 8, .inr (.inl b))), (xn, .inl (cI, 64, .inl q)), (xr, .inr (2, [.ref r1, .ref r2, .ref r3, .ref r4, .ref r5, .int r6, .int r7, .int r8, .int 0]))] := hD
  refine lv_aload_n hx hb dX8_settle_7 rfl (lv_at hl 0 rfl) ?_
  refine va_get (ci := 8) (v := .ref xl) (C := RX8) (T := TX8) (N := 11) hx hb hts hi8 hown hK hP 0 rfl rfl 2 (by decide) fl20 (fun _ h9 => h9) rfl dX8_settle_8 ?_
  refine lv_aload_n hx hb dX8_settle_11 rfl (lv_at hl 0 rfl) ?_
  refine va_get (ci := 8) (v := .ref xn) (C := RX8) (T := TX8) (N := 11) hx hb hts hi8 hown hK hP 0 rfl rfl 0 (by decide) fl9 (fun _ h9 => h9) rfl dX8_settle_12 ?_
  refine lv_aload_n hx hb dX8_settle_15 rfl (lv_at hl 0 rfl) ?_
  refine va_get (ci := 8) (v := .int 1) (C := RX8) (T := TX8) (N := 11) hx hb hts hi8 hown hK hP 0 rfl rfl 1 (by decide) fl13 (fun _ h9 => h9) rfl dX8_settle_16 ?_
  refine my_goI (wr := [(x0, .inr (8, [.ref xn, .int 1, .ref xl, .ref xt, .ref xo, .ref xf, .ref xs, .ref xp, .ref xq, .ref xr, .ref xc])), (xr, .inr (2, [.ref r1, .ref r2, .ref r3, .ref r4, .ref r5, .int r6, .int r7, .int r8, .int 0]))]) hP hD hS hA [1, 2, 3, 4, 5] [0, 6] rfl rfl (by decide) (by decide) (my_cV (As := [.ref xn, .int 1]) (rest := []) (ci := 1) (wc := [(xl, .inr (1, [.ref bb, .ref bo, .ref bs, .int z])), (bo, .inl (cI, 64, .inl f)), (bs, .inl (cI, 64, .inl g)), (bb, .inl (cJ, 8, .inr (.inl b))), (xn, .inl (cI, 64, .inl q))]) ⟨hx, hb, hml, hown, hts⟩ (cwV 2 hts gX8_settle_X1_remake rfl rfl rfl (by decide +kernel) ⟨Nat.le_of_ble_eq_true rfl, Nat.le_of_ble_eq_true rfl⟩) hN hK hP hD [1, 2, 3, 4, 5] rfl (by decide) rfl 1 rfl rfl rfl rfl hl.1 rfl (Nat.le_of_ble_eq_true rfl) dX8_settle_19 ⟨Nat.le_of_ble_eq_true rfl, Nat.le_of_ble_eq_true rfl⟩  ((k1_X1_remake l D cI cJ xl bb bo bs xn z f g q b) _)) (fun r u H locs hp hP hD hS => ?_)
  obtain rfl := hp
  obtain ⟨r_1, rfl⟩ : ∃ z, z = r := ⟨_, rfl⟩
  have hP : va_P D vwCl [(x0, .inr (8, [.ref xn, .int 1, .ref xl, .ref xt, .ref xo, .ref xf, .ref xs, .ref xp, .ref xq, .ref xr, .ref xc])), (xr, .inr (2, [.ref r1, .ref r2, .ref r3, .ref r4, .ref r5, .int r6, .int r7, .int r8, .int 0])), (xl, .inr (1, [.ref bb, .ref bo, .ref bs, .int 1]))] H := hP
  have hD : va_D A [(x0, .inr (8, [.ref xn, .int 1, .ref xl, .ref xt, .ref xo, .ref xf, .ref xs, .ref xp, .ref xq, .ref xr, .ref xc])), (xr, .inr (2, [.ref r1, .ref r2, .ref r3, .ref r4, .ref r5, .int r6, .int r7, .int r8, .int 0])), (xl, .inr (1, [.ref bb, .ref bo, .ref bs, .int 1]))] := hD
  exact my_retI hx hb hr hlocks hK hS [(x0, .inr (8, [.ref xn, .int 1, .ref xl, .ref xt, .ref xo, .ref xf, .ref xs, .ref xp, .ref xq, .ref xr, .ref xc]))] (hP.sub [0] rfl) (hD.sub [0] (by decide) rfl) (rfl) dX8_settle_22
set_option maxHeartbeats 4000000 in
set_option maxRecDepth 100000 in
theorem k0_X8_runsOf (l : Launch) (D : va_G) (cI cJ : ClassId) (v : Int64) : cpI l yX8_runsOf wsX8_runsOf ({ frames := 0, cells := 0, slots := 0, locals := 0 } : Room) D (tyIJ cI cJ) [.long v, .int 0] [] (fun (r : Int32) => r = 0) := by
  refine cpI.of (cc := cX8_runsOf) (maxL := 3) (ret := (some .int)) (by decide) rfl (Nat.le_of_ble_eq_true rfl) ?_
  intro p e s m below meth c ls hx hb hr hts hown hml hlocks hname hK hN hP hl
  have hl : lv_has ls 3 [(0, .long v), (2, .int 0)] := hl
  have hown : s.vm.findClass RX8 = some m.cls := hown
  refine lv_iload_n hx hb dX8_runsOf_0 rfl (lv_at hl 1 rfl) ?_
  refine lv_if_gt (tgt := 6) hx hb dX8_runsOf_1 (by decide) (fun c1 => ?_) (fun c1 => ?_)
  ·
    exact absurd c1 (by decide +kernel)
  ·
    refine lv_iconst (v := 0) hx hb dX8_runsOf_4 (by decide +kernel) ?_
    exact my_rpI hx hb hr hlocks (rfl) dX8_runsOf_5
