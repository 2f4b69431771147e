set_option maxHeartbeats 4000000 in
set_option maxRecDepth 100000 in
theorem k_J13_bitCount_95d88 (l : Launch) (D : va_G) (cI cJ cK : ClassId) (v9 : Int64) : cpI l yJ13_bitCount_95d88 wsJ13_bitCount_95d88 ({ frames := 0, cells := 0, slots := 0, locals := 0 } : Room) D (tyIJ cI cJ cK) [.long v9] [] (fun (r : Int32) => ∃ (k' : Nat), r = nI k' ∧ k' = pcn v9 ∧ k' ≤ 64) := by
  refine cpI.of (cc := cJ13_bitCount_95d88) (maxL := 2) (ret := (some .int)) (by decide) rfl (Nat.le_of_ble_eq_true rfl) ?_
  intro p e s m below meth c ls hx hb hr hts hown hml hlocks hname hK hN hP hl
  have hl : lv_has ls 2 [(0, .long v9)] := hl
  have hown : s.vm.findClass RJ13 = some m.cls := hown
  refine lv_lload_n hx hb dJ13_bitCount_95d88_0 rfl (lv_at hl 0 rfl) ?_
  refine lv_lload_n hx hb dJ13_bitCount_95d88_1 rfl (lv_at hl 0 rfl) ?_
  refine lv_iconst (v := 1) hx hb dJ13_bitCount_95d88_2 (by decide +kernel) ?_
  refine lv_lushr hx hb dJ13_bitCount_95d88_3 rfl ?_
  refine lv_topl (fun z_1 ez_1 => ?_)
  refine lv_ldc2 (v := 6148914691236517205) hx hb hown (hts (.constantLong RJ13 314 (6148914691236517205)) (by decide +kernel)) dJ13_bitCount_95d88_4 ?_
  refine lv_land hx hb dJ13_bitCount_95d88_7 ?_
  refine lv_topl (fun z_2 ez_2 => ?_)
  refine lv_lsub hx hb dJ13_bitCount_95d88_8 ?_
  refine lv_topl (fun z_3 ez_3 => ?_)
  refine lv_lstore_n (lv' := [(0, .long z_3)]) hx hb dJ13_bitCount_95d88_9 rfl hl (by decide) rfl (fun ls hl => ?_)
  refine lv_lload_n hx hb dJ13_bitCount_95d88_10 rfl (lv_at hl 0 rfl) ?_
  refine lv_ldc2 (v := 3689348814741910323) hx hb hown (hts (.constantLong RJ13 316 (3689348814741910323)) (by decide +kernel)) dJ13_bitCount_95d88_11 ?_
  refine lv_land hx hb dJ13_bitCount_95d88_14 ?_
  refine lv_topl (fun z_4 ez_4 => ?_)
  refine lv_lload_n hx hb dJ13_bitCount_95d88_15 rfl (lv_at hl 0 rfl) ?_
  refine lv_iconst (v := 2) hx hb dJ13_bitCount_95d88_16 (by decide +kernel) ?_
  refine lv_lushr hx hb dJ13_bitCount_95d88_17 rfl ?_
  refine lv_topl (fun z_5 ez_5 => ?_)
  refine lv_ldc2 (v := 3689348814741910323) hx hb hown (hts (.constantLong RJ13 316 (3689348814741910323)) (by decide +kernel)) dJ13_bitCount_95d88_18 ?_
  refine lv_land hx hb dJ13_bitCount_95d88_21 ?_
  refine lv_topl (fun z_6 ez_6 => ?_)
  refine lv_ladd hx hb dJ13_bitCount_95d88_22 ?_
  refine lv_topl (fun z_7 ez_7 => ?_)
  refine lv_lstore_n (lv' := [(0, .long z_7)]) hx hb dJ13_bitCount_95d88_23 rfl hl (by decide) rfl (fun ls hl => ?_)
  refine lv_lload_n hx hb dJ13_bitCount_95d88_24 rfl (lv_at hl 0 rfl) ?_
  refine lv_lload_n hx hb dJ13_bitCount_95d88_25 rfl (lv_at hl 0 rfl) ?_
  refine lv_iconst (v := 4) hx hb dJ13_bitCount_95d88_26 (by decide +kernel) ?_
  refine lv_lushr hx hb dJ13_bitCount_95d88_27 rfl ?_
  refine lv_topl (fun z_8 ez_8 => ?_)
  refine lv_ladd hx hb dJ13_bitCount_95d88_28 ?_
  refine lv_topl (fun z_9 ez_9 => ?_)
  refine lv_ldc2 (v := 1085102592571150095) hx hb hown (hts (.constantLong RJ13 318 (1085102592571150095)) (by decide +kernel)) dJ13_bitCount_95d88_29 ?_
  refine lv_land hx hb dJ13_bitCount_95d88_32 ?_
  refine lv_topl (fun z_10 ez_10 => ?_)
  refine lv_lstore_n (lv' := [(0, .long z_10)]) hx hb dJ13_bitCount_95d88_33 rfl hl (by decide) rfl (fun ls hl => ?_)
  refine lv_lload_n hx hb dJ13_bitCount_95d88_34 rfl (lv_at hl 0 rfl) ?_
  refine lv_lload_n hx hb dJ13_bitCount_95d88_35 rfl (lv_at hl 0 rfl) ?_
  refine lv_bipush (v := 8) hx hb dJ13_bitCount_95d88_36 (by decide +kernel) ?_
  refine lv_lushr hx hb dJ13_bitCount_95d88_38 rfl ?_
  refine lv_topl (fun z_11 ez_11 => ?_)
  refine lv_ladd hx hb dJ13_bitCount_95d88_39 ?_
  refine lv_topl (fun z_12 ez_12 => ?_)
  refine lv_lstore_n (lv' := [(0, .long z_12)]) hx hb dJ13_bitCount_95d88_40 rfl hl (by decide) rfl (fun ls hl => ?_)
  refine lv_lload_n hx hb dJ13_bitCount_95d88_41 rfl (lv_at hl 0 rfl) ?_
  refine lv_lload_n hx hb dJ13_bitCount_95d88_42 rfl (lv_at hl 0 rfl) ?_
  refine lv_bipush (v := 16) hx hb dJ13_bitCount_95d88_43 (by decide +kernel) ?_
  refine lv_lushr hx hb dJ13_bitCount_95d88_45 rfl ?_
  refine lv_topl (fun z_13 ez_13 => ?_)
  refine lv_ladd hx hb dJ13_bitCount_95d88_46 ?_
  refine lv_topl (fun z_14 ez_14 => ?_)
  refine lv_lstore_n (lv' := [(0, .long z_14)]) hx hb dJ13_bitCount_95d88_47 rfl hl (by decide) rfl (fun ls hl => ?_)
  refine lv_lload_n hx hb dJ13_bitCount_95d88_48 rfl (lv_at hl 0 rfl) ?_
  refine lv_lload_n hx hb dJ13_bitCount_95d88_49 rfl (lv_at hl 0 rfl) ?_
  refine lv_bipush (v := 32) hx hb dJ13_bitCount_95d88_50 (by decide +kernel) ?_
  refine lv_lushr hx hb dJ13_bitCount_95d88_52 rfl ?_
  refine lv_topl (fun z_15 ez_15 => ?_)
  refine lv_ladd hx hb dJ13_bitCount_95d88_53 ?_
  refine lv_topl (fun z_16 ez_16 => ?_)
  refine lv_lstore_n (lv' := [(0, .long z_16)]) hx hb dJ13_bitCount_95d88_54 rfl hl (by decide) rfl (fun ls hl => ?_)
  refine lv_lload_n hx hb dJ13_bitCount_95d88_55 rfl (lv_at hl 0 rfl) ?_
  refine lv_l2i hx hb dJ13_bitCount_95d88_56 rfl ?_
  refine lv_topi (fun z_17 ez_17 => ?_)
  refine lv_bipush (v := 127) hx hb dJ13_bitCount_95d88_57 (by decide +kernel) ?_
  refine lv_iand hx hb dJ13_bitCount_95d88_59 ?_
  refine lv_topi (fun z_18 ez_18 => ?_)
  have hbz_18 : 0 ≤ z_18.toInt ∧ z_18.toInt ≤ 127 := by rw [ez_18]; exact my_andR (by decide +kernel) (by decide +kernel)
  exact my_rpI hx hb hr hlocks (⟨(pcn v9), (by subst_vars; exact zlc_pcn v9), rfl, (pcn_le v9)⟩) dJ13_bitCount_95d88_60
set_option maxHeartbeats 4000000 in
set_option maxRecDepth 100000 in
theorem kf_X8_bitAt (l : Launch) (D : va_G) (cI cJ cK : ClassId) (v9 : Int64) (k : Nat) (hk64 : k < 64) : cpI l yX8_bitAt wsX8_bitAt ({ frames := 0, cells := 0, slots := 0, locals := 0 } : Room) D (tyIJ cI cJ cK) [.long v9, .int (nI k)] [] (fun (r : Int32) => ∃ (k' : Nat), r = nI k' ∧ k' = bN (lbit v9 k) ∧ k' ≤ 1) := by
  refine cpI.of (cc := cX8_bitAt) (maxL := 3) (ret := (some .int)) (by decide) rfl (Nat.le_of_ble_eq_true rfl) ?_
  intro p e s m below meth c ls hx hb hr hts hown hml hlocks hname hK hN hP hl
  have hl : lv_has ls 3 [(0, .long v9), (2, .int (nI k))] := hl
  have hown : s.vm.findClass RX8 = some m.cls := hown
  refine lv_lload_n hx hb dX8_bitAt_0 rfl (lv_at hl 0 rfl) ?_
  refine lv_iload_n hx hb dX8_bitAt_1 rfl (lv_at hl 1 rfl) ?_
  refine lv_lushr hx hb dX8_bitAt_2 rfl ?_
  refine lv_topl (fun z_1 ez_1 => ?_)
  refine lv_lconst (v := 1) hx hb dX8_bitAt_3 (by decide +kernel) ?_
  refine lv_land hx hb dX8_bitAt_4 ?_
  refine lv_topl (fun z_2 ez_2 => ?_)
  refine lv_l2i hx hb dX8_bitAt_5 rfl ?_
  refine lv_topi (fun z_3 ez_3 => ?_)
  exact my_rpI hx hb hr hlocks (⟨(bN (lbit v9 k)), (by subst_vars; exact bitAt_eq v9 hk64), rfl, (bN_le _)⟩) dX8_bitAt_6
set_option maxHeartbeats 4000000 in
set_option maxRecDepth 100000 in
theorem kf_X8_lowest (l : Launch) (D : va_G) (cI cJ cK : ClassId) (u : Nat) (hu64 : u ≤ 64) : cpL l yX8_lowest wsX8_lowest ({ frames := 0, cells := 0, slots := 0, locals := 0 } : Room) D (tyIJ cI cJ cK) [.int (nI u)] [] (fun (r : Int64) => (∀ i, i < 64 → lbit r i = decide (i < u)) ∧ True) := by
  refine cpL.of (cc := cX8_lowest) (maxL := 1) (ret := (some .long)) (by decide) rfl (Nat.le_of_ble_eq_true rfl) ?_
  intro p e s m below meth c ls hx hb hr hts hown hml hlocks hname hK hN hP hl
  have hl : lv_has ls 1 [(0, .int (nI u))] := hl
  have hown : s.vm.findClass RX8 = some m.cls := hown
  refine lv_iload_n hx hb dX8_lowest_0 rfl (lv_at hl 0 rfl) ?_
  refine lv_bipush (v := 64) hx hb dX8_lowest_1 (by decide +kernel) ?_
  refine lv_icmp_lt (tgt := 12) hx hb dX8_lowest_3 (by decide) (fun c3 => ?_) (fun c3 => ?_)
  ·
    have d3 : ((u : Nat) : Int) < (64 : Int) := my_lt c3 (nI_toInt (by omega)) (by decide +kernel)
    refine lv_lconst (v := 1) hx hb dX8_lowest_12 (by decide +kernel) ?_
    refine lv_iload_n hx hb dX8_lowest_13 rfl (lv_at hl 0 rfl) ?_
    refine lv_lshl hx hb dX8_lowest_14 rfl ?_
    refine lv_topl (fun z_1 ez_1 => ?_)
    refine lv_lconst (v := 1) hx hb dX8_lowest_15 (by decide +kernel) ?_
    refine lv_lsub hx hb dX8_lowest_16 ?_
    refine lv_topl (fun z_2 ez_2 => ?_)
    exact my_rpL hx hb hr hlocks (⟨(by first | exact low_2 (by omega) | (subst_vars; exact low_1 (by omega))), (by first | assumption | omega | trivial | decide +kernel)⟩) dX8_lowest_17
  ·
    have d3 : ((u : Nat) : Int) ≥ (64 : Int) := my_nlt c3 (nI_toInt (by omega)) (by decide +kernel)
    refine lv_ldc2 (v := (-1)) hx hb hown (hts (.constantLong RX8 268 (-1)) (by decide +kernel)) dX8_lowest_6 ?_
    refine lv_goto (tgt := 17) hx hb dX8_lowest_9 (by decide) ?_
    exact my_rpL hx hb hr hlocks (⟨(by first | exact low_2 (by omega) | (subst_vars; exact low_1 (by omega))), (by first | assumption | omega | trivial | decide +kernel)⟩) dX8_lowest_17
set_option maxHeartbeats 4000000 in
set_option maxRecDepth 100000 in
theorem kf_X8_nextSpot (l : Launch) (D : va_G) (cI cJ cK : ClassId) (v9 : Int64) (w : Nat) (s0 : Nat) (hs0 : s0 < w) (hw : w ≤ 64) (hz0 : ∀ i, w ≤ i → i < 64 → lbit v9 i = false) : cpI l yX8_nextSpot wsX8_nextSpot ({ frames := 1, cells := 0, slots := 0, locals := 60 } : Room) D (tyIJ cI cJ cK) [.long v9, .int (nI w), .int (nI s0)] [] (fun (r : Int32) => ∃ (k' : Nat), r = nI k' ∧ k' = nxb (lbit v9) w s0) := by
  refine cpI.of (cc := cX8_nextSpot) (maxL := 5) (ret := (some .int)) (by decide) rfl (Nat.le_of_ble_eq_true rfl) ?_
  intro p e s m below meth c ls hx hb hr hts hown hml hlocks hname hK hN hP hl
  have hl : lv_has ls 5 [(0, .long v9), (2, .int (nI w)), (3, .int (nI s0))] := hl
  have hown : s.vm.findClass RX8 = some m.cls := hown
  have hpw : pcn v9 = fb_ct (lbit v9) w := pcn_w hz0 hw
  have hcl := fb_ct_le (lbit v9) w
  have hcs := fb_ct_le (lbit v9) s0
  refine lv_lload_n hx hb dX8_nextSpot_0 rfl (lv_at hl 0 rfl) ?_
  refine lv_iload_n hx hb dX8_nextSpot_1 rfl (lv_at hl 2 rfl) ?_
  refine my_gpL (my_pS (As := [.int (nI s0)]) (rest := [.long v9]) ⟨hx, hb, hml, hown, hts⟩ (va_cwS 1 hts gX8_nextSpot_X8_lowest rfl rfl rfl (by decide +kernel) ⟨Nat.le_of_ble_eq_true rfl, Nat.le_of_ble_eq_true rfl⟩) hN hK hP [] rfl rfl hl.1 rfl (Nat.le_of_ble_eq_true rfl) dX8_nextSpot_2 ⟨Nat.le_of_ble_eq_true rfl, Nat.le_of_ble_eq_true rfl⟩  (kf_X8_lowest l D cI cJ cK s0 (by first | assumption | omega | decide +kernel))) (fun r hp => ?_)
  obtain ⟨hlo, ht_1⟩ := hp
  obtain ⟨r_2, rfl⟩ : ∃ z, z = r := ⟨_, rfl⟩
  refine lv_land hx hb dX8_nextSpot_5 ?_
  refine lv_topl (fun z_3 ez_3 => ?_)
  have hpl : pcn z_3 = fb_ct (lbit v9) s0 := by rw [ez_3]; exact pcn_low hlo (by omega)
  refine my_gpI (my_pS (As := [.long z_3]) (rest := []) ⟨hx, hb, hml, hown, hts⟩ (va_cwS 1 hts gX8_nextSpot_J13_bitCount_95d88 rfl rfl rfl (by decide +kernel) ⟨Nat.le_of_ble_eq_true rfl, Nat.le_of_ble_eq_true rfl⟩) hN hK hP [] rfl rfl hl.1 rfl (Nat.le_of_ble_eq_true rfl) dX8_nextSpot_6 ⟨Nat.le_of_ble_eq_true rfl, Nat.le_of_ble_eq_true rfl⟩  (k_J13_bitCount_95d88 l D cI cJ cK z_3)) (fun r hp => ?_)
  obtain ⟨k_4, rfl, hpc, hq_5⟩ := hp
  have hpo : k_4 = fb_ct (lbit v9) s0 := hpc.trans hpl
  refine lv_istore (lv' := [(4, .int (nI k_4)), (0, .long v9), (2, .int (nI w)), (3, .int (nI s0))]) hx hb dX8_nextSpot_9 hl (by decide) rfl (fun ls hl => ?_)
  refine lv_lload_n hx hb dX8_nextSpot_11 rfl (lv_at hl 1 rfl) ?_
  refine lv_iload_n hx hb dX8_nextSpot_12 rfl (lv_at hl 3 rfl) ?_
  refine my_gpI (my_pS (As := [.long v9, .int (nI s0)]) (rest := []) ⟨hx, hb, hml, hown, hts⟩ (va_cwS 2 hts gX8_nextSpot_X8_bitAt rfl rfl rfl (by decide +kernel) ⟨Nat.le_of_ble_eq_true rfl, Nat.le_of_ble_eq_true rfl⟩) hN hK hP [] rfl rfl hl.1 rfl (Nat.le_of_ble_eq_true rfl) dX8_nextSpot_13 ⟨Nat.le_of_ble_eq_true rfl, Nat.le_of_ble_eq_true rfl⟩  (kf_X8_bitAt l D cI cJ cK v9 s0 (by first | assumption | omega | decide +kernel))) (fun r hp => ?_)
  obtain ⟨k_6, rfl, hbt, hq_7⟩ := hp
  refine lv_if_ne (tgt := 24) hx hb dX8_nextSpot_16 (by decide) (fun c16 => ?_) (fun c16 => ?_)
  ·
    have d16 : ((k_6 : Nat) : Int) ≠ (0 : Int) := my_ne c16 (nI_toInt (by omega)) (by decide +kernel)
    refine lv_iload_n hx hb dX8_nextSpot_24 rfl (lv_at hl 2 rfl) ?_
    refine lv_lload_n hx hb dX8_nextSpot_25 rfl (lv_at hl 1 rfl) ?_
    refine my_gpI (my_pS (As := [.long v9]) (rest := [.int (nI w)]) ⟨hx, hb, hml, hown, hts⟩ (va_cwS 1 hts gX8_nextSpot_J13_bitCount_95d88 rfl rfl rfl (by decide +kernel) ⟨Nat.le_of_ble_eq_true rfl, Nat.le_of_ble_eq_true rfl⟩) hN hK hP [] rfl rfl hl.1 rfl (Nat.le_of_ble_eq_true rfl) dX8_nextSpot_26 ⟨Nat.le_of_ble_eq_true rfl, Nat.le_of_ble_eq_true rfl⟩  (k_J13_bitCount_95d88 l D cI cJ cK v9)) (fun r hp => ?_)
    obtain ⟨k_8, rfl, hpc, hq_9⟩ := hp
    refine lv_isub hx hb dX8_nextSpot_29 ?_
    refine my_eqi (y := nI (w - k_8)) (my_subN (a := w) (b := k_8) (by omega)) ?_
    refine lv_iload hx hb dX8_nextSpot_30 (lv_at hl 0 rfl) ?_
    refine lv_iadd hx hb dX8_nextSpot_32 ?_
    refine my_eqi (y := nI (w - k_8 + k_4)) (nI_add _ _) ?_
    exact my_rpI hx hb hr hlocks (⟨(w - k_8 + k_4), rfl, (by unfold nxb; first | (rw [if_pos (bN_t (by omega))]; omega) | (rw [bN_f (b := lbit v9 s0) (by omega), if_neg (by decide)]; omega))⟩) dX8_nextSpot_33
  ·
    have d16 : ((k_6 : Nat) : Int) = (0 : Int) := my_eq c16 (nI_toInt (by omega)) (by decide +kernel)
    refine lv_iload_n hx hb dX8_nextSpot_19 rfl (lv_at hl 3 rfl) ?_
    refine lv_iload hx hb dX8_nextSpot_20 (lv_at hl 0 rfl) ?_
    refine lv_isub hx hb dX8_nextSpot_22 ?_
    refine my_eqi (y := nI (s0 - k_4)) (my_subN (a := s0) (b := k_4) (by omega)) ?_
    exact my_rpI hx hb hr hlocks (⟨(s0 - k_4), rfl, (by unfold nxb; first | (rw [if_pos (bN_t (by omega))]; omega) | (rw [bN_f (b := lbit v9 s0) (by omega), if_neg (by decide)]; omega))⟩) dX8_nextSpot_23
set_option maxHeartbeats 4000000 in
set_option maxRecDepth 100000 in
theorem kf_X8_runsOf (l : Launch) (D : va_G) (cI cJ cK : ClassId) (v9 : Int64) (w : Nat) (hw : w ≤ 64) : cpI l yX8_runsOf wsX8_runsOf ({ frames := 1, cells := 0, slots := 0, locals := 60 } : Room) D (tyIJ cI cJ cK) [.long v9, .int (nI w)] [] (fun (r : Int32) => ∃ (t' : Nat), r = nI t' ∧ t' = rnF (lbit v9) w ∧ t' ≤ 64) := by
  refine cpI.of (cc := cX8_runsOf) (maxL := 3) (ret := (some .int)) (by decide) rfl (Nat.le_of_ble_eq_true rfl) ?_
  intro p e s m below meth c ls hx hb hr hts hown hml hlocks hname hK hN hP hl
  have hl : lv_has ls 3 [(0, .long v9), (2, .int (nI w))] := hl
  have hown : s.vm.findClass RX8 = some m.cls := hown
  refine lv_iload_n hx hb dX8_runsOf_0 rfl (lv_at hl 1 rfl) ?_
  refine lv_if_gt (tgt := 6) hx hb dX8_runsOf_1 (by decide) (fun c1 => ?_) (fun c1 => ?_)
  ·
    have d1 : ((w : Nat) : Int) > (0 : Int) := my_gt c1 (nI_toInt (by omega)) (by decide +kernel)
    refine lv_iconst (v := 1) hx hb dX8_runsOf_6 (by decide +kernel) ?_
    refine lv_lload_n hx hb dX8_runsOf_7 rfl (lv_at hl 0 rfl) ?_
    refine lv_lload_n hx hb dX8_runsOf_8 rfl (lv_at hl 0 rfl) ?_
    refine lv_iconst (v := 1) hx hb dX8_runsOf_9 (by decide +kernel) ?_
    refine lv_lushr hx hb dX8_runsOf_10 rfl ?_
    refine lv_topl (fun z_1 ez_1 => ?_)
    refine lv_lxor hx hb dX8_runsOf_11 ?_
    refine lv_topl (fun z_2 ez_2 => ?_)
    refine lv_iload_n hx hb dX8_runsOf_12 rfl (lv_at hl 1 rfl) ?_
    refine lv_iconst (v := 1) hx hb dX8_runsOf_13 (by decide +kernel) ?_
    refine lv_isub hx hb dX8_runsOf_14 ?_
    refine my_eqi (y := nI (w - 1)) (my_subN (a := w) (b := 1) (by omega)) ?_
    refine my_gpL (my_pS (As := [.int (nI (w - 1))]) (rest := [.long z_2, .int 1]) ⟨hx, hb, hml, hown, hts⟩ (va_cwS 1 hts gX8_runsOf_X8_lowest rfl rfl rfl (by decide +kernel) ⟨Nat.le_of_ble_eq_true rfl, Nat.le_of_ble_eq_true rfl⟩) hN hK hP [] rfl rfl hl.1 rfl (Nat.le_of_ble_eq_true rfl) dX8_runsOf_15 ⟨Nat.le_of_ble_eq_true rfl, Nat.le_of_ble_eq_true rfl⟩  (kf_X8_lowest l D cI cJ cK (w - 1) (by first | assumption | omega | decide +kernel))) (fun r hp => ?_)
    obtain ⟨hlo, ht_3⟩ := hp
    obtain ⟨r_4, rfl⟩ : ∃ z, z = r := ⟨_, rfl⟩
    refine lv_land hx hb dX8_runsOf_18 ?_
    refine lv_topl (fun z_5 ez_5 => ?_)
    refine my_gpI (my_pS (As := [.long z_5]) (rest := [.int 1]) ⟨hx, hb, hml, hown, hts⟩ (va_cwS 1 hts gX8_runsOf_J13_bitCount_95d88 rfl rfl rfl (by decide +kernel) ⟨Nat.le_of_ble_eq_true rfl, Nat.le_of_ble_eq_true rfl⟩) hN hK hP [] rfl rfl hl.1 rfl (Nat.le_of_ble_eq_true rfl) dX8_runsOf_19 ⟨Nat.le_of_ble_eq_true rfl, Nat.le_of_ble_eq_true rfl⟩  (k_J13_bitCount_95d88 l D cI cJ cK z_5)) (fun r hp => ?_)
    obtain ⟨k_6, rfl, hpc, hq_7⟩ := hp
    refine lv_iadd hx hb dX8_runsOf_22 ?_
    refine my_eqi (y := nI (k_6 + 1)) (my_addN2 k_6 1) ?_
    have hrl := rnF_le (lbit v9) w
    exact my_rpI hx hb hr hlocks (⟨(k_6 + 1), rfl, (by first | (have e9 : w = 0 := (by omega); rw [e9]; rfl) | (rw [hpc, Nat.add_comm]; exact rn_c (x := v9) (by omega) (by omega) hlo (by subst_vars; rfl))), (by first | omega | exact Nat.le_trans (Nat.le_of_eq (show _ = rnF (lbit v9) w from by rw [hpc, Nat.add_comm]; exact rn_c (x := v9) (by omega) (by omega) hlo (by subst_vars; rfl))) (by omega))⟩) dX8_runsOf_23
  ·
    have d1 : ((w : Nat) : Int) ≤ (0 : Int) := my_ngt c1 (nI_toInt (by omega)) (by decide +kernel)
    refine lv_iconst (v := 0) hx hb dX8_runsOf_4 (by decide +kernel) ?_
    exact my_rpI hx hb hr hlocks (⟨0, rfl, (by first | (have e9 : w = 0 := (by omega); rw [e9]; rfl) | (rw [hpc, Nat.add_comm]; exact rn_c (x := v9) (by omega) (by omega) hlo (by subst_vars; rfl))), (by first | omega | exact Nat.le_trans (Nat.le_of_eq (show _ = rnF (lbit v9) w from by rw [hpc, Nat.add_comm]; exact rn_c (x := v9) (by omega) (by omega) hlo (by subst_vars; rfl))) (by omega))⟩) dX8_runsOf_5
set_option maxHeartbeats 4000000 in
set_option maxRecDepth 100000 in
theorem kf_X8_numberIn (l : Launch) (D : va_G) (cI cJ cK : ClassId) (q1 : Nat) (qb : Nat → Int64) (w : Nat) (p0 : Nat) (hp0 : p0 < w) (hw : w ≤ 64) (hz8 : ∀ j, j < 8 → ∀ i, w ≤ i → i < 64 → lbit (qb j) i = false) : cpI l yX8_numberIn wsX8_numberIn ({ frames := 2, cells := 0, slots := 0, locals := 120 } : Room) D (tyIJ cI cJ cK) [.ref q1, .int (nI w), .int (nI p0)] [(q1, .inl (cJ, 8, .inr (.inl qb)))] (fun (r : Int32) => ∃ (v' : Nat), r = nI v' ∧ v' = vlN (fun j i => lbit (qb j) i) w 8 p0 ∧ v' ≤ 255) := by
  refine cpI.of (cc := cX8_numberIn) (maxL := 6) (ret := (some .int)) (by decide) rfl (Nat.le_of_ble_eq_true rfl) ?_
  intro p e s m below meth c ls hx hb hr hts hown hml hlocks hname hK hN hP hl
  have hl : lv_has ls 6 [(0, .ref q1), (1, .int (nI w)), (2, .int (nI p0))] := hl
  have hown : s.vm.findClass RX8 = some m.cls := hown
  refine lv_iconst (v := 0) hx hb dX8_numberIn_0 (by decide +kernel) ?_
  refine lv_istore_n (lv' := [(3, .int 0), (0, .ref q1), (1, .int (nI w)), (2, .int (nI p0))]) hx hb dX8_numberIn_1 rfl hl (by decide) rfl (fun ls hl => ?_)
  refine lv_iload_n hx hb dX8_numberIn_2 rfl (lv_at hl 3 rfl) ?_
  refine lv_istore (lv' := [(4, .int (nI p0)), (3, .int 0), (0, .ref q1), (1, .int (nI w)), (2, .int (nI p0))]) hx hb dX8_numberIn_3 hl (by decide) rfl (fun ls hl => ?_)
  refine lv_iconst (v := 0) hx hb dX8_numberIn_5 (by decide +kernel) ?_
  refine lv_istore (lv' := [(5, .int 0), (4, .int (nI p0)), (3, .int 0), (0, .ref q1), (1, .int (nI w)), (2, .int (nI p0))]) hx hb dX8_numberIn_6 hl (by decide) rfl (fun ls hl => ?_)
  have loop8 : ∀ (n9 : Nat) (k : Nat) (sp : Nat) (x : Nat), 8 - k < n9 → (k ≤ 8) → (sp < w) → (sp = spN (fun j i => lbit (qb j) i) w k p0) → (x = vlN (fun j i => lbit (qb j) i) w k p0) → ∀ (ls : Array Slot), lv_has ls 6 [(5, .int (nI k)), (4, .int (nI sp)), (3, .int (nI x)), (0, .ref q1), (1, .int (nI w)), (2, .int (nI p0))] → W p l e ({ frames := 2, cells := 0, slots := 0, locals := 120 } : Room) s m [.ref q1, .int (nI w), .int (nI p0)].toArray below meth c s.heap [] 0 0 (MQ below (vp_Si (fun (r : Int32) => ∃ (v' : Nat), r = nI v' ∧ v' = vlN (fun j i => lbit (qb j) i) w 8 p0 ∧ v' ≤ 255)) [.ref q1, .int (nI w), .int (nI p0)].toArray s 0 0 (fun _ => False)) (F0 m 8 ls []) := by
    intro n9
    induction n9 with
    | zero =>
      intro k sp x hn9
      exact absurd hn9 (Nat.not_lt_zero _)
    | succ n9 ih8 =>
      intro k sp x hn9 hk_k hsl hsp hxv ls hl
      refine lv_iload hx hb dX8_numberIn_8 (lv_at hl 0 rfl) ?_
      refine lv_aload_n hx hb dX8_numberIn_10 rfl (lv_at hl 3 rfl) ?_
      refine va_alen (v := 8) hx hb hK hP 0 1 rfl rfl rfl dX8_numberIn_11 ?_
      refine lv_icmp_ge (tgt := 47) hx hb dX8_numberIn_12 (by decide) (fun c12 => ?_) (fun c12 => ?_)
      ·
        have d12 : ((k : Nat) : Int) ≥ (8 : Int) := my_ge c12 (nI_toInt (by omega)) (by decide +kernel)
        have hx8 : x = vlN (fun j i => lbit (qb j) i) w 8 p0 := by rw [hxv, show k = 8 from (by omega)]
        have hvl := vlN_lt (fun j i => lbit (qb j) i) w p0 8
        refine lv_iload_n hx hb dX8_numberIn_47 rfl (lv_at hl 2 rfl) ?_
        exact my_rpI hx hb hr hlocks (⟨x, rfl, hx8, (by omega)⟩) dX8_numberIn_48
      ·
        have d12 : ((k : Nat) : Int) < (8 : Int) := my_nge c12 (nI_toInt (by omega)) (by decide +kernel)
        refine lv_iload_n hx hb dX8_numberIn_15 rfl (lv_at hl 2 rfl) ?_
        refine lv_iconst (v := 1) hx hb dX8_numberIn_16 (by decide +kernel) ?_
        refine lv_ishl hx hb dX8_numberIn_17 ?_
        refine my_eqi (y := nI (2 ^ 1 * x)) (my_shl2 x) ?_
        refine lv_aload_n hx hb dX8_numberIn_18 rfl (lv_at hl 3 rfl) ?_
        refine lv_iload hx hb dX8_numberIn_19 (lv_at hl 0 rfl) ?_
        refine va_lald hx hb hK hP 0 1 rfl rfl (vp_in_nI (by omega) (by omega)) dX8_numberIn_21 ?_
        refine my_eql (y := qb k) (congrArg qb (nI_clamp (by omega))) ?_
        refine lv_iload hx hb dX8_numberIn_22 (lv_at hl 1 rfl) ?_
        refine my_gpI (my_pS (As := [.long (qb k), .int (nI sp)]) (rest := [.int (nI (2 ^ 1 * x))]) ⟨hx, hb, hml, hown, hts⟩ (va_cwS 2 hts gX8_numberIn_X8_bitAt rfl rfl rfl (by decide +kernel) ⟨Nat.le_of_ble_eq_true rfl, Nat.le_of_ble_eq_true rfl⟩) hN hK hP [] rfl rfl hl.1 rfl (Nat.le_of_ble_eq_true rfl) dX8_numberIn_24 ⟨Nat.le_of_ble_eq_true rfl, Nat.le_of_ble_eq_true rfl⟩  (kf_X8_bitAt l D cI cJ cK (qb k) sp (by first | assumption | omega | decide +kernel))) (fun r hp => ?_)
        obtain ⟨k_2, rfl, hbt, hq_3⟩ := hp
        refine lv_ior hx hb dX8_numberIn_27 ?_
        refine my_eqi (y := nI (2 ^ 1 * x + k_2)) (fa_or_sum x (by omega)) ?_
        refine lv_istore_n (lv' := [(3, .int (nI (2 ^ 1 * x + k_2))), (5, .int (nI k)), (4, .int (nI sp)), (0, .ref q1), (1, .int (nI w)), (2, .int (nI p0))]) hx hb dX8_numberIn_28 rfl hl (by decide) rfl (fun ls hl => ?_)
        refine lv_aload_n hx hb dX8_numberIn_29 rfl (lv_at hl 3 rfl) ?_
        refine lv_iload hx hb dX8_numberIn_30 (lv_at hl 1 rfl) ?_
        refine va_lald hx hb hK hP 0 1 rfl rfl (vp_in_nI (by omega) (by omega)) dX8_numberIn_32 ?_
        refine my_eql (y := qb k) (congrArg qb (nI_clamp (by omega))) ?_
        refine lv_iload_n hx hb dX8_numberIn_33 rfl (lv_at hl 4 rfl) ?_
        refine lv_iload hx hb dX8_numberIn_34 (lv_at hl 2 rfl) ?_
        refine my_gpI (my_pS (As := [.long (qb k), .int (nI w), .int (nI sp)]) (rest := []) ⟨hx, hb, hml, hown, hts⟩ (va_cwS 3 hts gX8_numberIn_X8_nextSpot rfl rfl rfl (by decide +kernel) ⟨Nat.le_of_ble_eq_true rfl, Nat.le_of_ble_eq_true rfl⟩) hN hK hP [] rfl rfl hl.1 rfl (Nat.le_of_ble_eq_true rfl) dX8_numberIn_36 ⟨Nat.le_of_ble_eq_true rfl, Nat.le_of_ble_eq_true rfl⟩  (kf_X8_nextSpot l D cI cJ cK (qb k) w sp (by first | assumption | omega | decide +kernel) (by first | assumption | omega | decide +kernel) (hz8 k (by omega)))) (fun r hp => ?_)
        obtain ⟨k_5, rfl, hnx⟩ := hp
        refine lv_istore (lv' := [(4, .int (nI k_5)), (3, .int (nI (2 ^ 1 * x + k_2))), (5, .int (nI k)), (0, .ref q1), (1, .int (nI w)), (2, .int (nI p0))]) hx hb dX8_numberIn_39 hl (by decide) rfl (fun ls hl => ?_)
        refine lv_iinc (v := nI (k + 1)) (lv' := [(5, .int (nI (k + 1))), (4, .int (nI k_5)), (3, .int (nI (2 ^ 1 * x + k_2))), (0, .ref q1), (1, .int (nI w)), (2, .int (nI p0))]) hx hb dX8_numberIn_41 hl (k := 2) rfl (my_incN k 1 (by decide +kernel)) (by decide) rfl (fun ls hl => ?_)
        refine lv_goto (tgt := 8) hx hb dX8_numberIn_44 (by decide) ?_
        exact ih8  (k + 1) k_5 (2 ^ 1 * x + k_2) (by omega) (by first | assumption | omega | decide +kernel) (by rw [hnx]; exact nxb_lt hsl) (by rw [hnx, hsp]; rfl) (by show _ = 2 * vlN (fun j i => lbit (qb j) i) w k p0 + (if lbit (qb k) (spN (fun j i => lbit (qb j) i) w k p0) = true then 1 else 0); rw [← hxv, ← hsp, hbt]; unfold bN; omega) ls (lv_sub hl [0, 1, 2, 3, 4, 5] rfl)
  exact loop8 ((8 - 0) + 1) 0 p0 0 (Nat.lt_succ_self _) (by first | assumption | omega | decide +kernel) (by first | assumption | omega | decide +kernel) (rfl) (rfl) ls (lv_sub hl [0, 1, 2, 3, 4, 5] rfl)
set_option maxHeartbeats 4000000 in
set_option maxRecDepth 100000 in
theorem k_X8_lowest (l : Launch) (D : va_G) (cI cJ cK : ClassId) (u8 : Int32) : cpL l yX8_lowest wsX8_lowest ({ frames := 0, cells := 0, slots := 0, locals := 0 } : Room) D (tyIJ cI cJ cK) [.int u8] [] (fun (r : Int64) => True) := by
  refine cpL.of (cc := cX8_lowest) (maxL := 1) (ret := (some .long)) (by decide) rfl (Nat.le_of_ble_eq_true rfl) ?_
  intro p e s m below meth c ls hx hb hr hts hown hml hlocks hname hK hN hP hl
  have hl : lv_has ls 1 [(0, .int u8)] := hl
  have hown : s.vm.findClass RX8 = some m.cls := hown
  refine lv_iload_n hx hb dX8_lowest_0 rfl (lv_at hl 0 rfl) ?_
  refine lv_bipush (v := 64) hx hb dX8_lowest_1 (by decide +kernel) ?_
  refine lv_icmp_lt (tgt := 12) hx hb dX8_lowest_3 (by decide) (fun c3 => ?_) (fun c3 => ?_)
  ·
    have d3 : u8.toInt < (64 : Int) := my_lt c3 rfl (by decide +kernel)
    refine lv_lconst (v := 1) hx hb dX8_lowest_12 (by decide +kernel) ?_
    refine lv_iload_n hx hb dX8_lowest_13 rfl (lv_at hl 0 rfl) ?_
    refine lv_lshl hx hb dX8_lowest_14 rfl ?_
    refine lv_topl (fun z_1 ez_1 => ?_)
    refine lv_lconst (v := 1) hx hb dX8_lowest_15 (by decide +kernel) ?_
    refine lv_lsub hx hb dX8_lowest_16 ?_
    refine lv_topl (fun z_2 ez_2 => ?_)
    exact my_rpL hx hb hr hlocks (trivial) dX8_lowest_17
  ·
    have d3 : u8.toInt ≥ (64 : Int) := my_nlt c3 rfl (by decide +kernel)
    refine lv_ldc2 (v := (-1)) hx hb hown (hts (.constantLong RX8 268 (-1)) (by decide +kernel)) dX8_lowest_6 ?_
    refine lv_goto (tgt := 17) hx hb dX8_lowest_9 (by decide) ?_
    exact my_rpL hx hb hr hlocks (trivial) dX8_lowest_17
set_option maxHeartbeats 4000000 in
set_option maxRecDepth 100000 in
theorem k_X8_runsOf (l : Launch) (D : va_G) (cI cJ cK : ClassId) (v9 : Int64) (u8 : Int32) : cpI l yX8_runsOf wsX8_runsOf ({ frames := 1, cells := 0, slots := 0, locals := 60 } : Room) D (tyIJ cI cJ cK) [.long v9, .int u8] [] (fun (r : Int32) => True) := by
  refine cpI.of (cc := cX8_runsOf) (maxL := 3) (ret := (some .int)) (by decide) rfl (Nat.le_of_ble_eq_true rfl) ?_
  intro p e s m below meth c ls hx hb hr hts hown hml hlocks hname hK hN hP hl
  have hl : lv_has ls 3 [(0, .long v9), (2, .int u8)] := hl
  have hown : s.vm.findClass RX8 = some m.cls := hown
  refine lv_iload_n hx hb dX8_runsOf_0 rfl (lv_at hl 1 rfl) ?_
  refine lv_if_gt (tgt := 6) hx hb dX8_runsOf_1 (by decide) (fun c1 => ?_) (fun c1 => ?_)
  ·
    have d1 : u8.toInt > (0 : Int) := my_gt c1 rfl (by decide +kernel)
    refine lv_iconst (v := 1) hx hb dX8_runsOf_6 (by decide +kernel) ?_
    refine lv_lload_n hx hb dX8_runsOf_7 rfl (lv_at hl 0 rfl) ?_
    refine lv_lload_n hx hb dX8_runsOf_8 rfl (lv_at hl 0 rfl) ?_
    refine lv_iconst (v := 1) hx hb dX8_runsOf_9 (by decide +kernel) ?_
    refine lv_lushr hx hb dX8_runsOf_10 rfl ?_
    refine lv_topl (fun z_1 ez_1 => ?_)
    refine lv_lxor hx hb dX8_runsOf_11 ?_
    refine lv_topl (fun z_2 ez_2 => ?_)
    refine lv_iload_n hx hb dX8_runsOf_12 rfl (lv_at hl 1 rfl) ?_
    refine lv_iconst (v := 1) hx hb dX8_runsOf_13 (by decide +kernel) ?_
    refine lv_isub hx hb dX8_runsOf_14 ?_
    refine lv_topi (fun z_3 ez_3 => ?_)
    try have tz_3 : z_3.toInt = u8.toInt - (1 : Int) := by rw [ez_3]; exact my_subI rfl (by decide +kernel) (by omega) (by omega)
    refine my_gpL (my_pS (As := [.int z_3]) (rest := [.long z_2, .int 1]) ⟨hx, hb, hml, hown, hts⟩ (va_cwS 1 hts gX8_runsOf_X8_lowest rfl rfl rfl (by decide +kernel) ⟨Nat.le_of_ble_eq_true rfl, Nat.le_of_ble_eq_true rfl⟩) hN hK hP [] rfl rfl hl.1 rfl (Nat.le_of_ble_eq_true rfl) dX8_runsOf_15 ⟨Nat.le_of_ble_eq_true rfl, Nat.le_of_ble_eq_true rfl⟩  (k_X8_lowest l D cI cJ cK z_3)) (fun r hp => ?_)
    obtain _ := hp
    obtain ⟨r_4, rfl⟩ : ∃ z, z = r := ⟨_, rfl⟩
    refine lv_land hx hb dX8_runsOf_18 ?_
    refine lv_topl (fun z_5 ez_5 => ?_)
    refine my_gpI (my_pS (As := [.long z_5]) (rest := [.int 1]) ⟨hx, hb, hml, hown, hts⟩ (va_cwS 1 hts gX8_runsOf_J13_bitCount_95d88 rfl rfl rfl (by decide +kernel) ⟨Nat.le_of_ble_eq_true rfl, Nat.le_of_ble_eq_true rfl⟩) hN hK hP [] rfl rfl hl.1 rfl (Nat.le_of_ble_eq_true rfl) dX8_runsOf_19 ⟨Nat.le_of_ble_eq_true rfl, Nat.le_of_ble_eq_true rfl⟩  (k_J13_bitCount_95d88 l D cI cJ cK z_5)) (fun r hp => ?_)
    obtain ⟨k_6, rfl, hpc, hq_7⟩ := hp
    refine lv_iadd hx hb dX8_runsOf_22 ?_
    refine my_eqi (y := nI (k_6 + 1)) (my_addN2 k_6 1) ?_
    exact my_rpI hx hb hr hlocks (trivial) dX8_runsOf_23
  ·
    have d1 : u8.toInt ≤ (0 : Int) := my_ngt c1 rfl (by decide +kernel)
    refine lv_iconst (v := 0) hx hb dX8_runsOf_4 (by decide +kernel) ?_
    exact my_rpI hx hb hr hlocks (trivial) dX8_runsOf_5
abbrev wl_k_X1_startOrder (cI cJ cK : ClassId) (xl : Nat) (l1 : Nat) (l2 : Nat) (l3 : Nat) (v0_ : Int32) (v1_ : Nat → Int32) : va_W := [(xl, .inr (1, [.ref l1, .ref l2, .ref l3, .int v0_])), (l2, .inl (cI, 64, .inl v1_))]
set_option maxHeartbeats 4000000 in
set_option maxRecDepth 100000 in
theorem k_X1_startOrder (l : Launch) (D : va_G) (cI cJ cK : ClassId) (xl : Nat) (l1 : Nat) (l2 : Nat) (l3 : Nat) (lz : Nat) (lo : Nat → Int32) (hz_lz : lz ≤ 64) (hR_lo : RB 0 63 lo) : ctV l yX1_startOrder wsX1_startOrder ({ frames := 0, cells := 0, slots := 0, locals := 0 } : Room) D (tyIJ cI cJ cK) [.ref xl] (wl_k_X1_startOrder cI cJ cK xl l1 l2 l3 (nI lz) lo) (fun (u : va_W) => ∃ (lo' : Nat → Int32), u = (wl_k_X1_startOrder cI cJ cK xl l1 l2 l3 (nI lz) lo') ∧ RB 0 63 lo' ∧ (∀ i, i < lz → lo' i = nI i)) := by
  refine ctV.of (cc := cX1_startOrder) (maxL := 2) (ret := none) (by decide) rfl (Nat.le_of_ble_eq_true rfl) ?_
  intro p e s m below meth c ls A hx hb hr hts hown hml hlocks hname hA hK hN hP hD hS hl
  have hl : lv_has ls 2 [(0, .ref xl)] := hl
  have hown : s.vm.findClass RX1 = some m.cls := hown
  have hi1 : ∀ w ∈ u_ws RX1 TX1 4, w ∈ wsX1_startOrder := by decide +kernel
  have fl15 := hts (.fieldLink RX1 15 "PlaneColumn$Levels" "order" "[I") (by decide +kernel)
  have fl22 := hts (.fieldLink RX1 22 "PlaneColumn$Levels" "size" "I") (by decide +kernel)
  refine lv_iconst (v := 0) hx hb dX1_startOrder_0 (by decide +kernel) ?_
  refine lv_istore_n (lv' := [(1, .int 0), (0, .ref xl)]) hx hb dX1_startOrder_1 rfl hl (by decide) rfl (fun ls hl => ?_)
  have loop2 : ∀ (n9 : Nat) (k : Nat) (l2_2 : Nat → Int32), lz - k < n9 → (k ≤ lz) → (∀ p, p < k → l2_2 p = nI p) → (RB 0 63 l2_2) → ∀ (H : Heap) (locs : List Loc) (ls : Array Slot), va_P D vwCl (wl_k_X1_startOrder cI cJ cK xl l1 l2 l3 (nI lz) l2_2) H → va_D A (wl_k_X1_startOrder cI cJ cK xl l1 l2 l3 (nI lz) l2_2) → va_S A s.heap H locs → lv_has ls 2 [(1, .int (nI k)), (0, .ref xl)] → W p l e ({ frames := 0, cells := 0, slots := 0, locals := 0 } : Room) s m [.ref xl].toArray below meth c H locs 0 0 (MQ below (va_Qv (fun (u : va_W) => ∃ (lo' : Nat → Int32), u = (wl_k_X1_startOrder cI cJ cK xl l1 l2 l3 (nI lz) lo') ∧ RB 0 63 lo' ∧ (∀ i, i < lz → lo' i = nI i)) (my_B D (tyIJ cI cJ cK) A) A) [.ref xl].toArray s 0 0 A) (F0 m 2 ls []) := by
    intro n9
    induction n9 with
    | zero =>
      intro k l2_2 hn9
      exact absurd hn9 (Nat.not_lt_zero _)
    | succ n9 ih2 =>
      intro k l2_2 hn9 hk_k hk0 hR_l2_2 H locs ls hP hD hS hl
      refine lv_iload_n hx hb dX1_startOrder_2 rfl (lv_at hl 0 rfl) ?_
      refine lv_aload_n hx hb dX1_startOrder_3 rfl (lv_at hl 1 rfl) ?_
      refine va_get (ci := 1) (v := .int (nI lz)) (C := RX1) (T := TX1) (N := 4) hx hb hts hi1 hown hK hP 0 rfl rfl 3 (by decide) fl22 (fun _ h9 => h9) rfl dX1_startOrder_4 ?_
      refine lv_icmp_ge (tgt := 23) hx hb dX1_startOrder_7 (by decide) (fun c7 => ?_) (fun c7 => ?_)
      ·
        have d7 : ((k : Nat) : Int) ≥ ((lz : Nat) : Int) := my_ge c7 (nI_toInt (by omega)) (nI_toInt (by omega))
        exact my_retV hx hb hr hlocks hK hS (wl_k_X1_startOrder cI cJ cK xl l1 l2 l3 (nI lz) l2_2) hP hD (⟨l2_2, rfl, hR_l2_2, (fun p h => hk0 p (by omega))⟩) dX1_startOrder_23
      ·
        have d7 : ((k : Nat) : Int) < ((lz : Nat) : Int) := my_nge c7 (nI_toInt (by omega)) (nI_toInt (by omega))
        refine lv_aload_n hx hb dX1_startOrder_10 rfl (lv_at hl 1 rfl) ?_
        refine va_get (ci := 1) (v := .ref l2) (C := RX1) (T := TX1) (N := 4) hx hb hts hi1 hown hK hP 0 rfl rfl 1 (by decide) fl15 (fun _ h9 => h9) rfl dX1_startOrder_11 ?_
        refine lv_iload_n hx hb dX1_startOrder_14 rfl (lv_at hl 0 rfl) ?_
        refine lv_iload_n hx hb dX1_startOrder_15 rfl (lv_at hl 0 rfl) ?_
        refine va_iast hx hb hK hP hD hS 1 0 rfl rfl (vp_in_nI (by omega) (by omega)) dX1_startOrder_16 (fun H locs hP hD hS => ?_)
        obtain ⟨g_1, eg_1⟩ : ∃ g : Nat → Int32, g = upd l2_2 k (nI k) := ⟨_, rfl⟩
        have eU : upd l2_2 (nI k : Int32).toNatClampNeg (nI k) = g_1 := by rw [eg_1, show (nI k : Int32).toNatClampNeg = k from nI_clamp (by omega)]
        rw [eU] at hP hD
        have hR_g_1 : RB 0 63 g_1 := by rw [eg_1]; exact hR_l2_2.upd (nI_toInt (by omega)) (by omega) (by omega)
        have hP : va_P D vwCl (wl_k_X1_startOrder cI cJ cK xl l1 l2 l3 (nI lz) g_1) H := hP
        have hD : va_D A (wl_k_X1_startOrder cI cJ cK xl l1 l2 l3 (nI lz) g_1) := hD
        refine lv_iinc (v := nI (k + 1)) (lv' := [(1, .int (nI (k + 1))), (0, .ref xl)]) hx hb dX1_startOrder_17 hl (k := 0) rfl (my_incN k 1 (by decide +kernel)) (by decide) rfl (fun ls hl => ?_)
        refine lv_goto (tgt := 2) hx hb dX1_startOrder_20 (by decide) ?_
        exact ih2  (k + 1) g_1 (by omega) (by first | assumption | omega | decide +kernel) (bg_step (by assumption) hk0) hR_g_1 _ _ ls hP hD hS (lv_sub hl [0, 1] rfl)
  exact loop2 ((lz - 0) + 1) 0 lo (Nat.lt_succ_self _) (by first | assumption | omega | decide +kernel) (fun p h => absurd h (Nat.not_lt_zero p)) hR_lo _ _ ls hP hD hS (lv_sub hl [0, 1] rfl)
set_option maxHeartbeats 4000000 in
set_option maxRecDepth 100000 in
theorem k_X1_bitsInOrder (l : Launch) (D : va_G) (cI cJ cK : ClassId) (xl : Nat) (l1 : Nat) (l2 : Nat) (l3 : Nat) (xn : Nat) (lz : Nat) (lo : Nat → Int32) (nf : Nat → Int32) (bb : Nat) (hz_lz : lz ≤ 64) (hR_lo : RB 0 63 lo) (hR_nf : RB 0 255 nf) (hbb : bb ≤ 7) : cpL l yX1_bitsInOrder wsX1_bitsInOrder ({ frames := 0, cells := 0, slots := 0, locals := 0 } : Room) D (tyIJ cI cJ cK) [.ref xl, .ref xn, .int (nI bb)] [(xl, .inr (1, [.ref l1, .ref l2, .ref l3, .int (nI lz)])), (l2, .inl (cI, 64, .inl lo)), (xn, .inl (cI, 64, .inl nf))] (fun (r : Int64) => (∀ i, i < 64 → lbit r i = (decide (i < lz) && boP nf lo bb i)) ∧ True) := by
  refine cpL.of (cc := cX1_bitsInOrder) (maxL := 6) (ret := (some .long)) (by decide) rfl (Nat.le_of_ble_eq_true rfl) ?_
  intro p e s m below meth c ls hx hb hr hts hown hml hlocks hname hK hN hP hl
  have hl : lv_has ls 6 [(0, .ref xl), (1, .ref xn), (2, .int (nI bb))] := hl
  have hown : s.vm.findClass RX1 = some m.cls := hown
  have hi1 : ∀ w ∈ u_ws RX1 TX1 4, w ∈ wsX1_bitsInOrder := by decide +kernel
  have fl15 := hts (.fieldLink RX1 15 "PlaneColumn$Levels" "order" "[I") (by decide +kernel)
  have fl22 := hts (.fieldLink RX1 22 "PlaneColumn$Levels" "size" "I") (by decide +kernel)
  refine lv_lconst (v := 0) hx hb dX1_bitsInOrder_0 (by decide +kernel) ?_
  refine lv_lstore_n (lv' := [(3, .long 0), (0, .ref xl), (1, .ref xn), (2, .int (nI bb))]) hx hb dX1_bitsInOrder_1 rfl hl (by decide) rfl (fun ls hl => ?_)
  refine lv_iconst (v := 0) hx hb dX1_bitsInOrder_2 (by decide +kernel) ?_
  refine lv_istore (lv' := [(5, .int 0), (3, .long 0), (0, .ref xl), (1, .ref xn), (2, .int (nI bb))]) hx hb dX1_bitsInOrder_3 hl (by decide) rfl (fun ls hl => ?_)
  have loop5 : ∀ (n9 : Nat) (k : Nat) (y3_5 : Int64), lz - k < n9 → (k ≤ lz) → (∀ i, i < 64 → lbit y3_5 i = (decide (i < k) && boP nf lo bb i)) → ∀ (ls : Array Slot), lv_has ls 6 [(5, .int (nI k)), (3, .long y3_5), (0, .ref xl), (1, .ref xn), (2, .int (nI bb))] → W p l e ({ frames := 0, cells := 0, slots := 0, locals := 0 } : Room) s m [.ref xl, .ref xn, .int (nI bb)].toArray below meth c s.heap [] 0 0 (MQ below (vp_Sl (fun (r : Int64) => (∀ i, i < 64 → lbit r i = (decide (i < lz) && boP nf lo bb i)) ∧ True)) [.ref xl, .ref xn, .int (nI bb)].toArray s 0 0 (fun _ => False)) (F0 m 5 ls []) := by
    intro n9
    induction n9 with
    | zero =>
      intro k y3_5 hn9
      exact absurd hn9 (Nat.not_lt_zero _)
    | succ n9 ih5 =>
      intro k y3_5 hn9 hk_k hxb ls hl
      refine lv_iload hx hb dX1_bitsInOrder_5 (lv_at hl 0 rfl) ?_
      refine lv_aload_n hx hb dX1_bitsInOrder_7 rfl (lv_at hl 2 rfl) ?_
      refine va_get (ci := 1) (v := .int (nI lz)) (C := RX1) (T := TX1) (N := 4) hx hb hts hi1 hown hK hP 0 rfl rfl 3 (by decide) fl22 (fun _ h9 => h9) rfl dX1_bitsInOrder_8 ?_
      refine lv_icmp_ge (tgt := 40) hx hb dX1_bitsInOrder_11 (by decide) (fun c11 => ?_) (fun c11 => ?_)
      ·
        have d11 : ((k : Nat) : Int) ≥ ((lz : Nat) : Int) := my_ge c11 (nI_toInt (by omega)) (nI_toInt (by omega))
        refine lv_lload_n hx hb dX1_bitsInOrder_40 rfl (lv_at hl 1 rfl) ?_
        exact my_rpL hx hb hr hlocks (⟨(by have e9 : k = lz := (by omega); rw [e9] at hxb; exact hxb), (by first | assumption | omega | trivial | decide +kernel)⟩) dX1_bitsInOrder_41
      ·
        have d11 : ((k : Nat) : Int) < ((lz : Nat) : Int) := my_nge c11 (nI_toInt (by omega)) (nI_toInt (by omega))
        refine lv_lload_n hx hb dX1_bitsInOrder_14 rfl (lv_at hl 1 rfl) ?_
        refine lv_aload_n hx hb dX1_bitsInOrder_15 rfl (lv_at hl 3 rfl) ?_
        refine lv_aload_n hx hb dX1_bitsInOrder_16 rfl (lv_at hl 2 rfl) ?_
        refine va_get (ci := 1) (v := .ref l2) (C := RX1) (T := TX1) (N := 4) hx hb hts hi1 hown hK hP 0 rfl rfl 1 (by decide) fl15 (fun _ h9 => h9) rfl dX1_bitsInOrder_17 ?_
        refine lv_iload hx hb dX1_bitsInOrder_20 (lv_at hl 0 rfl) ?_
        refine va_iald hx hb hK hP 1 0 rfl rfl (vp_in_nI (by omega) (by omega)) dX1_bitsInOrder_22 ?_
        refine my_eqi (y := lo k) (congrArg lo (nI_clamp (by omega))) ?_
        have hb_1 := hR_lo k
        obtain ⟨w_2, ew_2, hw_2⟩ : ∃ w : Nat, (lo k) = nI w ∧ (w : Int) = (lo k : Int32).toInt := my_natE (by omega)
        refine my_eqi (y := nI w_2) ew_2 ?_
        refine va_iald hx hb hK hP 2 0 rfl rfl (vp_in_nI (by omega) (by omega)) dX1_bitsInOrder_23 ?_
        refine my_eqi (y := nf w_2) (congrArg nf (nI_clamp (by omega))) ?_
        have hb_3 := hR_nf w_2
        obtain ⟨w_4, ew_4, hw_4⟩ : ∃ w : Nat, (nf w_2) = nI w ∧ (w : Int) = (nf w_2 : Int32).toInt := my_natE (by omega)
        refine my_eqi (y := nI w_4) ew_4 ?_
        refine lv_iload_n hx hb dX1_bitsInOrder_24 rfl (lv_at hl 4 rfl) ?_
        refine lv_ishr hx hb dX1_bitsInOrder_25 ?_
        refine my_eqi (y := nI (w_4 / 2 ^ bb)) (my_shrG (by omega) (by omega)) ?_
        refine lv_iconst (v := 1) hx hb dX1_bitsInOrder_26 (by decide +kernel) ?_
        refine lv_iand hx hb dX1_bitsInOrder_27 ?_
        refine my_eqi (y := nI ((w_4 / 2 ^ bb) % 2)) (my_maskN _ 1) ?_
        refine lv_i2l (v := lN ((w_4 / 2 ^ bb) % 2)) hx hb dX1_bitsInOrder_28 (nI_l (by omega)) ?_
        refine lv_iload hx hb dX1_bitsInOrder_29 (lv_at hl 0 rfl) ?_
        refine lv_lshl hx hb dX1_bitsInOrder_31 rfl ?_
        refine lv_topl (fun z_5 ez_5 => ?_)
        refine lv_lor hx hb dX1_bitsInOrder_32 ?_
        refine lv_topl (fun z_6 ez_6 => ?_)
        refine lv_lstore_n (lv' := [(3, .long z_6), (5, .int (nI k)), (0, .ref xl), (1, .ref xn), (2, .int (nI bb))]) hx hb dX1_bitsInOrder_33 rfl hl (by decide) rfl (fun ls hl => ?_)
        refine lv_iinc (v := nI (k + 1)) (lv' := [(5, .int (nI (k + 1))), (3, .long z_6), (0, .ref xl), (1, .ref xn), (2, .int (nI bb))]) hx hb dX1_bitsInOrder_34 hl (k := 1) rfl (my_incN k 1 (by decide +kernel)) (by decide) rfl (fun ls hl => ?_)
        refine lv_goto (tgt := 5) hx hb dX1_bitsInOrder_37 (by decide) ?_
        exact ih5  (k + 1) z_6 (by omega) (by first | assumption | omega | decide +kernel) (bo_step hxb (by assumption) (by assumption) (by assumption) (by assumption) (by omega) (by omega) (by omega)) ls (lv_sub hl [0, 1, 2, 3, 4] rfl)
  have ec_7 : (0 : Int64).toInt = 0 := by decide +kernel
  exact loop5 ((lz - 0) + 1) 0 (0 : Int64) (Nat.lt_succ_self _) (by first | assumption | omega | decide +kernel) (bo_0) ls (lv_sub hl [0, 1, 2, 3, 4] rfl)
abbrev wl_k_X1_part (cI cJ cK : ClassId) (xl : Nat) (l1 : Nat) (l2 : Nat) (l3 : Nat) (v0_ : Int32) (v1_ : Nat → Int32) (v2_ : Nat → Int32) : va_W := [(xl, .inr (1, [.ref l1, .ref l2, .ref l3, .int v0_])), (l2, .inl (cI, 64, .inl v1_)), (l3, .inl (cI, 64, .inl v2_))]
set_option maxHeartbeats 4000000 in
set_option maxRecDepth 100000 in
theorem k_X1_part (l : Launch) (D : va_G) (cI cJ cK : ClassId) (xl : Nat) (l1 : Nat) (l2 : Nat) (l3 : Nat) (lz : Nat) (lo : Nat → Int32) (ln : Nat → Int32) (v9 : Int64) (hz_lz : lz ≤ 64) (hR_lo : RB 0 63 lo) (hR_ln : RB 0 63 ln) : ctV l yX1_part wsX1_part ({ frames := 2, cells := 0, slots := 0, locals := 120 } : Room) D (tyIJ cI cJ cK) [.ref xl, .long v9] (wl_k_X1_part cI cJ cK xl l1 l2 l3 (nI lz) lo ln) (fun (u : va_W) => ∃ (lo' : Nat → Int32) (ln' : Nat → Int32), u = (wl_k_X1_part cI cJ cK xl l1 l2 l3 (nI lz) lo' ln') ∧ RB 0 63 lo' ∧ RB 0 63 ln' ∧ (∀ k, k < lz → lo' (nxb (lbit v9) lz k) = lo k)) := by
  refine ctV.of (cc := cX1_part) (maxL := 6) (ret := none) (by decide) rfl (Nat.le_of_ble_eq_true rfl) ?_
  intro p e s m below meth c ls A hx hb hr hts hown hml hlocks hname hA hK hN hP hD hS hl
  have hl : lv_has ls 6 [(0, .ref xl), (1, .long v9)] := hl
  have hown : s.vm.findClass RX1 = some m.cls := hown
  have hi1 : ∀ w ∈ u_ws RX1 TX1 4, w ∈ wsX1_part := by decide +kernel
  have fl15 := hts (.fieldLink RX1 15 "PlaneColumn$Levels" "order" "[I") (by decide +kernel)
  have fl19 := hts (.fieldLink RX1 19 "PlaneColumn$Levels" "ones" "[I") (by decide +kernel)
  have fl22 := hts (.fieldLink RX1 22 "PlaneColumn$Levels" "size" "I") (by decide +kernel)
  refine lv_iconst (v := 0) hx hb dX1_part_0 (by decide +kernel) ?_
  refine lv_istore_n (lv' := [(3, .int 0), (0, .ref xl), (1, .long v9)]) hx hb dX1_part_1 rfl hl (by decide) rfl (fun ls hl => ?_)
  refine lv_iconst (v := 0) hx hb dX1_part_2 (by decide +kernel) ?_
  refine lv_istore (lv' := [(4, .int 0), (3, .int 0), (0, .ref xl), (1, .long v9)]) hx hb dX1_part_3 hl (by decide) rfl (fun ls hl => ?_)
  refine lv_iconst (v := 0) hx hb dX1_part_5 (by decide +kernel) ?_
  refine lv_istore (lv' := [(5, .int 0), (4, .int 0), (3, .int 0), (0, .ref xl), (1, .long v9)]) hx hb dX1_part_6 hl (by decide) rfl (fun ls hl => ?_)
  have loop8 : ∀ (n9 : Nat) (k : Nat) (b : Nat) (a : Nat) (l2_8 : Nat → Int32) (l3_8 : Nat → Int32), lz - k < n9 → (a ≤ 64) → (b ≤ 64) → (k ≤ lz) → (a + b = k) → (b = fb_ct (lbit v9) k) → (∀ q, q < k → lbit v9 q = false → l2_8 (q - fb_ct (lbit v9) q) = lo q) → (∀ q, q < k → lbit v9 q = true → l3_8 (fb_ct (lbit v9) q) = lo q) → (∀ q, k ≤ q → l2_8 q = lo q) → (RB 0 63 l2_8) → (RB 0 63 l3_8) → ∀ (H : Heap) (locs : List Loc) (ls : Array Slot), va_P D vwCl (wl_k_X1_part cI cJ cK xl l1 l2 l3 (nI lz) l2_8 l3_8) H → va_D A (wl_k_X1_part cI cJ cK xl l1 l2 l3 (nI lz) l2_8 l3_8) → va_S A s.heap H locs → lv_has ls 6 [(5, .int (nI k)), (4, .int (nI b)), (3, .int (nI a)), (0, .ref xl), (1, .long v9)] → W p l e ({ frames := 2, cells := 0, slots := 0, locals := 120 } : Room) s m [.ref xl, .long v9].toArray below meth c H locs 0 0 (MQ below (va_Qv (fun (u : va_W) => ∃ (lo' : Nat → Int32) (ln' : Nat → Int32), u = (wl_k_X1_part cI cJ cK xl l1 l2 l3 (nI lz) lo' ln') ∧ RB 0 63 lo' ∧ RB 0 63 ln' ∧ (∀ k, k < lz → lo' (nxb (lbit v9) lz k) = lo k)) (my_B D (tyIJ cI cJ cK) A) A) [.ref xl, .long v9].toArray s 0 0 A) (F0 m 8 ls []) := by
    intro n9
    induction n9 with
    | zero =>
      intro k b a l2_8 l3_8 hn9
      exact absurd hn9 (Nat.not_lt_zero _)
    | succ n9 ih8 =>
      intro k b a l2_8 l3_8 hn9 hk_a hk_b hk_k hab hbc hz1 hz2 hz3 hR_l2_8 hR_l3_8 H locs ls hP hD hS hl
      refine lv_iload hx hb dX1_part_8 (lv_at hl 0 rfl) ?_
      refine lv_aload_n hx hb dX1_part_10 rfl (lv_at hl 3 rfl) ?_
      refine va_get (ci := 1) (v := .int (nI lz)) (C := RX1) (T := TX1) (N := 4) hx hb hts hi1 hown hK hP 0 rfl rfl 3 (by decide) fl22 (fun _ h9 => h9) rfl dX1_part_11 ?_
      refine lv_icmp_ge (tgt := 68) hx hb dX1_part_14 (by decide) (fun c14 => ?_) (fun c14 => ?_)
      ·
        have d14 : ((k : Nat) : Int) ≥ ((lz : Nat) : Int) := my_ge c14 (nI_toInt (by omega)) (nI_toInt (by omega))
        refine lv_aload_n hx hb dX1_part_68 rfl (lv_at hl 3 rfl) ?_
        refine va_get (ci := 1) (v := .ref l3) (C := RX1) (T := TX1) (N := 4) hx hb hts hi1 hown hK hP 0 rfl rfl 2 (by decide) fl19 (fun _ h9 => h9) rfl dX1_part_69 ?_
        refine lv_iconst (v := 0) hx hb dX1_part_72 (by decide +kernel) ?_
        refine lv_aload_n hx hb dX1_part_73 rfl (lv_at hl 3 rfl) ?_
        refine va_get (ci := 1) (v := .ref l2) (C := RX1) (T := TX1) (N := 4) hx hb hts hi1 hown hK hP 0 rfl rfl 1 (by decide) fl15 (fun _ h9 => h9) rfl dX1_part_74 ?_
        refine lv_iload_n hx hb dX1_part_77 rfl (lv_at hl 2 rfl) ?_
        refine lv_iload hx hb dX1_part_78 (lv_at hl 1 rfl) ?_
        refine va_copyi hx hb (hml.trans hl.1.symm) hown (hts (.methodLink RX1 47 arraycopyName) (by decide +kernel)) (hts (.native arraycopyName) (by decide +kernel)) (hts (.static arraycopyName) (by decide +kernel)) (hts (.initialized "java/lang/System") (by decide +kernel)) hK hP hD hS 2 1 0 0 rfl rfl rfl rfl rfl (by decide +kernel) (nI_nneg (by omega)) (nI_nneg (by omega)) (by rw [show (0 : Int32).toNatClampNeg = 0 from (by decide +kernel), show (nI b : Int32).toNatClampNeg = b from (nI_clamp (by omega))]; omega) (by rw [show (nI a : Int32).toNatClampNeg = a from (nI_clamp (by omega)), show (nI b : Int32).toNatClampNeg = b from (nI_clamp (by omega))]; omega) (fun _ _ => rfl) (Nat.le_of_ble_eq_true rfl) (Nat.le_of_ble_eq_true rfl) dX1_part_80 (fun H locs hP hD hS => ?_)
        obtain ⟨g_1, eg_1⟩ : ∃ g : Nat → Int32, g = va_cpy l3_8 l2_8 0 a b := ⟨_, rfl⟩
        have eU : va_cpy l3_8 l2_8 (0 : Int32).toNatClampNeg (nI a : Int32).toNatClampNeg (nI b : Int32).toNatClampNeg = g_1 := by rw [eg_1, show (0 : Int32).toNatClampNeg = 0 from (by decide +kernel), show (nI a : Int32).toNatClampNeg = a from (nI_clamp (by omega)), show (nI b : Int32).toNatClampNeg = b from (nI_clamp (by omega))]
        rw [eU] at hP hD
        have hR_g_1 : RB 0 63 g_1 := by rw [eg_1]; exact RB.cpy hR_l3_8 hR_l2_8
        have hP : va_P D vwCl (wl_k_X1_part cI cJ cK xl l1 l2 l3 (nI lz) g_1 l3_8) H := hP
        have hD : va_D A (wl_k_X1_part cI cJ cK xl l1 l2 l3 (nI lz) g_1 l3_8) := hD
        exact my_retV hx hb hr hlocks hK hS (wl_k_X1_part cI cJ cK xl l1 l2 l3 (nI lz) g_1 l3_8) hP hD (⟨g_1, l3_8, rfl, hR_g_1, hR_l3_8, (by have e9 : k = lz := (by omega); rw [e9] at hz1 hz2 hbc; exact pr_end (a := a) (c := b) hz1 hz2 (by omega) hbc (by assumption))⟩) dX1_part_83
      ·
        have d14 : ((k : Nat) : Int) < ((lz : Nat) : Int) := my_nge c14 (nI_toInt (by omega)) (nI_toInt (by omega))
        refine lv_lload_n hx hb dX1_part_17 rfl (lv_at hl 4 rfl) ?_
        refine lv_iload hx hb dX1_part_18 (lv_at hl 0 rfl) ?_
        refine my_gpI (my_pSN (As := [.long v9, .int (nI k)]) (rest := []) ⟨hx, hb, hml, hown, hts⟩ ⟨va_cnB 2 hts ggX1_part_X8_bitAt rfl rfl rfl (nw_m_RX1_43 hN) (hts (.initialized RX8) (by decide +kernel)) (by decide +kernel) ⟨Nat.le_of_ble_eq_true rfl, Nat.le_of_ble_eq_true rfl⟩, hts (.static yX8_bitAt) (by decide +kernel), trivial⟩ hN hK hP [] rfl rfl hl.1 rfl (Nat.le_of_ble_eq_true rfl) dX1_part_20 ⟨Nat.le_of_ble_eq_true rfl, Nat.le_of_ble_eq_true rfl⟩  (kf_X8_bitAt l D cI cJ cK v9 k (by first | assumption | omega | decide +kernel))) (fun r hp => ?_)
        obtain ⟨k_2, rfl, hbt, hq_3⟩ := hp
        refine lv_if_ne (tgt := 45) hx hb dX1_part_23 (by decide) (fun c23 => ?_) (fun c23 => ?_)
        ·
          have d23 : ((k_2 : Nat) : Int) ≠ (0 : Int) := my_ne c23 (nI_toInt (by omega)) (by decide +kernel)
          refine lv_aload_n hx hb dX1_part_45 rfl (lv_at hl 3 rfl) ?_
          refine va_get (ci := 1) (v := .ref l3) (C := RX1) (T := TX1) (N := 4) hx hb hts hi1 hown hK hP 0 rfl rfl 2 (by decide) fl19 (fun _ h9 => h9) rfl dX1_part_46 ?_
          refine lv_iload hx hb dX1_part_49 (lv_at hl 1 rfl) ?_
          refine lv_aload_n hx hb dX1_part_51 rfl (lv_at hl 3 rfl) ?_
          refine va_get (ci := 1) (v := .ref l2) (C := RX1) (T := TX1) (N := 4) hx hb hts hi1 hown hK hP 0 rfl rfl 1 (by decide) fl15 (fun _ h9 => h9) rfl dX1_part_52 ?_
          refine lv_iload hx hb dX1_part_55 (lv_at hl 0 rfl) ?_
          refine va_iald hx hb hK hP 1 0 rfl rfl (vp_in_nI (by omega) (by omega)) dX1_part_57 ?_
          refine my_eqi (y := l2_8 k) (congrArg l2_8 (nI_clamp (by omega))) ?_
          have hb_4 := hR_l2_8 k
          refine va_iast hx hb hK hP hD hS 2 0 rfl rfl (vp_in_nI (by omega) (by omega)) dX1_part_58 (fun H locs hP hD hS => ?_)
          obtain ⟨g_5, eg_5⟩ : ∃ g : Nat → Int32, g = upd l3_8 b (l2_8 k) := ⟨_, rfl⟩
          have eU : upd l3_8 (nI b : Int32).toNatClampNeg (l2_8 k) = g_5 := by rw [eg_5, show (nI b : Int32).toNatClampNeg = b from nI_clamp (by omega)]
          rw [eU] at hP hD
          have hR_g_5 : RB 0 63 g_5 := by rw [eg_5]; exact hR_l3_8.upd rfl (by omega) (by omega)
          have hP : va_P D vwCl (wl_k_X1_part cI cJ cK xl l1 l2 l3 (nI lz) l2_8 g_5) H := hP
          have hD : va_D A (wl_k_X1_part cI cJ cK xl l1 l2 l3 (nI lz) l2_8 g_5) := hD
          refine lv_iinc (v := nI (b + 1)) (lv' := [(4, .int (nI (b + 1))), (5, .int (nI k)), (3, .int (nI a)), (0, .ref xl), (1, .long v9)]) hx hb dX1_part_59 hl (k := 1) rfl (my_incN b 1 (by decide +kernel)) (by decide) rfl (fun ls hl => ?_)
          refine lv_iinc (v := nI (k + 1)) (lv' := [(5, .int (nI (k + 1))), (4, .int (nI (b + 1))), (3, .int (nI a)), (0, .ref xl), (1, .long v9)]) hx hb dX1_part_62 hl (k := 1) rfl (my_incN k 1 (by decide +kernel)) (by decide) rfl (fun ls hl => ?_)
          refine lv_goto (tgt := 8) hx hb dX1_part_65 (by decide) ?_
          exact ih8  (k + 1) (b + 1) a l2_8 g_5 (by omega) (by first | assumption | omega | decide +kernel) (by first | assumption | omega | decide +kernel) (by first | assumption | omega | decide +kernel) (by first | assumption | omega | decide +kernel) (by first | exact ct_yes hbc (bN_t (by omega)) | exact ct_no hbc (bN_f (by omega))) (by first | exact pr_z (a := a) hz1 (bN_f (by omega)) (by omega) (by assumption) (hz3 _ (by omega)) | exact pr_zk hz1 (bN_t (by omega))) (by first | exact pr_o (a := b) hz2 (bN_t (by omega)) (by omega) (by assumption) (hz3 _ (by omega)) | exact pr_ok hz2 (bN_f (by omega))) (by first | exact pr_3 hz3 (by assumption) (by omega) | exact fun q h => hz3 q (by omega)) hR_l2_8 hR_g_5 _ _ ls hP hD hS (lv_sub hl [0, 1, 2, 3, 4] rfl)
        ·
          have d23 : ((k_2 : Nat) : Int) = (0 : Int) := my_eq c23 (nI_toInt (by omega)) (by decide +kernel)
          refine lv_aload_n hx hb dX1_part_26 rfl (lv_at hl 3 rfl) ?_
          refine va_get (ci := 1) (v := .ref l2) (C := RX1) (T := TX1) (N := 4) hx hb hts hi1 hown hK hP 0 rfl rfl 1 (by decide) fl15 (fun _ h9 => h9) rfl dX1_part_27 ?_
          refine lv_iload_n hx hb dX1_part_30 rfl (lv_at hl 2 rfl) ?_
          refine lv_aload_n hx hb dX1_part_31 rfl (lv_at hl 3 rfl) ?_
          refine va_get (ci := 1) (v := .ref l2) (C := RX1) (T := TX1) (N := 4) hx hb hts hi1 hown hK hP 0 rfl rfl 1 (by decide) fl15 (fun _ h9 => h9) rfl dX1_part_32 ?_
          refine lv_iload hx hb dX1_part_35 (lv_at hl 0 rfl) ?_
          refine va_iald hx hb hK hP 1 0 rfl rfl (vp_in_nI (by omega) (by omega)) dX1_part_37 ?_
          refine my_eqi (y := l2_8 k) (congrArg l2_8 (nI_clamp (by omega))) ?_
          have hb_6 := hR_l2_8 k
          refine va_iast hx hb hK hP hD hS 1 0 rfl rfl (vp_in_nI (by omega) (by omega)) dX1_part_38 (fun H locs hP hD hS => ?_)
          obtain ⟨g_7, eg_7⟩ : ∃ g : Nat → Int32, g = upd l2_8 a (l2_8 k) := ⟨_, rfl⟩
          have eU : upd l2_8 (nI a : Int32).toNatClampNeg (l2_8 k) = g_7 := by rw [eg_7, show (nI a : Int32).toNatClampNeg = a from nI_clamp (by omega)]
          rw [eU] at hP hD
          have hR_g_7 : RB 0 63 g_7 := by rw [eg_7]; exact hR_l2_8.upd rfl (by omega) (by omega)
          have hP : va_P D vwCl (wl_k_X1_part cI cJ cK xl l1 l2 l3 (nI lz) g_7 l3_8) H := hP
          have hD : va_D A (wl_k_X1_part cI cJ cK xl l1 l2 l3 (nI lz) g_7 l3_8) := hD
          refine lv_iinc (v := nI (a + 1)) (lv' := [(3, .int (nI (a + 1))), (5, .int (nI k)), (4, .int (nI b)), (0, .ref xl), (1, .long v9)]) hx hb dX1_part_39 hl (k := 2) rfl (my_incN a 1 (by decide +kernel)) (by decide) rfl (fun ls hl => ?_)
          refine lv_goto (tgt := 62) hx hb dX1_part_42 (by decide) ?_
          refine lv_iinc (v := nI (k + 1)) (lv' := [(5, .int (nI (k + 1))), (3, .int (nI (a + 1))), (4, .int (nI b)), (0, .ref xl), (1, .long v9)]) hx hb dX1_part_62 hl (k := 1) rfl (my_incN k 1 (by decide +kernel)) (by decide) rfl (fun ls hl => ?_)
          refine lv_goto (tgt := 8) hx hb dX1_part_65 (by decide) ?_
          exact ih8  (k + 1) b (a + 1) g_7 l3_8 (by omega) (by first | assumption | omega | decide +kernel) (by first | assumption | omega | decide +kernel) (by first | assumption | omega | decide +kernel) (by first | assumption | omega | decide +kernel) (by first | exact ct_yes hbc (bN_t (by omega)) | exact ct_no hbc (bN_f (by omega))) (by first | exact pr_z (a := a) hz1 (bN_f (by omega)) (by omega) (by assumption) (hz3 _ (by omega)) | exact pr_zk hz1 (bN_t (by omega))) (by first | exact pr_o (a := b) hz2 (bN_t (by omega)) (by omega) (by assumption) (hz3 _ (by omega)) | exact pr_ok hz2 (bN_f (by omega))) (by first | exact pr_3 hz3 (by assumption) (by omega) | exact fun q h => hz3 q (by omega)) hR_g_7 hR_l3_8 _ _ ls hP hD hS (lv_sub hl [0, 2, 1, 3, 4] rfl)
  exact loop8 ((lz - 0) + 1) 0 0 0 lo ln (Nat.lt_succ_self _) (by first | assumption | omega | decide +kernel) (by first | assumption | omega | decide +kernel) (by first | assumption | omega | decide +kernel) (by first | assumption | omega | decide +kernel) (rfl) (fun q h => absurd h (Nat.not_lt_zero q)) (fun q h => absurd h (Nat.not_lt_zero q)) (fun q _ => rfl) hR_lo hR_ln _ _ ls hP hD hS (lv_sub hl [0, 1, 2, 3, 4] rfl)
abbrev wl_k_X1_remake (cI cJ cK : ClassId) (xl : Nat) (l1 : Nat) (l2 : Nat) (l3 : Nat) (xn : Nat) (v0_ : Int32) (v1_ : Nat → Int32) (v2_ : Nat → Int32) (v3_ : Nat → Int64) (v4_ : Nat → Int32) : va_W := [(xl, .inr (1, [.ref l1, .ref l2, .ref l3, .int v0_])), (l2, .inl (cI, 64, .inl v1_)), (l3, .inl (cI, 64, .inl v2_)), (l1, .inl (cJ, 8, .inr (.inl v3_))), (xn, .inl (cI, 64, .inl v4_))]
set_option maxHeartbeats 4000000 in
set_option maxRecDepth 100000 in
theorem k_X1_remake (l : Launch) (D : va_G) (cI cJ cK : ClassId) (xl : Nat) (l1 : Nat) (l2 : Nat) (l3 : Nat) (xn : Nat) (lz : Nat) (lo : Nat → Int32) (ln : Nat → Int32) (lb : Nat → Int64) (nf : Nat → Int32) (w : Nat) (hz_lz : lz ≤ 64) (hR_lo : RB 0 63 lo) (hR_ln : RB 0 63 ln) (hR_nf : RB 0 255 nf) (hw : w ≤ 64) : ctI l yX1_remake wsX1_remake ({ frames := 3, cells := 0, slots := 0, locals := 180 } : Room) D (tyIJ cI cJ cK) [.ref xl, .ref xn, .int (nI w)] (wl_k_X1_remake cI cJ cK xl l1 l2 l3 xn (nI lz) lo ln lb nf) (fun (r : Int32) (u : va_W) => ∃ (t' : Nat) (lz' : Nat) (lo' : Nat → Int32) (ln' : Nat → Int32) (lb' : Nat → Int64), u = (wl_k_X1_remake cI cJ cK xl l1 l2 l3 xn (nI lz') lo' ln' lb' nf) ∧ r = nI t' ∧ lz' ≤ 64 ∧ RB 0 63 lo' ∧ RB 0 63 ln' ∧ lz' = w ∧ LVL lb' nf w ∧ t' = fb_sm (fun j => pcn (lb' j ^^^ lb j)) 8) := by
  refine ctI.of (cc := cX1_remake) (maxL := 7) (ret := (some .int)) (by decide) rfl (Nat.le_of_ble_eq_true rfl) ?_
  intro p e s m below meth c ls A hx hb hr hts hown hml hlocks hname hA hK hN hP hD hS hl
  have hl : lv_has ls 7 [(0, .ref xl), (1, .ref xn), (2, .int (nI w))] := hl
  have hown : s.vm.findClass RX1 = some m.cls := hown
  have hi1 : ∀ w ∈ u_ws RX1 TX1 4, w ∈ wsX1_remake := by decide +kernel
  have fl22 := hts (.fieldLink RX1 22 "PlaneColumn$Levels" "size" "I") (by decide +kernel)
  have fl9 := hts (.fieldLink RX1 9 "PlaneColumn$Levels" "bits" "[J") (by decide +kernel)
  refine lv_aload_n hx hb dX1_remake_0 rfl (lv_at hl 0 rfl) ?_
  refine lv_iload_n hx hb dX1_remake_1 rfl (lv_at hl 2 rfl) ?_
  refine va_put (ci := 1) (v := .int (nI w)) (ty := (.int)) (C := RX1) (T := TX1) (N := 4) hx hb hts hi1 tyX1 tyX1_ok nmX1 hown hK hP hD hS 0 rfl rfl 3 (by decide) fl22 (fun _ h9 => h9) rfl (by decide +kernel) rfl rfl (Nat.le_of_ble_eq_true rfl) dX1_remake_2 (fun H locs hP hD hS => ?_)
  have hP : va_P D vwCl (wl_k_X1_remake cI cJ cK xl l1 l2 l3 xn (nI w) lo ln lb nf) H := hP
  have hD : va_D A (wl_k_X1_remake cI cJ cK xl l1 l2 l3 xn (nI w) lo ln lb nf) := hD
  refine lv_iconst (v := 0) hx hb dX1_remake_5 (by decide +kernel) ?_
  refine lv_istore_n (lv' := [(3, .int 0), (0, .ref xl), (1, .ref xn), (2, .int (nI w))]) hx hb dX1_remake_6 rfl hl (by decide) rfl (fun ls hl => ?_)
  refine lv_aload_n hx hb dX1_remake_7 rfl (lv_at hl 1 rfl) ?_
  refine my_goVS (wc := (wl_k_X1_startOrder cI cJ cK xl l1 l2 l3 (nI w) lo)) hP hD hS hA [0, 1] rfl [some 0, some 1] (by decide +kernel) (my_cV (As := []) (rest := []) (ci := 1) (wc := (wl_k_X1_startOrder cI cJ cK xl l1 l2 l3 (nI w) lo)) ⟨hx, hb, hml, hown, hts⟩ (cwV 0 hts gX1_remake_X1_startOrder rfl rfl rfl (by decide +kernel) ⟨Nat.le_of_ble_eq_true rfl, Nat.le_of_ble_eq_true rfl⟩) hN hK hP hD [0, 1] rfl (by decide) rfl 0 rfl rfl rfl rfl hl.1 rfl (Nat.le_of_ble_eq_true rfl) dX1_remake_8 ⟨Nat.le_of_ble_eq_true rfl, Nat.le_of_ble_eq_true rfl⟩  ((k_X1_startOrder l D cI cJ cK xl l1 l2 l3 w lo (by first | assumption | omega | decide +kernel) hR_lo) _)) (fun u H locs hp hPD hS => ?_)
  obtain ⟨lo_1, rfl, hR_lo_1, hso⟩ := hp
  obtain ⟨hP, hD⟩ := hPD rfl
  have hP : va_P D vwCl (wl_k_X1_remake cI cJ cK xl l1 l2 l3 xn (nI w) lo_1 ln lb nf) H := hP
  have hD : va_D A (wl_k_X1_remake cI cJ cK xl l1 l2 l3 xn (nI w) lo_1 ln lb nf) := hD
  refine lv_iconst (v := 0) hx hb dX1_remake_11 (by decide +kernel) ?_
  refine lv_istore (lv' := [(4, .int 0), (3, .int 0), (0, .ref xl), (1, .ref xn), (2, .int (nI w))]) hx hb dX1_remake_12 hl (by decide) rfl (fun ls hl => ?_)
  have loop14 : ∀ (n9 : Nat) (k : Nat) (t : Nat) (l2_14 : Nat → Int32) (l3_14 : Nat → Int32) (l1_14 : Nat → Int64), 8 - k < n9 → (k ≤ 8) → (∀ i, i < w → l2_14 i = nI (ordF nf w k i)) → (∀ q, q < k → ∀ i, i < 64 → lbit (l1_14 q) i = (decide (i < w) && lvB nf w q i)) → (∀ q, k ≤ q → l1_14 q = lb q) → (t = fb_sm (fun j => pcn (l1_14 j ^^^ lb j)) k) → (RB 0 63 l2_14) → (RB 0 63 l3_14) → ∀ (H : Heap) (locs : List Loc) (ls : Array Slot), va_P D vwCl (wl_k_X1_remake cI cJ cK xl l1 l2 l3 xn (nI w) l2_14 l3_14 l1_14 nf) H → va_D A (wl_k_X1_remake cI cJ cK xl l1 l2 l3 xn (nI w) l2_14 l3_14 l1_14 nf) → va_S A s.heap H locs → lv_has ls 7 [(4, .int (nI k)), (3, .int (nI t)), (0, .ref xl), (1, .ref xn), (2, .int (nI w))] → W p l e ({ frames := 3, cells := 0, slots := 0, locals := 180 } : Room) s m [.ref xl, .ref xn, .int (nI w)].toArray below meth c H locs 0 0 (MQ below (va_Qi (fun (r : Int32) (u : va_W) => ∃ (t' : Nat) (lz' : Nat) (lo' : Nat → Int32) (ln' : Nat → Int32) (lb' : Nat → Int64), u = (wl_k_X1_remake cI cJ cK xl l1 l2 l3 xn (nI lz') lo' ln' lb' nf) ∧ r = nI t' ∧ lz' ≤ 64 ∧ RB 0 63 lo' ∧ RB 0 63 ln' ∧ lz' = w ∧ LVL lb' nf w ∧ t' = fb_sm (fun j => pcn (lb' j ^^^ lb j)) 8) (my_B D (tyIJ cI cJ cK) A) A) [.ref xl, .ref xn, .int (nI w)].toArray s 0 0 A) (F0 m 14 ls []) := by
    intro n9
    induction n9 with
    | zero =>
      intro k t l2_14 l3_14 l1_14 hn9
      exact absurd hn9 (Nat.not_lt_zero _)
    | succ n9 ih14 =>
      intro k t l2_14 l3_14 l1_14 hn9 hk_k hor hl1 hl2 ht hR_l2_14 hR_l3_14 H locs ls hP hD hS hl
      refine lv_iload hx hb dX1_remake_14 (lv_at hl 0 rfl) ?_
      refine lv_bipush (v := 8) hx hb dX1_remake_16 (by decide +kernel) ?_
      refine lv_icmp_ge (tgt := 70) hx hb dX1_remake_18 (by decide) (fun c18 => ?_) (fun c18 => ?_)
      ·
        have d18 : ((k : Nat) : Int) ≥ (8 : Int) := my_ge c18 (nI_toInt (by omega)) (by decide +kernel)
        refine lv_iload_n hx hb dX1_remake_70 rfl (lv_at hl 1 rfl) ?_
        exact my_retI hx hb hr hlocks hK hS (wl_k_X1_remake cI cJ cK xl l1 l2 l3 xn (nI w) l2_14 l3_14 l1_14 nf) hP hD (⟨t, w, l2_14, l3_14, l1_14, rfl, rfl, (by first | assumption | omega | trivial | decide +kernel), hR_l2_14, hR_l3_14, (by first | assumption | omega | trivial | decide +kernel), (fun q hq => hl1 q (by omega)), (by rw [ht, show k = 8 from (by omega)])⟩) dX1_remake_71
      ·
        have d18 : ((k : Nat) : Int) < (8 : Int) := my_nge c18 (nI_toInt (by omega)) (by decide +kernel)
        refine lv_aload_n hx hb dX1_remake_21 rfl (lv_at hl 2 rfl) ?_
        refine lv_aload_n hx hb dX1_remake_22 rfl (lv_at hl 3 rfl) ?_
        refine lv_bipush (v := 7) hx hb dX1_remake_23 (by decide +kernel) ?_
        refine lv_iload hx hb dX1_remake_25 (lv_at hl 0 rfl) ?_
        refine lv_isub hx hb dX1_remake_27 ?_
        refine my_eqi (y := nI (7 - k)) (my_subN (a := 7) (b := k) (by omega)) ?_
        refine my_gpL (my_pV (As := [.ref xn, .int (nI (7 - k))]) (rest := []) (ci := 1) ⟨hx, hb, hml, hown, hts⟩ (cwV 2 hts gX1_remake_X1_bitsInOrder rfl rfl rfl (by decide +kernel) ⟨Nat.le_of_ble_eq_true rfl, Nat.le_of_ble_eq_true rfl⟩) hN hK hP [0, 1, 4] rfl 0 rfl rfl rfl rfl hl.1 rfl (Nat.le_of_ble_eq_true rfl) dX1_remake_28 ⟨Nat.le_of_ble_eq_true rfl, Nat.le_of_ble_eq_true rfl⟩  (k_X1_bitsInOrder l D cI cJ cK xl l1 l2 l3 xn w l2_14 nf (7 - k) (by first | assumption | omega | decide +kernel) hR_l2_14 hR_nf (by first | assumption | omega | decide +kernel))) (fun r hp => ?_)
        obtain ⟨hbo, ht_2⟩ := hp
        obtain ⟨r_3, rfl⟩ : ∃ z, z = r := ⟨_, rfl⟩
        have hbv : ∀ i, i < 64 → lbit r_3 i = (decide (i < w) && lvB nf w k i) := bo_lv hbo hor (by omega)
        refine lv_lstore (lv' := [(5, .long r_3), (4, .int (nI k)), (3, .int (nI t)), (0, .ref xl), (1, .ref xn), (2, .int (nI w))]) hx hb dX1_remake_31 hl (by decide) rfl (fun ls hl => ?_)
        refine lv_iload_n hx hb dX1_remake_33 rfl (lv_at hl 2 rfl) ?_
        refine lv_lload hx hb dX1_remake_34 (lv_at hl 0 rfl) ?_
        refine lv_aload_n hx hb dX1_remake_36 rfl (lv_at hl 3 rfl) ?_
        refine va_get (ci := 1) (v := .ref l1) (C := RX1) (T := TX1) (N := 4) hx hb hts hi1 hown hK hP 0 rfl rfl 0 (by decide) fl9 (fun _ h9 => h9) rfl dX1_remake_37 ?_
        refine lv_iload hx hb dX1_remake_40 (lv_at hl 1 rfl) ?_
        refine va_lald hx hb hK hP 3 1 rfl rfl (vp_in_nI (by omega) (by omega)) dX1_remake_42 ?_
        refine my_eql (y := l1_14 k) (congrArg l1_14 (nI_clamp (by omega))) ?_
        refine lv_lxor hx hb dX1_remake_43 ?_
        refine lv_topl (fun z_5 ez_5 => ?_)
        refine my_gpI (my_pS (As := [.long z_5]) (rest := [.int (nI t)]) ⟨hx, hb, hml, hown, hts⟩ (va_cwS 1 hts gX1_remake_J13_bitCount_95d88 rfl rfl rfl (by decide +kernel) ⟨Nat.le_of_ble_eq_true rfl, Nat.le_of_ble_eq_true rfl⟩) hN hK hP [] rfl rfl hl.1 rfl (Nat.le_of_ble_eq_true rfl) dX1_remake_44 ⟨Nat.le_of_ble_eq_true rfl, Nat.le_of_ble_eq_true rfl⟩  (k_J13_bitCount_95d88 l D cI cJ cK z_5)) (fun r hp => ?_)
        obtain ⟨k_6, rfl, hpc, hq_7⟩ := hp
        refine lv_iadd hx hb dX1_remake_47 ?_
        refine my_eqi (y := nI (t + k_6)) (nI_add _ _) ?_
        refine lv_istore_n (lv' := [(3, .int (nI (t + k_6))), (5, .long r_3), (4, .int (nI k)), (0, .ref xl), (1, .ref xn), (2, .int (nI w))]) hx hb dX1_remake_48 rfl hl (by decide) rfl (fun ls hl => ?_)
        refine lv_aload_n hx hb dX1_remake_49 rfl (lv_at hl 3 rfl) ?_
        refine va_get (ci := 1) (v := .ref l1) (C := RX1) (T := TX1) (N := 4) hx hb hts hi1 hown hK hP 0 rfl rfl 0 (by decide) fl9 (fun _ h9 => h9) rfl dX1_remake_50 ?_
        refine lv_iload hx hb dX1_remake_53 (lv_at hl 2 rfl) ?_
        refine lv_lload hx hb dX1_remake_55 (lv_at hl 1 rfl) ?_
        refine va_last hx hb hK hP hD hS 3 1 rfl rfl (vp_in_nI (by omega) (by omega)) dX1_remake_57 (fun H locs hP hD hS => ?_)
        obtain ⟨g_8, eg_8⟩ : ∃ g : Nat → Int64, g = vp_updL l1_14 k r_3 := ⟨_, rfl⟩
        have eU : vp_updL l1_14 (nI k : Int32).toNatClampNeg r_3 = g_8 := by rw [eg_8, show (nI k : Int32).toNatClampNeg = k from nI_clamp (by omega)]
        rw [eU] at hP hD
        have hP : va_P D vwCl (wl_k_X1_remake cI cJ cK xl l1 l2 l3 xn (nI w) l2_14 l3_14 g_8 nf) H := hP
        have hD : va_D A (wl_k_X1_remake cI cJ cK xl l1 l2 l3 xn (nI w) l2_14 l3_14 g_8 nf) := hD
        refine lv_aload_n hx hb dX1_remake_58 rfl (lv_at hl 3 rfl) ?_
        refine lv_lload hx hb dX1_remake_59 (lv_at hl 1 rfl) ?_
        refine my_goVS (wc := (wl_k_X1_part cI cJ cK xl l1 l2 l3 (nI w) l2_14 l3_14)) hP hD hS hA [0, 1, 2] rfl [some 0, some 1, some 2] (by decide +kernel) (my_cV (As := [.long r_3]) (rest := []) (ci := 1) (wc := (wl_k_X1_part cI cJ cK xl l1 l2 l3 (nI w) l2_14 l3_14)) ⟨hx, hb, hml, hown, hts⟩ (cwV 1 hts gX1_remake_X1_part rfl rfl rfl (by decide +kernel) ⟨Nat.le_of_ble_eq_true rfl, Nat.le_of_ble_eq_true rfl⟩) hN hK hP hD [0, 1, 2] rfl (by decide) rfl 0 rfl rfl rfl rfl hl.1 rfl (Nat.le_of_ble_eq_true rfl) dX1_remake_61 ⟨Nat.le_of_ble_eq_true rfl, Nat.le_of_ble_eq_true rfl⟩  ((k_X1_part l D cI cJ cK xl l1 l2 l3 w l2_14 l3_14 r_3 (by first | assumption | omega | decide +kernel) hR_l2_14 hR_l3_14) _)) (fun u H locs hp hPD hS => ?_)
        obtain ⟨lo_9, ln_10, rfl, hR_lo_9, hR_ln_10, hpt⟩ := hp
        obtain ⟨hP, hD⟩ := hPD rfl
        have hP : va_P D vwCl (wl_k_X1_remake cI cJ cK xl l1 l2 l3 xn (nI w) lo_9 ln_10 g_8 nf) H := hP
        have hD : va_D A (wl_k_X1_remake cI cJ cK xl l1 l2 l3 xn (nI w) lo_9 ln_10 g_8 nf) := hD
        refine lv_iinc (v := nI (k + 1)) (lv' := [(4, .int (nI (k + 1))), (3, .int (nI (t + k_6))), (5, .long r_3), (0, .ref xl), (1, .ref xn), (2, .int (nI w))]) hx hb dX1_remake_64 hl (k := 2) rfl (my_incN k 1 (by decide +kernel)) (by decide) rfl (fun ls hl => ?_)
        refine lv_goto (tgt := 14) hx hb dX1_remake_67 (by decide) ?_
        exact ih14  (k + 1) (t + k_6) lo_9 ln_10 g_8 (by omega) (by first | assumption | omega | decide +kernel) (rm_ord hpt hbv hor (by omega)) (rm_1 hl1 (by assumption) hbv) (rm_2 hl2 (by assumption)) (rm_3 ht hl2 (by assumption) (by assumption) hpc) hR_lo_9 hR_ln_10 _ _ ls hP hD hS (lv_sub hl [0, 1, 3, 4, 5] rfl)
  exact loop14 ((8 - 0) + 1) 0 0 lo_1 ln lb (Nat.lt_succ_self _) (by first | assumption | omega | decide +kernel) (hso) (fun q h => absurd h (Nat.not_lt_zero q)) (fun q _ => rfl) (rfl) hR_lo_1 hR_ln _ _ ls hP hD hS (lv_sub hl [0, 1, 2, 3, 4] rfl)
abbrev wl_kf_X1_placeAt (cI cJ cK : ClassId) (xl : Nat) (l1 : Nat) (l2 : Nat) (l3 : Nat) (xn : Nat) (v0_ : Int32) (v1_ : Nat → Int32) (v2_ : Nat → Int32) (v3_ : Nat → Int64) (v4_ : Nat → Int32) : va_W := [(xl, .inr (1, [.ref l1, .ref l2, .ref l3, .int v0_])), (l2, .inl (cI, 64, .inl v1_)), (l3, .inl (cI, 64, .inl v2_)), (l1, .inl (cJ, 8, .inr (.inl v3_))), (xn, .inl (cI, 64, .inl v4_))]
set_option maxHeartbeats 4000000 in
set_option maxRecDepth 100000 in
theorem kf_X1_placeAt (l : Launch) (D : va_G) (cI cJ cK : ClassId) (xl : Nat) (l1 : Nat) (l2 : Nat) (l3 : Nat) (xn : Nat) (lz : Nat) (lo : Nat → Int32) (ln : Nat → Int32) (lb : Nat → Int64) (nf : Nat → Int32) (jj : Nat) (sp : Nat) (hz_lz : lz ≤ 64) (hR_lo : RB 0 63 lo) (hR_ln : RB 0 63 ln) (hR_nf : RB 0 255 nf) (hj8 : jj ≤ 8) (hs : sp < lz) (hlv : LVL lb nf lz) : ctI l yX1_placeAt wsX1_placeAt ({ frames := 3, cells := 0, slots := 0, locals := 180 } : Room) D (tyIJ cI cJ cK) [.ref xl, .int (nI jj), .int (nI sp)] (wl_kf_X1_placeAt cI cJ cK xl l1 l2 l3 xn (nI lz) lo ln lb nf) (fun (r : Int32) (u : va_W) => ∃ (p' : Nat) (lo' : Nat → Int32) (ln' : Nat → Int32), u = (wl_kf_X1_placeAt cI cJ cK xl l1 l2 l3 xn (nI lz) lo' ln' lb nf) ∧ r = nI p' ∧ RB 0 63 lo' ∧ RB 0 63 ln' ∧ p' = ordF nf lz jj sp ∧ p' < lz) := by
  refine ctI.of (cc := cX1_placeAt) (maxL := 4) (ret := (some .int)) (by decide) rfl (Nat.le_of_ble_eq_true rfl) ?_
  intro p e s m below meth c ls A hx hb hr hts hown hml hlocks hname hA hK hN hP hD hS hl
  have hl : lv_has ls 4 [(0, .ref xl), (1, .int (nI jj)), (2, .int (nI sp))] := hl
  have hown : s.vm.findClass RX1 = some m.cls := hown
  have hi1 : ∀ w ∈ u_ws RX1 TX1 4, w ∈ wsX1_placeAt := by decide +kernel
  have fl15 := hts (.fieldLink RX1 15 "PlaneColumn$Levels" "order" "[I") (by decide +kernel)
  have fl9 := hts (.fieldLink RX1 9 "PlaneColumn$Levels" "bits" "[J") (by decide +kernel)
  refine lv_aload_n hx hb dX1_placeAt_0 rfl (lv_at hl 0 rfl) ?_
  refine my_goVS (wc := (wl_k_X1_startOrder cI cJ cK xl l1 l2 l3 (nI lz) lo)) hP hD hS hA [0, 1] rfl [some 0, some 1] (by decide +kernel) (my_cV (As := []) (rest := []) (ci := 1) (wc := (wl_k_X1_startOrder cI cJ cK xl l1 l2 l3 (nI lz) lo)) ⟨hx, hb, hml, hown, hts⟩ (cwV 0 hts gX1_placeAt_X1_startOrder rfl rfl rfl (by decide +kernel) ⟨Nat.le_of_ble_eq_true rfl, Nat.le_of_ble_eq_true rfl⟩) hN hK hP hD [0, 1] rfl (by decide) rfl 0 rfl rfl rfl rfl hl.1 rfl (Nat.le_of_ble_eq_true rfl) dX1_placeAt_1 ⟨Nat.le_of_ble_eq_true rfl, Nat.le_of_ble_eq_true rfl⟩  ((k_X1_startOrder l D cI cJ cK xl l1 l2 l3 lz lo (by first | assumption | omega | decide +kernel) hR_lo) _)) (fun u H locs hp hPD hS => ?_)
  obtain ⟨lo_1, rfl, hR_lo_1, hso⟩ := hp
  obtain ⟨hP, hD⟩ := hPD rfl
  have hP : va_P D vwCl (wl_kf_X1_placeAt cI cJ cK xl l1 l2 l3 xn (nI lz) lo_1 ln lb nf) H := hP
  have hD : va_D A (wl_kf_X1_placeAt cI cJ cK xl l1 l2 l3 xn (nI lz) lo_1 ln lb nf) := hD
  refine lv_iconst (v := 0) hx hb dX1_placeAt_4 (by decide +kernel) ?_
  refine lv_istore_n (lv' := [(3, .int 0), (0, .ref xl), (1, .int (nI jj)), (2, .int (nI sp))]) hx hb dX1_placeAt_5 rfl hl (by decide) rfl (fun ls hl => ?_)
  have loop6 : ∀ (n9 : Nat) (k : Nat) (l2_6 : Nat → Int32) (l3_6 : Nat → Int32), jj - k < n9 → (k ≤ jj) → (∀ i, i < lz → l2_6 i = nI (ordF nf lz k i)) → (RB 0 63 l2_6) → (RB 0 63 l3_6) → ∀ (H : Heap) (locs : List Loc) (ls : Array Slot), va_P D vwCl (wl_kf_X1_placeAt cI cJ cK xl l1 l2 l3 xn (nI lz) l2_6 l3_6 lb nf) H → va_D A (wl_kf_X1_placeAt cI cJ cK xl l1 l2 l3 xn (nI lz) l2_6 l3_6 lb nf) → va_S A s.heap H locs → lv_has ls 4 [(3, .int (nI k)), (0, .ref xl), (1, .int (nI jj)), (2, .int (nI sp))] → W p l e ({ frames := 3, cells := 0, slots := 0, locals := 180 } : Room) s m [.ref xl, .int (nI jj), .int (nI sp)].toArray below meth c H locs 0 0 (MQ below (va_Qi (fun (r : Int32) (u : va_W) => ∃ (p' : Nat) (lo' : Nat → Int32) (ln' : Nat → Int32), u = (wl_kf_X1_placeAt cI cJ cK xl l1 l2 l3 xn (nI lz) lo' ln' lb nf) ∧ r = nI p' ∧ RB 0 63 lo' ∧ RB 0 63 ln' ∧ p' = ordF nf lz jj sp ∧ p' < lz) (my_B D (tyIJ cI cJ cK) A) A) [.ref xl, .int (nI jj), .int (nI sp)].toArray s 0 0 A) (F0 m 6 ls []) := by
    intro n9
    induction n9 with
    | zero =>
      intro k l2_6 l3_6 hn9
      exact absurd hn9 (Nat.not_lt_zero _)
    | succ n9 ih6 =>
      intro k l2_6 l3_6 hn9 hk_k hor hR_l2_6 hR_l3_6 H locs ls hP hD hS hl
      refine lv_iload_n hx hb dX1_placeAt_6 rfl (lv_at hl 0 rfl) ?_
      refine lv_iload_n hx hb dX1_placeAt_7 rfl (lv_at hl 2 rfl) ?_
      refine lv_icmp_ge (tgt := 33) hx hb dX1_placeAt_8 (by decide) (fun c8 => ?_) (fun c8 => ?_)
      ·
        have d8 : ((k : Nat) : Int) ≥ ((jj : Nat) : Int) := my_ge c8 (nI_toInt (by omega)) (nI_toInt (by omega))
        refine lv_aload_n hx hb dX1_placeAt_33 rfl (lv_at hl 1 rfl) ?_
        refine va_get (ci := 1) (v := .ref l2) (C := RX1) (T := TX1) (N := 4) hx hb hts hi1 hown hK hP 0 rfl rfl 1 (by decide) fl15 (fun _ h9 => h9) rfl dX1_placeAt_34 ?_
        refine lv_iload_n hx hb dX1_placeAt_37 rfl (lv_at hl 3 rfl) ?_
        refine va_iald hx hb hK hP 1 0 rfl rfl (vp_in_nI (by omega) (by omega)) dX1_placeAt_38 ?_
        refine my_eqi (y := l2_6 sp) (congrArg l2_6 (nI_clamp (by omega))) ?_
        have hb_2 := hR_l2_6 sp
        have hol := ordF_lt (f := nf) jj hs
        exact my_retI hx hb hr hlocks hK hS (wl_kf_X1_placeAt cI cJ cK xl l1 l2 l3 xn (nI lz) l2_6 l3_6 lb nf) hP hD (⟨(ordF nf lz jj sp), l2_6, l3_6, rfl, (by rw [hor sp hs, show k = jj from (by omega)]), hR_l2_6, hR_l3_6, rfl, hol⟩) dX1_placeAt_39
      ·
        have d8 : ((k : Nat) : Int) < ((jj : Nat) : Int) := my_nge c8 (nI_toInt (by omega)) (nI_toInt (by omega))
        refine lv_iload_n hx hb dX1_placeAt_11 rfl (lv_at hl 0 rfl) ?_
        refine lv_bipush (v := 8) hx hb dX1_placeAt_12 (by decide +kernel) ?_
        refine lv_icmp_ge (tgt := 33) hx hb dX1_placeAt_14 (by decide) (fun c14 => ?_) (fun c14 => ?_)
        ·
          have d14 : ((k : Nat) : Int) ≥ (8 : Int) := my_ge c14 (nI_toInt (by omega)) (by decide +kernel)
          exact absurd d14 (by omega)
        ·
          have d14 : ((k : Nat) : Int) < (8 : Int) := my_nge c14 (nI_toInt (by omega)) (by decide +kernel)
          refine lv_aload_n hx hb dX1_placeAt_17 rfl (lv_at hl 1 rfl) ?_
          refine lv_aload_n hx hb dX1_placeAt_18 rfl (lv_at hl 1 rfl) ?_
          refine va_get (ci := 1) (v := .ref l1) (C := RX1) (T := TX1) (N := 4) hx hb hts hi1 hown hK hP 0 rfl rfl 0 (by decide) fl9 (fun _ h9 => h9) rfl dX1_placeAt_19 ?_
          refine lv_iload_n hx hb dX1_placeAt_22 rfl (lv_at hl 0 rfl) ?_
          refine va_lald hx hb hK hP 3 1 rfl rfl (vp_in_nI (by omega) (by omega)) dX1_placeAt_23 ?_
          refine my_eql (y := lb k) (congrArg lb (nI_clamp (by omega))) ?_
          refine my_goVS (wc := (wl_k_X1_part cI cJ cK xl l1 l2 l3 (nI lz) l2_6 l3_6)) hP hD hS hA [0, 1, 2] rfl [some 0, some 1, some 2] (by decide +kernel) (my_cV (As := [.long (lb k)]) (rest := []) (ci := 1) (wc := (wl_k_X1_part cI cJ cK xl l1 l2 l3 (nI lz) l2_6 l3_6)) ⟨hx, hb, hml, hown, hts⟩ (cwV 1 hts gX1_placeAt_X1_part rfl rfl rfl (by decide +kernel) ⟨Nat.le_of_ble_eq_true rfl, Nat.le_of_ble_eq_true rfl⟩) hN hK hP hD [0, 1, 2] rfl (by decide) rfl 0 rfl rfl rfl rfl hl.1 rfl (Nat.le_of_ble_eq_true rfl) dX1_placeAt_24 ⟨Nat.le_of_ble_eq_true rfl, Nat.le_of_ble_eq_true rfl⟩  ((k_X1_part l D cI cJ cK xl l1 l2 l3 lz l2_6 l3_6 (lb k) (by first | assumption | omega | decide +kernel) hR_l2_6 hR_l3_6) _)) (fun u H locs hp hPD hS => ?_)
          obtain ⟨lo_4, ln_5, rfl, hR_lo_4, hR_ln_5, hpt⟩ := hp
          obtain ⟨hP, hD⟩ := hPD rfl
          have hP : va_P D vwCl (wl_kf_X1_placeAt cI cJ cK xl l1 l2 l3 xn (nI lz) lo_4 ln_5 lb nf) H := hP
          have hD : va_D A (wl_kf_X1_placeAt cI cJ cK xl l1 l2 l3 xn (nI lz) lo_4 ln_5 lb nf) := hD
          refine lv_iinc (v := nI (k + 1)) (lv' := [(3, .int (nI (k + 1))), (0, .ref xl), (1, .int (nI jj)), (2, .int (nI sp))]) hx hb dX1_placeAt_27 hl (k := 0) rfl (my_incN k 1 (by decide +kernel)) (by decide) rfl (fun ls hl => ?_)
          refine lv_goto (tgt := 6) hx hb dX1_placeAt_30 (by decide) ?_
          exact ih6  (k + 1) lo_4 ln_5 (by omega) (by first | assumption | omega | decide +kernel) (rm_ord hpt (hlv k (by omega)) hor (by omega)) hR_lo_4 hR_ln_5 _ _ ls hP hD hS (lv_sub hl [0, 1, 2, 3] rfl)
  exact loop6 ((jj - 0) + 1) 0 lo_1 ln (Nat.lt_succ_self _) (by first | assumption | omega | decide +kernel) (hso) hR_lo_1 hR_ln _ _ ls hP hD hS (lv_sub hl [0, 1, 2, 3] rfl)
set_option maxHeartbeats 4000000 in
set_option maxRecDepth 100000 in
theorem kf_X8_spotIn (l : Launch) (D : va_G) (cI cJ cK : ClassId) (l1 : Nat) (lb : Nat → Int64) (w : Nat) (p0 : Nat) (jj : Nat) (hp0 : p0 < w) (hw : w ≤ 64) (hj8 : jj ≤ 8) (hz8 : ∀ j, j < 8 → ∀ i, w ≤ i → i < 64 → lbit (lb j) i = false) : cpI l yX8_spotIn wsX8_spotIn ({ frames := 2, cells := 0, slots := 0, locals := 120 } : Room) D (tyIJ cI cJ cK) [.ref l1, .int (nI w), .int (nI p0), .int (nI jj)] [(l1, .inl (cJ, 8, .inr (.inl lb)))] (fun (r : Int32) => ∃ (q' : Nat), r = nI q' ∧ q' = spN (fun j i => lbit (lb j) i) w jj p0 ∧ q' < w) := by
  refine cpI.of (cc := cX8_spotIn) (maxL := 6) (ret := (some .int)) (by decide) rfl (Nat.le_of_ble_eq_true rfl) ?_
  intro p e s m below meth c ls hx hb hr hts hown hml hlocks hname hK hN hP hl
  have hl : lv_has ls 6 [(0, .ref l1), (1, .int (nI w)), (2, .int (nI p0)), (3, .int (nI jj))] := hl
  have hown : s.vm.findClass RX8 = some m.cls := hown
  refine lv_iload_n hx hb dX8_spotIn_0 rfl (lv_at hl 2 rfl) ?_
  refine lv_istore (lv' := [(4, .int (nI p0)), (0, .ref l1), (1, .int (nI w)), (2, .int (nI p0)), (3, .int (nI jj))]) hx hb dX8_spotIn_1 hl (by decide) rfl (fun ls hl => ?_)
  refine lv_iconst (v := 0) hx hb dX8_spotIn_3 (by decide +kernel) ?_
  refine lv_istore (lv' := [(5, .int 0), (4, .int (nI p0)), (0, .ref l1), (1, .int (nI w)), (2, .int (nI p0)), (3, .int (nI jj))]) hx hb dX8_spotIn_4 hl (by decide) rfl (fun ls hl => ?_)
  have loop6 : ∀ (n9 : Nat) (k : Nat) (sp : Nat), jj - k < n9 → (k ≤ jj) → (sp < w) → (sp = spN (fun j i => lbit (lb j) i) w k p0) → ∀ (ls : Array Slot), lv_has ls 6 [(5, .int (nI k)), (4, .int (nI sp)), (0, .ref l1), (1, .int (nI w)), (2, .int (nI p0)), (3, .int (nI jj))] → W p l e ({ frames := 2, cells := 0, slots := 0, locals := 120 } : Room) s m [.ref l1, .int (nI w), .int (nI p0), .int (nI jj)].toArray below meth c s.heap [] 0 0 (MQ below (vp_Si (fun (r : Int32) => ∃ (q' : Nat), r = nI q' ∧ q' = spN (fun j i => lbit (lb j) i) w jj p0 ∧ q' < w)) [.ref l1, .int (nI w), .int (nI p0), .int (nI jj)].toArray s 0 0 (fun _ => False)) (F0 m 6 ls []) := by
    intro n9
    induction n9 with
    | zero =>
      intro k sp hn9
      exact absurd hn9 (Nat.not_lt_zero _)
    | succ n9 ih6 =>
      intro k sp hn9 hk_k hsl hsp ls hl
      refine lv_iload hx hb dX8_spotIn_6 (lv_at hl 0 rfl) ?_
      refine lv_iload_n hx hb dX8_spotIn_8 rfl (lv_at hl 5 rfl) ?_
      refine lv_icmp_ge (tgt := 37) hx hb dX8_spotIn_9 (by decide) (fun c9 => ?_) (fun c9 => ?_)
      ·
        have d9 : ((k : Nat) : Int) ≥ ((jj : Nat) : Int) := my_ge c9 (nI_toInt (by omega)) (nI_toInt (by omega))
        refine lv_iload hx hb dX8_spotIn_37 (lv_at hl 1 rfl) ?_
        exact my_rpI hx hb hr hlocks (⟨sp, rfl, (by rw [hsp, show k = jj from (by omega)]), (by first | assumption | omega | trivial | decide +kernel)⟩) dX8_spotIn_39
      ·
        have d9 : ((k : Nat) : Int) < ((jj : Nat) : Int) := my_nge c9 (nI_toInt (by omega)) (nI_toInt (by omega))
        refine lv_iload hx hb dX8_spotIn_12 (lv_at hl 0 rfl) ?_
        refine lv_aload_n hx hb dX8_spotIn_14 rfl (lv_at hl 2 rfl) ?_
        refine va_alen (v := 8) hx hb hK hP 0 1 rfl rfl rfl dX8_spotIn_15 ?_
        refine lv_icmp_ge (tgt := 37) hx hb dX8_spotIn_16 (by decide) (fun c16 => ?_) (fun c16 => ?_)
        ·
          have d16 : ((k : Nat) : Int) ≥ (8 : Int) := my_ge c16 (nI_toInt (by omega)) (by decide +kernel)
          exact absurd d16 (by omega)
        ·
          have d16 : ((k : Nat) : Int) < (8 : Int) := my_nge c16 (nI_toInt (by omega)) (by decide +kernel)
          refine lv_aload_n hx hb dX8_spotIn_19 rfl (lv_at hl 2 rfl) ?_
          refine lv_iload hx hb dX8_spotIn_20 (lv_at hl 0 rfl) ?_
          refine va_lald hx hb hK hP 0 1 rfl rfl (vp_in_nI (by omega) (by omega)) dX8_spotIn_22 ?_
          refine my_eql (y := lb k) (congrArg lb (nI_clamp (by omega))) ?_
          refine lv_iload_n hx hb dX8_spotIn_23 rfl (lv_at hl 3 rfl) ?_
          refine lv_iload hx hb dX8_spotIn_24 (lv_at hl 1 rfl) ?_
          refine my_gpI (my_pS (As := [.long (lb k), .int (nI w), .int (nI sp)]) (rest := []) ⟨hx, hb, hml, hown, hts⟩ (va_cwS 3 hts gX8_spotIn_X8_nextSpot rfl rfl rfl (by decide +kernel) ⟨Nat.le_of_ble_eq_true rfl, Nat.le_of_ble_eq_true rfl⟩) hN hK hP [] rfl rfl hl.1 rfl (Nat.le_of_ble_eq_true rfl) dX8_spotIn_26 ⟨Nat.le_of_ble_eq_true rfl, Nat.le_of_ble_eq_true rfl⟩  (kf_X8_nextSpot l D cI cJ cK (lb k) w sp (by first | assumption | omega | decide +kernel) (by first | assumption | omega | decide +kernel) (hz8 k (by omega)))) (fun r hp => ?_)
          obtain ⟨k_2, rfl, hnx⟩ := hp
          refine lv_istore (lv' := [(4, .int (nI k_2)), (5, .int (nI k)), (0, .ref l1), (1, .int (nI w)), (2, .int (nI p0)), (3, .int (nI jj))]) hx hb dX8_spotIn_29 hl (by decide) rfl (fun ls hl => ?_)
          refine lv_iinc (v := nI (k + 1)) (lv' := [(5, .int (nI (k + 1))), (4, .int (nI k_2)), (0, .ref l1), (1, .int (nI w)), (2, .int (nI p0)), (3, .int (nI jj))]) hx hb dX8_spotIn_31 hl (k := 1) rfl (my_incN k 1 (by decide +kernel)) (by decide) rfl (fun ls hl => ?_)
          refine lv_goto (tgt := 6) hx hb dX8_spotIn_34 (by decide) ?_
          exact ih6  (k + 1) k_2 (by omega) (by first | assumption | omega | decide +kernel) (by rw [hnx]; exact nxb_lt hsl) (by rw [hnx, hsp]; rfl) ls (lv_sub hl [0, 1, 2, 3, 4, 5] rfl)
  exact loop6 ((jj - 0) + 1) 0 p0 (Nat.lt_succ_self _) (by first | assumption | omega | decide +kernel) (by first | assumption | omega | decide +kernel) (rfl) ls (lv_sub hl [0, 1, 2, 3, 4, 5] rfl)