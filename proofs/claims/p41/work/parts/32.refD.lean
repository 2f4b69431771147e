abbrev wl_k_X9_level (cI cJ cK : ClassId) (m0 : Nat) (a_row : Nat) (a_tape : Nat) (a_number : Nat) (a_read : Nat) (a_readBits : Nat) (a_stands : Nat) (a_parted : Nat) (a_bitsWere : Nat) (a_stood : Nat) (a_chosen : Nat) (a_bestChosen : Nat) (a_often : Nat) (a_sorted : Nat) (a_risen : Nat) (a_risenWays : Nat) (v0_ : Int32) (v1_ : Int32) (v2_ : Int32) (v3_ : Int32) (v4_ : Int32) (v5_ : Int32) (v6_ : Int32) (v7_ : Int32) (v8_ : Int32) (v9_ : Nat → Int32) (v10_ : Nat → Int32) (v11_ : Nat → Int32) (v12_ : Nat → Int64) : va_W := [(m0, .inr (9, [.int v0_, .int v1_, .ref a_row, .ref a_tape, .int v2_, .int v3_, .int v4_, .int v5_, .ref a_number, .ref a_read, .int v6_, .ref a_readBits, .ref a_stands, .ref a_parted, .ref a_bitsWere, .ref a_stood, .ref a_chosen, .ref a_bestChosen, .int v7_, .ref a_often, .ref a_sorted, .int v8_, .ref a_risen, .ref a_risenWays])), (a_number, .inl (cI, 64, .inl v9_)), (a_stands, .inl (cI, 64, .inl v10_)), (a_parted, .inl (cI, 64, .inl v11_)), (a_row, .inl (cJ, 64, .inr (.inl v12_)))]
set_option maxHeartbeats 4000000 in
set_option maxRecDepth 100000 in
theorem k_X9_level (l : Launch) (D : va_G) (cI cJ cK : ClassId) (m0 : Nat) (a_row : Nat) (a_tape : Nat) (a_number : Nat) (a_read : Nat) (a_readBits : Nat) (a_stands : Nat) (a_parted : Nat) (a_bitsWere : Nat) (a_stood : Nat) (a_chosen : Nat) (a_bestChosen : Nat) (a_often : Nat) (a_sorted : Nat) (a_risen : Nat) (a_risenWays : Nat) (m_thrown : Int32) (m_told : Nat) (m_taped : Nat) (m_at : Nat) (m_to : Nat) (m_many : Nat) (m_readMany : Nat) (m_fewest : Int32) (m_size : Nat) (mn : Nat → Int32) (ms : Nat → Int32) (mp : Nat → Int32) (mr : Nat → Int64) (j9 : Int32) (hz_m_told : m_told ≤ 64) (hz_m_taped : m_taped ≤ 100) (hz_m_at : m_at ≤ 100) (hz_m_to : m_to ≤ 100) (hz_m_many : m_many ≤ 64) (hz_m_readMany : m_readMany ≤ 64) (hz_m_size : m_size ≤ 64) (hR_mn : RB 0 255 mn) (hR_ms : RB 0 63 ms) (hR_mp : RB 0 63 mp) : ctI l yX9_level wsX9_level ({ frames := 2, cells := 0, slots := 0, locals := 120 } : Room) D (tyIJ cI cJ cK) [.ref m0, .int j9] (wl_k_X9_level cI cJ cK m0 a_row a_tape a_number a_read a_readBits a_stands a_parted a_bitsWere a_stood a_chosen a_bestChosen a_often a_sorted a_risen a_risenWays m_thrown (nI m_told) (nI m_taped) (nI m_at) (nI m_to) (nI m_many) (nI m_readMany) m_fewest (nI m_size) mn ms mp mr) (fun (r : Int32) (u : va_W) => (∃ (m_thrown' : Int32), u = (wl_k_X9_level cI cJ cK m0 a_row a_tape a_number a_read a_readBits a_stands a_parted a_bitsWere a_stood a_chosen a_bestChosen a_often a_sorted a_risen a_risenWays m_thrown' (nI m_told) (nI m_taped) (nI m_at) (nI m_to) (nI m_many) (nI m_readMany) m_fewest (nI m_size) mn ms mp mr) ∧ r = (-1) ∧ (j9.toInt < 0 ∨ 7 < j9.toInt)) ∨ (∃ (t' : Nat) (m_thrown' : Int32) (m_told' : Nat) (ms' : Nat → Int32) (mp' : Nat → Int32) (mr' : Nat → Int64), u = (wl_k_X9_level cI cJ cK m0 a_row a_tape a_number a_read a_readBits a_stands a_parted a_bitsWere a_stood a_chosen a_bestChosen a_often a_sorted a_risen a_risenWays m_thrown' (nI m_told') (nI m_taped) (nI m_at) (nI m_to) (nI m_many) (nI m_readMany) m_fewest (nI m_size) mn ms' mp' mr') ∧ r = nI t' ∧ m_told' ≤ 64 ∧ RB 0 63 ms' ∧ RB 0 63 mp' ∧ 0 ≤ j9.toInt ∧ j9.toInt ≤ 7 ∧ t' = fb_ct (fun i => !lvB mn m_many j9.toInt.toNat i) m_many ∧ m_told' = 2)) := by
  refine ctI.of (cc := cX9_level) (maxL := 8) (ret := (some .int)) (by decide) rfl (Nat.le_of_ble_eq_true rfl) ?_
  intro p e s m below meth c ls A hx hb hr hts hown hml hlocks hname hA hK hN hP hD hS hl
  have hl : lv_has ls 8 [(0, .ref m0), (1, .int j9)] := hl
  have hown : s.vm.findClass RX9 = some m.cls := hown
  have hi9 : ∀ w ∈ u_ws RX9 TX9 24, w ∈ wsX9_level := by decide +kernel
  have fl1 := hts (.fieldLink RX9 1 "PlaneColumnModel" "thrown" "I") (by decide +kernel)
  have fl11 := hts (.fieldLink RX9 11 "PlaneColumnModel" "told" "I") (by decide +kernel)
  have fl49 := hts (.fieldLink RX9 49 "PlaneColumnModel" "number" "[I") (by decide +kernel)
  have fl58 := hts (.fieldLink RX9 58 "PlaneColumnModel" "stands" "[I") (by decide +kernel)
  have fl88 := hts (.fieldLink RX9 88 "PlaneColumnModel" "many" "I") (by decide +kernel)
  refine lv_aload_n hx hb dX9_level_0 rfl (lv_at hl 0 rfl) ?_
  refine lv_iconst (v := 0) hx hb dX9_level_1 (by decide +kernel) ?_
  refine va_put (ci := 9) (v := .int 0) (ty := (.int)) (C := RX9) (T := TX9) (N := 24) hx hb hts hi9 tyX9 tyX9_ok nmX9 hown hK hP hD hS 0 rfl rfl 0 (by decide) fl1 (fun _ h9 => h9) rfl (by decide +kernel) rfl rfl (Nat.le_of_ble_eq_true rfl) dX9_level_2 (fun H locs hP hD hS => ?_)
  have hP : va_P D vwCl (wl_k_X9_level cI cJ cK m0 a_row a_tape a_number a_read a_readBits a_stands a_parted a_bitsWere a_stood a_chosen a_bestChosen a_often a_sorted a_risen a_risenWays 0 (nI m_told) (nI m_taped) (nI m_at) (nI m_to) (nI m_many) (nI m_readMany) m_fewest (nI m_size) mn ms mp mr) H := hP
  have hD : va_D A (wl_k_X9_level cI cJ cK m0 a_row a_tape a_number a_read a_readBits a_stands a_parted a_bitsWere a_stood a_chosen a_bestChosen a_often a_sorted a_risen a_risenWays 0 (nI m_told) (nI m_taped) (nI m_at) (nI m_to) (nI m_many) (nI m_readMany) m_fewest (nI m_size) mn ms mp mr) := hD
  refine lv_iload_n hx hb dX9_level_5 rfl (lv_at hl 1 rfl) ?_
  refine lv_i2l (v := j9.toInt64) hx hb dX9_level_6 rfl ?_
  refine lv_lconst (v := 0) hx hb dX9_level_7 (by decide +kernel) ?_
  refine lv_ldc2 (v := 7) hx hb hown (hts (.constantLong RX9 154 (7)) (by decide +kernel)) dX9_level_8 ?_
  refine my_gpI (my_pS (As := [.long j9.toInt64, .long 0, .long 7]) (rest := []) ⟨hx, hb, hml, hown, hts⟩ (va_cwS 3 hts gX9_level_X9_in rfl rfl rfl (by decide +kernel) ⟨Nat.le_of_ble_eq_true rfl, Nat.le_of_ble_eq_true rfl⟩) hN hK hP [] rfl rfl hl.1 rfl (Nat.le_of_ble_eq_true rfl) dX9_level_11 ⟨Nat.le_of_ble_eq_true rfl, Nat.le_of_ble_eq_true rfl⟩  (k_X9_in l D cI cJ cK j9.toInt64 (0 : Int64) (7 : Int64) j9.toInt (Int32.toInt_toInt64 _) (0 : Int) (by decide +kernel) (7 : Int) (by decide +kernel))) (fun r hp => ?_)
  rcases hp with ⟨rfl, ha_1, hb_2⟩ | ⟨rfl, ho_3⟩
  ·
    refine lv_if_ne (tgt := 19) hx hb dX9_level_14 (by decide) (fun c14 => ?_) (fun c14 => ?_)
    ·
      obtain ⟨w_4, rfl, hw_4⟩ := my_natP (x := j9) (by omega)
      have hlw_4 : w_4 < 2147483648 := by have h9 := Int32.toInt_lt (nI w_4); omega
      refine lv_aload_n hx hb dX9_level_19 rfl (lv_at hl 0 rfl) ?_
      refine lv_iload_n hx hb dX9_level_20 rfl (lv_at hl 1 rfl) ?_
      refine my_goVS (wc := (wl_kf_X9_laysLevel cI cJ cK m0 a_row a_tape a_number a_read a_readBits a_stands a_parted a_bitsWere a_stood a_chosen a_bestChosen a_often a_sorted a_risen a_risenWays 0 (nI m_told) (nI m_taped) (nI m_at) (nI m_to) (nI m_many) (nI m_readMany) m_fewest (nI m_size) mn ms mp)) hP hD hS hA [0, 1, 2, 3] rfl [some 0, some 1, some 2, some 3] (by decide +kernel) (my_cV (As := [.int (nI w_4)]) (rest := []) (ci := 9) (wc := (wl_kf_X9_laysLevel cI cJ cK m0 a_row a_tape a_number a_read a_readBits a_stands a_parted a_bitsWere a_stood a_chosen a_bestChosen a_often a_sorted a_risen a_risenWays 0 (nI m_told) (nI m_taped) (nI m_at) (nI m_to) (nI m_many) (nI m_readMany) m_fewest (nI m_size) mn ms mp)) ⟨hx, hb, hml, hown, hts⟩ (cwV 1 hts gX9_level_X9_laysLevel rfl rfl rfl (by decide +kernel) ⟨Nat.le_of_ble_eq_true rfl, Nat.le_of_ble_eq_true rfl⟩) hN hK hP hD [0, 1, 2, 3] rfl (by decide) rfl 0 rfl rfl rfl rfl hl.1 rfl (Nat.le_of_ble_eq_true rfl) dX9_level_21 ⟨Nat.le_of_ble_eq_true rfl, Nat.le_of_ble_eq_true rfl⟩  ((kf_X9_laysLevel l D cI cJ cK m0 a_row a_tape a_number a_read a_readBits a_stands a_parted a_bitsWere a_stood a_chosen a_bestChosen a_often a_sorted a_risen a_risenWays (0 : Int32) m_told m_taped m_at m_to m_many m_readMany m_fewest m_size mn ms mp w_4 (by first | assumption | omega | decide +kernel) (by first | assumption | omega | decide +kernel) (by first | assumption | omega | decide +kernel) (by first | assumption | omega | decide +kernel) (by first | assumption | omega | decide +kernel) (by first | assumption | omega | decide +kernel) (by first | assumption | omega | decide +kernel) hR_mn hR_ms hR_mp (by first | assumption | omega | decide +kernel)) _)) (fun u H locs hp hPD hS => ?_)
      obtain ⟨ms_5, mp_6, rfl, hR_ms_5, hR_mp_6, hly⟩ := hp
      obtain ⟨hP, hD⟩ := hPD rfl
      have hP : va_P D vwCl (wl_k_X9_level cI cJ cK m0 a_row a_tape a_number a_read a_readBits a_stands a_parted a_bitsWere a_stood a_chosen a_bestChosen a_often a_sorted a_risen a_risenWays 0 (nI m_told) (nI m_taped) (nI m_at) (nI m_to) (nI m_many) (nI m_readMany) m_fewest (nI m_size) mn ms_5 mp_6 mr) H := hP
      have hD : va_D A (wl_k_X9_level cI cJ cK m0 a_row a_tape a_number a_read a_readBits a_stands a_parted a_bitsWere a_stood a_chosen a_bestChosen a_often a_sorted a_risen a_risenWays 0 (nI m_told) (nI m_taped) (nI m_at) (nI m_to) (nI m_many) (nI m_readMany) m_fewest (nI m_size) mn ms_5 mp_6 mr) := hD
      refine lv_iconst (v := 0) hx hb dX9_level_24 (by decide +kernel) ?_
      refine lv_istore_n (lv' := [(2, .int 0), (0, .ref m0), (1, .int (nI w_4))]) hx hb dX9_level_25 rfl hl (by decide) rfl (fun ls hl => ?_)
      refine lv_lconst (v := 0) hx hb dX9_level_26 (by decide +kernel) ?_
      refine lv_lstore_n (lv' := [(3, .long 0), (2, .int 0), (0, .ref m0), (1, .int (nI w_4))]) hx hb dX9_level_27 rfl hl (by decide) rfl (fun ls hl => ?_)
      refine lv_iconst (v := 0) hx hb dX9_level_28 (by decide +kernel) ?_
      refine lv_istore (lv' := [(5, .int 0), (3, .long 0), (2, .int 0), (0, .ref m0), (1, .int (nI w_4))]) hx hb dX9_level_29 hl (by decide) rfl (fun ls hl => ?_)
      have loop31 : ∀ (n9 : Nat) (k : Nat) (y3_31 : Int64) (t : Nat), 64 - k < n9 → (t ≤ 64) → (k ≤ 64) → (k ≤ m_many) → (t ≤ k) → (t = fb_ct (fun i => !lvB mn m_many w_4 i) k) → ∀ (H : Heap) (locs : List Loc) (ls : Array Slot), va_P D vwCl (wl_k_X9_level cI cJ cK m0 a_row a_tape a_number a_read a_readBits a_stands a_parted a_bitsWere a_stood a_chosen a_bestChosen a_often a_sorted a_risen a_risenWays 0 (nI m_told) (nI m_taped) (nI m_at) (nI m_to) (nI m_many) (nI m_readMany) m_fewest (nI m_size) mn ms_5 mp_6 mr) H → va_D A (wl_k_X9_level cI cJ cK m0 a_row a_tape a_number a_read a_readBits a_stands a_parted a_bitsWere a_stood a_chosen a_bestChosen a_often a_sorted a_risen a_risenWays 0 (nI m_told) (nI m_taped) (nI m_at) (nI m_to) (nI m_many) (nI m_readMany) m_fewest (nI m_size) mn ms_5 mp_6 mr) → va_S A s.heap H locs → lv_has ls 8 [(5, .int (nI k)), (3, .long y3_31), (2, .int (nI t)), (0, .ref m0), (1, .int (nI w_4))] → W p l e ({ frames := 2, cells := 0, slots := 0, locals := 120 } : Room) s m [.ref m0, .int (nI w_4)].toArray below meth c H locs 0 0 (MQ below (va_Qi (fun (r : Int32) (u : va_W) => (∃ (m_thrown' : Int32), u = (wl_k_X9_level cI cJ cK m0 a_row a_tape a_number a_read a_readBits a_stands a_parted a_bitsWere a_stood a_chosen a_bestChosen a_often a_sorted a_risen a_risenWays m_thrown' (nI m_told) (nI m_taped) (nI m_at) (nI m_to) (nI m_many) (nI m_readMany) m_fewest (nI m_size) mn ms mp mr) ∧ r = (-1) ∧ ((nI w_4).toInt < 0 ∨ 7 < (nI w_4).toInt)) ∨ (∃ (t' : Nat) (m_thrown' : Int32) (m_told' : Nat) (ms' : Nat → Int32) (mp' : Nat → Int32) (mr' : Nat → Int64), u = (wl_k_X9_level cI cJ cK m0 a_row a_tape a_number a_read a_readBits a_stands a_parted a_bitsWere a_stood a_chosen a_bestChosen a_often a_sorted a_risen a_risenWays m_thrown' (nI m_told') (nI m_taped) (nI m_at) (nI m_to) (nI m_many) (nI m_readMany) m_fewest (nI m_size) mn ms' mp' mr') ∧ r = nI t' ∧ m_told' ≤ 64 ∧ RB 0 63 ms' ∧ RB 0 63 mp' ∧ 0 ≤ (nI w_4).toInt ∧ (nI w_4).toInt ≤ 7 ∧ t' = fb_ct (fun i => !lvB mn m_many (nI w_4).toInt.toNat i) m_many ∧ m_told' = 2)) (my_B D (tyIJ cI cJ cK) A) A) [.ref m0, .int (nI w_4)].toArray s 0 0 A) (F0 m 31 ls []) := by
        intro n9
        induction n9 with
        | zero =>
          intro k y3_31 t hn9
          exact absurd hn9 (Nat.not_lt_zero _)
        | succ n9 ih31 =>
          intro k y3_31 t hn9 hk_t hk_k hkm htk ht H locs ls hP hD hS hl
          refine lv_iload hx hb dX9_level_31 (lv_at hl 0 rfl) ?_
          refine lv_aload_n hx hb dX9_level_33 rfl (lv_at hl 3 rfl) ?_
          refine va_get (ci := 9) (v := .int (nI m_many)) (C := RX9) (T := TX9) (N := 24) hx hb hts hi9 hown hK hP 0 rfl rfl 7 (by decide) fl88 (fun _ h9 => h9) rfl dX9_level_34 ?_
          refine lv_icmp_ge (tgt := 91) hx hb dX9_level_37 (by decide) (fun c37 => ?_) (fun c37 => ?_)
          ·
            have d37 : ((k : Nat) : Int) ≥ ((m_many : Nat) : Int) := my_ge c37 (nI_toInt (by omega)) (nI_toInt (by omega))
            refine lv_aload_n hx hb dX9_level_91 rfl (lv_at hl 3 rfl) ?_
            refine lv_iconst (v := 0) hx hb dX9_level_92 (by decide +kernel) ?_
            refine va_put (ci := 9) (v := .int 0) (ty := (.int)) (C := RX9) (T := TX9) (N := 24) hx hb hts hi9 tyX9 tyX9_ok nmX9 hown hK hP hD hS 0 rfl rfl 1 (by decide) fl11 (fun _ h9 => h9) rfl (by decide +kernel) rfl rfl (Nat.le_of_ble_eq_true rfl) dX9_level_93 (fun H locs hP hD hS => ?_)
            have hP : va_P D vwCl (wl_k_X9_level cI cJ cK m0 a_row a_tape a_number a_read a_readBits a_stands a_parted a_bitsWere a_stood a_chosen a_bestChosen a_often a_sorted a_risen a_risenWays 0 0 (nI m_taped) (nI m_at) (nI m_to) (nI m_many) (nI m_readMany) m_fewest (nI m_size) mn ms_5 mp_6 mr) H := hP
            have hD : va_D A (wl_k_X9_level cI cJ cK m0 a_row a_tape a_number a_read a_readBits a_stands a_parted a_bitsWere a_stood a_chosen a_bestChosen a_often a_sorted a_risen a_risenWays 0 0 (nI m_taped) (nI m_at) (nI m_to) (nI m_many) (nI m_readMany) m_fewest (nI m_size) mn ms_5 mp_6 mr) := hD
            refine lv_aload_n hx hb dX9_level_96 rfl (lv_at hl 3 rfl) ?_
            refine lv_lload_n hx hb dX9_level_97 rfl (lv_at hl 1 rfl) ?_
            refine my_goVS (wc := (wl_k_X9_enters cI cJ cK m0 a_row a_tape a_number a_read a_readBits a_stands a_parted a_bitsWere a_stood a_chosen a_bestChosen a_often a_sorted a_risen a_risenWays 0 0 (nI m_taped) (nI m_at) (nI m_to) (nI m_many) (nI m_readMany) m_fewest (nI m_size) mr)) hP hD hS hA [0, 4] rfl [some 0, none, none, none, some 1] (by decide +kernel) (my_cV (As := [.long y3_31]) (rest := []) (ci := 9) (wc := (wl_k_X9_enters cI cJ cK m0 a_row a_tape a_number a_read a_readBits a_stands a_parted a_bitsWere a_stood a_chosen a_bestChosen a_often a_sorted a_risen a_risenWays 0 0 (nI m_taped) (nI m_at) (nI m_to) (nI m_many) (nI m_readMany) m_fewest (nI m_size) mr)) ⟨hx, hb, hml, hown, hts⟩ (cwV 1 hts gX9_level_X9_enters rfl rfl rfl (by decide +kernel) ⟨Nat.le_of_ble_eq_true rfl, Nat.le_of_ble_eq_true rfl⟩) hN hK hP hD [0, 4] rfl (by decide) rfl 0 rfl rfl rfl rfl hl.1 rfl (Nat.le_of_ble_eq_true rfl) dX9_level_98 ⟨Nat.le_of_ble_eq_true rfl, Nat.le_of_ble_eq_true rfl⟩  ((k_X9_enters l D cI cJ cK m0 a_row a_tape a_number a_read a_readBits a_stands a_parted a_bitsWere a_stood a_chosen a_bestChosen a_often a_sorted a_risen a_risenWays (0 : Int32) 0 m_taped m_at m_to m_many m_readMany m_fewest m_size mr y3_31 (by first | assumption | omega | decide +kernel) (by first | assumption | omega | decide +kernel) (by first | assumption | omega | decide +kernel) (by first | assumption | omega | decide +kernel) (by first | assumption | omega | decide +kernel) (by first | assumption | omega | decide +kernel) (by first | assumption | omega | decide +kernel) (by first | assumption | omega | decide +kernel)) _)) (fun u H locs hp hPD hS => ?_)
            obtain ⟨m_told_7, mr_8, rfl, hhz_m_told_9, ht_10⟩ := hp
            obtain ⟨hP, hD⟩ := hPD rfl
            have hP : va_P D vwCl (wl_k_X9_level cI cJ cK m0 a_row a_tape a_number a_read a_readBits a_stands a_parted a_bitsWere a_stood a_chosen a_bestChosen a_often a_sorted a_risen a_risenWays 0 (nI m_told_7) (nI m_taped) (nI m_at) (nI m_to) (nI m_many) (nI m_readMany) m_fewest (nI m_size) mn ms_5 mp_6 mr_8) H := hP
            have hD : va_D A (wl_k_X9_level cI cJ cK m0 a_row a_tape a_number a_read a_readBits a_stands a_parted a_bitsWere a_stood a_chosen a_bestChosen a_often a_sorted a_risen a_risenWays 0 (nI m_told_7) (nI m_taped) (nI m_at) (nI m_to) (nI m_many) (nI m_readMany) m_fewest (nI m_size) mn ms_5 mp_6 mr_8) := hD
            refine lv_aload_n hx hb dX9_level_101 rfl (lv_at hl 3 rfl) ?_
            refine lv_aload_n hx hb dX9_level_102 rfl (lv_at hl 3 rfl) ?_
            refine lv_bipush (v := 7) hx hb dX9_level_103 (by decide +kernel) ?_
            refine lv_iload_n hx hb dX9_level_105 rfl (lv_at hl 4 rfl) ?_
            refine lv_isub hx hb dX9_level_106 ?_
            refine lv_topi (fun z_11 ez_11 => ?_)
            try have tz_11 : z_11.toInt = (7 : Int) - ((w_4 : Nat) : Int) := by rw [ez_11]; exact my_subI (by decide +kernel) (nI_toInt (by omega)) (by omega) (by omega)
            refine my_gpI (my_pV (As := [.int z_11]) (rest := [.ref m0]) (ci := 9) ⟨hx, hb, hml, hown, hts⟩ (cwV 1 hts gX9_level_X9_runsOf rfl rfl rfl (by decide +kernel) ⟨Nat.le_of_ble_eq_true rfl, Nat.le_of_ble_eq_true rfl⟩) hN hK hP [0, 1, 2] rfl 0 rfl rfl rfl rfl hl.1 rfl (Nat.le_of_ble_eq_true rfl) dX9_level_107 ⟨Nat.le_of_ble_eq_true rfl, Nat.le_of_ble_eq_true rfl⟩  (k_X9_runsOf l D cI cJ cK m0 a_row a_tape a_number a_read a_readBits a_stands a_parted a_bitsWere a_stood a_chosen a_bestChosen a_often a_sorted a_risen a_risenWays (0 : Int32) m_told_7 m_taped m_at m_to m_many m_readMany m_fewest m_size mn ms_5 z_11 (by first | assumption | omega | decide +kernel) (by first | assumption | omega | decide +kernel) (by first | assumption | omega | decide +kernel) (by first | assumption | omega | decide +kernel) (by first | assumption | omega | decide +kernel) (by first | assumption | omega | decide +kernel) (by first | assumption | omega | decide +kernel) hR_mn hR_ms_5)) (fun r hp => ?_)
            obtain _ := hp
            obtain ⟨r_12, rfl⟩ : ∃ z, z = r := ⟨_, rfl⟩
            refine lv_i2l (v := r_12.toInt64) hx hb dX9_level_110 rfl ?_
            refine my_goVS (wc := (wl_k_X9_enters cI cJ cK m0 a_row a_tape a_number a_read a_readBits a_stands a_parted a_bitsWere a_stood a_chosen a_bestChosen a_often a_sorted a_risen a_risenWays 0 (nI m_told_7) (nI m_taped) (nI m_at) (nI m_to) (nI m_many) (nI m_readMany) m_fewest (nI m_size) mr_8)) hP hD hS hA [0, 4] rfl [some 0, none, none, none, some 1] (by decide +kernel) (my_cV (As := [.long r_12.toInt64]) (rest := []) (ci := 9) (wc := (wl_k_X9_enters cI cJ cK m0 a_row a_tape a_number a_read a_readBits a_stands a_parted a_bitsWere a_stood a_chosen a_bestChosen a_often a_sorted a_risen a_risenWays 0 (nI m_told_7) (nI m_taped) (nI m_at) (nI m_to) (nI m_many) (nI m_readMany) m_fewest (nI m_size) mr_8)) ⟨hx, hb, hml, hown, hts⟩ (cwV 1 hts gX9_level_X9_enters rfl rfl rfl (by decide +kernel) ⟨Nat.le_of_ble_eq_true rfl, Nat.le_of_ble_eq_true rfl⟩) hN hK hP hD [0, 4] rfl (by decide) rfl 0 rfl rfl rfl rfl hl.1 rfl (Nat.le_of_ble_eq_true rfl) dX9_level_111 ⟨Nat.le_of_ble_eq_true rfl, Nat.le_of_ble_eq_true rfl⟩  ((k_X9_enters l D cI cJ cK m0 a_row a_tape a_number a_read a_readBits a_stands a_parted a_bitsWere a_stood a_chosen a_bestChosen a_often a_sorted a_risen a_risenWays (0 : Int32) m_told_7 m_taped m_at m_to m_many m_readMany m_fewest m_size mr_8 r_12.toInt64 (by first | assumption | omega | decide +kernel) (by first | assumption | omega | decide +kernel) (by first | assumption | omega | decide +kernel) (by first | assumption | omega | decide +kernel) (by first | assumption | omega | decide +kernel) (by first | assumption | omega | decide +kernel) (by first | assumption | omega | decide +kernel) (by first | assumption | omega | decide +kernel)) _)) (fun u H locs hp hPD hS => ?_)
            obtain ⟨m_told_13, mr_14, rfl, hhz_m_told_15, ht_16⟩ := hp
            obtain ⟨hP, hD⟩ := hPD rfl
            have hP : va_P D vwCl (wl_k_X9_level cI cJ cK m0 a_row a_tape a_number a_read a_readBits a_stands a_parted a_bitsWere a_stood a_chosen a_bestChosen a_often a_sorted a_risen a_risenWays 0 (nI m_told_13) (nI m_taped) (nI m_at) (nI m_to) (nI m_many) (nI m_readMany) m_fewest (nI m_size) mn ms_5 mp_6 mr_14) H := hP
            have hD : va_D A (wl_k_X9_level cI cJ cK m0 a_row a_tape a_number a_read a_readBits a_stands a_parted a_bitsWere a_stood a_chosen a_bestChosen a_often a_sorted a_risen a_risenWays 0 (nI m_told_13) (nI m_taped) (nI m_at) (nI m_to) (nI m_many) (nI m_readMany) m_fewest (nI m_size) mn ms_5 mp_6 mr_14) := hD
            refine lv_iload_n hx hb dX9_level_114 rfl (lv_at hl 2 rfl) ?_
            have hsI_j9 : (nI w_4).toInt = ((w_4 : Nat) : Int) := nI_toInt (by omega)
            have hsN_j9 : (nI w_4).toInt.toNat = w_4 := nIt (by omega)
            exact my_retI hx hb hr hlocks hK hS (wl_k_X9_level cI cJ cK m0 a_row a_tape a_number a_read a_readBits a_stands a_parted a_bitsWere a_stood a_chosen a_bestChosen a_often a_sorted a_risen a_risenWays 0 (nI m_told_13) (nI m_taped) (nI m_at) (nI m_to) (nI m_many) (nI m_readMany) m_fewest (nI m_size) mn ms_5 mp_6 mr_14) hP hD (Or.inr (⟨t, 0, m_told_13, ms_5, mp_6, mr_14, rfl, rfl, (by first | assumption | omega | trivial | decide +kernel), hR_ms_5, hR_mp_6, (by first | assumption | omega | trivial | decide +kernel), (by first | assumption | omega | trivial | decide +kernel), (by rw [hsN_j9, ht, show k = m_many from (by omega)]), (by first | assumption | omega | trivial | decide +kernel)⟩)) dX9_level_115
          ·
            have d37 : ((k : Nat) : Int) < ((m_many : Nat) : Int) := my_nge c37 (nI_toInt (by omega)) (nI_toInt (by omega))
            refine lv_aload_n hx hb dX9_level_40 rfl (lv_at hl 3 rfl) ?_
            refine va_get (ci := 9) (v := .ref a_number) (C := RX9) (T := TX9) (N := 24) hx hb hts hi9 hown hK hP 0 rfl rfl 8 (by decide) fl49 (fun _ h9 => h9) rfl dX9_level_41 ?_
            refine lv_aload_n hx hb dX9_level_44 rfl (lv_at hl 3 rfl) ?_
            refine va_get (ci := 9) (v := .ref a_stands) (C := RX9) (T := TX9) (N := 24) hx hb hts hi9 hown hK hP 0 rfl rfl 12 (by decide) fl58 (fun _ h9 => h9) rfl dX9_level_45 ?_
            refine lv_iload hx hb dX9_level_48 (lv_at hl 0 rfl) ?_
            have hol := ordF_lt (f := mn) (n := m_many) w_4 (show k < m_many by omega)
            refine va_iald hx hb hK hP 2 0 rfl rfl (vp_in_nI (by omega) (by omega)) dX9_level_50 ?_
            refine my_eqi (y := nI (ordF mn m_many w_4 k)) ((congrArg _ (nI_clamp (by omega))).trans (hly k (by omega))) ?_
            refine va_iald hx hb hK hP 1 0 rfl rfl (vp_in_nI (by omega) (by omega)) dX9_level_51 ?_
            refine my_eqi (y := mn (ordF mn m_many w_4 k)) (congrArg mn (nI_clamp (by omega))) ?_
            have hb_17 := hR_mn (ordF mn m_many w_4 k)
            obtain ⟨w_18, ew_18, hw_18⟩ : ∃ w : Nat, (mn (ordF mn m_many w_4 k)) = nI w ∧ (w : Int) = (mn (ordF mn m_many w_4 k) : Int32).toInt := my_natE (by omega)
            refine my_eqi (y := nI w_18) ew_18 ?_
            refine lv_iload_n hx hb dX9_level_52 rfl (lv_at hl 4 rfl) ?_
            refine my_gpI (my_pS (As := [.int (nI w_18), .int (nI w_4)]) (rest := []) ⟨hx, hb, hml, hown, hts⟩ (va_cwS 2 hts gX9_level_X9_bitOf rfl rfl rfl (by decide +kernel) ⟨Nat.le_of_ble_eq_true rfl, Nat.le_of_ble_eq_true rfl⟩) hN hK hP [] rfl rfl hl.1 rfl (Nat.le_of_ble_eq_true rfl) dX9_level_53 ⟨Nat.le_of_ble_eq_true rfl, Nat.le_of_ble_eq_true rfl⟩  (kf_X9_bitOf l D cI cJ cK w_18 w_4 (by first | assumption | omega | decide +kernel) (by first | assumption | omega | decide +kernel))) (fun r hp => ?_)
            obtain ⟨k_19, rfl, hbo, hq_20⟩ := hp
            refine lv_i2l (v := lN k_19) hx hb dX9_level_56 (nI_l (by omega)) ?_
            refine lv_lstore (lv' := [(6, .long (lN k_19)), (5, .int (nI k)), (3, .long y3_31), (2, .int (nI t)), (0, .ref m0), (1, .int (nI w_4))]) hx hb dX9_level_57 hl (by decide) rfl (fun ls hl => ?_)
            refine lv_lload_n hx hb dX9_level_59 rfl (lv_at hl 2 rfl) ?_
            refine lv_lload hx hb dX9_level_60 (lv_at hl 0 rfl) ?_
            refine lv_iload hx hb dX9_level_62 (lv_at hl 1 rfl) ?_
            refine lv_lshl hx hb dX9_level_64 rfl ?_
            refine lv_topl (fun z_21 ez_21 => ?_)
            refine lv_lor hx hb dX9_level_65 ?_
            refine lv_topl (fun z_22 ez_22 => ?_)
            refine lv_lstore_n (lv' := [(3, .long z_22), (6, .long (lN k_19)), (5, .int (nI k)), (2, .int (nI t)), (0, .ref m0), (1, .int (nI w_4))]) hx hb dX9_level_66 rfl hl (by decide) rfl (fun ls hl => ?_)
            refine lv_iload_n hx hb dX9_level_67 rfl (lv_at hl 3 rfl) ?_
            refine lv_lload hx hb dX9_level_68 (lv_at hl 1 rfl) ?_
            refine lv_lconst (v := 0) hx hb dX9_level_70 (by decide +kernel) ?_
            refine W.lcmp hx hb dX9_level_71 ?_
            refine lv_if_ne (tgt := 79) hx hb dX9_level_72 (by decide) (fun c72 => ?_) (fun c72 => ?_)
            ·
              have d72 : ((k_19 : Nat) : Int) ≠ (0 : Int) := my_lne c72 (lN_toInt (by omega)) (by decide +kernel)
              refine lv_iconst (v := 0) hx hb dX9_level_79 (by decide +kernel) ?_
              refine my_gpI (my_pS (As := [.int 0]) (rest := [.int (nI t)]) ⟨hx, hb, hml, hown, hts⟩ (va_cwS 1 hts gX9_level_X9_flag rfl rfl rfl (by decide +kernel) ⟨Nat.le_of_ble_eq_true rfl, Nat.le_of_ble_eq_true rfl⟩) hN hK hP [] rfl rfl hl.1 rfl (Nat.le_of_ble_eq_true rfl) dX9_level_80 ⟨Nat.le_of_ble_eq_true rfl, Nat.le_of_ble_eq_true rfl⟩  (k0_X9_flag l D cI cJ cK )) (fun r hp => ?_)
              obtain rfl := hp
              refine lv_iadd hx hb dX9_level_83 ?_
              refine my_eqi (y := nI t) (my_addN t 0) ?_
              refine lv_istore_n (lv' := [(2, .int (nI t)), (3, .long z_22), (6, .long (lN k_19)), (5, .int (nI k)), (0, .ref m0), (1, .int (nI w_4))]) hx hb dX9_level_84 rfl hl (by decide) rfl (fun ls hl => ?_)
              refine lv_iinc (v := nI (k + 1)) (lv' := [(5, .int (nI (k + 1))), (2, .int (nI t)), (3, .long z_22), (6, .long (lN k_19)), (0, .ref m0), (1, .int (nI w_4))]) hx hb dX9_level_85 hl (k := 3) rfl (my_incN k 1 (by decide +kernel)) (by decide) rfl (fun ls hl => ?_)
              refine lv_goto (tgt := 31) hx hb dX9_level_88 (by decide) ?_
              exact ih31  (k + 1) z_22 t (by omega) (by first | assumption | omega | decide +kernel) (by first | assumption | omega | decide +kernel) (by first | assumption | omega | decide +kernel) (by first | assumption | omega | decide +kernel) (by first | exact ct_yes ht (by rw [lvb_at (by assumption) (by omega), bN_f (b := Nat.testBit _ _) (by omega)]; rfl) | exact ct_no ht (by rw [lvb_at (by assumption) (by omega), bN_t (b := Nat.testBit _ _) (by omega)]; rfl)) _ _ ls hP hD hS (lv_sub hl [0, 2, 1, 4, 5] rfl)
            ·
              have d72 : ((k_19 : Nat) : Int) = (0 : Int) := my_leq c72 (lN_toInt (by omega)) (by decide +kernel)
              refine lv_iconst (v := 1) hx hb dX9_level_75 (by decide +kernel) ?_
              refine lv_goto (tgt := 80) hx hb dX9_level_76 (by decide) ?_
              refine my_gpI (my_pS (As := [.int 1]) (rest := [.int (nI t)]) ⟨hx, hb, hml, hown, hts⟩ (va_cwS 1 hts gX9_level_X9_flag rfl rfl rfl (by decide +kernel) ⟨Nat.le_of_ble_eq_true rfl, Nat.le_of_ble_eq_true rfl⟩) hN hK hP [] rfl rfl hl.1 rfl (Nat.le_of_ble_eq_true rfl) dX9_level_80 ⟨Nat.le_of_ble_eq_true rfl, Nat.le_of_ble_eq_true rfl⟩  (k1_X9_flag l D cI cJ cK )) (fun r hp => ?_)
              obtain rfl := hp
              refine lv_iadd hx hb dX9_level_83 ?_
              refine my_eqi (y := nI (t + 1)) (my_addN t 1) ?_
              refine lv_istore_n (lv' := [(2, .int (nI (t + 1))), (3, .long z_22), (6, .long (lN k_19)), (5, .int (nI k)), (0, .ref m0), (1, .int (nI w_4))]) hx hb dX9_level_84 rfl hl (by decide) rfl (fun ls hl => ?_)
              refine lv_iinc (v := nI (k + 1)) (lv' := [(5, .int (nI (k + 1))), (2, .int (nI (t + 1))), (3, .long z_22), (6, .long (lN k_19)), (0, .ref m0), (1, .int (nI w_4))]) hx hb dX9_level_85 hl (k := 3) rfl (my_incN k 1 (by decide +kernel)) (by decide) rfl (fun ls hl => ?_)
              refine lv_goto (tgt := 31) hx hb dX9_level_88 (by decide) ?_
              exact ih31  (k + 1) z_22 (t + 1) (by omega) (by first | assumption | omega | decide +kernel) (by first | assumption | omega | decide +kernel) (by first | assumption | omega | decide +kernel) (by first | assumption | omega | decide +kernel) (by first | exact ct_yes ht (by rw [lvb_at (by assumption) (by omega), bN_f (b := Nat.testBit _ _) (by omega)]; rfl) | exact ct_no ht (by rw [lvb_at (by assumption) (by omega), bN_t (b := Nat.testBit _ _) (by omega)]; rfl)) _ _ ls hP hD hS (lv_sub hl [0, 2, 1, 4, 5] rfl)
      have ec_23 : (0 : Int64).toInt = 0 := by decide +kernel
      exact loop31 ((64 - 0) + 1) 0 (0 : Int64) 0 (Nat.lt_succ_self _) (by first | assumption | omega | decide +kernel) (by first | assumption | omega | decide +kernel) (by first | assumption | omega | decide +kernel) (by first | assumption | omega | decide +kernel) (rfl) _ _ ls hP hD hS (lv_sub hl [0, 1, 2, 3, 4] rfl)
    ·
      exact absurd c14 (by decide +kernel)
  ·
    refine lv_if_ne (tgt := 19) hx hb dX9_level_14 (by decide) (fun c14 => ?_) (fun c14 => ?_)
    ·
      exact absurd c14 (by decide +kernel)
    ·
      refine lv_iconst (v := (-1)) hx hb dX9_level_17 (by decide +kernel) ?_
      exact my_retI hx hb hr hlocks hK hS (wl_k_X9_level cI cJ cK m0 a_row a_tape a_number a_read a_readBits a_stands a_parted a_bitsWere a_stood a_chosen a_bestChosen a_often a_sorted a_risen a_risenWays 0 (nI m_told) (nI m_taped) (nI m_at) (nI m_to) (nI m_many) (nI m_readMany) m_fewest (nI m_size) mn ms mp mr) hP hD (Or.inl ⟨0, rfl, rfl, (by first | assumption | omega | trivial | decide +kernel)⟩) dX9_level_18
abbrev wl_k_X9_spot (cI cJ cK : ClassId) (m0 : Nat) (a_row : Nat) (a_tape : Nat) (a_number : Nat) (a_read : Nat) (a_readBits : Nat) (a_stands : Nat) (a_parted : Nat) (a_bitsWere : Nat) (a_stood : Nat) (a_chosen : Nat) (a_bestChosen : Nat) (a_often : Nat) (a_sorted : Nat) (a_risen : Nat) (a_risenWays : Nat) (v0_ : Int32) (v1_ : Int32) (v2_ : Int32) (v3_ : Int32) (v4_ : Int32) (v5_ : Int32) (v6_ : Int32) (v7_ : Int32) (v8_ : Int32) (v9_ : Nat → Int32) (v10_ : Nat → Int32) (v11_ : Nat → Int32) (v12_ : Nat → Int64) : va_W := [(m0, .inr (9, [.int v0_, .int v1_, .ref a_row, .ref a_tape, .int v2_, .int v3_, .int v4_, .int v5_, .ref a_number, .ref a_read, .int v6_, .ref a_readBits, .ref a_stands, .ref a_parted, .ref a_bitsWere, .ref a_stood, .ref a_chosen, .ref a_bestChosen, .int v7_, .ref a_often, .ref a_sorted, .int v8_, .ref a_risen, .ref a_risenWays])), (a_number, .inl (cI, 64, .inl v9_)), (a_stands, .inl (cI, 64, .inl v10_)), (a_parted, .inl (cI, 64, .inl v11_)), (a_row, .inl (cJ, 64, .inr (.inl v12_)))]
set_option maxHeartbeats 4000000 in
set_option maxRecDepth 100000 in
theorem k_X9_spot (l : Launch) (D : va_G) (cI cJ cK : ClassId) (m0 : Nat) (a_row : Nat) (a_tape : Nat) (a_number : Nat) (a_read : Nat) (a_readBits : Nat) (a_stands : Nat) (a_parted : Nat) (a_bitsWere : Nat) (a_stood : Nat) (a_chosen : Nat) (a_bestChosen : Nat) (a_often : Nat) (a_sorted : Nat) (a_risen : Nat) (a_risenWays : Nat) (m_thrown : Int32) (m_told : Nat) (m_taped : Nat) (m_at : Nat) (m_to : Nat) (m_many : Nat) (m_readMany : Nat) (m_fewest : Int32) (m_size : Nat) (mn : Nat → Int32) (ms : Nat → Int32) (mp : Nat → Int32) (mr : Nat → Int64) (p9 : Int32) (j9 : Int32) (hz_m_told : m_told ≤ 64) (hz_m_taped : m_taped ≤ 100) (hz_m_at : m_at ≤ 100) (hz_m_to : m_to ≤ 100) (hz_m_many : m_many ≤ 64) (hz_m_readMany : m_readMany ≤ 64) (hz_m_size : m_size ≤ 64) (hR_mn : RB 0 255 mn) (hR_ms : RB 0 63 ms) (hR_mp : RB 0 63 mp) : ctI l yX9_spot wsX9_spot ({ frames := 2, cells := 0, slots := 0, locals := 120 } : Room) D (tyIJ cI cJ cK) [.ref m0, .int p9, .int j9] (wl_k_X9_spot cI cJ cK m0 a_row a_tape a_number a_read a_readBits a_stands a_parted a_bitsWere a_stood a_chosen a_bestChosen a_often a_sorted a_risen a_risenWays m_thrown (nI m_told) (nI m_taped) (nI m_at) (nI m_to) (nI m_many) (nI m_readMany) m_fewest (nI m_size) mn ms mp mr) (fun (r : Int32) (u : va_W) => (∃ (m_thrown' : Int32), u = (wl_k_X9_spot cI cJ cK m0 a_row a_tape a_number a_read a_readBits a_stands a_parted a_bitsWere a_stood a_chosen a_bestChosen a_often a_sorted a_risen a_risenWays m_thrown' (nI m_told) (nI m_taped) (nI m_at) (nI m_to) (nI m_many) (nI m_readMany) m_fewest (nI m_size) mn ms mp mr) ∧ r = (-1) ∧ (j9.toInt < 0 ∨ 8 < j9.toInt)) ∨ (∃ (m_thrown' : Int32), u = (wl_k_X9_spot cI cJ cK m0 a_row a_tape a_number a_read a_readBits a_stands a_parted a_bitsWere a_stood a_chosen a_bestChosen a_often a_sorted a_risen a_risenWays m_thrown' (nI m_told) (nI m_taped) (nI m_at) (nI m_to) (nI m_many) (nI m_readMany) m_fewest (nI m_size) mn ms mp mr) ∧ r = (-2) ∧ 0 ≤ j9.toInt ∧ j9.toInt ≤ 8 ∧ (p9.toInt < 0 ∨ m_many ≤ p9.toInt)) ∨ (∃ (q' : Nat) (m_thrown' : Int32) (m_told' : Nat) (ms' : Nat → Int32) (mp' : Nat → Int32) (mr' : Nat → Int64), u = (wl_k_X9_spot cI cJ cK m0 a_row a_tape a_number a_read a_readBits a_stands a_parted a_bitsWere a_stood a_chosen a_bestChosen a_often a_sorted a_risen a_risenWays m_thrown' (nI m_told') (nI m_taped) (nI m_at) (nI m_to) (nI m_many) (nI m_readMany) m_fewest (nI m_size) mn ms' mp' mr') ∧ r = nI q' ∧ m_told' ≤ 64 ∧ RB 0 63 ms' ∧ RB 0 63 mp' ∧ 0 ≤ j9.toInt ∧ j9.toInt ≤ 8 ∧ 0 ≤ p9.toInt ∧ p9.toInt < m_many ∧ ordF mn m_many j9.toInt.toNat q' = p9.toInt.toNat ∧ q' < m_many ∧ m_told' = 1)) := by
  refine ctI.of (cc := cX9_spot) (maxL := 4) (ret := (some .int)) (by decide) rfl (Nat.le_of_ble_eq_true rfl) ?_
  intro p e s m below meth c ls A hx hb hr hts hown hml hlocks hname hA hK hN hP hD hS hl
  have hl : lv_has ls 4 [(0, .ref m0), (1, .int p9), (2, .int j9)] := hl
  have hown : s.vm.findClass RX9 = some m.cls := hown
  have hi9 : ∀ w ∈ u_ws RX9 TX9 24, w ∈ wsX9_spot := by decide +kernel
  have fl1 := hts (.fieldLink RX9 1 "PlaneColumnModel" "thrown" "I") (by decide +kernel)
  have fl11 := hts (.fieldLink RX9 11 "PlaneColumnModel" "told" "I") (by decide +kernel)
  have fl49 := hts (.fieldLink RX9 49 "PlaneColumnModel" "number" "[I") (by decide +kernel)
  have fl58 := hts (.fieldLink RX9 58 "PlaneColumnModel" "stands" "[I") (by decide +kernel)
  refine lv_aload_n hx hb dX9_spot_0 rfl (lv_at hl 0 rfl) ?_
  refine lv_iconst (v := 0) hx hb dX9_spot_1 (by decide +kernel) ?_
  refine va_put (ci := 9) (v := .int 0) (ty := (.int)) (C := RX9) (T := TX9) (N := 24) hx hb hts hi9 tyX9 tyX9_ok nmX9 hown hK hP hD hS 0 rfl rfl 0 (by decide) fl1 (fun _ h9 => h9) rfl (by decide +kernel) rfl rfl (Nat.le_of_ble_eq_true rfl) dX9_spot_2 (fun H locs hP hD hS => ?_)
  have hP : va_P D vwCl (wl_k_X9_spot cI cJ cK m0 a_row a_tape a_number a_read a_readBits a_stands a_parted a_bitsWere a_stood a_chosen a_bestChosen a_often a_sorted a_risen a_risenWays 0 (nI m_told) (nI m_taped) (nI m_at) (nI m_to) (nI m_many) (nI m_readMany) m_fewest (nI m_size) mn ms mp mr) H := hP
  have hD : va_D A (wl_k_X9_spot cI cJ cK m0 a_row a_tape a_number a_read a_readBits a_stands a_parted a_bitsWere a_stood a_chosen a_bestChosen a_often a_sorted a_risen a_risenWays 0 (nI m_told) (nI m_taped) (nI m_at) (nI m_to) (nI m_many) (nI m_readMany) m_fewest (nI m_size) mn ms mp mr) := hD
  refine lv_iload_n hx hb dX9_spot_5 rfl (lv_at hl 2 rfl) ?_
  refine lv_i2l (v := j9.toInt64) hx hb dX9_spot_6 rfl ?_
  refine lv_lconst (v := 0) hx hb dX9_spot_7 (by decide +kernel) ?_
  refine lv_ldc2 (v := 8) hx hb hown (hts (.constantLong RX9 160 (8)) (by decide +kernel)) dX9_spot_8 ?_
  refine my_gpI (my_pS (As := [.long j9.toInt64, .long 0, .long 8]) (rest := []) ⟨hx, hb, hml, hown, hts⟩ (va_cwS 3 hts gX9_spot_X9_in rfl rfl rfl (by decide +kernel) ⟨Nat.le_of_ble_eq_true rfl, Nat.le_of_ble_eq_true rfl⟩) hN hK hP [] rfl rfl hl.1 rfl (Nat.le_of_ble_eq_true rfl) dX9_spot_11 ⟨Nat.le_of_ble_eq_true rfl, Nat.le_of_ble_eq_true rfl⟩  (k_X9_in l D cI cJ cK j9.toInt64 (0 : Int64) (8 : Int64) j9.toInt (Int32.toInt_toInt64 _) (0 : Int) (by decide +kernel) (8 : Int) (by decide +kernel))) (fun r hp => ?_)
  rcases hp with ⟨rfl, ha_1, hb_2⟩ | ⟨rfl, ho_3⟩
  ·
    refine lv_if_ne (tgt := 19) hx hb dX9_spot_14 (by decide) (fun c14 => ?_) (fun c14 => ?_)
    ·
      refine lv_aload_n hx hb dX9_spot_19 rfl (lv_at hl 0 rfl) ?_
      refine lv_iload_n hx hb dX9_spot_20 rfl (lv_at hl 1 rfl) ?_
      refine my_gpI (my_pV (As := [.int p9]) (rest := []) (ci := 9) ⟨hx, hb, hml, hown, hts⟩ (cwV 1 hts gX9_spot_X9_isPlace rfl rfl rfl (by decide +kernel) ⟨Nat.le_of_ble_eq_true rfl, Nat.le_of_ble_eq_true rfl⟩) hN hK hP [0] rfl 0 rfl rfl rfl rfl hl.1 rfl (Nat.le_of_ble_eq_true rfl) dX9_spot_21 ⟨Nat.le_of_ble_eq_true rfl, Nat.le_of_ble_eq_true rfl⟩  (k_X9_isPlace l D cI cJ cK m0 a_row a_tape a_number a_read a_readBits a_stands a_parted a_bitsWere a_stood a_chosen a_bestChosen a_often a_sorted a_risen a_risenWays (0 : Int32) m_told m_taped m_at m_to m_many m_readMany m_fewest m_size p9 (by first | assumption | omega | decide +kernel) (by first | assumption | omega | decide +kernel) (by first | assumption | omega | decide +kernel) (by first | assumption | omega | decide +kernel) (by first | assumption | omega | decide +kernel) (by first | assumption | omega | decide +kernel) (by first | assumption | omega | decide +kernel))) (fun r hp => ?_)
      rcases hp with ⟨k_4, rfl, rfl, ha_5⟩ | ⟨rfl, ho_6⟩
      ·
        refine lv_if_ne (tgt := 30) hx hb dX9_spot_24 (by decide) (fun c24 => ?_) (fun c24 => ?_)
        ·
          obtain ⟨w_7, rfl, hw_7⟩ := my_natP (x := j9) (by omega)
          have hlw_7 : w_7 < 2147483648 := by have h9 := Int32.toInt_lt (nI w_7); omega
          refine lv_aload_n hx hb dX9_spot_30 rfl (lv_at hl 0 rfl) ?_
          refine lv_iload_n hx hb dX9_spot_31 rfl (lv_at hl 2 rfl) ?_
          refine my_goVS (wc := (wl_kf_X9_laysLevel cI cJ cK m0 a_row a_tape a_number a_read a_readBits a_stands a_parted a_bitsWere a_stood a_chosen a_bestChosen a_often a_sorted a_risen a_risenWays 0 (nI m_told) (nI m_taped) (nI m_at) (nI m_to) (nI m_many) (nI m_readMany) m_fewest (nI m_size) mn ms mp)) hP hD hS hA [0, 1, 2, 3] rfl [some 0, some 1, some 2, some 3] (by decide +kernel) (my_cV (As := [.int (nI w_7)]) (rest := []) (ci := 9) (wc := (wl_kf_X9_laysLevel cI cJ cK m0 a_row a_tape a_number a_read a_readBits a_stands a_parted a_bitsWere a_stood a_chosen a_bestChosen a_often a_sorted a_risen a_risenWays 0 (nI m_told) (nI m_taped) (nI m_at) (nI m_to) (nI m_many) (nI m_readMany) m_fewest (nI m_size) mn ms mp)) ⟨hx, hb, hml, hown, hts⟩ (cwV 1 hts gX9_spot_X9_laysLevel rfl rfl rfl (by decide +kernel) ⟨Nat.le_of_ble_eq_true rfl, Nat.le_of_ble_eq_true rfl⟩) hN hK hP hD [0, 1, 2, 3] rfl (by decide) rfl 0 rfl rfl rfl rfl hl.1 rfl (Nat.le_of_ble_eq_true rfl) dX9_spot_32 ⟨Nat.le_of_ble_eq_true rfl, Nat.le_of_ble_eq_true rfl⟩  ((kf_X9_laysLevel l D cI cJ cK m0 a_row a_tape a_number a_read a_readBits a_stands a_parted a_bitsWere a_stood a_chosen a_bestChosen a_often a_sorted a_risen a_risenWays (0 : Int32) m_told m_taped m_at m_to m_many m_readMany m_fewest m_size mn ms mp w_7 (by first | assumption | omega | decide +kernel) (by first | assumption | omega | decide +kernel) (by first | assumption | omega | decide +kernel) (by first | assumption | omega | decide +kernel) (by first | assumption | omega | decide +kernel) (by first | assumption | omega | decide +kernel) (by first | assumption | omega | decide +kernel) hR_mn hR_ms hR_mp (by first | assumption | omega | decide +kernel)) _)) (fun u H locs hp hPD hS => ?_)
          obtain ⟨ms_8, mp_9, rfl, hR_ms_8, hR_mp_9, hly⟩ := hp
          obtain ⟨hP, hD⟩ := hPD rfl
          have hP : va_P D vwCl (wl_k_X9_spot cI cJ cK m0 a_row a_tape a_number a_read a_readBits a_stands a_parted a_bitsWere a_stood a_chosen a_bestChosen a_often a_sorted a_risen a_risenWays 0 (nI m_told) (nI m_taped) (nI m_at) (nI m_to) (nI m_many) (nI m_readMany) m_fewest (nI m_size) mn ms_8 mp_9 mr) H := hP
          have hD : va_D A (wl_k_X9_spot cI cJ cK m0 a_row a_tape a_number a_read a_readBits a_stands a_parted a_bitsWere a_stood a_chosen a_bestChosen a_often a_sorted a_risen a_risenWays 0 (nI m_told) (nI m_taped) (nI m_at) (nI m_to) (nI m_many) (nI m_readMany) m_fewest (nI m_size) mn ms_8 mp_9 mr) := hD
          refine lv_iconst (v := 0) hx hb dX9_spot_35 (by decide +kernel) ?_
          refine lv_istore_n (lv' := [(3, .int 0), (0, .ref m0), (1, .int (nI k_4)), (2, .int (nI w_7))]) hx hb dX9_spot_36 rfl hl (by decide) rfl (fun ls hl => ?_)
          have loop37 : ∀ (n9 : Nat) (k : Nat), 64 - k < n9 → (k ≤ 64) → (∃ q, k ≤ q ∧ q < m_many ∧ ms_8 q = nI k_4) → ∀ (H : Heap) (locs : List Loc) (ls : Array Slot), va_P D vwCl (wl_k_X9_spot cI cJ cK m0 a_row a_tape a_number a_read a_readBits a_stands a_parted a_bitsWere a_stood a_chosen a_bestChosen a_often a_sorted a_risen a_risenWays 0 (nI m_told) (nI m_taped) (nI m_at) (nI m_to) (nI m_many) (nI m_readMany) m_fewest (nI m_size) mn ms_8 mp_9 mr) H → va_D A (wl_k_X9_spot cI cJ cK m0 a_row a_tape a_number a_read a_readBits a_stands a_parted a_bitsWere a_stood a_chosen a_bestChosen a_often a_sorted a_risen a_risenWays 0 (nI m_told) (nI m_taped) (nI m_at) (nI m_to) (nI m_many) (nI m_readMany) m_fewest (nI m_size) mn ms_8 mp_9 mr) → va_S A s.heap H locs → lv_has ls 4 [(3, .int (nI k)), (0, .ref m0), (1, .int (nI k_4)), (2, .int (nI w_7))] → W p l e ({ frames := 2, cells := 0, slots := 0, locals := 120 } : Room) s m [.ref m0, .int (nI k_4), .int (nI w_7)].toArray below meth c H locs 0 0 (MQ below (va_Qi (fun (r : Int32) (u : va_W) => (∃ (m_thrown' : Int32), u = (wl_k_X9_spot cI cJ cK m0 a_row a_tape a_number a_read a_readBits a_stands a_parted a_bitsWere a_stood a_chosen a_bestChosen a_often a_sorted a_risen a_risenWays m_thrown' (nI m_told) (nI m_taped) (nI m_at) (nI m_to) (nI m_many) (nI m_readMany) m_fewest (nI m_size) mn ms mp mr) ∧ r = (-1) ∧ ((nI w_7).toInt < 0 ∨ 8 < (nI w_7).toInt)) ∨ (∃ (m_thrown' : Int32), u = (wl_k_X9_spot cI cJ cK m0 a_row a_tape a_number a_read a_readBits a_stands a_parted a_bitsWere a_stood a_chosen a_bestChosen a_often a_sorted a_risen a_risenWays m_thrown' (nI m_told) (nI m_taped) (nI m_at) (nI m_to) (nI m_many) (nI m_readMany) m_fewest (nI m_size) mn ms mp mr) ∧ r = (-2) ∧ 0 ≤ (nI w_7).toInt ∧ (nI w_7).toInt ≤ 8 ∧ ((nI k_4).toInt < 0 ∨ m_many ≤ (nI k_4).toInt)) ∨ (∃ (q' : Nat) (m_thrown' : Int32) (m_told' : Nat) (ms' : Nat → Int32) (mp' : Nat → Int32) (mr' : Nat → Int64), u = (wl_k_X9_spot cI cJ cK m0 a_row a_tape a_number a_read a_readBits a_stands a_parted a_bitsWere a_stood a_chosen a_bestChosen a_often a_sorted a_risen a_risenWays m_thrown' (nI m_told') (nI m_taped) (nI m_at) (nI m_to) (nI m_many) (nI m_readMany) m_fewest (nI m_size) mn ms' mp' mr') ∧ r = nI q' ∧ m_told' ≤ 64 ∧ RB 0 63 ms' ∧ RB 0 63 mp' ∧ 0 ≤ (nI w_7).toInt ∧ (nI w_7).toInt ≤ 8 ∧ 0 ≤ (nI k_4).toInt ∧ (nI k_4).toInt < m_many ∧ ordF mn m_many (nI w_7).toInt.toNat q' = (nI k_4).toInt.toNat ∧ q' < m_many ∧ m_told' = 1)) (my_B D (tyIJ cI cJ cK) A) A) [.ref m0, .int (nI k_4), .int (nI w_7)].toArray s 0 0 A) (F0 m 37 ls []) := by
            intro n9
            induction n9 with
            | zero =>
              intro k hn9
              exact absurd hn9 (Nat.not_lt_zero _)
            | succ n9 ih37 =>
              intro k hn9 hk_k hw9 H locs ls hP hD hS hl
              have hw8 := hw9
              obtain ⟨q8, hq8, hq7, hq6⟩ := hw8
              refine lv_aload_n hx hb dX9_spot_37 rfl (lv_at hl 1 rfl) ?_
              refine va_get (ci := 9) (v := .ref a_stands) (C := RX9) (T := TX9) (N := 24) hx hb hts hi9 hown hK hP 0 rfl rfl 12 (by decide) fl58 (fun _ h9 => h9) rfl dX9_spot_38 ?_
              refine lv_iload_n hx hb dX9_spot_41 rfl (lv_at hl 0 rfl) ?_
              refine va_iald hx hb hK hP 2 0 rfl rfl (vp_in_nI (by omega) (by omega)) dX9_spot_42 ?_
              refine my_eqi (y := ms_8 k) (congrArg ms_8 (nI_clamp (by omega))) ?_
              have hb_10 := hR_ms_8 k
              refine lv_iload_n hx hb dX9_spot_43 rfl (lv_at hl 2 rfl) ?_
              refine lv_icmp_eq (tgt := 53) hx hb dX9_spot_44 (by decide) (fun c44 => ?_) (fun c44 => ?_)
              ·
                have d44 : (ms_8 k).toInt = ((k_4 : Nat) : Int) := my_eq c44 rfl (nI_toInt (by omega))
                refine lv_aload_n hx hb dX9_spot_53 rfl (lv_at hl 1 rfl) ?_
                refine lv_iconst (v := 0) hx hb dX9_spot_54 (by decide +kernel) ?_
                refine va_put (ci := 9) (v := .int 0) (ty := (.int)) (C := RX9) (T := TX9) (N := 24) hx hb hts hi9 tyX9 tyX9_ok nmX9 hown hK hP hD hS 0 rfl rfl 1 (by decide) fl11 (fun _ h9 => h9) rfl (by decide +kernel) rfl rfl (Nat.le_of_ble_eq_true rfl) dX9_spot_55 (fun H locs hP hD hS => ?_)
                have hP : va_P D vwCl (wl_k_X9_spot cI cJ cK m0 a_row a_tape a_number a_read a_readBits a_stands a_parted a_bitsWere a_stood a_chosen a_bestChosen a_often a_sorted a_risen a_risenWays 0 0 (nI m_taped) (nI m_at) (nI m_to) (nI m_many) (nI m_readMany) m_fewest (nI m_size) mn ms_8 mp_9 mr) H := hP
                have hD : va_D A (wl_k_X9_spot cI cJ cK m0 a_row a_tape a_number a_read a_readBits a_stands a_parted a_bitsWere a_stood a_chosen a_bestChosen a_often a_sorted a_risen a_risenWays 0 0 (nI m_taped) (nI m_at) (nI m_to) (nI m_many) (nI m_readMany) m_fewest (nI m_size) mn ms_8 mp_9 mr) := hD
                refine lv_aload_n hx hb dX9_spot_58 rfl (lv_at hl 1 rfl) ?_
                refine lv_aload_n hx hb dX9_spot_59 rfl (lv_at hl 1 rfl) ?_
                refine va_get (ci := 9) (v := .ref a_number) (C := RX9) (T := TX9) (N := 24) hx hb hts hi9 hown hK hP 0 rfl rfl 8 (by decide) fl49 (fun _ h9 => h9) rfl dX9_spot_60 ?_
                refine lv_iload_n hx hb dX9_spot_63 rfl (lv_at hl 2 rfl) ?_
                refine va_iald hx hb hK hP 1 0 rfl rfl (vp_in_nI (by omega) (by omega)) dX9_spot_64 ?_
                refine my_eqi (y := mn k_4) (congrArg mn (nI_clamp (by omega))) ?_
                have hb_11 := hR_mn k_4
                refine lv_bipush (v := 8) hx hb dX9_spot_65 (by decide +kernel) ?_
                refine lv_iload_n hx hb dX9_spot_67 rfl (lv_at hl 3 rfl) ?_
                refine lv_isub hx hb dX9_spot_68 ?_
                refine my_eqi (y := nI (8 - w_7)) (my_subN (a := 8) (b := w_7) (by omega)) ?_
                refine lv_ishr hx hb dX9_spot_69 ?_
                refine lv_topi (fun z_12 ez_12 => ?_)
                try have hbz_12 : 0 ≤ z_12.toInt ∧ z_12.toInt ≤ (mn k_4).toInt := by rw [ez_12]; exact my_shrR  (by omega) (by omega)
                refine lv_i2l (v := z_12.toInt64) hx hb dX9_spot_70 rfl ?_
                refine my_goVS (wc := (wl_k_X9_enters cI cJ cK m0 a_row a_tape a_number a_read a_readBits a_stands a_parted a_bitsWere a_stood a_chosen a_bestChosen a_often a_sorted a_risen a_risenWays 0 0 (nI m_taped) (nI m_at) (nI m_to) (nI m_many) (nI m_readMany) m_fewest (nI m_size) mr)) hP hD hS hA [0, 4] rfl [some 0, none, none, none, some 1] (by decide +kernel) (my_cV (As := [.long z_12.toInt64]) (rest := []) (ci := 9) (wc := (wl_k_X9_enters cI cJ cK m0 a_row a_tape a_number a_read a_readBits a_stands a_parted a_bitsWere a_stood a_chosen a_bestChosen a_often a_sorted a_risen a_risenWays 0 0 (nI m_taped) (nI m_at) (nI m_to) (nI m_many) (nI m_readMany) m_fewest (nI m_size) mr)) ⟨hx, hb, hml, hown, hts⟩ (cwV 1 hts gX9_spot_X9_enters rfl rfl rfl (by decide +kernel) ⟨Nat.le_of_ble_eq_true rfl, Nat.le_of_ble_eq_true rfl⟩) hN hK hP hD [0, 4] rfl (by decide) rfl 0 rfl rfl rfl rfl hl.1 rfl (Nat.le_of_ble_eq_true rfl) dX9_spot_71 ⟨Nat.le_of_ble_eq_true rfl, Nat.le_of_ble_eq_true rfl⟩  ((k_X9_enters l D cI cJ cK m0 a_row a_tape a_number a_read a_readBits a_stands a_parted a_bitsWere a_stood a_chosen a_bestChosen a_often a_sorted a_risen a_risenWays (0 : Int32) 0 m_taped m_at m_to m_many m_readMany m_fewest m_size mr z_12.toInt64 (by first | assumption | omega | decide +kernel) (by first | assumption | omega | decide +kernel) (by first | assumption | omega | decide +kernel) (by first | assumption | omega | decide +kernel) (by first | assumption | omega | decide +kernel) (by first | assumption | omega | decide +kernel) (by first | assumption | omega | decide +kernel) (by first | assumption | omega | decide +kernel)) _)) (fun u H locs hp hPD hS => ?_)
                obtain ⟨m_told_13, mr_14, rfl, hhz_m_told_15, ht_16⟩ := hp
                obtain ⟨hP, hD⟩ := hPD rfl
                have hP : va_P D vwCl (wl_k_X9_spot cI cJ cK m0 a_row a_tape a_number a_read a_readBits a_stands a_parted a_bitsWere a_stood a_chosen a_bestChosen a_often a_sorted a_risen a_risenWays 0 (nI m_told_13) (nI m_taped) (nI m_at) (nI m_to) (nI m_many) (nI m_readMany) m_fewest (nI m_size) mn ms_8 mp_9 mr_14) H := hP
                have hD : va_D A (wl_k_X9_spot cI cJ cK m0 a_row a_tape a_number a_read a_readBits a_stands a_parted a_bitsWere a_stood a_chosen a_bestChosen a_often a_sorted a_risen a_risenWays 0 (nI m_told_13) (nI m_taped) (nI m_at) (nI m_to) (nI m_many) (nI m_readMany) m_fewest (nI m_size) mn ms_8 mp_9 mr_14) := hD
                refine lv_iload_n hx hb dX9_spot_74 rfl (lv_at hl 0 rfl) ?_
                have hsI_p9 : (nI k_4).toInt = ((k_4 : Nat) : Int) := nI_toInt (by omega)
                have hsN_p9 : (nI k_4).toInt.toNat = k_4 := nIt (by omega)
                have hsI_j9 : (nI w_7).toInt = ((w_7 : Nat) : Int) := nI_toInt (by omega)
                have hsN_j9 : (nI w_7).toInt.toNat = w_7 := nIt (by omega)
                exact my_retI hx hb hr hlocks hK hS (wl_k_X9_spot cI cJ cK m0 a_row a_tape a_number a_read a_readBits a_stands a_parted a_bitsWere a_stood a_chosen a_bestChosen a_often a_sorted a_risen a_risenWays 0 (nI m_told_13) (nI m_taped) (nI m_at) (nI m_to) (nI m_many) (nI m_readMany) m_fewest (nI m_size) mn ms_8 mp_9 mr_14) hP hD (Or.inr (Or.inr (⟨k, 0, m_told_13, ms_8, mp_9, mr_14, rfl, rfl, (by first | assumption | omega | trivial | decide +kernel), hR_ms_8, hR_mp_9, (by first | assumption | omega | trivial | decide +kernel), (by first | assumption | omega | trivial | decide +kernel), (by first | assumption | omega | trivial | decide +kernel), (by first | assumption | omega | trivial | decide +kernel), (by rw [hsN_j9, hsN_p9]; exact sp_at hly (by omega) (by omega) (by omega) d44), (by first | assumption | omega | trivial | decide +kernel), (by first | assumption | omega | trivial | decide +kernel)⟩))) dX9_spot_75
              ·
                have d44 : (ms_8 k).toInt ≠ ((k_4 : Nat) : Int) := my_ne c44 rfl (nI_toInt (by omega))
                refine lv_iinc (v := nI (k + 1)) (lv' := [(3, .int (nI (k + 1))), (0, .ref m0), (1, .int (nI k_4)), (2, .int (nI w_7))]) hx hb dX9_spot_47 hl (k := 0) rfl (my_incN k 1 (by decide +kernel)) (by decide) rfl (fun ls hl => ?_)
                refine lv_goto (tgt := 37) hx hb dX9_spot_50 (by decide) ?_
                exact ih37  (k + 1) (by omega) (by first | assumption | omega | decide +kernel) (wh_step hw9 (by rw [nI_toInt (by omega)]; exact d44)) _ _ ls hP hD hS (lv_sub hl [0, 1, 2, 3] rfl)
          exact loop37 ((64 - 0) + 1) 0 (Nat.lt_succ_self _) (by first | assumption | omega | decide +kernel) (sp_ex hly (by omega)) _ _ ls hP hD hS (lv_sub hl [0, 1, 2, 3] rfl)
        ·
          exact absurd c24 (by decide +kernel)
      ·
        refine lv_if_ne (tgt := 30) hx hb dX9_spot_24 (by decide) (fun c24 => ?_) (fun c24 => ?_)
        ·
          exact absurd c24 (by decide +kernel)
        ·
          refine lv_bipush (v := (-2)) hx hb dX9_spot_27 (by decide +kernel) ?_
          exact my_retI hx hb hr hlocks hK hS (wl_k_X9_spot cI cJ cK m0 a_row a_tape a_number a_read a_readBits a_stands a_parted a_bitsWere a_stood a_chosen a_bestChosen a_often a_sorted a_risen a_risenWays 0 (nI m_told) (nI m_taped) (nI m_at) (nI m_to) (nI m_many) (nI m_readMany) m_fewest (nI m_size) mn ms mp mr) hP hD (Or.inr (Or.inl ⟨0, rfl, rfl, (by first | assumption | omega | trivial | decide +kernel), (by first | assumption | omega | trivial | decide +kernel), (by first | assumption | omega | trivial | decide +kernel)⟩)) dX9_spot_29
    ·
      exact absurd c14 (by decide +kernel)
  ·
    refine lv_if_ne (tgt := 19) hx hb dX9_spot_14 (by decide) (fun c14 => ?_) (fun c14 => ?_)
    ·
      exact absurd c14 (by decide +kernel)
    ·
      refine lv_iconst (v := (-1)) hx hb dX9_spot_17 (by decide +kernel) ?_
      exact my_retI hx hb hr hlocks hK hS (wl_k_X9_spot cI cJ cK m0 a_row a_tape a_number a_read a_readBits a_stands a_parted a_bitsWere a_stood a_chosen a_bestChosen a_often a_sorted a_risen a_risenWays 0 (nI m_told) (nI m_taped) (nI m_at) (nI m_to) (nI m_many) (nI m_readMany) m_fewest (nI m_size) mn ms mp mr) hP hD (Or.inl ⟨0, rfl, rfl, (by first | assumption | omega | trivial | decide +kernel)⟩) dX9_spot_18
abbrev wl_k_X9_from (cI cJ cK : ClassId) (m0 : Nat) (a_row : Nat) (a_tape : Nat) (a_number : Nat) (a_read : Nat) (a_readBits : Nat) (a_stands : Nat) (a_parted : Nat) (a_bitsWere : Nat) (a_stood : Nat) (a_chosen : Nat) (a_bestChosen : Nat) (a_often : Nat) (a_sorted : Nat) (a_risen : Nat) (a_risenWays : Nat) (v0_ : Int32) (v1_ : Int32) (v2_ : Int32) (v3_ : Int32) (v4_ : Int32) (v5_ : Int32) (v6_ : Int32) (v7_ : Int32) (v8_ : Int32) (v9_ : Nat → Int32) (v10_ : Nat → Int32) (v11_ : Nat → Int32) (v12_ : Nat → Int64) : va_W := [(m0, .inr (9, [.int v0_, .int v1_, .ref a_row, .ref a_tape, .int v2_, .int v3_, .int v4_, .int v5_, .ref a_number, .ref a_read, .int v6_, .ref a_readBits, .ref a_stands, .ref a_parted, .ref a_bitsWere, .ref a_stood, .ref a_chosen, .ref a_bestChosen, .int v7_, .ref a_often, .ref a_sorted, .int v8_, .ref a_risen, .ref a_risenWays])), (a_number, .inl (cI, 64, .inl v9_)), (a_stands, .inl (cI, 64, .inl v10_)), (a_parted, .inl (cI, 64, .inl v11_)), (a_row, .inl (cJ, 64, .inr (.inl v12_)))]
set_option maxHeartbeats 4000000 in
set_option maxRecDepth 100000 in
theorem k_X9_from (l : Launch) (D : va_G) (cI cJ cK : ClassId) (m0 : Nat) (a_row : Nat) (a_tape : Nat) (a_number : Nat) (a_read : Nat) (a_readBits : Nat) (a_stands : Nat) (a_parted : Nat) (a_bitsWere : Nat) (a_stood : Nat) (a_chosen : Nat) (a_bestChosen : Nat) (a_often : Nat) (a_sorted : Nat) (a_risen : Nat) (a_risenWays : Nat) (m_thrown : Int32) (m_told : Nat) (m_taped : Nat) (m_at : Nat) (m_to : Nat) (m_many : Nat) (m_readMany : Nat) (m_fewest : Int32) (m_size : Nat) (mn : Nat → Int32) (ms : Nat → Int32) (mp : Nat → Int32) (mr : Nat → Int64) (j9 : Int32) (p9 : Int32) (hz_m_told : m_told ≤ 64) (hz_m_taped : m_taped ≤ 100) (hz_m_at : m_at ≤ 100) (hz_m_to : m_to ≤ 100) (hz_m_many : m_many ≤ 64) (hz_m_readMany : m_readMany ≤ 64) (hz_m_size : m_size ≤ 64) (hR_mn : RB 0 255 mn) (hR_ms : RB 0 63 ms) (hR_mp : RB 0 63 mp) : ctI l yX9_from wsX9_from ({ frames := 2, cells := 0, slots := 0, locals := 120 } : Room) D (tyIJ cI cJ cK) [.ref m0, .int j9, .int p9] (wl_k_X9_from cI cJ cK m0 a_row a_tape a_number a_read a_readBits a_stands a_parted a_bitsWere a_stood a_chosen a_bestChosen a_often a_sorted a_risen a_risenWays m_thrown (nI m_told) (nI m_taped) (nI m_at) (nI m_to) (nI m_many) (nI m_readMany) m_fewest (nI m_size) mn ms mp mr) (fun (r : Int32) (u : va_W) => (∃ (m_thrown' : Int32), u = (wl_k_X9_from cI cJ cK m0 a_row a_tape a_number a_read a_readBits a_stands a_parted a_bitsWere a_stood a_chosen a_bestChosen a_often a_sorted a_risen a_risenWays m_thrown' (nI m_told) (nI m_taped) (nI m_at) (nI m_to) (nI m_many) (nI m_readMany) m_fewest (nI m_size) mn ms mp mr) ∧ r = (-1) ∧ (j9.toInt < 0 ∨ 8 < j9.toInt)) ∨ (∃ (m_thrown' : Int32), u = (wl_k_X9_from cI cJ cK m0 a_row a_tape a_number a_read a_readBits a_stands a_parted a_bitsWere a_stood a_chosen a_bestChosen a_often a_sorted a_risen a_risenWays m_thrown' (nI m_told) (nI m_taped) (nI m_at) (nI m_to) (nI m_many) (nI m_readMany) m_fewest (nI m_size) mn ms mp mr) ∧ r = (-2) ∧ 0 ≤ j9.toInt ∧ j9.toInt ≤ 8 ∧ (p9.toInt < 0 ∨ m_many ≤ p9.toInt)) ∨ (∃ (m_thrown' : Int32) (m_told' : Nat) (ms' : Nat → Int32) (mp' : Nat → Int32) (mr' : Nat → Int64), u = (wl_k_X9_from cI cJ cK m0 a_row a_tape a_number a_read a_readBits a_stands a_parted a_bitsWere a_stood a_chosen a_bestChosen a_often a_sorted a_risen a_risenWays m_thrown' (nI m_told') (nI m_taped) (nI m_at) (nI m_to) (nI m_many) (nI m_readMany) m_fewest (nI m_size) mn ms' mp' mr') ∧ m_told' ≤ 64 ∧ RB 0 63 ms' ∧ RB 0 63 mp' ∧ 0 ≤ j9.toInt ∧ j9.toInt ≤ 8 ∧ 0 ≤ p9.toInt ∧ p9.toInt < m_many ∧ r = nI (ordF mn m_many j9.toInt.toNat p9.toInt.toNat) ∧ True ∧ m_told' = 1)) := by
  refine ctI.of (cc := cX9_from) (maxL := 3) (ret := (some .int)) (by decide) rfl (Nat.le_of_ble_eq_true rfl) ?_
  intro p e s m below meth c ls A hx hb hr hts hown hml hlocks hname hA hK hN hP hD hS hl
  have hl : lv_has ls 3 [(0, .ref m0), (1, .int j9), (2, .int p9)] := hl
  have hown : s.vm.findClass RX9 = some m.cls := hown
  have hi9 : ∀ w ∈ u_ws RX9 TX9 24, w ∈ wsX9_from := by decide +kernel
  have fl1 := hts (.fieldLink RX9 1 "PlaneColumnModel" "thrown" "I") (by decide +kernel)
  have fl11 := hts (.fieldLink RX9 11 "PlaneColumnModel" "told" "I") (by decide +kernel)
  have fl49 := hts (.fieldLink RX9 49 "PlaneColumnModel" "number" "[I") (by decide +kernel)
  have fl58 := hts (.fieldLink RX9 58 "PlaneColumnModel" "stands" "[I") (by decide +kernel)
  refine lv_aload_n hx hb dX9_from_0 rfl (lv_at hl 0 rfl) ?_
  refine lv_iconst (v := 0) hx hb dX9_from_1 (by decide +kernel) ?_
  refine va_put (ci := 9) (v := .int 0) (ty := (.int)) (C := RX9) (T := TX9) (N := 24) hx hb hts hi9 tyX9 tyX9_ok nmX9 hown hK hP hD hS 0 rfl rfl 0 (by decide) fl1 (fun _ h9 => h9) rfl (by decide +kernel) rfl rfl (Nat.le_of_ble_eq_true rfl) dX9_from_2 (fun H locs hP hD hS => ?_)
  have hP : va_P D vwCl (wl_k_X9_from cI cJ cK m0 a_row a_tape a_number a_read a_readBits a_stands a_parted a_bitsWere a_stood a_chosen a_bestChosen a_often a_sorted a_risen a_risenWays 0 (nI m_told) (nI m_taped) (nI m_at) (nI m_to) (nI m_many) (nI m_readMany) m_fewest (nI m_size) mn ms mp mr) H := hP
  have hD : va_D A (wl_k_X9_from cI cJ cK m0 a_row a_tape a_number a_read a_readBits a_stands a_parted a_bitsWere a_stood a_chosen a_bestChosen a_often a_sorted a_risen a_risenWays 0 (nI m_told) (nI m_taped) (nI m_at) (nI m_to) (nI m_many) (nI m_readMany) m_fewest (nI m_size) mn ms mp mr) := hD
  refine lv_iload_n hx hb dX9_from_5 rfl (lv_at hl 1 rfl) ?_
  refine lv_i2l (v := j9.toInt64) hx hb dX9_from_6 rfl ?_
  refine lv_lconst (v := 0) hx hb dX9_from_7 (by decide +kernel) ?_
  refine lv_ldc2 (v := 8) hx hb hown (hts (.constantLong RX9 160 (8)) (by decide +kernel)) dX9_from_8 ?_
  refine my_gpI (my_pS (As := [.long j9.toInt64, .long 0, .long 8]) (rest := []) ⟨hx, hb, hml, hown, hts⟩ (va_cwS 3 hts gX9_from_X9_in rfl rfl rfl (by decide +kernel) ⟨Nat.le_of_ble_eq_true rfl, Nat.le_of_ble_eq_true rfl⟩) hN hK hP [] rfl rfl hl.1 rfl (Nat.le_of_ble_eq_true rfl) dX9_from_11 ⟨Nat.le_of_ble_eq_true rfl, Nat.le_of_ble_eq_true rfl⟩  (k_X9_in l D cI cJ cK j9.toInt64 (0 : Int64) (8 : Int64) j9.toInt (Int32.toInt_toInt64 _) (0 : Int) (by decide +kernel) (8 : Int) (by decide +kernel))) (fun r hp => ?_)
  rcases hp with ⟨rfl, ha_1, hb_2⟩ | ⟨rfl, ho_3⟩
  ·
    refine lv_if_ne (tgt := 19) hx hb dX9_from_14 (by decide) (fun c14 => ?_) (fun c14 => ?_)
    ·
      refine lv_aload_n hx hb dX9_from_19 rfl (lv_at hl 0 rfl) ?_
      refine lv_iload_n hx hb dX9_from_20 rfl (lv_at hl 2 rfl) ?_
      refine my_gpI (my_pV (As := [.int p9]) (rest := []) (ci := 9) ⟨hx, hb, hml, hown, hts⟩ (cwV 1 hts gX9_from_X9_isPlace rfl rfl rfl (by decide +kernel) ⟨Nat.le_of_ble_eq_true rfl, Nat.le_of_ble_eq_true rfl⟩) hN hK hP [0] rfl 0 rfl rfl rfl rfl hl.1 rfl (Nat.le_of_ble_eq_true rfl) dX9_from_21 ⟨Nat.le_of_ble_eq_true rfl, Nat.le_of_ble_eq_true rfl⟩  (k_X9_isPlace l D cI cJ cK m0 a_row a_tape a_number a_read a_readBits a_stands a_parted a_bitsWere a_stood a_chosen a_bestChosen a_often a_sorted a_risen a_risenWays (0 : Int32) m_told m_taped m_at m_to m_many m_readMany m_fewest m_size p9 (by first | assumption | omega | decide +kernel) (by first | assumption | omega | decide +kernel) (by first | assumption | omega | decide +kernel) (by first | assumption | omega | decide +kernel) (by first | assumption | omega | decide +kernel) (by first | assumption | omega | decide +kernel) (by first | assumption | omega | decide +kernel))) (fun r hp => ?_)
      rcases hp with ⟨k_4, rfl, rfl, ha_5⟩ | ⟨rfl, ho_6⟩
      ·
        refine lv_if_ne (tgt := 30) hx hb dX9_from_24 (by decide) (fun c24 => ?_) (fun c24 => ?_)
        ·
          obtain ⟨w_7, rfl, hw_7⟩ := my_natP (x := j9) (by omega)
          have hlw_7 : w_7 < 2147483648 := by have h9 := Int32.toInt_lt (nI w_7); omega
          refine lv_aload_n hx hb dX9_from_30 rfl (lv_at hl 0 rfl) ?_
          refine lv_iload_n hx hb dX9_from_31 rfl (lv_at hl 1 rfl) ?_
          refine my_goVS (wc := (wl_kf_X9_laysLevel cI cJ cK m0 a_row a_tape a_number a_read a_readBits a_stands a_parted a_bitsWere a_stood a_chosen a_bestChosen a_often a_sorted a_risen a_risenWays 0 (nI m_told) (nI m_taped) (nI m_at) (nI m_to) (nI m_many) (nI m_readMany) m_fewest (nI m_size) mn ms mp)) hP hD hS hA [0, 1, 2, 3] rfl [some 0, some 1, some 2, some 3] (by decide +kernel) (my_cV (As := [.int (nI w_7)]) (rest := []) (ci := 9) (wc := (wl_kf_X9_laysLevel cI cJ cK m0 a_row a_tape a_number a_read a_readBits a_stands a_parted a_bitsWere a_stood a_chosen a_bestChosen a_often a_sorted a_risen a_risenWays 0 (nI m_told) (nI m_taped) (nI m_at) (nI m_to) (nI m_many) (nI m_readMany) m_fewest (nI m_size) mn ms mp)) ⟨hx, hb, hml, hown, hts⟩ (cwV 1 hts gX9_from_X9_laysLevel rfl rfl rfl (by decide +kernel) ⟨Nat.le_of_ble_eq_true rfl, Nat.le_of_ble_eq_true rfl⟩) hN hK hP hD [0, 1, 2, 3] rfl (by decide) rfl 0 rfl rfl rfl rfl hl.1 rfl (Nat.le_of_ble_eq_true rfl) dX9_from_32 ⟨Nat.le_of_ble_eq_true rfl, Nat.le_of_ble_eq_true rfl⟩  ((kf_X9_laysLevel l D cI cJ cK m0 a_row a_tape a_number a_read a_readBits a_stands a_parted a_bitsWere a_stood a_chosen a_bestChosen a_often a_sorted a_risen a_risenWays (0 : Int32) m_told m_taped m_at m_to m_many m_readMany m_fewest m_size mn ms mp w_7 (by first | assumption | omega | decide +kernel) (by first | assumption | omega | decide +kernel) (by first | assumption | omega | decide +kernel) (by first | assumption | omega | decide +kernel) (by first | assumption | omega | decide +kernel) (by first | assumption | omega | decide +kernel) (by first | assumption | omega | decide +kernel) hR_mn hR_ms hR_mp (by first | assumption | omega | decide +kernel)) _)) (fun u H locs hp hPD hS => ?_)
          obtain ⟨ms_8, mp_9, rfl, hR_ms_8, hR_mp_9, hly⟩ := hp
          obtain ⟨hP, hD⟩ := hPD rfl
          have hP : va_P D vwCl (wl_k_X9_from cI cJ cK m0 a_row a_tape a_number a_read a_readBits a_stands a_parted a_bitsWere a_stood a_chosen a_bestChosen a_often a_sorted a_risen a_risenWays 0 (nI m_told) (nI m_taped) (nI m_at) (nI m_to) (nI m_many) (nI m_readMany) m_fewest (nI m_size) mn ms_8 mp_9 mr) H := hP
          have hD : va_D A (wl_k_X9_from cI cJ cK m0 a_row a_tape a_number a_read a_readBits a_stands a_parted a_bitsWere a_stood a_chosen a_bestChosen a_often a_sorted a_risen a_risenWays 0 (nI m_told) (nI m_taped) (nI m_at) (nI m_to) (nI m_many) (nI m_readMany) m_fewest (nI m_size) mn ms_8 mp_9 mr) := hD
          refine lv_aload_n hx hb dX9_from_35 rfl (lv_at hl 0 rfl) ?_
          refine lv_iconst (v := 0) hx hb dX9_from_36 (by decide +kernel) ?_
          refine va_put (ci := 9) (v := .int 0) (ty := (.int)) (C := RX9) (T := TX9) (N := 24) hx hb hts hi9 tyX9 tyX9_ok nmX9 hown hK hP hD hS 0 rfl rfl 1 (by decide) fl11 (fun _ h9 => h9) rfl (by decide +kernel) rfl rfl (Nat.le_of_ble_eq_true rfl) dX9_from_37 (fun H locs hP hD hS => ?_)
          have hP : va_P D vwCl (wl_k_X9_from cI cJ cK m0 a_row a_tape a_number a_read a_readBits a_stands a_parted a_bitsWere a_stood a_chosen a_bestChosen a_often a_sorted a_risen a_risenWays 0 0 (nI m_taped) (nI m_at) (nI m_to) (nI m_many) (nI m_readMany) m_fewest (nI m_size) mn ms_8 mp_9 mr) H := hP
          have hD : va_D A (wl_k_X9_from cI cJ cK m0 a_row a_tape a_number a_read a_readBits a_stands a_parted a_bitsWere a_stood a_chosen a_bestChosen a_often a_sorted a_risen a_risenWays 0 0 (nI m_taped) (nI m_at) (nI m_to) (nI m_many) (nI m_readMany) m_fewest (nI m_size) mn ms_8 mp_9 mr) := hD
          refine lv_aload_n hx hb dX9_from_40 rfl (lv_at hl 0 rfl) ?_
          refine lv_aload_n hx hb dX9_from_41 rfl (lv_at hl 0 rfl) ?_
          refine va_get (ci := 9) (v := .ref a_number) (C := RX9) (T := TX9) (N := 24) hx hb hts hi9 hown hK hP 0 rfl rfl 8 (by decide) fl49 (fun _ h9 => h9) rfl dX9_from_42 ?_
          refine lv_aload_n hx hb dX9_from_45 rfl (lv_at hl 0 rfl) ?_
          refine va_get (ci := 9) (v := .ref a_stands) (C := RX9) (T := TX9) (N := 24) hx hb hts hi9 hown hK hP 0 rfl rfl 12 (by decide) fl58 (fun _ h9 => h9) rfl dX9_from_46 ?_
          refine lv_iload_n hx hb dX9_from_49 rfl (lv_at hl 2 rfl) ?_
          refine va_iald hx hb hK hP 2 0 rfl rfl (vp_in_nI (by omega) (by omega)) dX9_from_50 ?_
          refine my_eqi (y := ms_8 k_4) (congrArg ms_8 (nI_clamp (by omega))) ?_
          have hb_10 := hR_ms_8 k_4
          refine va_iald hx hb hK hP 1 0 rfl rfl (vp_in_iff.mpr ⟨by omega, by omega⟩) dX9_from_51 ?_
          refine lv_topi (fun z_12 ez_12 => ?_)
          have hb_11 := hR_mn (ms_8 k_4 : Int32).toNatClampNeg
          rw [← ez_12] at hb_11
          refine lv_i2l (v := z_12.toInt64) hx hb dX9_from_52 rfl ?_
          refine my_goVS (wc := (wl_k_X9_enters cI cJ cK m0 a_row a_tape a_number a_read a_readBits a_stands a_parted a_bitsWere a_stood a_chosen a_bestChosen a_often a_sorted a_risen a_risenWays 0 0 (nI m_taped) (nI m_at) (nI m_to) (nI m_many) (nI m_readMany) m_fewest (nI m_size) mr)) hP hD hS hA [0, 4] rfl [some 0, none, none, none, some 1] (by decide +kernel) (my_cV (As := [.long z_12.toInt64]) (rest := []) (ci := 9) (wc := (wl_k_X9_enters cI cJ cK m0 a_row a_tape a_number a_read a_readBits a_stands a_parted a_bitsWere a_stood a_chosen a_bestChosen a_often a_sorted a_risen a_risenWays 0 0 (nI m_taped) (nI m_at) (nI m_to) (nI m_many) (nI m_readMany) m_fewest (nI m_size) mr)) ⟨hx, hb, hml, hown, hts⟩ (cwV 1 hts gX9_from_X9_enters rfl rfl rfl (by decide +kernel) ⟨Nat.le_of_ble_eq_true rfl, Nat.le_of_ble_eq_true rfl⟩) hN hK hP hD [0, 4] rfl (by decide) rfl 0 rfl rfl rfl rfl hl.1 rfl (Nat.le_of_ble_eq_true rfl) dX9_from_53 ⟨Nat.le_of_ble_eq_true rfl, Nat.le_of_ble_eq_true rfl⟩  ((k_X9_enters l D cI cJ cK m0 a_row a_tape a_number a_read a_readBits a_stands a_parted a_bitsWere a_stood a_chosen a_bestChosen a_often a_sorted a_risen a_risenWays (0 : Int32) 0 m_taped m_at m_to m_many m_readMany m_fewest m_size mr z_12.toInt64 (by first | assumption | omega | decide +kernel) (by first | assumption | omega | decide +kernel) (by first | assumption | omega | decide +kernel) (by first | assumption | omega | decide +kernel) (by first | assumption | omega | decide +kernel) (by first | assumption | omega | decide +kernel) (by first | assumption | omega | decide +kernel) (by first | assumption | omega | decide +kernel)) _)) (fun u H locs hp hPD hS => ?_)
          obtain ⟨m_told_13, mr_14, rfl, hhz_m_told_15, ht_16⟩ := hp
          obtain ⟨hP, hD⟩ := hPD rfl
          have hP : va_P D vwCl (wl_k_X9_from cI cJ cK m0 a_row a_tape a_number a_read a_readBits a_stands a_parted a_bitsWere a_stood a_chosen a_bestChosen a_often a_sorted a_risen a_risenWays 0 (nI m_told_13) (nI m_taped) (nI m_at) (nI m_to) (nI m_many) (nI m_readMany) m_fewest (nI m_size) mn ms_8 mp_9 mr_14) H := hP
          have hD : va_D A (wl_k_X9_from cI cJ cK m0 a_row a_tape a_number a_read a_readBits a_stands a_parted a_bitsWere a_stood a_chosen a_bestChosen a_often a_sorted a_risen a_risenWays 0 (nI m_told_13) (nI m_taped) (nI m_at) (nI m_to) (nI m_many) (nI m_readMany) m_fewest (nI m_size) mn ms_8 mp_9 mr_14) := hD
          refine lv_aload_n hx hb dX9_from_56 rfl (lv_at hl 0 rfl) ?_
          refine va_get (ci := 9) (v := .ref a_stands) (C := RX9) (T := TX9) (N := 24) hx hb hts hi9 hown hK hP 0 rfl rfl 12 (by decide) fl58 (fun _ h9 => h9) rfl dX9_from_57 ?_
          refine lv_iload_n hx hb dX9_from_60 rfl (lv_at hl 2 rfl) ?_
          refine va_iald hx hb hK hP 2 0 rfl rfl (vp_in_nI (by omega) (by omega)) dX9_from_61 ?_
          refine my_eqi (y := ms_8 k_4) (congrArg ms_8 (nI_clamp (by omega))) ?_
          have hb_17 := hR_ms_8 k_4
          have hsI_p9 : (nI k_4).toInt = ((k_4 : Nat) : Int) := nI_toInt (by omega)
          have hsN_p9 : (nI k_4).toInt.toNat = k_4 := nIt (by omega)
          have hsI_j9 : (nI w_7).toInt = ((w_7 : Nat) : Int) := nI_toInt (by omega)
          have hsN_j9 : (nI w_7).toInt.toNat = w_7 := nIt (by omega)
          exact my_retI hx hb hr hlocks hK hS (wl_k_X9_from cI cJ cK m0 a_row a_tape a_number a_read a_readBits a_stands a_parted a_bitsWere a_stood a_chosen a_bestChosen a_often a_sorted a_risen a_risenWays 0 (nI m_told_13) (nI m_taped) (nI m_at) (nI m_to) (nI m_many) (nI m_readMany) m_fewest (nI m_size) mn ms_8 mp_9 mr_14) hP hD (Or.inr (Or.inr (⟨0, m_told_13, ms_8, mp_9, mr_14, rfl, (by first | assumption | omega | trivial | decide +kernel), hR_ms_8, hR_mp_9, (by first | assumption | omega | trivial | decide +kernel), (by first | assumption | omega | trivial | decide +kernel), (by first | assumption | omega | trivial | decide +kernel), (by first | assumption | omega | trivial | decide +kernel), (by rw [hsN_j9, hsN_p9]; exact hly _ (by omega)), (by first | assumption | omega | trivial | decide +kernel), (by first | assumption | omega | trivial | decide +kernel)⟩))) dX9_from_62
        ·
          exact absurd c24 (by decide +kernel)
      ·
        refine lv_if_ne (tgt := 30) hx hb dX9_from_24 (by decide) (fun c24 => ?_) (fun c24 => ?_)
        ·
          exact absurd c24 (by decide +kernel)
        ·
          refine lv_bipush (v := (-2)) hx hb dX9_from_27 (by decide +kernel) ?_
          exact my_retI hx hb hr hlocks hK hS (wl_k_X9_from cI cJ cK m0 a_row a_tape a_number a_read a_readBits a_stands a_parted a_bitsWere a_stood a_chosen a_bestChosen a_often a_sorted a_risen a_risenWays 0 (nI m_told) (nI m_taped) (nI m_at) (nI m_to) (nI m_many) (nI m_readMany) m_fewest (nI m_size) mn ms mp mr) hP hD (Or.inr (Or.inl ⟨0, rfl, rfl, (by first | assumption | omega | trivial | decide +kernel), (by first | assumption | omega | trivial | decide +kernel), (by first | assumption | omega | trivial | decide +kernel)⟩)) dX9_from_29
    ·
      exact absurd c14 (by decide +kernel)
  ·
    refine lv_if_ne (tgt := 19) hx hb dX9_from_14 (by decide) (fun c14 => ?_) (fun c14 => ?_)
    ·
      exact absurd c14 (by decide +kernel)
    ·
      refine lv_iconst (v := (-1)) hx hb dX9_from_17 (by decide +kernel) ?_
      exact my_retI hx hb hr hlocks hK hS (wl_k_X9_from cI cJ cK m0 a_row a_tape a_number a_read a_readBits a_stands a_parted a_bitsWere a_stood a_chosen a_bestChosen a_often a_sorted a_risen a_risenWays 0 (nI m_told) (nI m_taped) (nI m_at) (nI m_to) (nI m_many) (nI m_readMany) m_fewest (nI m_size) mn ms mp mr) hP hD (Or.inl ⟨0, rfl, rfl, (by first | assumption | omega | trivial | decide +kernel)⟩) dX9_from_18
abbrev wl_k_X9_runs (cI cJ cK : ClassId) (m0 : Nat) (a_row : Nat) (a_tape : Nat) (a_number : Nat) (a_read : Nat) (a_readBits : Nat) (a_stands : Nat) (a_parted : Nat) (a_bitsWere : Nat) (a_stood : Nat) (a_chosen : Nat) (a_bestChosen : Nat) (a_often : Nat) (a_sorted : Nat) (a_risen : Nat) (a_risenWays : Nat) (v0_ : Int32) (v1_ : Int32) (v2_ : Int32) (v3_ : Int32) (v4_ : Int32) (v5_ : Int32) (v6_ : Int32) (v7_ : Int32) (v8_ : Int32) (v9_ : Nat → Int32) (v10_ : Nat → Int32) (v11_ : Nat → Int32) (v12_ : Nat → Int64) : va_W := [(m0, .inr (9, [.int v0_, .int v1_, .ref a_row, .ref a_tape, .int v2_, .int v3_, .int v4_, .int v5_, .ref a_number, .ref a_read, .int v6_, .ref a_readBits, .ref a_stands, .ref a_parted, .ref a_bitsWere, .ref a_stood, .ref a_chosen, .ref a_bestChosen, .int v7_, .ref a_often, .ref a_sorted, .int v8_, .ref a_risen, .ref a_risenWays])), (a_number, .inl (cI, 64, .inl v9_)), (a_stands, .inl (cI, 64, .inl v10_)), (a_parted, .inl (cI, 64, .inl v11_)), (a_row, .inl (cJ, 64, .inr (.inl v12_)))]
set_option maxHeartbeats 4000000 in
set_option maxRecDepth 100000 in
theorem k_X9_runs (l : Launch) (D : va_G) (cI cJ cK : ClassId) (m0 : Nat) (a_row : Nat) (a_tape : Nat) (a_number : Nat) (a_read : Nat) (a_readBits : Nat) (a_stands : Nat) (a_parted : Nat) (a_bitsWere : Nat) (a_stood : Nat) (a_chosen : Nat) (a_bestChosen : Nat) (a_often : Nat) (a_sorted : Nat) (a_risen : Nat) (a_risenWays : Nat) (m_thrown : Int32) (m_told : Nat) (m_taped : Nat) (m_at : Nat) (m_to : Nat) (m_many : Nat) (m_readMany : Nat) (m_fewest : Int32) (m_size : Nat) (mn : Nat → Int32) (ms : Nat → Int32) (mp : Nat → Int32) (mr : Nat → Int64) (hz_m_told : m_told ≤ 64) (hz_m_taped : m_taped ≤ 100) (hz_m_at : m_at ≤ 100) (hz_m_to : m_to ≤ 100) (hz_m_many : m_many ≤ 64) (hz_m_readMany : m_readMany ≤ 64) (hz_m_size : m_size ≤ 64) (hR_mn : RB 0 255 mn) (hR_ms : RB 0 63 ms) (hR_mp : RB 0 63 mp) : ctI l yX9_runs wsX9_runs ({ frames := 2, cells := 0, slots := 0, locals := 120 } : Room) D (tyIJ cI cJ cK) [.ref m0] (wl_k_X9_runs cI cJ cK m0 a_row a_tape a_number a_read a_readBits a_stands a_parted a_bitsWere a_stood a_chosen a_bestChosen a_often a_sorted a_risen a_risenWays m_thrown (nI m_told) (nI m_taped) (nI m_at) (nI m_to) (nI m_many) (nI m_readMany) m_fewest (nI m_size) mn ms mp mr) (fun (r : Int32) (u : va_W) => ∃ (t' : Nat) (m_thrown' : Int32) (m_told' : Nat) (ms' : Nat → Int32) (mp' : Nat → Int32) (mr' : Nat → Int64), u = (wl_k_X9_runs cI cJ cK m0 a_row a_tape a_number a_read a_readBits a_stands a_parted a_bitsWere a_stood a_chosen a_bestChosen a_often a_sorted a_risen a_risenWays m_thrown' (nI m_told') (nI m_taped) (nI m_at) (nI m_to) (nI m_many) (nI m_readMany) m_fewest (nI m_size) mn ms' mp' mr') ∧ r = nI t' ∧ m_told' ≤ 64 ∧ RB 0 63 ms' ∧ RB 0 63 mp' ∧ t' = rnS mn m_many 8 ∧ m_told' = 8) := by
  refine ctI.of (cc := cX9_runs) (maxL := 4) (ret := (some .int)) (by decide) rfl (Nat.le_of_ble_eq_true rfl) ?_
  intro p e s m below meth c ls A hx hb hr hts hown hml hlocks hname hA hK hN hP hD hS hl
  have hl : lv_has ls 4 [(0, .ref m0)] := hl
  have hown : s.vm.findClass RX9 = some m.cls := hown
  have hi9 : ∀ w ∈ u_ws RX9 TX9 24, w ∈ wsX9_runs := by decide +kernel
  have fl1 := hts (.fieldLink RX9 1 "PlaneColumnModel" "thrown" "I") (by decide +kernel)
  have fl11 := hts (.fieldLink RX9 11 "PlaneColumnModel" "told" "I") (by decide +kernel)
  refine lv_aload_n hx hb dX9_runs_0 rfl (lv_at hl 0 rfl) ?_
  refine lv_iconst (v := 0) hx hb dX9_runs_1 (by decide +kernel) ?_
  refine va_put (ci := 9) (v := .int 0) (ty := (.int)) (C := RX9) (T := TX9) (N := 24) hx hb hts hi9 tyX9 tyX9_ok nmX9 hown hK hP hD hS 0 rfl rfl 0 (by decide) fl1 (fun _ h9 => h9) rfl (by decide +kernel) rfl rfl (Nat.le_of_ble_eq_true rfl) dX9_runs_2 (fun H locs hP hD hS => ?_)
  have hP : va_P D vwCl (wl_k_X9_runs cI cJ cK m0 a_row a_tape a_number a_read a_readBits a_stands a_parted a_bitsWere a_stood a_chosen a_bestChosen a_often a_sorted a_risen a_risenWays 0 (nI m_told) (nI m_taped) (nI m_at) (nI m_to) (nI m_many) (nI m_readMany) m_fewest (nI m_size) mn ms mp mr) H := hP
  have hD : va_D A (wl_k_X9_runs cI cJ cK m0 a_row a_tape a_number a_read a_readBits a_stands a_parted a_bitsWere a_stood a_chosen a_bestChosen a_often a_sorted a_risen a_risenWays 0 (nI m_told) (nI m_taped) (nI m_at) (nI m_to) (nI m_many) (nI m_readMany) m_fewest (nI m_size) mn ms mp mr) := hD
  refine lv_aload_n hx hb dX9_runs_5 rfl (lv_at hl 0 rfl) ?_
  refine my_goVS (wc := (wl_k_X9_begins cI cJ cK m0 a_row a_tape a_number a_read a_readBits a_stands a_parted a_bitsWere a_stood a_chosen a_bestChosen a_often a_sorted a_risen a_risenWays 0 (nI m_told) (nI m_taped) (nI m_at) (nI m_to) (nI m_many) (nI m_readMany) m_fewest (nI m_size) ms)) hP hD hS hA [0, 2] rfl [some 0, none, some 1] (by decide +kernel) (my_cV (As := []) (rest := []) (ci := 9) (wc := (wl_k_X9_begins cI cJ cK m0 a_row a_tape a_number a_read a_readBits a_stands a_parted a_bitsWere a_stood a_chosen a_bestChosen a_often a_sorted a_risen a_risenWays 0 (nI m_told) (nI m_taped) (nI m_at) (nI m_to) (nI m_many) (nI m_readMany) m_fewest (nI m_size) ms)) ⟨hx, hb, hml, hown, hts⟩ (cwV 0 hts gX9_runs_X9_begins rfl rfl rfl (by decide +kernel) ⟨Nat.le_of_ble_eq_true rfl, Nat.le_of_ble_eq_true rfl⟩) hN hK hP hD [0, 2] rfl (by decide) rfl 0 rfl rfl rfl rfl hl.1 rfl (Nat.le_of_ble_eq_true rfl) dX9_runs_6 ⟨Nat.le_of_ble_eq_true rfl, Nat.le_of_ble_eq_true rfl⟩  ((k_X9_begins l D cI cJ cK m0 a_row a_tape a_number a_read a_readBits a_stands a_parted a_bitsWere a_stood a_chosen a_bestChosen a_often a_sorted a_risen a_risenWays (0 : Int32) m_told m_taped m_at m_to m_many m_readMany m_fewest m_size ms (by first | assumption | omega | decide +kernel) (by first | assumption | omega | decide +kernel) (by first | assumption | omega | decide +kernel) (by first | assumption | omega | decide +kernel) (by first | assumption | omega | decide +kernel) (by first | assumption | omega | decide +kernel) (by first | assumption | omega | decide +kernel) hR_ms) _)) (fun u H locs hp hPD hS => ?_)
  obtain ⟨ms_1, rfl, hR_ms_1, hst⟩ := hp
  obtain ⟨hP, hD⟩ := hPD rfl
  have hP : va_P D vwCl (wl_k_X9_runs cI cJ cK m0 a_row a_tape a_number a_read a_readBits a_stands a_parted a_bitsWere a_stood a_chosen a_bestChosen a_often a_sorted a_risen a_risenWays 0 (nI m_told) (nI m_taped) (nI m_at) (nI m_to) (nI m_many) (nI m_readMany) m_fewest (nI m_size) mn ms_1 mp mr) H := hP
  have hD : va_D A (wl_k_X9_runs cI cJ cK m0 a_row a_tape a_number a_read a_readBits a_stands a_parted a_bitsWere a_stood a_chosen a_bestChosen a_often a_sorted a_risen a_risenWays 0 (nI m_told) (nI m_taped) (nI m_at) (nI m_to) (nI m_many) (nI m_readMany) m_fewest (nI m_size) mn ms_1 mp mr) := hD
  refine lv_aload_n hx hb dX9_runs_9 rfl (lv_at hl 0 rfl) ?_
  refine lv_iconst (v := 0) hx hb dX9_runs_10 (by decide +kernel) ?_
  refine va_put (ci := 9) (v := .int 0) (ty := (.int)) (C := RX9) (T := TX9) (N := 24) hx hb hts hi9 tyX9 tyX9_ok nmX9 hown hK hP hD hS 0 rfl rfl 1 (by decide) fl11 (fun _ h9 => h9) rfl (by decide +kernel) rfl rfl (Nat.le_of_ble_eq_true rfl) dX9_runs_11 (fun H locs hP hD hS => ?_)
  have hP : va_P D vwCl (wl_k_X9_runs cI cJ cK m0 a_row a_tape a_number a_read a_readBits a_stands a_parted a_bitsWere a_stood a_chosen a_bestChosen a_often a_sorted a_risen a_risenWays 0 0 (nI m_taped) (nI m_at) (nI m_to) (nI m_many) (nI m_readMany) m_fewest (nI m_size) mn ms_1 mp mr) H := hP
  have hD : va_D A (wl_k_X9_runs cI cJ cK m0 a_row a_tape a_number a_read a_readBits a_stands a_parted a_bitsWere a_stood a_chosen a_bestChosen a_often a_sorted a_risen a_risenWays 0 0 (nI m_taped) (nI m_at) (nI m_to) (nI m_many) (nI m_readMany) m_fewest (nI m_size) mn ms_1 mp mr) := hD
  refine lv_iconst (v := 0) hx hb dX9_runs_14 (by decide +kernel) ?_
  refine lv_istore_n (lv' := [(1, .int 0), (0, .ref m0)]) hx hb dX9_runs_15 rfl hl (by decide) rfl (fun ls hl => ?_)
  refine lv_bipush (v := 7) hx hb dX9_runs_16 (by decide +kernel) ?_
  refine lv_istore_n (lv' := [(2, .int 7), (1, .int 0), (0, .ref m0)]) hx hb dX9_runs_18 rfl hl (by decide) rfl (fun ls hl => ?_)
  have loop19 : ∀ (n9 : Nat) (x : Int32) (t : Nat) (m0_told_19 : Nat) (a_stands_19 : Nat → Int32) (a_parted_19 : Nat → Int32) (a_row_19 : Nat → Int64), (x.toInt + 1).toNat < n9 → (-1 ≤ x.toInt) → (x.toInt ≤ 7) → ((m0_told_19 : Int) = 7 - x.toInt) → (t = rnS mn m_many m0_told_19) → (∀ i, i < m_many → a_stands_19 i = nI (ordF mn m_many m0_told_19 i)) → (m0_told_19 ≤ 64) → (RB 0 63 a_stands_19) → (RB 0 63 a_parted_19) → ∀ (H : Heap) (locs : List Loc) (ls : Array Slot), va_P D vwCl (wl_k_X9_runs cI cJ cK m0 a_row a_tape a_number a_read a_readBits a_stands a_parted a_bitsWere a_stood a_chosen a_bestChosen a_often a_sorted a_risen a_risenWays 0 (nI m0_told_19) (nI m_taped) (nI m_at) (nI m_to) (nI m_many) (nI m_readMany) m_fewest (nI m_size) mn a_stands_19 a_parted_19 a_row_19) H → va_D A (wl_k_X9_runs cI cJ cK m0 a_row a_tape a_number a_read a_readBits a_stands a_parted a_bitsWere a_stood a_chosen a_bestChosen a_often a_sorted a_risen a_risenWays 0 (nI m0_told_19) (nI m_taped) (nI m_at) (nI m_to) (nI m_many) (nI m_readMany) m_fewest (nI m_size) mn a_stands_19 a_parted_19 a_row_19) → va_S A s.heap H locs → lv_has ls 4 [(2, .int x), (1, .int (nI t)), (0, .ref m0)] → W p l e ({ frames := 2, cells := 0, slots := 0, locals := 120 } : Room) s m [.ref m0].toArray below meth c H locs 0 0 (MQ below (va_Qi (fun (r : Int32) (u : va_W) => ∃ (t' : Nat) (m_thrown' : Int32) (m_told' : Nat) (ms' : Nat → Int32) (mp' : Nat → Int32) (mr' : Nat → Int64), u = (wl_k_X9_runs cI cJ cK m0 a_row a_tape a_number a_read a_readBits a_stands a_parted a_bitsWere a_stood a_chosen a_bestChosen a_often a_sorted a_risen a_risenWays m_thrown' (nI m_told') (nI m_taped) (nI m_at) (nI m_to) (nI m_many) (nI m_readMany) m_fewest (nI m_size) mn ms' mp' mr') ∧ r = nI t' ∧ m_told' ≤ 64 ∧ RB 0 63 ms' ∧ RB 0 63 mp' ∧ t' = rnS mn m_many 8 ∧ m_told' = 8) (my_B D (tyIJ cI cJ cK) A) A) [.ref m0].toArray s 0 0 A) (F0 m 19 ls []) := by
    intro n9
    induction n9 with
    | zero =>
      intro x t m0_told_19 a_stands_19 a_parted_19 a_row_19 hn9
      exact absurd hn9 (Nat.not_lt_zero _)
    | succ n9 ih19 =>
      intro x t m0_told_19 a_stands_19 a_parted_19 a_row_19 hn9 hx0 hx1 htd ht hor hz_m0_told_19 hR_a_stands_19 hR_a_parted_19 H locs ls hP hD hS hl
      refine lv_iload_n hx hb dX9_runs_19 rfl (lv_at hl 0 rfl) ?_
      refine lv_if_lt (tgt := 50) hx hb dX9_runs_20 (by decide) (fun c20 => ?_) (fun c20 => ?_)
      ·
        have d20 : x.toInt < (0 : Int) := my_lt c20 rfl (by decide +kernel)
        refine lv_iload_n hx hb dX9_runs_50 rfl (lv_at hl 1 rfl) ?_
        exact my_retI hx hb hr hlocks hK hS (wl_k_X9_runs cI cJ cK m0 a_row a_tape a_number a_read a_readBits a_stands a_parted a_bitsWere a_stood a_chosen a_bestChosen a_often a_sorted a_risen a_risenWays 0 (nI m0_told_19) (nI m_taped) (nI m_at) (nI m_to) (nI m_many) (nI m_readMany) m_fewest (nI m_size) mn a_stands_19 a_parted_19 a_row_19) hP hD (⟨t, 0, m0_told_19, a_stands_19, a_parted_19, a_row_19, rfl, rfl, (by first | assumption | omega | trivial | decide +kernel), hR_a_stands_19, hR_a_parted_19, (by rw [ht, show m0_told_19 = 8 from (by omega)]), (by first | assumption | omega | trivial | decide +kernel)⟩) dX9_runs_51
      ·
        have d20 : x.toInt ≥ (0 : Int) := my_nlt c20 rfl (by decide +kernel)
        refine lv_aload_n hx hb dX9_runs_23 rfl (lv_at hl 2 rfl) ?_
        refine lv_iload_n hx hb dX9_runs_24 rfl (lv_at hl 0 rfl) ?_
        obtain ⟨w_2, ew_2, hw_2⟩ : ∃ w : Nat, x = nI w ∧ (w : Int) = (x : Int32).toInt := my_natE (by omega)
        refine my_eqi (y := nI w_2) ew_2 ?_
        refine my_gpI (my_pV (As := [.int (nI w_2)]) (rest := []) (ci := 9) ⟨hx, hb, hml, hown, hts⟩ (cwV 1 hts gX9_runs_X9_runsOf rfl rfl rfl (by decide +kernel) ⟨Nat.le_of_ble_eq_true rfl, Nat.le_of_ble_eq_true rfl⟩) hN hK hP [0, 1, 2] rfl 0 rfl rfl rfl rfl hl.1 rfl (Nat.le_of_ble_eq_true rfl) dX9_runs_25 ⟨Nat.le_of_ble_eq_true rfl, Nat.le_of_ble_eq_true rfl⟩  (kf_X9_runsOf l D cI cJ cK m0 a_row a_tape a_number a_read a_readBits a_stands a_parted a_bitsWere a_stood a_chosen a_bestChosen a_often a_sorted a_risen a_risenWays (0 : Int32) m0_told_19 m_taped m_at m_to m_many m_readMany m_fewest m_size mn a_stands_19 w_2 (by first | assumption | omega | decide +kernel) (by first | assumption | omega | decide +kernel) (by first | assumption | omega | decide +kernel) (by first | assumption | omega | decide +kernel) (by first | assumption | omega | decide +kernel) (by first | assumption | omega | decide +kernel) (by first | assumption | omega | decide +kernel) hR_mn hR_a_stands_19 (by first | assumption | omega | decide +kernel))) (fun r hp => ?_)
        obtain ⟨t_3, rfl, hrn, hq_4⟩ := hp
        have hrn1 := rn_conv (k := 7 - m0_told_19) hrn (by omega)
        refine lv_istore_n (lv' := [(3, .int (nI t_3)), (2, .int x), (1, .int (nI t)), (0, .ref m0)]) hx hb dX9_runs_28 rfl hl (by decide) rfl (fun ls hl => ?_)
        refine lv_aload_n hx hb dX9_runs_29 rfl (lv_at hl 3 rfl) ?_
        refine lv_iload_n hx hb dX9_runs_30 rfl (lv_at hl 0 rfl) ?_
        refine lv_i2l (v := lN t_3) hx hb dX9_runs_31 (nI_l (by omega)) ?_
        refine my_goVS (wc := (wl_k_X9_enters cI cJ cK m0 a_row a_tape a_number a_read a_readBits a_stands a_parted a_bitsWere a_stood a_chosen a_bestChosen a_often a_sorted a_risen a_risenWays 0 (nI m0_told_19) (nI m_taped) (nI m_at) (nI m_to) (nI m_many) (nI m_readMany) m_fewest (nI m_size) a_row_19)) hP hD hS hA [0, 4] rfl [some 0, none, none, none, some 1] (by decide +kernel) (my_cV (As := [.long (lN t_3)]) (rest := []) (ci := 9) (wc := (wl_k_X9_enters cI cJ cK m0 a_row a_tape a_number a_read a_readBits a_stands a_parted a_bitsWere a_stood a_chosen a_bestChosen a_often a_sorted a_risen a_risenWays 0 (nI m0_told_19) (nI m_taped) (nI m_at) (nI m_to) (nI m_many) (nI m_readMany) m_fewest (nI m_size) a_row_19)) ⟨hx, hb, hml, hown, hts⟩ (cwV 1 hts gX9_runs_X9_enters rfl rfl rfl (by decide +kernel) ⟨Nat.le_of_ble_eq_true rfl, Nat.le_of_ble_eq_true rfl⟩) hN hK hP hD [0, 4] rfl (by decide) rfl 0 rfl rfl rfl rfl hl.1 rfl (Nat.le_of_ble_eq_true rfl) dX9_runs_32 ⟨Nat.le_of_ble_eq_true rfl, Nat.le_of_ble_eq_true rfl⟩  ((k_X9_enters l D cI cJ cK m0 a_row a_tape a_number a_read a_readBits a_stands a_parted a_bitsWere a_stood a_chosen a_bestChosen a_often a_sorted a_risen a_risenWays (0 : Int32) m0_told_19 m_taped m_at m_to m_many m_readMany m_fewest m_size a_row_19 (lN t_3) (by first | assumption | omega | decide +kernel) (by first | assumption | omega | decide +kernel) (by first | assumption | omega | decide +kernel) (by first | assumption | omega | decide +kernel) (by first | assumption | omega | decide +kernel) (by first | assumption | omega | decide +kernel) (by first | assumption | omega | decide +kernel) (by first | assumption | omega | decide +kernel)) _)) (fun u H locs hp hPD hS => ?_)
        obtain ⟨m_told_5, mr_6, rfl, hhz_m_told_7, ht_8⟩ := hp
        obtain ⟨hP, hD⟩ := hPD rfl
        have hP : va_P D vwCl (wl_k_X9_runs cI cJ cK m0 a_row a_tape a_number a_read a_readBits a_stands a_parted a_bitsWere a_stood a_chosen a_bestChosen a_often a_sorted a_risen a_risenWays 0 (nI m_told_5) (nI m_taped) (nI m_at) (nI m_to) (nI m_many) (nI m_readMany) m_fewest (nI m_size) mn a_stands_19 a_parted_19 mr_6) H := hP
        have hD : va_D A (wl_k_X9_runs cI cJ cK m0 a_row a_tape a_number a_read a_readBits a_stands a_parted a_bitsWere a_stood a_chosen a_bestChosen a_often a_sorted a_risen a_risenWays 0 (nI m_told_5) (nI m_taped) (nI m_at) (nI m_to) (nI m_many) (nI m_readMany) m_fewest (nI m_size) mn a_stands_19 a_parted_19 mr_6) := hD
        refine lv_iload_n hx hb dX9_runs_35 rfl (lv_at hl 2 rfl) ?_
        refine lv_iload_n hx hb dX9_runs_36 rfl (lv_at hl 0 rfl) ?_
        refine lv_iadd hx hb dX9_runs_37 ?_
        refine my_eqi (y := nI (t + t_3)) (nI_add _ _) ?_
        refine lv_istore_n (lv' := [(1, .int (nI (t + t_3))), (3, .int (nI t_3)), (2, .int x), (0, .ref m0)]) hx hb dX9_runs_38 rfl hl (by decide) rfl (fun ls hl => ?_)
        refine lv_aload_n hx hb dX9_runs_39 rfl (lv_at hl 3 rfl) ?_
        refine lv_iload_n hx hb dX9_runs_40 rfl (lv_at hl 2 rfl) ?_
        obtain ⟨w_9, ew_9, hw_9⟩ : ∃ w : Nat, x = nI w ∧ (w : Int) = (x : Int32).toInt := my_natE (by omega)
        refine my_eqi (y := nI w_9) ew_9 ?_
        refine my_goVS (wc := (wl_kf_X9_parts cI cJ cK m0 a_row a_tape a_number a_read a_readBits a_stands a_parted a_bitsWere a_stood a_chosen a_bestChosen a_often a_sorted a_risen a_risenWays 0 (nI m_told_5) (nI m_taped) (nI m_at) (nI m_to) (nI m_many) (nI m_readMany) m_fewest (nI m_size) mn a_stands_19 a_parted_19)) hP hD hS hA [0, 1, 2, 3] rfl [some 0, some 1, some 2, some 3] (by decide +kernel) (my_cV (As := [.int (nI w_9)]) (rest := []) (ci := 9) (wc := (wl_kf_X9_parts cI cJ cK m0 a_row a_tape a_number a_read a_readBits a_stands a_parted a_bitsWere a_stood a_chosen a_bestChosen a_often a_sorted a_risen a_risenWays 0 (nI m_told_5) (nI m_taped) (nI m_at) (nI m_to) (nI m_many) (nI m_readMany) m_fewest (nI m_size) mn a_stands_19 a_parted_19)) ⟨hx, hb, hml, hown, hts⟩ (cwV 1 hts gX9_runs_X9_parts rfl rfl rfl (by decide +kernel) ⟨Nat.le_of_ble_eq_true rfl, Nat.le_of_ble_eq_true rfl⟩) hN hK hP hD [0, 1, 2, 3] rfl (by decide) rfl 0 rfl rfl rfl rfl hl.1 rfl (Nat.le_of_ble_eq_true rfl) dX9_runs_41 ⟨Nat.le_of_ble_eq_true rfl, Nat.le_of_ble_eq_true rfl⟩  ((kf_X9_parts l D cI cJ cK m0 a_row a_tape a_number a_read a_readBits a_stands a_parted a_bitsWere a_stood a_chosen a_bestChosen a_often a_sorted a_risen a_risenWays (0 : Int32) m_told_5 m_taped m_at m_to m_many m_readMany m_fewest m_size mn a_stands_19 a_parted_19 w_9 (by first | assumption | omega | decide +kernel) (by first | assumption | omega | decide +kernel) (by first | assumption | omega | decide +kernel) (by first | assumption | omega | decide +kernel) (by first | assumption | omega | decide +kernel) (by first | assumption | omega | decide +kernel) (by first | assumption | omega | decide +kernel) hR_mn hR_a_stands_19 hR_a_parted_19 (by first | assumption | omega | decide +kernel)) _)) (fun u H locs hp hPD hS => ?_)
        obtain ⟨ms_10, mp_11, rfl, hR_ms_10, hR_mp_11, hpt⟩ := hp
        obtain ⟨hP, hD⟩ := hPD rfl
        have hP : va_P D vwCl (wl_k_X9_runs cI cJ cK m0 a_row a_tape a_number a_read a_readBits a_stands a_parted a_bitsWere a_stood a_chosen a_bestChosen a_often a_sorted a_risen a_risenWays 0 (nI m_told_5) (nI m_taped) (nI m_at) (nI m_to) (nI m_many) (nI m_readMany) m_fewest (nI m_size) mn ms_10 mp_11 mr_6) H := hP
        have hD : va_D A (wl_k_X9_runs cI cJ cK m0 a_row a_tape a_number a_read a_readBits a_stands a_parted a_bitsWere a_stood a_chosen a_bestChosen a_often a_sorted a_risen a_risenWays 0 (nI m_told_5) (nI m_taped) (nI m_at) (nI m_to) (nI m_many) (nI m_readMany) m_fewest (nI m_size) mn ms_10 mp_11 mr_6) := hD
        have hpt1 := pt_conv (k := 7 - m0_told_19) hpt (by omega)
        obtain ⟨z_12, ez_12⟩ : ∃ y : Int32, y = x + (-1) := ⟨_, rfl⟩
        try have tz_12 : z_12.toInt = x.toInt + (-1) := by rw [ez_12]; exact my_addI rfl (by decide +kernel) (by omega) (by omega)
        refine lv_iinc (v := z_12) (lv' := [(2, .int z_12), (1, .int (nI (t + t_3))), (3, .int (nI t_3)), (0, .ref m0)]) hx hb dX9_runs_44 hl (k := 2) rfl (by rw [ez_12]; rfl) (by decide) rfl (fun ls hl => ?_)
        refine lv_goto (tgt := 19) hx hb dX9_runs_47 (by decide) ?_
        exact ih19  z_12 (t + t_3) m_told_5 ms_10 mp_11 mr_6 (by omega) (by first | assumption | omega | decide +kernel) (by first | assumption | omega | decide +kernel) (by first | assumption | omega | decide +kernel) (by rw [show m_told_5 = m0_told_19 + 1 from (by omega)]; show _ = rnS mn m_many m0_told_19 + rnF (lvB mn m_many m0_told_19) m_many; rw [← ht, ← rn_cong (fun i hi => bo_lvB hor (by omega) hi), ← hrn1]) (by rw [show m_told_5 = m0_told_19 + 1 from (by omega)]; exact ly_step hpt1 hor (by omega)) (by first | assumption | omega | decide +kernel) hR_ms_10 hR_mp_11 _ _ ls hP hD hS (lv_sub hl [0, 1, 3] rfl)
  have ec_13 : (7 : Int32).toInt = 7 := by decide +kernel
  exact loop19 ((((7 : Int32).toInt + 1).toNat) + 1) (7 : Int32) 0 0 ms_1 mp mr (Nat.lt_succ_self _) (by first | assumption | omega | decide +kernel) (by first | assumption | omega | decide +kernel) (by first | assumption | omega | decide +kernel) (rfl) (hst) (by first | assumption | omega | decide +kernel) hR_ms_1 hR_mp _ _ ls hP hD hS (lv_sub hl [0, 1, 2] rfl)
abbrev wl_kf_X9_triesBits_8 (cI cJ cK : ClassId) (m0 : Nat) (a_row : Nat) (a_tape : Nat) (a_number : Nat) (a_read : Nat) (a_readBits : Nat) (a_stands : Nat) (a_parted : Nat) (a_bitsWere : Nat) (a_stood : Nat) (a_chosen : Nat) (a_bestChosen : Nat) (a_often : Nat) (a_sorted : Nat) (a_risen : Nat) (a_risenWays : Nat) (v0_ : Int32) (v1_ : Int32) (v2_ : Int32) (v3_ : Int32) (v4_ : Int32) (v5_ : Int32) (v6_ : Int32) (v7_ : Int32) (v8_ : Int32) (v9_ : Nat → Int32) (v10_ : Nat → Int32) (v11_ : Nat → Int32) (v12_ : Nat → Int32) (v13_ : Nat → Int32) (v14_ : Nat → Int32) : va_W := [(m0, .inr (9, [.int v0_, .int v1_, .ref a_row, .ref a_tape, .int v2_, .int v3_, .int v4_, .int v5_, .ref a_number, .ref a_read, .int v6_, .ref a_readBits, .ref a_stands, .ref a_parted, .ref a_bitsWere, .ref a_stood, .ref a_chosen, .ref a_bestChosen, .int v7_, .ref a_often, .ref a_sorted, .int v8_, .ref a_risen, .ref a_risenWays])), (a_number, .inl (cI, 64, .inl v9_)), (a_stands, .inl (cI, 64, .inl v10_)), (a_parted, .inl (cI, 64, .inl v11_)), (a_stood, .inl (cI, 512, .inl v12_)), (a_chosen, .inl (cI, 8, .inl v13_)), (a_bestChosen, .inl (cI, 8, .inl v14_))]
set_option maxHeartbeats 4000000 in
set_option maxRecDepth 100000 in
theorem kf_X9_triesBits_8 (l : Launch) (D : va_G) (cI cJ cK : ClassId) (m0 : Nat) (a_row : Nat) (a_tape : Nat) (a_number : Nat) (a_read : Nat) (a_readBits : Nat) (a_stands : Nat) (a_parted : Nat) (a_bitsWere : Nat) (a_stood : Nat) (a_chosen : Nat) (a_bestChosen : Nat) (a_often : Nat) (a_sorted : Nat) (a_risen : Nat) (a_risenWays : Nat) (m_thrown : Int32) (m_told : Nat) (m_taped : Nat) (m_at : Nat) (m_to : Nat) (m_many : Nat) (m_readMany : Nat) (m_fewest : Int32) (m_size : Nat) (mn : Nat → Int32) (ms : Nat → Int32) (mp : Nat → Int32) (mo : Nat → Int32) (mc : Nat → Int32) (me : Nat → Int32) (U : Nat) (ra : Nat) (F : Nat) (hz_m_told : m_told ≤ 64) (hz_m_taped : m_taped ≤ 100) (hz_m_at : m_at ≤ 100) (hz_m_to : m_to ≤ 100) (hz_m_many : m_many ≤ 64) (hz_m_readMany : m_readMany ≤ 64) (hz_m_size : m_size ≤ 64) (hR_mn : RB 0 255 mn) (hR_ms : RB 0 63 ms) (hR_mp : RB 0 63 mp) (hR_mo : RB 0 63 mo) (hU : U < 256) (hra : ra ≤ 512) (hfw : fwR m_fewest F) : ctV l yX9_triesBits wsX9_triesBits ({ frames := 0, cells := 0, slots := 0, locals := 0 } : Room) D (tyIJ cI cJ cK) [.ref m0, .int 8, .int (nI U), .int (nI ra)] (wl_kf_X9_triesBits_8 cI cJ cK m0 a_row a_tape a_number a_read a_readBits a_stands a_parted a_bitsWere a_stood a_chosen a_bestChosen a_often a_sorted a_risen a_risenWays m_thrown (nI m_told) (nI m_taped) (nI m_at) (nI m_to) (nI m_many) (nI m_readMany) m_fewest (nI m_size) mn ms mp mo mc me) (fun (u : va_W) => ∃ (m_fewest' : Int32) (ms' : Nat → Int32) (mp' : Nat → Int32) (mo' : Nat → Int32) (mc' : Nat → Int32) (me' : Nat → Int32), u = (wl_kf_X9_triesBits_8 cI cJ cK m0 a_row a_tape a_number a_read a_readBits a_stands a_parted a_bitsWere a_stood a_chosen a_bestChosen a_often a_sorted a_risen a_risenWays m_thrown (nI m_told) (nI m_taped) (nI m_at) (nI m_to) (nI m_many) (nI m_readMany) m_fewest' (nI m_size) mn ms' mp' mo' mc' me') ∧ RB 0 63 ms' ∧ RB 0 63 mp' ∧ RB 0 63 mo' ∧ fwR m_fewest' (min F (ra + tT m_many 0 (vG mn ms) (uS U))) ∧ (∀ i, i < m_many → ms' i = ms i) ∧ (∀ q, q < 512 → mo' q = mo q)) := by
  refine ctV.of (cc := cX9_triesBits) (maxL := 7) (ret := none) (by decide) rfl (Nat.le_of_ble_eq_true rfl) ?_
  intro p e s m below meth c ls A hx hb hr hts hown hml hlocks hname hA hK hN hP hD hS hl
  have hl : lv_has ls 7 [(0, .ref m0), (1, .int 8), (2, .int (nI U)), (3, .int (nI ra))] := hl
  have hown : s.vm.findClass RX9 = some m.cls := hown
  have hi9 : ∀ w ∈ u_ws RX9 TX9 24, w ∈ wsX9_triesBits := by decide +kernel
  have fl162 := hts (.fieldLink RX9 162 "PlaneColumnModel" "fewest" "I") (by decide +kernel)
  have fl70 := hts (.fieldLink RX9 70 "PlaneColumnModel" "chosen" "[I") (by decide +kernel)
  have fl73 := hts (.fieldLink RX9 73 "PlaneColumnModel" "bestChosen" "[I") (by decide +kernel)
  refine lv_aload_n hx hb dX9_triesBits_0 rfl (lv_at hl 0 rfl) ?_
  refine va_get (ci := 9) (v := .int m_fewest) (C := RX9) (T := TX9) (N := 24) hx hb hts hi9 hown hK hP 0 rfl rfl 18 (by decide) fl162 (fun _ h9 => h9) rfl dX9_triesBits_1 ?_
  refine lv_if_lt (tgt := 16) hx hb dX9_triesBits_4 (by decide) (fun c4 => ?_) (fun c4 => ?_)
  ·
    have d4 : m_fewest.toInt < (0 : Int) := my_lt c4 rfl (by decide +kernel)
    refine lv_iload_n hx hb dX9_triesBits_16 rfl (lv_at hl 1 rfl) ?_
    refine lv_bipush (v := 8) hx hb dX9_triesBits_17 (by decide +kernel) ?_
    refine lv_icmp_ne (tgt := 58) hx hb dX9_triesBits_19 (by decide) (fun c19 => ?_) (fun c19 => ?_)
    ·
      exact absurd c19 (by decide +kernel)
    ·
      refine lv_aload_n hx hb dX9_triesBits_22 rfl (lv_at hl 0 rfl) ?_
      refine lv_iload_n hx hb dX9_triesBits_23 rfl (lv_at hl 3 rfl) ?_
      refine va_put (ci := 9) (v := .int (nI ra)) (ty := (.int)) (C := RX9) (T := TX9) (N := 24) hx hb hts hi9 tyX9 tyX9_ok nmX9 hown hK hP hD hS 0 rfl rfl 18 (by decide) fl162 (fun _ h9 => h9) rfl (by decide +kernel) rfl rfl (Nat.le_of_ble_eq_true rfl) dX9_triesBits_24 (fun H locs hP hD hS => ?_)
      have hP : va_P D vwCl (wl_kf_X9_triesBits_8 cI cJ cK m0 a_row a_tape a_number a_read a_readBits a_stands a_parted a_bitsWere a_stood a_chosen a_bestChosen a_often a_sorted a_risen a_risenWays m_thrown (nI m_told) (nI m_taped) (nI m_at) (nI m_to) (nI m_many) (nI m_readMany) (nI ra) (nI m_size) mn ms mp mo mc me) H := hP
      have hD : va_D A (wl_kf_X9_triesBits_8 cI cJ cK m0 a_row a_tape a_number a_read a_readBits a_stands a_parted a_bitsWere a_stood a_chosen a_bestChosen a_often a_sorted a_risen a_risenWays m_thrown (nI m_told) (nI m_taped) (nI m_at) (nI m_to) (nI m_many) (nI m_readMany) (nI ra) (nI m_size) mn ms mp mo mc me) := hD
      refine lv_iconst (v := 0) hx hb dX9_triesBits_27 (by decide +kernel) ?_
      refine lv_istore (lv' := [(4, .int 0), (0, .ref m0), (1, .int 8), (2, .int (nI U)), (3, .int (nI ra))]) hx hb dX9_triesBits_28 hl (by decide) rfl (fun ls hl => ?_)
      have loop30 : ∀ (n9 : Nat) (k : Nat) (a_bestChosen_30 : Nat → Int32), 8 - k < n9 → (k ≤ 8) → ∀ (H : Heap) (locs : List Loc) (ls : Array Slot), va_P D vwCl (wl_kf_X9_triesBits_8 cI cJ cK m0 a_row a_tape a_number a_read a_readBits a_stands a_parted a_bitsWere a_stood a_chosen a_bestChosen a_often a_sorted a_risen a_risenWays m_thrown (nI m_told) (nI m_taped) (nI m_at) (nI m_to) (nI m_many) (nI m_readMany) (nI ra) (nI m_size) mn ms mp mo mc a_bestChosen_30) H → va_D A (wl_kf_X9_triesBits_8 cI cJ cK m0 a_row a_tape a_number a_read a_readBits a_stands a_parted a_bitsWere a_stood a_chosen a_bestChosen a_often a_sorted a_risen a_risenWays m_thrown (nI m_told) (nI m_taped) (nI m_at) (nI m_to) (nI m_many) (nI m_readMany) (nI ra) (nI m_size) mn ms mp mo mc a_bestChosen_30) → va_S A s.heap H locs → lv_has ls 7 [(4, .int (nI k)), (0, .ref m0), (1, .int 8), (2, .int (nI U)), (3, .int (nI ra))] → W p l e ({ frames := 0, cells := 0, slots := 0, locals := 0 } : Room) s m [.ref m0, .int 8, .int (nI U), .int (nI ra)].toArray below meth c H locs 0 0 (MQ below (va_Qv (fun (u : va_W) => ∃ (m_fewest' : Int32) (ms' : Nat → Int32) (mp' : Nat → Int32) (mo' : Nat → Int32) (mc' : Nat → Int32) (me' : Nat → Int32), u = (wl_kf_X9_triesBits_8 cI cJ cK m0 a_row a_tape a_number a_read a_readBits a_stands a_parted a_bitsWere a_stood a_chosen a_bestChosen a_often a_sorted a_risen a_risenWays m_thrown (nI m_told) (nI m_taped) (nI m_at) (nI m_to) (nI m_many) (nI m_readMany) m_fewest' (nI m_size) mn ms' mp' mo' mc' me') ∧ RB 0 63 ms' ∧ RB 0 63 mp' ∧ RB 0 63 mo' ∧ fwR m_fewest' (min F (ra + tT m_many 0 (vG mn ms) (uS U))) ∧ (∀ i, i < m_many → ms' i = ms i) ∧ (∀ q, q < 512 → mo' q = mo q)) (my_B D (tyIJ cI cJ cK) A) A) [.ref m0, .int 8, .int (nI U), .int (nI ra)].toArray s 0 0 A) (F0 m 30 ls []) := by
        intro n9
        induction n9 with
        | zero =>
          intro k a_bestChosen_30 hn9
          exact absurd hn9 (Nat.not_lt_zero _)
        | succ n9 ih30 =>
          intro k a_bestChosen_30 hn9 hk_k H locs ls hP hD hS hl
          refine lv_iload hx hb dX9_triesBits_30 (lv_at hl 0 rfl) ?_
          refine lv_bipush (v := 8) hx hb dX9_triesBits_32 (by decide +kernel) ?_
          refine lv_icmp_ge (tgt := 57) hx hb dX9_triesBits_34 (by decide) (fun c34 => ?_) (fun c34 => ?_)
          ·
            have d34 : ((k : Nat) : Int) ≥ (8 : Int) := my_ge c34 (nI_toInt (by omega)) (by decide +kernel)
            exact my_retV hx hb hr hlocks hK hS (wl_kf_X9_triesBits_8 cI cJ cK m0 a_row a_tape a_number a_read a_readBits a_stands a_parted a_bitsWere a_stood a_chosen a_bestChosen a_often a_sorted a_risen a_risenWays m_thrown (nI m_told) (nI m_taped) (nI m_at) (nI m_to) (nI m_many) (nI m_readMany) (nI ra) (nI m_size) mn ms mp mo mc a_bestChosen_30) hP hD (⟨(nI ra), ms, mp, mo, mc, a_bestChosen_30, rfl, hR_ms, hR_mp, hR_mo, (by first | exact th_prune hfw (by omega) (by omega) | exact th_set hfw (by omega) (by omega)), (fun _ _ => rfl), (fun _ _ => rfl)⟩) dX9_triesBits_57
          ·
            have d34 : ((k : Nat) : Int) < (8 : Int) := my_nge c34 (nI_toInt (by omega)) (by decide +kernel)
            refine lv_aload_n hx hb dX9_triesBits_37 rfl (lv_at hl 1 rfl) ?_
            refine va_get (ci := 9) (v := .ref a_bestChosen) (C := RX9) (T := TX9) (N := 24) hx hb hts hi9 hown hK hP 0 rfl rfl 17 (by decide) fl73 (fun _ h9 => h9) rfl dX9_triesBits_38 ?_
            refine lv_iload hx hb dX9_triesBits_41 (lv_at hl 0 rfl) ?_
            refine lv_aload_n hx hb dX9_triesBits_43 rfl (lv_at hl 1 rfl) ?_
            refine va_get (ci := 9) (v := .ref a_chosen) (C := RX9) (T := TX9) (N := 24) hx hb hts hi9 hown hK hP 0 rfl rfl 16 (by decide) fl70 (fun _ h9 => h9) rfl dX9_triesBits_44 ?_
            refine lv_iload hx hb dX9_triesBits_47 (lv_at hl 0 rfl) ?_
            refine va_iald hx hb hK hP 5 0 rfl rfl (vp_in_nI (by omega) (by omega)) dX9_triesBits_49 ?_
            refine my_eqi (y := mc k) (congrArg mc (nI_clamp (by omega))) ?_
            refine va_iast hx hb hK hP hD hS 6 0 rfl rfl (vp_in_nI (by omega) (by omega)) dX9_triesBits_50 (fun H locs hP hD hS => ?_)
            obtain ⟨g_2, eg_2⟩ : ∃ g : Nat → Int32, g = upd a_bestChosen_30 k (mc k) := ⟨_, rfl⟩
            have eU : upd a_bestChosen_30 (nI k : Int32).toNatClampNeg (mc k) = g_2 := by rw [eg_2, show (nI k : Int32).toNatClampNeg = k from nI_clamp (by omega)]
            rw [eU] at hP hD
            have hP : va_P D vwCl (wl_kf_X9_triesBits_8 cI cJ cK m0 a_row a_tape a_number a_read a_readBits a_stands a_parted a_bitsWere a_stood a_chosen a_bestChosen a_often a_sorted a_risen a_risenWays m_thrown (nI m_told) (nI m_taped) (nI m_at) (nI m_to) (nI m_many) (nI m_readMany) (nI ra) (nI m_size) mn ms mp mo mc g_2) H := hP
            have hD : va_D A (wl_kf_X9_triesBits_8 cI cJ cK m0 a_row a_tape a_number a_read a_readBits a_stands a_parted a_bitsWere a_stood a_chosen a_bestChosen a_often a_sorted a_risen a_risenWays m_thrown (nI m_told) (nI m_taped) (nI m_at) (nI m_to) (nI m_many) (nI m_readMany) (nI ra) (nI m_size) mn ms mp mo mc g_2) := hD
            refine lv_iinc (v := nI (k + 1)) (lv' := [(4, .int (nI (k + 1))), (0, .ref m0), (1, .int 8), (2, .int (nI U)), (3, .int (nI ra))]) hx hb dX9_triesBits_51 hl (k := 0) rfl (my_incN k 1 (by decide +kernel)) (by decide) rfl (fun ls hl => ?_)
            refine lv_goto (tgt := 30) hx hb dX9_triesBits_54 (by decide) ?_
            exact ih30  (k + 1) g_2 (by omega) (by first | assumption | omega | decide +kernel) _ _ ls hP hD hS (lv_sub hl [0, 1, 2, 3, 4] rfl)
      exact loop30 ((8 - 0) + 1) 0 me (Nat.lt_succ_self _) (by first | assumption | omega | decide +kernel) _ _ ls hP hD hS (lv_sub hl [0, 1, 2, 3, 4] rfl)
  ·
    have d4 : m_fewest.toInt ≥ (0 : Int) := my_nlt c4 rfl (by decide +kernel)
    refine lv_iload_n hx hb dX9_triesBits_7 rfl (lv_at hl 3 rfl) ?_
    refine lv_aload_n hx hb dX9_triesBits_8 rfl (lv_at hl 0 rfl) ?_
    refine va_get (ci := 9) (v := .int m_fewest) (C := RX9) (T := TX9) (N := 24) hx hb hts hi9 hown hK hP 0 rfl rfl 18 (by decide) fl162 (fun _ h9 => h9) rfl dX9_triesBits_9 ?_
    refine lv_icmp_lt (tgt := 16) hx hb dX9_triesBits_12 (by decide) (fun c12 => ?_) (fun c12 => ?_)
    ·
      have d12 : ((ra : Nat) : Int) < m_fewest.toInt := my_lt c12 (nI_toInt (by omega)) rfl
      refine lv_iload_n hx hb dX9_triesBits_16 rfl (lv_at hl 1 rfl) ?_
      refine lv_bipush (v := 8) hx hb dX9_triesBits_17 (by decide +kernel) ?_
      refine lv_icmp_ne (tgt := 58) hx hb dX9_triesBits_19 (by decide) (fun c19 => ?_) (fun c19 => ?_)
      ·
        exact absurd c19 (by decide +kernel)
      ·
        refine lv_aload_n hx hb dX9_triesBits_22 rfl (lv_at hl 0 rfl) ?_
        refine lv_iload_n hx hb dX9_triesBits_23 rfl (lv_at hl 3 rfl) ?_
        refine va_put (ci := 9) (v := .int (nI ra)) (ty := (.int)) (C := RX9) (T := TX9) (N := 24) hx hb hts hi9 tyX9 tyX9_ok nmX9 hown hK hP hD hS 0 rfl rfl 18 (by decide) fl162 (fun _ h9 => h9) rfl (by decide +kernel) rfl rfl (Nat.le_of_ble_eq_true rfl) dX9_triesBits_24 (fun H locs hP hD hS => ?_)
        have hP : va_P D vwCl (wl_kf_X9_triesBits_8 cI cJ cK m0 a_row a_tape a_number a_read a_readBits a_stands a_parted a_bitsWere a_stood a_chosen a_bestChosen a_often a_sorted a_risen a_risenWays m_thrown (nI m_told) (nI m_taped) (nI m_at) (nI m_to) (nI m_many) (nI m_readMany) (nI ra) (nI m_size) mn ms mp mo mc me) H := hP
        have hD : va_D A (wl_kf_X9_triesBits_8 cI cJ cK m0 a_row a_tape a_number a_read a_readBits a_stands a_parted a_bitsWere a_stood a_chosen a_bestChosen a_often a_sorted a_risen a_risenWays m_thrown (nI m_told) (nI m_taped) (nI m_at) (nI m_to) (nI m_many) (nI m_readMany) (nI ra) (nI m_size) mn ms mp mo mc me) := hD
        refine lv_iconst (v := 0) hx hb dX9_triesBits_27 (by decide +kernel) ?_
        refine lv_istore (lv' := [(4, .int 0), (0, .ref m0), (1, .int 8), (2, .int (nI U)), (3, .int (nI ra))]) hx hb dX9_triesBits_28 hl (by decide) rfl (fun ls hl => ?_)
        have loop30 : ∀ (n9 : Nat) (k : Nat) (a_bestChosen_30 : Nat → Int32), 8 - k < n9 → (k ≤ 8) → ∀ (H : Heap) (locs : List Loc) (ls : Array Slot), va_P D vwCl (wl_kf_X9_triesBits_8 cI cJ cK m0 a_row a_tape a_number a_read a_readBits a_stands a_parted a_bitsWere a_stood a_chosen a_bestChosen a_often a_sorted a_risen a_risenWays m_thrown (nI m_told) (nI m_taped) (nI m_at) (nI m_to) (nI m_many) (nI m_readMany) (nI ra) (nI m_size) mn ms mp mo mc a_bestChosen_30) H → va_D A (wl_kf_X9_triesBits_8 cI cJ cK m0 a_row a_tape a_number a_read a_readBits a_stands a_parted a_bitsWere a_stood a_chosen a_bestChosen a_often a_sorted a_risen a_risenWays m_thrown (nI m_told) (nI m_taped) (nI m_at) (nI m_to) (nI m_many) (nI m_readMany) (nI ra) (nI m_size) mn ms mp mo mc a_bestChosen_30) → va_S A s.heap H locs → lv_has ls 7 [(4, .int (nI k)), (0, .ref m0), (1, .int 8), (2, .int (nI U)), (3, .int (nI ra))] → W p l e ({ frames := 0, cells := 0, slots := 0, locals := 0 } : Room) s m [.ref m0, .int 8, .int (nI U), .int (nI ra)].toArray below meth c H locs 0 0 (MQ below (va_Qv (fun (u : va_W) => ∃ (m_fewest' : Int32) (ms' : Nat → Int32) (mp' : Nat → Int32) (mo' : Nat → Int32) (mc' : Nat → Int32) (me' : Nat → Int32), u = (wl_kf_X9_triesBits_8 cI cJ cK m0 a_row a_tape a_number a_read a_readBits a_stands a_parted a_bitsWere a_stood a_chosen a_bestChosen a_often a_sorted a_risen a_risenWays m_thrown (nI m_told) (nI m_taped) (nI m_at) (nI m_to) (nI m_many) (nI m_readMany) m_fewest' (nI m_size) mn ms' mp' mo' mc' me') ∧ RB 0 63 ms' ∧ RB 0 63 mp' ∧ RB 0 63 mo' ∧ fwR m_fewest' (min F (ra + tT m_many 0 (vG mn ms) (uS U))) ∧ (∀ i, i < m_many → ms' i = ms i) ∧ (∀ q, q < 512 → mo' q = mo q)) (my_B D (tyIJ cI cJ cK) A) A) [.ref m0, .int 8, .int (nI U), .int (nI ra)].toArray s 0 0 A) (F0 m 30 ls []) := by
          intro n9
          induction n9 with
          | zero =>
            intro k a_bestChosen_30 hn9
            exact absurd hn9 (Nat.not_lt_zero _)
          | succ n9 ih30 =>
            intro k a_bestChosen_30 hn9 hk_k H locs ls hP hD hS hl
            refine lv_iload hx hb dX9_triesBits_30 (lv_at hl 0 rfl) ?_
            refine lv_bipush (v := 8) hx hb dX9_triesBits_32 (by decide +kernel) ?_
            refine lv_icmp_ge (tgt := 57) hx hb dX9_triesBits_34 (by decide) (fun c34 => ?_) (fun c34 => ?_)
            ·
              have d34 : ((k : Nat) : Int) ≥ (8 : Int) := my_ge c34 (nI_toInt (by omega)) (by decide +kernel)
              exact my_retV hx hb hr hlocks hK hS (wl_kf_X9_triesBits_8 cI cJ cK m0 a_row a_tape a_number a_read a_readBits a_stands a_parted a_bitsWere a_stood a_chosen a_bestChosen a_often a_sorted a_risen a_risenWays m_thrown (nI m_told) (nI m_taped) (nI m_at) (nI m_to) (nI m_many) (nI m_readMany) (nI ra) (nI m_size) mn ms mp mo mc a_bestChosen_30) hP hD (⟨(nI ra), ms, mp, mo, mc, a_bestChosen_30, rfl, hR_ms, hR_mp, hR_mo, (by first | exact th_prune hfw (by omega) (by omega) | exact th_set hfw (by omega) (by omega)), (fun _ _ => rfl), (fun _ _ => rfl)⟩) dX9_triesBits_57
            ·
              have d34 : ((k : Nat) : Int) < (8 : Int) := my_nge c34 (nI_toInt (by omega)) (by decide +kernel)
              refine lv_aload_n hx hb dX9_triesBits_37 rfl (lv_at hl 1 rfl) ?_
              refine va_get (ci := 9) (v := .ref a_bestChosen) (C := RX9) (T := TX9) (N := 24) hx hb hts hi9 hown hK hP 0 rfl rfl 17 (by decide) fl73 (fun _ h9 => h9) rfl dX9_triesBits_38 ?_
              refine lv_iload hx hb dX9_triesBits_41 (lv_at hl 0 rfl) ?_
              refine lv_aload_n hx hb dX9_triesBits_43 rfl (lv_at hl 1 rfl) ?_
              refine va_get (ci := 9) (v := .ref a_chosen) (C := RX9) (T := TX9) (N := 24) hx hb hts hi9 hown hK hP 0 rfl rfl 16 (by decide) fl70 (fun _ h9 => h9) rfl dX9_triesBits_44 ?_
              refine lv_iload hx hb dX9_triesBits_47 (lv_at hl 0 rfl) ?_
              refine va_iald hx hb hK hP 5 0 rfl rfl (vp_in_nI (by omega) (by omega)) dX9_triesBits_49 ?_
              refine my_eqi (y := mc k) (congrArg mc (nI_clamp (by omega))) ?_
              refine va_iast hx hb hK hP hD hS 6 0 rfl rfl (vp_in_nI (by omega) (by omega)) dX9_triesBits_50 (fun H locs hP hD hS => ?_)
              obtain ⟨g_4, eg_4⟩ : ∃ g : Nat → Int32, g = upd a_bestChosen_30 k (mc k) := ⟨_, rfl⟩
              have eU : upd a_bestChosen_30 (nI k : Int32).toNatClampNeg (mc k) = g_4 := by rw [eg_4, show (nI k : Int32).toNatClampNeg = k from nI_clamp (by omega)]
              rw [eU] at hP hD
              have hP : va_P D vwCl (wl_kf_X9_triesBits_8 cI cJ cK m0 a_row a_tape a_number a_read a_readBits a_stands a_parted a_bitsWere a_stood a_chosen a_bestChosen a_often a_sorted a_risen a_risenWays m_thrown (nI m_told) (nI m_taped) (nI m_at) (nI m_to) (nI m_many) (nI m_readMany) (nI ra) (nI m_size) mn ms mp mo mc g_4) H := hP
              have hD : va_D A (wl_kf_X9_triesBits_8 cI cJ cK m0 a_row a_tape a_number a_read a_readBits a_stands a_parted a_bitsWere a_stood a_chosen a_bestChosen a_often a_sorted a_risen a_risenWays m_thrown (nI m_told) (nI m_taped) (nI m_at) (nI m_to) (nI m_many) (nI m_readMany) (nI ra) (nI m_size) mn ms mp mo mc g_4) := hD
              refine lv_iinc (v := nI (k + 1)) (lv' := [(4, .int (nI (k + 1))), (0, .ref m0), (1, .int 8), (2, .int (nI U)), (3, .int (nI ra))]) hx hb dX9_triesBits_51 hl (k := 0) rfl (my_incN k 1 (by decide +kernel)) (by decide) rfl (fun ls hl => ?_)
              refine lv_goto (tgt := 30) hx hb dX9_triesBits_54 (by decide) ?_
              exact ih30  (k + 1) g_4 (by omega) (by first | assumption | omega | decide +kernel) _ _ ls hP hD hS (lv_sub hl [0, 1, 2, 3, 4] rfl)
        exact loop30 ((8 - 0) + 1) 0 me (Nat.lt_succ_self _) (by first | assumption | omega | decide +kernel) _ _ ls hP hD hS (lv_sub hl [0, 1, 2, 3, 4] rfl)
    ·
      have d12 : ((ra : Nat) : Int) ≥ m_fewest.toInt := my_nlt c12 (nI_toInt (by omega)) rfl
      exact my_retV hx hb hr hlocks hK hS (wl_kf_X9_triesBits_8 cI cJ cK m0 a_row a_tape a_number a_read a_readBits a_stands a_parted a_bitsWere a_stood a_chosen a_bestChosen a_often a_sorted a_risen a_risenWays m_thrown (nI m_told) (nI m_taped) (nI m_at) (nI m_to) (nI m_many) (nI m_readMany) m_fewest (nI m_size) mn ms mp mo mc me) hP hD (⟨m_fewest, ms, mp, mo, mc, me, rfl, hR_ms, hR_mp, hR_mo, (by first | exact th_prune hfw (by omega) (by omega) | exact th_set hfw (by omega) (by omega)), (fun _ _ => rfl), (fun _ _ => rfl)⟩) dX9_triesBits_15
abbrev wl_kf_X9_triesBits_7 (cI cJ cK : ClassId) (m0 : Nat) (a_row : Nat) (a_tape : Nat) (a_number : Nat) (a_read : Nat) (a_readBits : Nat) (a_stands : Nat) (a_parted : Nat) (a_bitsWere : Nat) (a_stood : Nat) (a_chosen : Nat) (a_bestChosen : Nat) (a_often : Nat) (a_sorted : Nat) (a_risen : Nat) (a_risenWays : Nat) (v0_ : Int32) (v1_ : Int32) (v2_ : Int32) (v3_ : Int32) (v4_ : Int32) (v5_ : Int32) (v6_ : Int32) (v7_ : Int32) (v8_ : Int32) (v9_ : Nat → Int32) (v10_ : Nat → Int32) (v11_ : Nat → Int32) (v12_ : Nat → Int32) (v13_ : Nat → Int32) (v14_ : Nat → Int32) : va_W := [(m0, .inr (9, [.int v0_, .int v1_, .ref a_row, .ref a_tape, .int v2_, .int v3_, .int v4_, .int v5_, .ref a_number, .ref a_read, .int v6_, .ref a_readBits, .ref a_stands, .ref a_parted, .ref a_bitsWere, .ref a_stood, .ref a_chosen, .ref a_bestChosen, .int v7_, .ref a_often, .ref a_sorted, .int v8_, .ref a_risen, .ref a_risenWays])), (a_number, .inl (cI, 64, .inl v9_)), (a_stands, .inl (cI, 64, .inl v10_)), (a_parted, .inl (cI, 64, .inl v11_)), (a_stood, .inl (cI, 512, .inl v12_)), (a_chosen, .inl (cI, 8, .inl v13_)), (a_bestChosen, .inl (cI, 8, .inl v14_))]
set_option maxHeartbeats 4000000 in
set_option maxRecDepth 100000 in
theorem kf_X9_triesBits_7 (l : Launch) (D : va_G) (cI cJ cK : ClassId) (m0 : Nat) (a_row : Nat) (a_tape : Nat) (a_number : Nat) (a_read : Nat) (a_readBits : Nat) (a_stands : Nat) (a_parted : Nat) (a_bitsWere : Nat) (a_stood : Nat) (a_chosen : Nat) (a_bestChosen : Nat) (a_often : Nat) (a_sorted : Nat) (a_risen : Nat) (a_risenWays : Nat) (m_thrown : Int32) (m_told : Nat) (m_taped : Nat) (m_at : Nat) (m_to : Nat) (m_many : Nat) (m_readMany : Nat) (m_fewest : Int32) (m_size : Nat) (mn : Nat → Int32) (ms : Nat → Int32) (mp : Nat → Int32) (mo : Nat → Int32) (mc : Nat → Int32) (me : Nat → Int32) (U : Nat) (ra : Nat) (F : Nat) (hz_m_told : m_told ≤ 64) (hz_m_taped : m_taped ≤ 100) (hz_m_at : m_at ≤ 100) (hz_m_to : m_to ≤ 100) (hz_m_many : m_many ≤ 64) (hz_m_readMany : m_readMany ≤ 64) (hz_m_size : m_size ≤ 64) (hR_mn : RB 0 255 mn) (hR_ms : RB 0 63 ms) (hR_mp : RB 0 63 mp) (hR_mo : RB 0 63 mo) (hU : U < 256) (hra : ra ≤ 448) (hfw : fwR m_fewest F) : ctV l yX9_triesBits wsX9_triesBits ({ frames := 2, cells := 0, slots := 0, locals := 120 } : Room) D (tyIJ cI cJ cK) [.ref m0, .int 7, .int (nI U), .int (nI ra)] (wl_kf_X9_triesBits_7 cI cJ cK m0 a_row a_tape a_number a_read a_readBits a_stands a_parted a_bitsWere a_stood a_chosen a_bestChosen a_often a_sorted a_risen a_risenWays m_thrown (nI m_told) (nI m_taped) (nI m_at) (nI m_to) (nI m_many) (nI m_readMany) m_fewest (nI m_size) mn ms mp mo mc me) (fun (u : va_W) => ∃ (m_fewest' : Int32) (ms' : Nat → Int32) (mp' : Nat → Int32) (mo' : Nat → Int32) (mc' : Nat → Int32) (me' : Nat → Int32), u = (wl_kf_X9_triesBits_7 cI cJ cK m0 a_row a_tape a_number a_read a_readBits a_stands a_parted a_bitsWere a_stood a_chosen a_bestChosen a_often a_sorted a_risen a_risenWays m_thrown (nI m_told) (nI m_taped) (nI m_at) (nI m_to) (nI m_many) (nI m_readMany) m_fewest' (nI m_size) mn ms' mp' mo' mc' me') ∧ RB 0 63 ms' ∧ RB 0 63 mp' ∧ RB 0 63 mo' ∧ fwR m_fewest' (min F (ra + tT m_many 1 (vG mn ms) (uS U))) ∧ (∀ i, i < m_many → ms' i = ms i) ∧ (∀ q, q < 448 → mo' q = mo q)) := by
  refine ctV.of (cc := cX9_triesBits) (maxL := 7) (ret := none) (by decide) rfl (Nat.le_of_ble_eq_true rfl) ?_
  intro p e s m below meth c ls A hx hb hr hts hown hml hlocks hname hA hK hN hP hD hS hl
  have hl : lv_has ls 7 [(0, .ref m0), (1, .int 7), (2, .int (nI U)), (3, .int (nI ra))] := hl
  have hown : s.vm.findClass RX9 = some m.cls := hown
  have hi9 : ∀ w ∈ u_ws RX9 TX9 24, w ∈ wsX9_triesBits := by decide +kernel
  have fl162 := hts (.fieldLink RX9 162 "PlaneColumnModel" "fewest" "I") (by decide +kernel)
  have fl58 := hts (.fieldLink RX9 58 "PlaneColumnModel" "stands" "[I") (by decide +kernel)
  have fl67 := hts (.fieldLink RX9 67 "PlaneColumnModel" "stood" "[I") (by decide +kernel)
  have fl70 := hts (.fieldLink RX9 70 "PlaneColumnModel" "chosen" "[I") (by decide +kernel)
  have fl88 := hts (.fieldLink RX9 88 "PlaneColumnModel" "many" "I") (by decide +kernel)
  have cut16 : ∀ (H : Heap) (locs : List Loc) (ls : Array Slot), va_P D vwCl (wl_kf_X9_triesBits_7 cI cJ cK m0 a_row a_tape a_number a_read a_readBits a_stands a_parted a_bitsWere a_stood a_chosen a_bestChosen a_often a_sorted a_risen a_risenWays m_thrown (nI m_told) (nI m_taped) (nI m_at) (nI m_to) (nI m_many) (nI m_readMany) m_fewest (nI m_size) mn ms mp mo mc me) H → va_D A (wl_kf_X9_triesBits_7 cI cJ cK m0 a_row a_tape a_number a_read a_readBits a_stands a_parted a_bitsWere a_stood a_chosen a_bestChosen a_often a_sorted a_risen a_risenWays m_thrown (nI m_told) (nI m_taped) (nI m_at) (nI m_to) (nI m_many) (nI m_readMany) m_fewest (nI m_size) mn ms mp mo mc me) → va_S A s.heap H locs → lv_has ls 7 [(0, .ref m0), (1, .int 7), (2, .int (nI U)), (3, .int (nI ra))] → W p l e ({ frames := 2, cells := 0, slots := 0, locals := 120 } : Room) s m [.ref m0, .int 7, .int (nI U), .int (nI ra)].toArray below meth c H locs 0 0 (MQ below (va_Qv (fun (u : va_W) => ∃ (m_fewest' : Int32) (ms' : Nat → Int32) (mp' : Nat → Int32) (mo' : Nat → Int32) (mc' : Nat → Int32) (me' : Nat → Int32), u = (wl_kf_X9_triesBits_7 cI cJ cK m0 a_row a_tape a_number a_read a_readBits a_stands a_parted a_bitsWere a_stood a_chosen a_bestChosen a_often a_sorted a_risen a_risenWays m_thrown (nI m_told) (nI m_taped) (nI m_at) (nI m_to) (nI m_many) (nI m_readMany) m_fewest' (nI m_size) mn ms' mp' mo' mc' me') ∧ RB 0 63 ms' ∧ RB 0 63 mp' ∧ RB 0 63 mo' ∧ fwR m_fewest' (min F (ra + tT m_many 1 (vG mn ms) (uS U))) ∧ (∀ i, i < m_many → ms' i = ms i) ∧ (∀ q, q < 448 → mo' q = mo q)) (my_B D (tyIJ cI cJ cK) A) A) [.ref m0, .int 7, .int (nI U), .int (nI ra)].toArray s 0 0 A) (F0 m 16 ls []) := by
    intro H locs ls hP hD hS hl
    refine lv_iload_n hx hb dX9_triesBits_16 rfl (lv_at hl 1 rfl) ?_
    refine lv_bipush (v := 8) hx hb dX9_triesBits_17 (by decide +kernel) ?_
    refine lv_icmp_ne (tgt := 58) hx hb dX9_triesBits_19 (by decide) (fun c19 => ?_) (fun c19 => ?_)
    ·
      refine lv_iconst (v := 0) hx hb dX9_triesBits_58 (by decide +kernel) ?_
      refine lv_istore (lv' := [(4, .int 0), (0, .ref m0), (1, .int 7), (2, .int (nI U)), (3, .int (nI ra))]) hx hb dX9_triesBits_59 hl (by decide) rfl (fun ls hl => ?_)
      have loop61 : ∀ (n9 : Nat) (k : Nat) (a_stood_61 : Nat → Int32), 64 - k < n9 → (k ≤ 64) → (k ≤ m_many) → (∀ i, i < k → a_stood_61 (i + 448) = ms i) → (∀ q, q < 448 → a_stood_61 q = mo q) → (RB 0 63 a_stood_61) → ∀ (H : Heap) (locs : List Loc) (ls : Array Slot), va_P D vwCl (wl_kf_X9_triesBits_7 cI cJ cK m0 a_row a_tape a_number a_read a_readBits a_stands a_parted a_bitsWere a_stood a_chosen a_bestChosen a_often a_sorted a_risen a_risenWays m_thrown (nI m_told) (nI m_taped) (nI m_at) (nI m_to) (nI m_many) (nI m_readMany) m_fewest (nI m_size) mn ms mp a_stood_61 mc me) H → va_D A (wl_kf_X9_triesBits_7 cI cJ cK m0 a_row a_tape a_number a_read a_readBits a_stands a_parted a_bitsWere a_stood a_chosen a_bestChosen a_often a_sorted a_risen a_risenWays m_thrown (nI m_told) (nI m_taped) (nI m_at) (nI m_to) (nI m_many) (nI m_readMany) m_fewest (nI m_size) mn ms mp a_stood_61 mc me) → va_S A s.heap H locs → lv_has ls 7 [(4, .int (nI k)), (0, .ref m0), (1, .int 7), (2, .int (nI U)), (3, .int (nI ra))] → W p l e ({ frames := 2, cells := 0, slots := 0, locals := 120 } : Room) s m [.ref m0, .int 7, .int (nI U), .int (nI ra)].toArray below meth c H locs 0 0 (MQ below (va_Qv (fun (u : va_W) => ∃ (m_fewest' : Int32) (ms' : Nat → Int32) (mp' : Nat → Int32) (mo' : Nat → Int32) (mc' : Nat → Int32) (me' : Nat → Int32), u = (wl_kf_X9_triesBits_7 cI cJ cK m0 a_row a_tape a_number a_read a_readBits a_stands a_parted a_bitsWere a_stood a_chosen a_bestChosen a_often a_sorted a_risen a_risenWays m_thrown (nI m_told) (nI m_taped) (nI m_at) (nI m_to) (nI m_many) (nI m_readMany) m_fewest' (nI m_size) mn ms' mp' mo' mc' me') ∧ RB 0 63 ms' ∧ RB 0 63 mp' ∧ RB 0 63 mo' ∧ fwR m_fewest' (min F (ra + tT m_many 1 (vG mn ms) (uS U))) ∧ (∀ i, i < m_many → ms' i = ms i) ∧ (∀ q, q < 448 → mo' q = mo q)) (my_B D (tyIJ cI cJ cK) A) A) [.ref m0, .int 7, .int (nI U), .int (nI ra)].toArray s 0 0 A) (F0 m 61 ls []) := by
        intro n9
        induction n9 with
        | zero =>
          intro k a_stood_61 hn9
          exact absurd hn9 (Nat.not_lt_zero _)
        | succ n9 ih61 =>
          intro k a_stood_61 hn9 hk_k hkm hs61 hs62 hR_a_stood_61 H locs ls hP hD hS hl
          refine lv_iload hx hb dX9_triesBits_61 (lv_at hl 0 rfl) ?_
          refine lv_aload_n hx hb dX9_triesBits_63 rfl (lv_at hl 1 rfl) ?_
          refine va_get (ci := 9) (v := .int (nI m_many)) (C := RX9) (T := TX9) (N := 24) hx hb hts hi9 hown hK hP 0 rfl rfl 7 (by decide) fl88 (fun _ h9 => h9) rfl dX9_triesBits_64 ?_
          refine lv_icmp_ge (tgt := 95) hx hb dX9_triesBits_67 (by decide) (fun c67 => ?_) (fun c67 => ?_)
          ·
            have d67 : ((k : Nat) : Int) ≥ ((m_many : Nat) : Int) := my_ge c67 (nI_toInt (by omega)) (nI_toInt (by omega))
            refine lv_bipush (v := 7) hx hb dX9_triesBits_95 (by decide +kernel) ?_
            refine lv_istore (lv' := [(4, .int 7), (0, .ref m0), (1, .int 7), (2, .int (nI U)), (3, .int (nI ra))]) hx hb dX9_triesBits_97 hl (by decide) rfl (fun ls hl => ?_)
            have loop99 : ∀ (n9 : Nat) (x : Int32) (m0_fewest_99 : Int32) (a_stands_99 : Nat → Int32) (a_parted_99 : Nat → Int32) (a_stood_99 : Nat → Int32) (a_chosen_99 : Nat → Int32) (a_bestChosen_99 : Nat → Int32), (x.toInt + 1).toNat < n9 → (-1 ≤ x.toInt) → (x.toInt ≤ 7) → (fwR m0_fewest_99 (min F (ra + tM (tF m_many 0 (vG mn ms) (uS U)) (uS U) (7 - x.toInt).toNat))) → (∀ i, i < m_many → a_stands_99 i = ms i) → (∀ i, i < m_many → a_stood_99 (i + 448) = ms i) → (∀ q, q < 448 → a_stood_99 q = mo q) → (RB 0 63 a_stands_99) → (RB 0 63 a_parted_99) → (RB 0 63 a_stood_99) → ∀ (H : Heap) (locs : List Loc) (ls : Array Slot), va_P D vwCl (wl_kf_X9_triesBits_7 cI cJ cK m0 a_row a_tape a_number a_read a_readBits a_stands a_parted a_bitsWere a_stood a_chosen a_bestChosen a_often a_sorted a_risen a_risenWays m_thrown (nI m_told) (nI m_taped) (nI m_at) (nI m_to) (nI m_many) (nI m_readMany) m0_fewest_99 (nI m_size) mn a_stands_99 a_parted_99 a_stood_99 a_chosen_99 a_bestChosen_99) H → va_D A (wl_kf_X9_triesBits_7 cI cJ cK m0 a_row a_tape a_number a_read a_readBits a_stands a_parted a_bitsWere a_stood a_chosen a_bestChosen a_often a_sorted a_risen a_risenWays m_thrown (nI m_told) (nI m_taped) (nI m_at) (nI m_to) (nI m_many) (nI m_readMany) m0_fewest_99 (nI m_size) mn a_stands_99 a_parted_99 a_stood_99 a_chosen_99 a_bestChosen_99) → va_S A s.heap H locs → lv_has ls 7 [(4, .int x), (0, .ref m0), (1, .int 7), (2, .int (nI U)), (3, .int (nI ra))] → W p l e ({ frames := 2, cells := 0, slots := 0, locals := 120 } : Room) s m [.ref m0, .int 7, .int (nI U), .int (nI ra)].toArray below meth c H locs 0 0 (MQ below (va_Qv (fun (u : va_W) => ∃ (m_fewest' : Int32) (ms' : Nat → Int32) (mp' : Nat → Int32) (mo' : Nat → Int32) (mc' : Nat → Int32) (me' : Nat → Int32), u = (wl_kf_X9_triesBits_7 cI cJ cK m0 a_row a_tape a_number a_read a_readBits a_stands a_parted a_bitsWere a_stood a_chosen a_bestChosen a_often a_sorted a_risen a_risenWays m_thrown (nI m_told) (nI m_taped) (nI m_at) (nI m_to) (nI m_many) (nI m_readMany) m_fewest' (nI m_size) mn ms' mp' mo' mc' me') ∧ RB 0 63 ms' ∧ RB 0 63 mp' ∧ RB 0 63 mo' ∧ fwR m_fewest' (min F (ra + tT m_many 1 (vG mn ms) (uS U))) ∧ (∀ i, i < m_many → ms' i = ms i) ∧ (∀ q, q < 448 → mo' q = mo q)) (my_B D (tyIJ cI cJ cK) A) A) [.ref m0, .int 7, .int (nI U), .int (nI ra)].toArray s 0 0 A) (F0 m 99 ls []) := by
              intro n9
              induction n9 with
              | zero =>
                intro x m0_fewest_99 a_stands_99 a_parted_99 a_stood_99 a_chosen_99 a_bestChosen_99 hn9
                exact absurd hn9 (Nat.not_lt_zero _)
              | succ n9 ih99 =>
                intro x m0_fewest_99 a_stands_99 a_parted_99 a_stood_99 a_chosen_99 a_bestChosen_99 hn9 hx0 hx1 hfw2 hst2 hso2 hso3 hR_a_stands_99 hR_a_parted_99 hR_a_stood_99 H locs ls hP hD hS hl
                refine lv_iload hx hb dX9_triesBits_99 (lv_at hl 0 rfl) ?_
                refine lv_if_lt (tgt := 195) hx hb dX9_triesBits_101 (by decide) (fun c101 => ?_) (fun c101 => ?_)
                ·
                  have d101 : x.toInt < (0 : Int) := my_lt c101 rfl (by decide +kernel)
                  exact my_retV hx hb hr hlocks hK hS (wl_kf_X9_triesBits_7 cI cJ cK m0 a_row a_tape a_number a_read a_readBits a_stands a_parted a_bitsWere a_stood a_chosen a_bestChosen a_often a_sorted a_risen a_risenWays m_thrown (nI m_told) (nI m_taped) (nI m_at) (nI m_to) (nI m_many) (nI m_readMany) m0_fewest_99 (nI m_size) mn a_stands_99 a_parted_99 a_stood_99 a_chosen_99 a_bestChosen_99) hP hD (⟨m0_fewest_99, a_stands_99, a_parted_99, a_stood_99, a_chosen_99, a_bestChosen_99, rfl, hR_a_stands_99, hR_a_parted_99, hR_a_stood_99, (by first | exact th_end hfw2 (by omega) | exact th_prune hfw (by omega) (by omega)), (by first | exact hst2 | exact fun _ _ => rfl), (by first | exact hso3 | exact fun _ _ => rfl)⟩) dX9_triesBits_195
                ·
                  have d101 : x.toInt ≥ (0 : Int) := my_nlt c101 rfl (by decide +kernel)
                  obtain ⟨w_1, rfl, hw_1⟩ := my_natP (x := x) (by omega)
                  have hlw_1 : w_1 < 2147483648 := by have h9 := Int32.toInt_lt (nI w_1); omega
                  refine lv_iload_n hx hb dX9_triesBits_104 rfl (lv_at hl 3 rfl) ?_
                  refine lv_iload hx hb dX9_triesBits_105 (lv_at hl 0 rfl) ?_
                  refine lv_ishr hx hb dX9_triesBits_107 ?_
                  refine my_eqi (y := nI (U / 2 ^ w_1)) (my_shrG (by omega) (by omega)) ?_
                  refine lv_iconst (v := 1) hx hb dX9_triesBits_108 (by decide +kernel) ?_
                  refine lv_iand hx hb dX9_triesBits_109 ?_
                  refine my_eqi (y := nI ((U / 2 ^ w_1) % 2)) (my_maskN _ 1) ?_
                  refine lv_if_ne (tgt := 189) hx hb dX9_triesBits_110 (by decide) (fun c110 => ?_) (fun c110 => ?_)
                  ·
                    have d110 : (((U / 2 ^ w_1) % 2 : Nat) : Int) ≠ (0 : Int) := my_ne c110 (nI_toInt (by omega)) (by decide +kernel)
                    obtain ⟨z_2, ez_2⟩ : ∃ y : Int32, y = nI w_1 + (-1) := ⟨_, rfl⟩
                    try have tz_2 : z_2.toInt = ((w_1 : Nat) : Int) + (-1) := by rw [ez_2]; exact my_addI (nI_toInt (by omega)) (by decide +kernel) (by omega) (by omega)
                    refine lv_iinc (v := z_2) (lv' := [(4, .int z_2), (0, .ref m0), (1, .int 7), (2, .int (nI U)), (3, .int (nI ra))]) hx hb dX9_triesBits_189 hl (k := 0) rfl (by rw [ez_2]; rfl) (by decide) rfl (fun ls hl => ?_)
                    refine lv_goto (tgt := 99) hx hb dX9_triesBits_192 (by decide) ?_
                    exact ih99  z_2 m0_fewest_99 a_stands_99 a_parted_99 a_stood_99 a_chosen_99 a_bestChosen_99 (by omega) (by first | assumption | omega | decide +kernel) (by first | assumption | omega | decide +kernel) (by first | exact th_skip hfw2 (by omega) (by omega) (by omega) (su_f d110 (by omega)) | exact th_done hfw1 (by omega) (by omega) (by omega) (su_t d110 (by omega)) (th_take (by omega) (by omega) hU hst2 hpt hrn)) (by first | exact hst2 | exact fun i hi => hrs i (by omega)) (by first | exact hso2 | exact fun i hi => (hso1 _ (by omega)).trans (hso2 i hi)) (by first | exact hso3 | exact fun q hq => (hso1 q (by omega)).trans (hso3 q hq)) hR_a_stands_99 hR_a_parted_99 hR_a_stood_99 _ _ ls hP hD hS (lv_sub hl [0, 1, 2, 3, 4] rfl)
                  ·
                    have d110 : (((U / 2 ^ w_1) % 2 : Nat) : Int) = (0 : Int) := my_eq c110 (nI_toInt (by omega)) (by decide +kernel)
                    refine lv_aload_n hx hb dX9_triesBits_113 rfl (lv_at hl 1 rfl) ?_
                    refine va_get (ci := 9) (v := .ref a_chosen) (C := RX9) (T := TX9) (N := 24) hx hb hts hi9 hown hK hP 0 rfl rfl 16 (by decide) fl70 (fun _ h9 => h9) rfl dX9_triesBits_114 ?_
                    refine lv_iload_n hx hb dX9_triesBits_117 rfl (lv_at hl 2 rfl) ?_
                    refine lv_iload hx hb dX9_triesBits_118 (lv_at hl 0 rfl) ?_
                    refine va_iast hx hb hK hP hD hS 5 0 rfl rfl (vp_in_nI (n := 7) (by omega) (by omega)) dX9_triesBits_120 (fun H locs hP hD hS => ?_)
                    obtain ⟨g_3, eg_3⟩ : ∃ g : Nat → Int32, g = upd a_chosen_99 7 (nI w_1) := ⟨_, rfl⟩
                    have eU : upd a_chosen_99 (7 : Int32).toNatClampNeg (nI w_1) = g_3 := by rw [eg_3, show (7 : Int32).toNatClampNeg = 7 from by decide +kernel]
                    rw [eU] at hP hD
                    have hP : va_P D vwCl (wl_kf_X9_triesBits_7 cI cJ cK m0 a_row a_tape a_number a_read a_readBits a_stands a_parted a_bitsWere a_stood a_chosen a_bestChosen a_often a_sorted a_risen a_risenWays m_thrown (nI m_told) (nI m_taped) (nI m_at) (nI m_to) (nI m_many) (nI m_readMany) m0_fewest_99 (nI m_size) mn a_stands_99 a_parted_99 a_stood_99 g_3 a_bestChosen_99) H := hP
                    have hD : va_D A (wl_kf_X9_triesBits_7 cI cJ cK m0 a_row a_tape a_number a_read a_readBits a_stands a_parted a_bitsWere a_stood a_chosen a_bestChosen a_often a_sorted a_risen a_risenWays m_thrown (nI m_told) (nI m_taped) (nI m_at) (nI m_to) (nI m_many) (nI m_readMany) m0_fewest_99 (nI m_size) mn a_stands_99 a_parted_99 a_stood_99 g_3 a_bestChosen_99) := hD
                    refine lv_aload_n hx hb dX9_triesBits_121 rfl (lv_at hl 1 rfl) ?_
                    refine lv_iload hx hb dX9_triesBits_122 (lv_at hl 0 rfl) ?_
                    refine my_gpI (my_pV (As := [.int (nI w_1)]) (rest := []) (ci := 9) ⟨hx, hb, hml, hown, hts⟩ (cwV 1 hts gX9_triesBits_X9_runsOf rfl rfl rfl (by decide +kernel) ⟨Nat.le_of_ble_eq_true rfl, Nat.le_of_ble_eq_true rfl⟩) hN hK hP [0, 1, 2] rfl 0 rfl rfl rfl rfl hl.1 rfl (Nat.le_of_ble_eq_true rfl) dX9_triesBits_124 ⟨Nat.le_of_ble_eq_true rfl, Nat.le_of_ble_eq_true rfl⟩  (kf_X9_runsOf l D cI cJ cK m0 a_row a_tape a_number a_read a_readBits a_stands a_parted a_bitsWere a_stood a_chosen a_bestChosen a_often a_sorted a_risen a_risenWays m_thrown m_told m_taped m_at m_to m_many m_readMany m0_fewest_99 m_size mn a_stands_99 w_1 (by first | assumption | omega | decide +kernel) (by first | assumption | omega | decide +kernel) (by first | assumption | omega | decide +kernel) (by first | assumption | omega | decide +kernel) (by first | assumption | omega | decide +kernel) (by first | assumption | omega | decide +kernel) (by first | assumption | omega | decide +kernel) hR_mn hR_a_stands_99 (by first | assumption | omega | decide +kernel))) (fun r hp => ?_)
                    obtain ⟨t_4, rfl, hrn, hq_5⟩ := hp
                    refine lv_istore (lv' := [(5, .int (nI t_4)), (4, .int (nI w_1)), (0, .ref m0), (1, .int 7), (2, .int (nI U)), (3, .int (nI ra))]) hx hb dX9_triesBits_127 hl (by decide) rfl (fun ls hl => ?_)
                    refine lv_aload_n hx hb dX9_triesBits_129 rfl (lv_at hl 2 rfl) ?_
                    refine lv_iload hx hb dX9_triesBits_130 (lv_at hl 1 rfl) ?_
                    refine my_goVS (wc := (wl_kf_X9_parts cI cJ cK m0 a_row a_tape a_number a_read a_readBits a_stands a_parted a_bitsWere a_stood a_chosen a_bestChosen a_often a_sorted a_risen a_risenWays m_thrown (nI m_told) (nI m_taped) (nI m_at) (nI m_to) (nI m_many) (nI m_readMany) m0_fewest_99 (nI m_size) mn a_stands_99 a_parted_99)) hP hD hS hA [0, 1, 2, 3] rfl [some 0, some 1, some 2, some 3] (by decide +kernel) (my_cV (As := [.int (nI w_1)]) (rest := []) (ci := 9) (wc := (wl_kf_X9_parts cI cJ cK m0 a_row a_tape a_number a_read a_readBits a_stands a_parted a_bitsWere a_stood a_chosen a_bestChosen a_often a_sorted a_risen a_risenWays m_thrown (nI m_told) (nI m_taped) (nI m_at) (nI m_to) (nI m_many) (nI m_readMany) m0_fewest_99 (nI m_size) mn a_stands_99 a_parted_99)) ⟨hx, hb, hml, hown, hts⟩ (cwV 1 hts gX9_triesBits_X9_parts rfl rfl rfl (by decide +kernel) ⟨Nat.le_of_ble_eq_true rfl, Nat.le_of_ble_eq_true rfl⟩) hN hK hP hD [0, 1, 2, 3] rfl (by decide) rfl 0 rfl rfl rfl rfl hl.1 rfl (Nat.le_of_ble_eq_true rfl) dX9_triesBits_132 ⟨Nat.le_of_ble_eq_true rfl, Nat.le_of_ble_eq_true rfl⟩  ((kf_X9_parts l D cI cJ cK m0 a_row a_tape a_number a_read a_readBits a_stands a_parted a_bitsWere a_stood a_chosen a_bestChosen a_often a_sorted a_risen a_risenWays m_thrown m_told m_taped m_at m_to m_many m_readMany m0_fewest_99 m_size mn a_stands_99 a_parted_99 w_1 (by first | assumption | omega | decide +kernel) (by first | assumption | omega | decide +kernel) (by first | assumption | omega | decide +kernel) (by first | assumption | omega | decide +kernel) (by first | assumption | omega | decide +kernel) (by first | assumption | omega | decide +kernel) (by first | assumption | omega | decide +kernel) hR_mn hR_a_stands_99 hR_a_parted_99 (by first | assumption | omega | decide +kernel)) _)) (fun u H locs hp hPD hS => ?_)
                    obtain ⟨ms_6, mp_7, rfl, hR_ms_6, hR_mp_7, hpt⟩ := hp
                    obtain ⟨hP, hD⟩ := hPD rfl
                    have hP : va_P D vwCl (wl_kf_X9_triesBits_7 cI cJ cK m0 a_row a_tape a_number a_read a_readBits a_stands a_parted a_bitsWere a_stood a_chosen a_bestChosen a_often a_sorted a_risen a_risenWays m_thrown (nI m_told) (nI m_taped) (nI m_at) (nI m_to) (nI m_many) (nI m_readMany) m0_fewest_99 (nI m_size) mn ms_6 mp_7 a_stood_99 g_3 a_bestChosen_99) H := hP
                    have hD : va_D A (wl_kf_X9_triesBits_7 cI cJ cK m0 a_row a_tape a_number a_read a_readBits a_stands a_parted a_bitsWere a_stood a_chosen a_bestChosen a_often a_sorted a_risen a_risenWays m_thrown (nI m_told) (nI m_taped) (nI m_at) (nI m_to) (nI m_many) (nI m_readMany) m0_fewest_99 (nI m_size) mn ms_6 mp_7 a_stood_99 g_3 a_bestChosen_99) := hD
                    refine lv_aload_n hx hb dX9_triesBits_135 rfl (lv_at hl 2 rfl) ?_
                    refine lv_iload_n hx hb dX9_triesBits_136 rfl (lv_at hl 3 rfl) ?_
                    refine lv_iconst (v := 1) hx hb dX9_triesBits_137 (by decide +kernel) ?_
                    refine lv_iadd hx hb dX9_triesBits_138 ?_
                    refine my_eqi (y := 8) (by decide +kernel) ?_
                    refine lv_iload_n hx hb dX9_triesBits_139 rfl (lv_at hl 4 rfl) ?_
                    refine lv_iconst (v := 1) hx hb dX9_triesBits_140 (by decide +kernel) ?_
                    refine lv_iload hx hb dX9_triesBits_141 (lv_at hl 1 rfl) ?_
                    refine lv_ishl hx hb dX9_triesBits_143 ?_
                    refine my_eqi (y := nI (2 ^ w_1)) (my_shl1 (by omega)) ?_
                    refine lv_ior hx hb dX9_triesBits_144 ?_
                    refine my_eqi (y := nI (U ||| (2 ^ w_1))) (fa_or _ _) ?_
                    refine lv_iload_n hx hb dX9_triesBits_145 rfl (lv_at hl 5 rfl) ?_
                    refine lv_iload hx hb dX9_triesBits_146 (lv_at hl 0 rfl) ?_
                    refine lv_iadd hx hb dX9_triesBits_148 ?_
                    refine my_eqi (y := nI (ra + t_4)) (nI_add _ _) ?_
                    refine my_goVS (wc := (wl_kf_X9_triesBits_8 cI cJ cK m0 a_row a_tape a_number a_read a_readBits a_stands a_parted a_bitsWere a_stood a_chosen a_bestChosen a_often a_sorted a_risen a_risenWays m_thrown (nI m_told) (nI m_taped) (nI m_at) (nI m_to) (nI m_many) (nI m_readMany) m0_fewest_99 (nI m_size) mn ms_6 mp_7 a_stood_99 g_3 a_bestChosen_99)) hP hD hS hA [0, 1, 2, 3, 4, 5, 6] rfl [some 0, some 1, some 2, some 3, some 4, some 5, some 6] (by decide +kernel) (my_cV (As := [.int 8, .int (nI (U ||| (2 ^ w_1))), .int (nI (ra + t_4))]) (rest := []) (ci := 9) (wc := (wl_kf_X9_triesBits_8 cI cJ cK m0 a_row a_tape a_number a_read a_readBits a_stands a_parted a_bitsWere a_stood a_chosen a_bestChosen a_often a_sorted a_risen a_risenWays m_thrown (nI m_told) (nI m_taped) (nI m_at) (nI m_to) (nI m_many) (nI m_readMany) m0_fewest_99 (nI m_size) mn ms_6 mp_7 a_stood_99 g_3 a_bestChosen_99)) ⟨hx, hb, hml, hown, hts⟩ (cwV 3 hts gX9_triesBits_X9_triesBits rfl rfl rfl (by decide +kernel) ⟨Nat.le_of_ble_eq_true rfl, Nat.le_of_ble_eq_true rfl⟩) hN hK hP hD [0, 1, 2, 3, 4, 5, 6] rfl (by decide) rfl 0 rfl rfl rfl rfl hl.1 rfl (Nat.le_of_ble_eq_true rfl) dX9_triesBits_149 ⟨Nat.le_of_ble_eq_true rfl, Nat.le_of_ble_eq_true rfl⟩  ((kf_X9_triesBits_8 l D cI cJ cK m0 a_row a_tape a_number a_read a_readBits a_stands a_parted a_bitsWere a_stood a_chosen a_bestChosen a_often a_sorted a_risen a_risenWays m_thrown m_told m_taped m_at m_to m_many m_readMany m0_fewest_99 m_size mn ms_6 mp_7 a_stood_99 g_3 a_bestChosen_99 (U ||| (2 ^ w_1)) (ra + t_4) (min F (ra + tM (tF m_many 0 (vG mn ms) (uS U)) (uS U) (7 - (nI w_1).toInt).toNat)) (by first | assumption | omega | decide +kernel) (by first | assumption | omega | decide +kernel) (by first | assumption | omega | decide +kernel) (by first | assumption | omega | decide +kernel) (by first | assumption | omega | decide +kernel) (by first | assumption | omega | decide +kernel) (by first | assumption | omega | decide +kernel) hR_mn hR_ms_6 hR_mp_7 hR_a_stood_99 ((or_b U hU _ (by omega)).1) (by first | assumption | omega | decide +kernel) (hfw2)) _)) (fun u H locs hp hPD hS => ?_)
                    obtain ⟨m_fewest_8, ms_9, mp_10, mo_11, mc_12, me_13, rfl, hR_ms_9, hR_mp_10, hR_mo_11, hfw1, hst1, hso1⟩ := hp
                    obtain ⟨hP, hD⟩ := hPD rfl
                    have hP : va_P D vwCl (wl_kf_X9_triesBits_7 cI cJ cK m0 a_row a_tape a_number a_read a_readBits a_stands a_parted a_bitsWere a_stood a_chosen a_bestChosen a_often a_sorted a_risen a_risenWays m_thrown (nI m_told) (nI m_taped) (nI m_at) (nI m_to) (nI m_many) (nI m_readMany) m_fewest_8 (nI m_size) mn ms_9 mp_10 mo_11 mc_12 me_13) H := hP
                    have hD : va_D A (wl_kf_X9_triesBits_7 cI cJ cK m0 a_row a_tape a_number a_read a_readBits a_stands a_parted a_bitsWere a_stood a_chosen a_bestChosen a_often a_sorted a_risen a_risenWays m_thrown (nI m_told) (nI m_taped) (nI m_at) (nI m_to) (nI m_many) (nI m_readMany) m_fewest_8 (nI m_size) mn ms_9 mp_10 mo_11 mc_12 me_13) := hD
                    refine lv_iconst (v := 0) hx hb dX9_triesBits_152 (by decide +kernel) ?_
                    refine lv_istore (lv' := [(6, .int 0), (5, .int (nI t_4)), (4, .int (nI w_1)), (0, .ref m0), (1, .int 7), (2, .int (nI U)), (3, .int (nI ra))]) hx hb dX9_triesBits_153 hl (by decide) rfl (fun ls hl => ?_)
                    have loop155 : ∀ (n9 : Nat) (k : Nat) (a_stands_155 : Nat → Int32), 64 - k < n9 → (k ≤ 64) → (k ≤ m_many) → (∀ i, i < k → a_stands_155 i = ms i) → (RB 0 63 a_stands_155) → ∀ (H : Heap) (locs : List Loc) (ls : Array Slot), va_P D vwCl (wl_kf_X9_triesBits_7 cI cJ cK m0 a_row a_tape a_number a_read a_readBits a_stands a_parted a_bitsWere a_stood a_chosen a_bestChosen a_often a_sorted a_risen a_risenWays m_thrown (nI m_told) (nI m_taped) (nI m_at) (nI m_to) (nI m_many) (nI m_readMany) m_fewest_8 (nI m_size) mn a_stands_155 mp_10 mo_11 mc_12 me_13) H → va_D A (wl_kf_X9_triesBits_7 cI cJ cK m0 a_row a_tape a_number a_read a_readBits a_stands a_parted a_bitsWere a_stood a_chosen a_bestChosen a_often a_sorted a_risen a_risenWays m_thrown (nI m_told) (nI m_taped) (nI m_at) (nI m_to) (nI m_many) (nI m_readMany) m_fewest_8 (nI m_size) mn a_stands_155 mp_10 mo_11 mc_12 me_13) → va_S A s.heap H locs → lv_has ls 7 [(6, .int (nI k)), (5, .int (nI t_4)), (4, .int (nI w_1)), (0, .ref m0), (1, .int 7), (2, .int (nI U)), (3, .int (nI ra))] → W p l e ({ frames := 2, cells := 0, slots := 0, locals := 120 } : Room) s m [.ref m0, .int 7, .int (nI U), .int (nI ra)].toArray below meth c H locs 0 0 (MQ below (va_Qv (fun (u : va_W) => ∃ (m_fewest' : Int32) (ms' : Nat → Int32) (mp' : Nat → Int32) (mo' : Nat → Int32) (mc' : Nat → Int32) (me' : Nat → Int32), u = (wl_kf_X9_triesBits_7 cI cJ cK m0 a_row a_tape a_number a_read a_readBits a_stands a_parted a_bitsWere a_stood a_chosen a_bestChosen a_often a_sorted a_risen a_risenWays m_thrown (nI m_told) (nI m_taped) (nI m_at) (nI m_to) (nI m_many) (nI m_readMany) m_fewest' (nI m_size) mn ms' mp' mo' mc' me') ∧ RB 0 63 ms' ∧ RB 0 63 mp' ∧ RB 0 63 mo' ∧ fwR m_fewest' (min F (ra + tT m_many 1 (vG mn ms) (uS U))) ∧ (∀ i, i < m_many → ms' i = ms i) ∧ (∀ q, q < 448 → mo' q = mo q)) (my_B D (tyIJ cI cJ cK) A) A) [.ref m0, .int 7, .int (nI U), .int (nI ra)].toArray s 0 0 A) (F0 m 155 ls []) := by
                      intro n9
                      induction n9 with
                      | zero =>
                        intro k a_stands_155 hn9
                        exact absurd hn9 (Nat.not_lt_zero _)
                      | succ n9 ih155 =>
                        intro k a_stands_155 hn9 hk_k hkm hrs hR_a_stands_155 H locs ls hP hD hS hl
                        refine lv_iload hx hb dX9_triesBits_155 (lv_at hl 0 rfl) ?_
                        refine lv_aload_n hx hb dX9_triesBits_157 rfl (lv_at hl 3 rfl) ?_
                        refine va_get (ci := 9) (v := .int (nI m_many)) (C := RX9) (T := TX9) (N := 24) hx hb hts hi9 hown hK hP 0 rfl rfl 7 (by decide) fl88 (fun _ h9 => h9) rfl dX9_triesBits_158 ?_
                        refine lv_icmp_ge (tgt := 189) hx hb dX9_triesBits_161 (by decide) (fun c161 => ?_) (fun c161 => ?_)
                        ·
                          have d161 : ((k : Nat) : Int) ≥ ((m_many : Nat) : Int) := my_ge c161 (nI_toInt (by omega)) (nI_toInt (by omega))
                          obtain ⟨z_14, ez_14⟩ : ∃ y : Int32, y = nI w_1 + (-1) := ⟨_, rfl⟩
                          try have tz_14 : z_14.toInt = ((w_1 : Nat) : Int) + (-1) := by rw [ez_14]; exact my_addI (nI_toInt (by omega)) (by decide +kernel) (by omega) (by omega)
                          refine lv_iinc (v := z_14) (lv' := [(4, .int z_14), (6, .int (nI k)), (5, .int (nI t_4)), (0, .ref m0), (1, .int 7), (2, .int (nI U)), (3, .int (nI ra))]) hx hb dX9_triesBits_189 hl (k := 2) rfl (by rw [ez_14]; rfl) (by decide) rfl (fun ls hl => ?_)
                          refine lv_goto (tgt := 99) hx hb dX9_triesBits_192 (by decide) ?_
                          exact ih99  z_14 m_fewest_8 a_stands_155 mp_10 mo_11 mc_12 me_13 (by omega) (by first | assumption | omega | decide +kernel) (by first | assumption | omega | decide +kernel) (by first | exact th_skip hfw2 (by omega) (by omega) (by omega) (su_f d110 (by omega)) | exact th_done hfw1 (by omega) (by omega) (by omega) (su_t d110 (by omega)) (th_take (by omega) (by omega) hU hst2 hpt hrn)) (by first | exact hst2 | exact fun i hi => hrs i (by omega)) (by first | exact hso2 | exact fun i hi => (hso1 _ (by omega)).trans (hso2 i hi)) (by first | exact hso3 | exact fun q hq => (hso1 q (by omega)).trans (hso3 q hq)) hR_a_stands_155 hR_mp_10 hR_mo_11 _ _ ls hP hD hS (lv_sub hl [0, 3, 4, 5, 6] rfl)
                        ·
                          have d161 : ((k : Nat) : Int) < ((m_many : Nat) : Int) := my_nge c161 (nI_toInt (by omega)) (nI_toInt (by omega))
                          refine lv_aload_n hx hb dX9_triesBits_164 rfl (lv_at hl 3 rfl) ?_
                          refine va_get (ci := 9) (v := .ref a_stands) (C := RX9) (T := TX9) (N := 24) hx hb hts hi9 hown hK hP 0 rfl rfl 12 (by decide) fl58 (fun _ h9 => h9) rfl dX9_triesBits_165 ?_
                          refine lv_iload hx hb dX9_triesBits_168 (lv_at hl 0 rfl) ?_
                          refine lv_aload_n hx hb dX9_triesBits_170 rfl (lv_at hl 3 rfl) ?_
                          refine va_get (ci := 9) (v := .ref a_stood) (C := RX9) (T := TX9) (N := 24) hx hb hts hi9 hown hK hP 0 rfl rfl 15 (by decide) fl67 (fun _ h9 => h9) rfl dX9_triesBits_171 ?_
                          refine lv_bipush (v := 64) hx hb dX9_triesBits_174 (by decide +kernel) ?_
                          refine lv_iload_n hx hb dX9_triesBits_176 rfl (lv_at hl 4 rfl) ?_
                          refine lv_imul hx hb dX9_triesBits_177 ?_
                          refine my_eqi (y := 448) (by decide +kernel) ?_
                          refine lv_iload hx hb dX9_triesBits_178 (lv_at hl 0 rfl) ?_
                          refine lv_iadd hx hb dX9_triesBits_180 ?_
                          refine my_eqi (y := nI (k + 448)) (my_addN2 k 448) ?_
                          refine va_iald hx hb hK hP 4 0 rfl rfl (vp_in_nI (by omega) (by omega)) dX9_triesBits_181 ?_
                          refine my_eqi (y := mo_11 (k + 448)) (congrArg mo_11 (nI_clamp (by omega))) ?_
                          have hb_15 := hR_mo_11 (k + 448)
                          refine va_iast hx hb hK hP hD hS 2 0 rfl rfl (vp_in_nI (by omega) (by omega)) dX9_triesBits_182 (fun H locs hP hD hS => ?_)
                          obtain ⟨g_16, eg_16⟩ : ∃ g : Nat → Int32, g = upd a_stands_155 k (mo_11 (k + 448)) := ⟨_, rfl⟩
                          have eU : upd a_stands_155 (nI k : Int32).toNatClampNeg (mo_11 (k + 448)) = g_16 := by rw [eg_16, show (nI k : Int32).toNatClampNeg = k from nI_clamp (by omega)]
                          rw [eU] at hP hD
                          have hR_g_16 : RB 0 63 g_16 := by rw [eg_16]; exact hR_a_stands_155.upd rfl (by omega) (by omega)
                          have hP : va_P D vwCl (wl_kf_X9_triesBits_7 cI cJ cK m0 a_row a_tape a_number a_read a_readBits a_stands a_parted a_bitsWere a_stood a_chosen a_bestChosen a_often a_sorted a_risen a_risenWays m_thrown (nI m_told) (nI m_taped) (nI m_at) (nI m_to) (nI m_many) (nI m_readMany) m_fewest_8 (nI m_size) mn g_16 mp_10 mo_11 mc_12 me_13) H := hP
                          have hD : va_D A (wl_kf_X9_triesBits_7 cI cJ cK m0 a_row a_tape a_number a_read a_readBits a_stands a_parted a_bitsWere a_stood a_chosen a_bestChosen a_often a_sorted a_risen a_risenWays m_thrown (nI m_told) (nI m_taped) (nI m_at) (nI m_to) (nI m_many) (nI m_readMany) m_fewest_8 (nI m_size) mn g_16 mp_10 mo_11 mc_12 me_13) := hD
                          refine lv_iinc (v := nI (k + 1)) (lv' := [(6, .int (nI (k + 1))), (5, .int (nI t_4)), (4, .int (nI w_1)), (0, .ref m0), (1, .int 7), (2, .int (nI U)), (3, .int (nI ra))]) hx hb dX9_triesBits_183 hl (k := 0) rfl (my_incN k 1 (by decide +kernel)) (by decide) rfl (fun ls hl => ?_)
                          refine lv_goto (tgt := 155) hx hb dX9_triesBits_186 (by decide) ?_
                          exact ih155  (k + 1) g_16 (by omega) (by first | assumption | omega | decide +kernel) (by first | assumption | omega | decide +kernel) (nv_step (F := ms) (by assumption) ((hso1 _ (by omega)).trans (hso2 k (by omega))) hrs) hR_g_16 _ _ ls hP hD hS (lv_sub hl [0, 1, 2, 3, 4, 5, 6] rfl)
                    exact loop155 ((64 - 0) + 1) 0 ms_9 (Nat.lt_succ_self _) (by first | assumption | omega | decide +kernel) (by first | assumption | omega | decide +kernel) (fun i h => absurd h (Nat.not_lt_zero i)) hR_ms_9 _ _ ls hP hD hS (lv_sub hl [0, 1, 2, 3, 4, 5, 6] rfl)
            have ec_17 : (7 : Int32).toInt = 7 := by decide +kernel
            exact loop99 ((((7 : Int32).toInt + 1).toNat) + 1) (7 : Int32) m_fewest ms mp a_stood_61 mc me (Nat.lt_succ_self _) (by first | assumption | omega | decide +kernel) (by first | assumption | omega | decide +kernel) (th_0 hfw) (fun _ _ => rfl) (fun i hi => hs61 i (by omega)) (hs62) hR_ms hR_mp hR_a_stood_61 _ _ ls hP hD hS (lv_sub hl [0, 1, 2, 3, 4] rfl)
          ·
            have d67 : ((k : Nat) : Int) < ((m_many : Nat) : Int) := my_nge c67 (nI_toInt (by omega)) (nI_toInt (by omega))
            refine lv_aload_n hx hb dX9_triesBits_70 rfl (lv_at hl 1 rfl) ?_
            refine va_get (ci := 9) (v := .ref a_stood) (C := RX9) (T := TX9) (N := 24) hx hb hts hi9 hown hK hP 0 rfl rfl 15 (by decide) fl67 (fun _ h9 => h9) rfl dX9_triesBits_71 ?_
            refine lv_bipush (v := 64) hx hb dX9_triesBits_74 (by decide +kernel) ?_
            refine lv_iload_n hx hb dX9_triesBits_76 rfl (lv_at hl 2 rfl) ?_
            refine lv_imul hx hb dX9_triesBits_77 ?_
            refine my_eqi (y := 448) (by decide +kernel) ?_
            refine lv_iload hx hb dX9_triesBits_78 (lv_at hl 0 rfl) ?_
            refine lv_iadd hx hb dX9_triesBits_80 ?_
            refine my_eqi (y := nI (k + 448)) (my_addN2 k 448) ?_
            refine lv_aload_n hx hb dX9_triesBits_81 rfl (lv_at hl 1 rfl) ?_
            refine va_get (ci := 9) (v := .ref a_stands) (C := RX9) (T := TX9) (N := 24) hx hb hts hi9 hown hK hP 0 rfl rfl 12 (by decide) fl58 (fun _ h9 => h9) rfl dX9_triesBits_82 ?_
            refine lv_iload hx hb dX9_triesBits_85 (lv_at hl 0 rfl) ?_
            refine va_iald hx hb hK hP 2 0 rfl rfl (vp_in_nI (by omega) (by omega)) dX9_triesBits_87 ?_
            refine my_eqi (y := ms k) (congrArg ms (nI_clamp (by omega))) ?_
            have hb_18 := hR_ms k
            refine va_iast hx hb hK hP hD hS 4 0 rfl rfl (vp_in_nI (by omega) (by omega)) dX9_triesBits_88 (fun H locs hP hD hS => ?_)
            obtain ⟨g_19, eg_19⟩ : ∃ g : Nat → Int32, g = upd a_stood_61 (k + 448) (ms k) := ⟨_, rfl⟩
            have eU : upd a_stood_61 (nI (k + 448) : Int32).toNatClampNeg (ms k) = g_19 := by rw [eg_19, show (nI (k + 448) : Int32).toNatClampNeg = k + 448 from nI_clamp (by omega)]
            rw [eU] at hP hD
            have hR_g_19 : RB 0 63 g_19 := by rw [eg_19]; exact hR_a_stood_61.upd rfl (by omega) (by omega)
            have hP : va_P D vwCl (wl_kf_X9_triesBits_7 cI cJ cK m0 a_row a_tape a_number a_read a_readBits a_stands a_parted a_bitsWere a_stood a_chosen a_bestChosen a_often a_sorted a_risen a_risenWays m_thrown (nI m_told) (nI m_taped) (nI m_at) (nI m_to) (nI m_many) (nI m_readMany) m_fewest (nI m_size) mn ms mp g_19 mc me) H := hP
            have hD : va_D A (wl_kf_X9_triesBits_7 cI cJ cK m0 a_row a_tape a_number a_read a_readBits a_stands a_parted a_bitsWere a_stood a_chosen a_bestChosen a_often a_sorted a_risen a_risenWays m_thrown (nI m_told) (nI m_taped) (nI m_at) (nI m_to) (nI m_many) (nI m_readMany) m_fewest (nI m_size) mn ms mp g_19 mc me) := hD
            refine lv_iinc (v := nI (k + 1)) (lv' := [(4, .int (nI (k + 1))), (0, .ref m0), (1, .int 7), (2, .int (nI U)), (3, .int (nI ra))]) hx hb dX9_triesBits_89 hl (k := 0) rfl (my_incN k 1 (by decide +kernel)) (by decide) rfl (fun ls hl => ?_)
            refine lv_goto (tgt := 61) hx hb dX9_triesBits_92 (by decide) ?_
            exact ih61  (k + 1) g_19 (by omega) (by first | assumption | omega | decide +kernel) (by first | assumption | omega | decide +kernel) (th_s1 (a := 448) (by assumption) rfl hs61) (th_s2 (a := 448) (by assumption) (by omega) hs62) hR_g_19 _ _ ls hP hD hS (lv_sub hl [0, 1, 2, 3, 4] rfl)
      exact loop61 ((64 - 0) + 1) 0 mo (Nat.lt_succ_self _) (by first | assumption | omega | decide +kernel) (by first | assumption | omega | decide +kernel) (fun i h => absurd h (Nat.not_lt_zero i)) (fun _ _ => rfl) hR_mo _ _ ls hP hD hS (lv_sub hl [0, 1, 2, 3, 4] rfl)
    ·
      exact absurd c19 (by decide +kernel)
  refine lv_aload_n hx hb dX9_triesBits_0 rfl (lv_at hl 0 rfl) ?_
  refine va_get (ci := 9) (v := .int m_fewest) (C := RX9) (T := TX9) (N := 24) hx hb hts hi9 hown hK hP 0 rfl rfl 18 (by decide) fl162 (fun _ h9 => h9) rfl dX9_triesBits_1 ?_
  refine lv_if_lt (tgt := 16) hx hb dX9_triesBits_4 (by decide) (fun c4 => ?_) (fun c4 => ?_)
  ·
    have d4 : m_fewest.toInt < (0 : Int) := my_lt c4 rfl (by decide +kernel)
    exact cut16  _ _ ls hP hD hS hl
  ·
    have d4 : m_fewest.toInt ≥ (0 : Int) := my_nlt c4 rfl (by decide +kernel)
    refine lv_iload_n hx hb dX9_triesBits_7 rfl (lv_at hl 3 rfl) ?_
    refine lv_aload_n hx hb dX9_triesBits_8 rfl (lv_at hl 0 rfl) ?_
    refine va_get (ci := 9) (v := .int m_fewest) (C := RX9) (T := TX9) (N := 24) hx hb hts hi9 hown hK hP 0 rfl rfl 18 (by decide) fl162 (fun _ h9 => h9) rfl dX9_triesBits_9 ?_
    refine lv_icmp_lt (tgt := 16) hx hb dX9_triesBits_12 (by decide) (fun c12 => ?_) (fun c12 => ?_)
    ·
      have d12 : ((ra : Nat) : Int) < m_fewest.toInt := my_lt c12 (nI_toInt (by omega)) rfl
      exact cut16  _ _ ls hP hD hS hl
    ·
      have d12 : ((ra : Nat) : Int) ≥ m_fewest.toInt := my_nlt c12 (nI_toInt (by omega)) rfl
      exact my_retV hx hb hr hlocks hK hS (wl_kf_X9_triesBits_7 cI cJ cK m0 a_row a_tape a_number a_read a_readBits a_stands a_parted a_bitsWere a_stood a_chosen a_bestChosen a_often a_sorted a_risen a_risenWays m_thrown (nI m_told) (nI m_taped) (nI m_at) (nI m_to) (nI m_many) (nI m_readMany) m_fewest (nI m_size) mn ms mp mo mc me) hP hD (⟨m_fewest, ms, mp, mo, mc, me, rfl, hR_ms, hR_mp, hR_mo, (by first | exact th_end hfw2 (by omega) | exact th_prune hfw (by omega) (by omega)), (by first | exact hst2 | exact fun _ _ => rfl), (by first | exact hso3 | exact fun _ _ => rfl)⟩) dX9_triesBits_15
abbrev wl_kf_X9_triesBits_6 (cI cJ cK : ClassId) (m0 : Nat) (a_row : Nat) (a_tape : Nat) (a_number : Nat) (a_read : Nat) (a_readBits : Nat) (a_stands : Nat) (a_parted : Nat) (a_bitsWere : Nat) (a_stood : Nat) (a_chosen : Nat) (a_bestChosen : Nat) (a_often : Nat) (a_sorted : Nat) (a_risen : Nat) (a_risenWays : Nat) (v0_ : Int32) (v1_ : Int32) (v2_ : Int32) (v3_ : Int32) (v4_ : Int32) (v5_ : Int32) (v6_ : Int32) (v7_ : Int32) (v8_ : Int32) (v9_ : Nat → Int32) (v10_ : Nat → Int32) (v11_ : Nat → Int32) (v12_ : Nat → Int32) (v13_ : Nat → Int32) (v14_ : Nat → Int32) : va_W := [(m0, .inr (9, [.int v0_, .int v1_, .ref a_row, .ref a_tape, .int v2_, .int v3_, .int v4_, .int v5_, .ref a_number, .ref a_read, .int v6_, .ref a_readBits, .ref a_stands, .ref a_parted, .ref a_bitsWere, .ref a_stood, .ref a_chosen, .ref a_bestChosen, .int v7_, .ref a_often, .ref a_sorted, .int v8_, .ref a_risen, .ref a_risenWays])), (a_number, .inl (cI, 64, .inl v9_)), (a_stands, .inl (cI, 64, .inl v10_)), (a_parted, .inl (cI, 64, .inl v11_)), (a_stood, .inl (cI, 512, .inl v12_)), (a_chosen, .inl (cI, 8, .inl v13_)), (a_bestChosen, .inl (cI, 8, .inl v14_))]
set_option maxHeartbeats 4000000 in
set_option maxRecDepth 100000 in
theorem kf_X9_triesBits_6 (l : Launch) (D : va_G) (cI cJ cK : ClassId) (m0 : Nat) (a_row : Nat) (a_tape : Nat) (a_number : Nat) (a_read : Nat) (a_readBits : Nat) (a_stands : Nat) (a_parted : Nat) (a_bitsWere : Nat) (a_stood : Nat) (a_chosen : Nat) (a_bestChosen : Nat) (a_often : Nat) (a_sorted : Nat) (a_risen : Nat) (a_risenWays : Nat) (m_thrown : Int32) (m_told : Nat) (m_taped : Nat) (m_at : Nat) (m_to : Nat) (m_many : Nat) (m_readMany : Nat) (m_fewest : Int32) (m_size : Nat) (mn : Nat → Int32) (ms : Nat → Int32) (mp : Nat → Int32) (mo : Nat → Int32) (mc : Nat → Int32) (me : Nat → Int32) (U : Nat) (ra : Nat) (F : Nat) (hz_m_told : m_told ≤ 64) (hz_m_taped : m_taped ≤ 100) (hz_m_at : m_at ≤ 100) (hz_m_to : m_to ≤ 100) (hz_m_many : m_many ≤ 64) (hz_m_readMany : m_readMany ≤ 64) (hz_m_size : m_size ≤ 64) (hR_mn : RB 0 255 mn) (hR_ms : RB 0 63 ms) (hR_mp : RB 0 63 mp) (hR_mo : RB 0 63 mo) (hU : U < 256) (hra : ra ≤ 384) (hfw : fwR m_fewest F) : ctV l yX9_triesBits wsX9_triesBits ({ frames := 3, cells := 0, slots := 0, locals := 180 } : Room) D (tyIJ cI cJ cK) [.ref m0, .int 6, .int (nI U), .int (nI ra)] (wl_kf_X9_triesBits_6 cI cJ cK m0 a_row a_tape a_number a_read a_readBits a_stands a_parted a_bitsWere a_stood a_chosen a_bestChosen a_often a_sorted a_risen a_risenWays m_thrown (nI m_told) (nI m_taped) (nI m_at) (nI m_to) (nI m_many) (nI m_readMany) m_fewest (nI m_size) mn ms mp mo mc me) (fun (u : va_W) => ∃ (m_fewest' : Int32) (ms' : Nat → Int32) (mp' : Nat → Int32) (mo' : Nat → Int32) (mc' : Nat → Int32) (me' : Nat → Int32), u = (wl_kf_X9_triesBits_6 cI cJ cK m0 a_row a_tape a_number a_read a_readBits a_stands a_parted a_bitsWere a_stood a_chosen a_bestChosen a_often a_sorted a_risen a_risenWays m_thrown (nI m_told) (nI m_taped) (nI m_at) (nI m_to) (nI m_many) (nI m_readMany) m_fewest' (nI m_size) mn ms' mp' mo' mc' me') ∧ RB 0 63 ms' ∧ RB 0 63 mp' ∧ RB 0 63 mo' ∧ fwR m_fewest' (min F (ra + tT m_many 2 (vG mn ms) (uS U))) ∧ (∀ i, i < m_many → ms' i = ms i) ∧ (∀ q, q < 384 → mo' q = mo q)) := by
  refine ctV.of (cc := cX9_triesBits) (maxL := 7) (ret := none) (by decide) rfl (Nat.le_of_ble_eq_true rfl) ?_
  intro p e s m below meth c ls A hx hb hr hts hown hml hlocks hname hA hK hN hP hD hS hl
  have hl : lv_has ls 7 [(0, .ref m0), (1, .int 6), (2, .int (nI U)), (3, .int (nI ra))] := hl
  have hown : s.vm.findClass RX9 = some m.cls := hown
  have hi9 : ∀ w ∈ u_ws RX9 TX9 24, w ∈ wsX9_triesBits := by decide +kernel
  have fl162 := hts (.fieldLink RX9 162 "PlaneColumnModel" "fewest" "I") (by decide +kernel)
  have fl58 := hts (.fieldLink RX9 58 "PlaneColumnModel" "stands" "[I") (by decide +kernel)
  have fl67 := hts (.fieldLink RX9 67 "PlaneColumnModel" "stood" "[I") (by decide +kernel)
  have fl70 := hts (.fieldLink RX9 70 "PlaneColumnModel" "chosen" "[I") (by decide +kernel)
  have fl88 := hts (.fieldLink RX9 88 "PlaneColumnModel" "many" "I") (by decide +kernel)
  have cut16 : ∀ (H : Heap) (locs : List Loc) (ls : Array Slot), va_P D vwCl (wl_kf_X9_triesBits_6 cI cJ cK m0 a_row a_tape a_number a_read a_readBits a_stands a_parted a_bitsWere a_stood a_chosen a_bestChosen a_often a_sorted a_risen a_risenWays m_thrown (nI m_told) (nI m_taped) (nI m_at) (nI m_to) (nI m_many) (nI m_readMany) m_fewest (nI m_size) mn ms mp mo mc me) H → va_D A (wl_kf_X9_triesBits_6 cI cJ cK m0 a_row a_tape a_number a_read a_readBits a_stands a_parted a_bitsWere a_stood a_chosen a_bestChosen a_often a_sorted a_risen a_risenWays m_thrown (nI m_told) (nI m_taped) (nI m_at) (nI m_to) (nI m_many) (nI m_readMany) m_fewest (nI m_size) mn ms mp mo mc me) → va_S A s.heap H locs → lv_has ls 7 [(0, .ref m0), (1, .int 6), (2, .int (nI U)), (3, .int (nI ra))] → W p l e ({ frames := 3, cells := 0, slots := 0, locals := 180 } : Room) s m [.ref m0, .int 6, .int (nI U), .int (nI ra)].toArray below meth c H locs 0 0 (MQ below (va_Qv (fun (u : va_W) => ∃ (m_fewest' : Int32) (ms' : Nat → Int32) (mp' : Nat → Int32) (mo' : Nat → Int32) (mc' : Nat → Int32) (me' : Nat → Int32), u = (wl_kf_X9_triesBits_6 cI cJ cK m0 a_row a_tape a_number a_read a_readBits a_stands a_parted a_bitsWere a_stood a_chosen a_bestChosen a_often a_sorted a_risen a_risenWays m_thrown (nI m_told) (nI m_taped) (nI m_at) (nI m_to) (nI m_many) (nI m_readMany) m_fewest' (nI m_size) mn ms' mp' mo' mc' me') ∧ RB 0 63 ms' ∧ RB 0 63 mp' ∧ RB 0 63 mo' ∧ fwR m_fewest' (min F (ra + tT m_many 2 (vG mn ms) (uS U))) ∧ (∀ i, i < m_many → ms' i = ms i) ∧ (∀ q, q < 384 → mo' q = mo q)) (my_B D (tyIJ cI cJ cK) A) A) [.ref m0, .int 6, .int (nI U), .int (nI ra)].toArray s 0 0 A) (F0 m 16 ls []) := by
    intro H locs ls hP hD hS hl
    refine lv_iload_n hx hb dX9_triesBits_16 rfl (lv_at hl 1 rfl) ?_
    refine lv_bipush (v := 8) hx hb dX9_triesBits_17 (by decide +kernel) ?_
    refine lv_icmp_ne (tgt := 58) hx hb dX9_triesBits_19 (by decide) (fun c19 => ?_) (fun c19 => ?_)
    ·
      refine lv_iconst (v := 0) hx hb dX9_triesBits_58 (by decide +kernel) ?_
      refine lv_istore (lv' := [(4, .int 0), (0, .ref m0), (1, .int 6), (2, .int (nI U)), (3, .int (nI ra))]) hx hb dX9_triesBits_59 hl (by decide) rfl (fun ls hl => ?_)
      have loop61 : ∀ (n9 : Nat) (k : Nat) (a_stood_61 : Nat → Int32), 64 - k < n9 → (k ≤ 64) → (k ≤ m_many) → (∀ i, i < k → a_stood_61 (i + 384) = ms i) → (∀ q, q < 384 → a_stood_61 q = mo q) → (RB 0 63 a_stood_61) → ∀ (H : Heap) (locs : List Loc) (ls : Array Slot), va_P D vwCl (wl_kf_X9_triesBits_6 cI cJ cK m0 a_row a_tape a_number a_read a_readBits a_stands a_parted a_bitsWere a_stood a_chosen a_bestChosen a_often a_sorted a_risen a_risenWays m_thrown (nI m_told) (nI m_taped) (nI m_at) (nI m_to) (nI m_many) (nI m_readMany) m_fewest (nI m_size) mn ms mp a_stood_61 mc me) H → va_D A (wl_kf_X9_triesBits_6 cI cJ cK m0 a_row a_tape a_number a_read a_readBits a_stands a_parted a_bitsWere a_stood a_chosen a_bestChosen a_often a_sorted a_risen a_risenWays m_thrown (nI m_told) (nI m_taped) (nI m_at) (nI m_to) (nI m_many) (nI m_readMany) m_fewest (nI m_size) mn ms mp a_stood_61 mc me) → va_S A s.heap H locs → lv_has ls 7 [(4, .int (nI k)), (0, .ref m0), (1, .int 6), (2, .int (nI U)), (3, .int (nI ra))] → W p l e ({ frames := 3, cells := 0, slots := 0, locals := 180 } : Room) s m [.ref m0, .int 6, .int (nI U), .int (nI ra)].toArray below meth c H locs 0 0 (MQ below (va_Qv (fun (u : va_W) => ∃ (m_fewest' : Int32) (ms' : Nat → Int32) (mp' : Nat → Int32) (mo' : Nat → Int32) (mc' : Nat → Int32) (me' : Nat → Int32), u = (wl_kf_X9_triesBits_6 cI cJ cK m0 a_row a_tape a_number a_read a_readBits a_stands a_parted a_bitsWere a_stood a_chosen a_bestChosen a_often a_sorted a_risen a_risenWays m_thrown (nI m_told) (nI m_taped) (nI m_at) (nI m_to) (nI m_many) (nI m_readMany) m_fewest' (nI m_size) mn ms' mp' mo' mc' me') ∧ RB 0 63 ms' ∧ RB 0 63 mp' ∧ RB 0 63 mo' ∧ fwR m_fewest' (min F (ra + tT m_many 2 (vG mn ms) (uS U))) ∧ (∀ i, i < m_many → ms' i = ms i) ∧ (∀ q, q < 384 → mo' q = mo q)) (my_B D (tyIJ cI cJ cK) A) A) [.ref m0, .int 6, .int (nI U), .int (nI ra)].toArray s 0 0 A) (F0 m 61 ls []) := by
        intro n9
        induction n9 with
        | zero =>
          intro k a_stood_61 hn9
          exact absurd hn9 (Nat.not_lt_zero _)
        | succ n9 ih61 =>
          intro k a_stood_61 hn9 hk_k hkm hs61 hs62 hR_a_stood_61 H locs ls hP hD hS hl
          refine lv_iload hx hb dX9_triesBits_61 (lv_at hl 0 rfl) ?_
          refine lv_aload_n hx hb dX9_triesBits_63 rfl (lv_at hl 1 rfl) ?_
          refine va_get (ci := 9) (v := .int (nI m_many)) (C := RX9) (T := TX9) (N := 24) hx hb hts hi9 hown hK hP 0 rfl rfl 7 (by decide) fl88 (fun _ h9 => h9) rfl dX9_triesBits_64 ?_
          refine lv_icmp_ge (tgt := 95) hx hb dX9_triesBits_67 (by decide) (fun c67 => ?_) (fun c67 => ?_)
          ·
            have d67 : ((k : Nat) : Int) ≥ ((m_many : Nat) : Int) := my_ge c67 (nI_toInt (by omega)) (nI_toInt (by omega))
            refine lv_bipush (v := 7) hx hb dX9_triesBits_95 (by decide +kernel) ?_
            refine lv_istore (lv' := [(4, .int 7), (0, .ref m0), (1, .int 6), (2, .int (nI U)), (3, .int (nI ra))]) hx hb dX9_triesBits_97 hl (by decide) rfl (fun ls hl => ?_)
            have loop99 : ∀ (n9 : Nat) (x : Int32) (m0_fewest_99 : Int32) (a_stands_99 : Nat → Int32) (a_parted_99 : Nat → Int32) (a_stood_99 : Nat → Int32) (a_chosen_99 : Nat → Int32) (a_bestChosen_99 : Nat → Int32), (x.toInt + 1).toNat < n9 → (-1 ≤ x.toInt) → (x.toInt ≤ 7) → (fwR m0_fewest_99 (min F (ra + tM (tF m_many 1 (vG mn ms) (uS U)) (uS U) (7 - x.toInt).toNat))) → (∀ i, i < m_many → a_stands_99 i = ms i) → (∀ i, i < m_many → a_stood_99 (i + 384) = ms i) → (∀ q, q < 384 → a_stood_99 q = mo q) → (RB 0 63 a_stands_99) → (RB 0 63 a_parted_99) → (RB 0 63 a_stood_99) → ∀ (H : Heap) (locs : List Loc) (ls : Array Slot), va_P D vwCl (wl_kf_X9_triesBits_6 cI cJ cK m0 a_row a_tape a_number a_read a_readBits a_stands a_parted a_bitsWere a_stood a_chosen a_bestChosen a_often a_sorted a_risen a_risenWays m_thrown (nI m_told) (nI m_taped) (nI m_at) (nI m_to) (nI m_many) (nI m_readMany) m0_fewest_99 (nI m_size) mn a_stands_99 a_parted_99 a_stood_99 a_chosen_99 a_bestChosen_99) H → va_D A (wl_kf_X9_triesBits_6 cI cJ cK m0 a_row a_tape a_number a_read a_readBits a_stands a_parted a_bitsWere a_stood a_chosen a_bestChosen a_often a_sorted a_risen a_risenWays m_thrown (nI m_told) (nI m_taped) (nI m_at) (nI m_to) (nI m_many) (nI m_readMany) m0_fewest_99 (nI m_size) mn a_stands_99 a_parted_99 a_stood_99 a_chosen_99 a_bestChosen_99) → va_S A s.heap H locs → lv_has ls 7 [(4, .int x), (0, .ref m0), (1, .int 6), (2, .int (nI U)), (3, .int (nI ra))] → W p l e ({ frames := 3, cells := 0, slots := 0, locals := 180 } : Room) s m [.ref m0, .int 6, .int (nI U), .int (nI ra)].toArray below meth c H locs 0 0 (MQ below (va_Qv (fun (u : va_W) => ∃ (m_fewest' : Int32) (ms' : Nat → Int32) (mp' : Nat → Int32) (mo' : Nat → Int32) (mc' : Nat → Int32) (me' : Nat → Int32), u = (wl_kf_X9_triesBits_6 cI cJ cK m0 a_row a_tape a_number a_read a_readBits a_stands a_parted a_bitsWere a_stood a_chosen a_bestChosen a_often a_sorted a_risen a_risenWays m_thrown (nI m_told) (nI m_taped) (nI m_at) (nI m_to) (nI m_many) (nI m_readMany) m_fewest' (nI m_size) mn ms' mp' mo' mc' me') ∧ RB 0 63 ms' ∧ RB 0 63 mp' ∧ RB 0 63 mo' ∧ fwR m_fewest' (min F (ra + tT m_many 2 (vG mn ms) (uS U))) ∧ (∀ i, i < m_many → ms' i = ms i) ∧ (∀ q, q < 384 → mo' q = mo q)) (my_B D (tyIJ cI cJ cK) A) A) [.ref m0, .int 6, .int (nI U), .int (nI ra)].toArray s 0 0 A) (F0 m 99 ls []) := by
              intro n9
              induction n9 with
              | zero =>
                intro x m0_fewest_99 a_stands_99 a_parted_99 a_stood_99 a_chosen_99 a_bestChosen_99 hn9
                exact absurd hn9 (Nat.not_lt_zero _)
              | succ n9 ih99 =>
                intro x m0_fewest_99 a_stands_99 a_parted_99 a_stood_99 a_chosen_99 a_bestChosen_99 hn9 hx0 hx1 hfw2 hst2 hso2 hso3 hR_a_stands_99 hR_a_parted_99 hR_a_stood_99 H locs ls hP hD hS hl
                refine lv_iload hx hb dX9_triesBits_99 (lv_at hl 0 rfl) ?_
                refine lv_if_lt (tgt := 195) hx hb dX9_triesBits_101 (by decide) (fun c101 => ?_) (fun c101 => ?_)
                ·
                  have d101 : x.toInt < (0 : Int) := my_lt c101 rfl (by decide +kernel)
                  exact my_retV hx hb hr hlocks hK hS (wl_kf_X9_triesBits_6 cI cJ cK m0 a_row a_tape a_number a_read a_readBits a_stands a_parted a_bitsWere a_stood a_chosen a_bestChosen a_often a_sorted a_risen a_risenWays m_thrown (nI m_told) (nI m_taped) (nI m_at) (nI m_to) (nI m_many) (nI m_readMany) m0_fewest_99 (nI m_size) mn a_stands_99 a_parted_99 a_stood_99 a_chosen_99 a_bestChosen_99) hP hD (⟨m0_fewest_99, a_stands_99, a_parted_99, a_stood_99, a_chosen_99, a_bestChosen_99, rfl, hR_a_stands_99, hR_a_parted_99, hR_a_stood_99, (by first | exact th_end hfw2 (by omega) | exact th_prune hfw (by omega) (by omega)), (by first | exact hst2 | exact fun _ _ => rfl), (by first | exact hso3 | exact fun _ _ => rfl)⟩) dX9_triesBits_195
                ·
                  have d101 : x.toInt ≥ (0 : Int) := my_nlt c101 rfl (by decide +kernel)
                  obtain ⟨w_1, rfl, hw_1⟩ := my_natP (x := x) (by omega)
                  have hlw_1 : w_1 < 2147483648 := by have h9 := Int32.toInt_lt (nI w_1); omega
                  refine lv_iload_n hx hb dX9_triesBits_104 rfl (lv_at hl 3 rfl) ?_
                  refine lv_iload hx hb dX9_triesBits_105 (lv_at hl 0 rfl) ?_
                  refine lv_ishr hx hb dX9_triesBits_107 ?_
                  refine my_eqi (y := nI (U / 2 ^ w_1)) (my_shrG (by omega) (by omega)) ?_
                  refine lv_iconst (v := 1) hx hb dX9_triesBits_108 (by decide +kernel) ?_
                  refine lv_iand hx hb dX9_triesBits_109 ?_
                  refine my_eqi (y := nI ((U / 2 ^ w_1) % 2)) (my_maskN _ 1) ?_
                  refine lv_if_ne (tgt := 189) hx hb dX9_triesBits_110 (by decide) (fun c110 => ?_) (fun c110 => ?_)
                  ·
                    have d110 : (((U / 2 ^ w_1) % 2 : Nat) : Int) ≠ (0 : Int) := my_ne c110 (nI_toInt (by omega)) (by decide +kernel)
                    obtain ⟨z_2, ez_2⟩ : ∃ y : Int32, y = nI w_1 + (-1) := ⟨_, rfl⟩
                    try have tz_2 : z_2.toInt = ((w_1 : Nat) : Int) + (-1) := by rw [ez_2]; exact my_addI (nI_toInt (by omega)) (by decide +kernel) (by omega) (by omega)
                    refine lv_iinc (v := z_2) (lv' := [(4, .int z_2), (0, .ref m0), (1, .int 6), (2, .int (nI U)), (3, .int (nI ra))]) hx hb dX9_triesBits_189 hl (k := 0) rfl (by rw [ez_2]; rfl) (by decide) rfl (fun ls hl => ?_)
                    refine lv_goto (tgt := 99) hx hb dX9_triesBits_192 (by decide) ?_
                    exact ih99  z_2 m0_fewest_99 a_stands_99 a_parted_99 a_stood_99 a_chosen_99 a_bestChosen_99 (by omega) (by first | assumption | omega | decide +kernel) (by first | assumption | omega | decide +kernel) (by first | exact th_skip hfw2 (by omega) (by omega) (by omega) (su_f d110 (by omega)) | exact th_done hfw1 (by omega) (by omega) (by omega) (su_t d110 (by omega)) (th_take (by omega) (by omega) hU hst2 hpt hrn)) (by first | exact hst2 | exact fun i hi => hrs i (by omega)) (by first | exact hso2 | exact fun i hi => (hso1 _ (by omega)).trans (hso2 i hi)) (by first | exact hso3 | exact fun q hq => (hso1 q (by omega)).trans (hso3 q hq)) hR_a_stands_99 hR_a_parted_99 hR_a_stood_99 _ _ ls hP hD hS (lv_sub hl [0, 1, 2, 3, 4] rfl)
                  ·
                    have d110 : (((U / 2 ^ w_1) % 2 : Nat) : Int) = (0 : Int) := my_eq c110 (nI_toInt (by omega)) (by decide +kernel)
                    refine lv_aload_n hx hb dX9_triesBits_113 rfl (lv_at hl 1 rfl) ?_
                    refine va_get (ci := 9) (v := .ref a_chosen) (C := RX9) (T := TX9) (N := 24) hx hb hts hi9 hown hK hP 0 rfl rfl 16 (by decide) fl70 (fun _ h9 => h9) rfl dX9_triesBits_114 ?_
                    refine lv_iload_n hx hb dX9_triesBits_117 rfl (lv_at hl 2 rfl) ?_
                    refine lv_iload hx hb dX9_triesBits_118 (lv_at hl 0 rfl) ?_
                    refine va_iast hx hb hK hP hD hS 5 0 rfl rfl (vp_in_nI (n := 6) (by omega) (by omega)) dX9_triesBits_120 (fun H locs hP hD hS => ?_)
                    obtain ⟨g_3, eg_3⟩ : ∃ g : Nat → Int32, g = upd a_chosen_99 6 (nI w_1) := ⟨_, rfl⟩
                    have eU : upd a_chosen_99 (6 : Int32).toNatClampNeg (nI w_1) = g_3 := by rw [eg_3, show (6 : Int32).toNatClampNeg = 6 from by decide +kernel]
                    rw [eU] at hP hD
                    have hP : va_P D vwCl (wl_kf_X9_triesBits_6 cI cJ cK m0 a_row a_tape a_number a_read a_readBits a_stands a_parted a_bitsWere a_stood a_chosen a_bestChosen a_often a_sorted a_risen a_risenWays m_thrown (nI m_told) (nI m_taped) (nI m_at) (nI m_to) (nI m_many) (nI m_readMany) m0_fewest_99 (nI m_size) mn a_stands_99 a_parted_99 a_stood_99 g_3 a_bestChosen_99) H := hP
                    have hD : va_D A (wl_kf_X9_triesBits_6 cI cJ cK m0 a_row a_tape a_number a_read a_readBits a_stands a_parted a_bitsWere a_stood a_chosen a_bestChosen a_often a_sorted a_risen a_risenWays m_thrown (nI m_told) (nI m_taped) (nI m_at) (nI m_to) (nI m_many) (nI m_readMany) m0_fewest_99 (nI m_size) mn a_stands_99 a_parted_99 a_stood_99 g_3 a_bestChosen_99) := hD
                    refine lv_aload_n hx hb dX9_triesBits_121 rfl (lv_at hl 1 rfl) ?_
                    refine lv_iload hx hb dX9_triesBits_122 (lv_at hl 0 rfl) ?_
                    refine my_gpI (my_pV (As := [.int (nI w_1)]) (rest := []) (ci := 9) ⟨hx, hb, hml, hown, hts⟩ (cwV 1 hts gX9_triesBits_X9_runsOf rfl rfl rfl (by decide +kernel) ⟨Nat.le_of_ble_eq_true rfl, Nat.le_of_ble_eq_true rfl⟩) hN hK hP [0, 1, 2] rfl 0 rfl rfl rfl rfl hl.1 rfl (Nat.le_of_ble_eq_true rfl) dX9_triesBits_124 ⟨Nat.le_of_ble_eq_true rfl, Nat.le_of_ble_eq_true rfl⟩  (kf_X9_runsOf l D cI cJ cK m0 a_row a_tape a_number a_read a_readBits a_stands a_parted a_bitsWere a_stood a_chosen a_bestChosen a_often a_sorted a_risen a_risenWays m_thrown m_told m_taped m_at m_to m_many m_readMany m0_fewest_99 m_size mn a_stands_99 w_1 (by first | assumption | omega | decide +kernel) (by first | assumption | omega | decide +kernel) (by first | assumption | omega | decide +kernel) (by first | assumption | omega | decide +kernel) (by first | assumption | omega | decide +kernel) (by first | assumption | omega | decide +kernel) (by first | assumption | omega | decide +kernel) hR_mn hR_a_stands_99 (by first | assumption | omega | decide +kernel))) (fun r hp => ?_)
                    obtain ⟨t_4, rfl, hrn, hq_5⟩ := hp
                    refine lv_istore (lv' := [(5, .int (nI t_4)), (4, .int (nI w_1)), (0, .ref m0), (1, .int 6), (2, .int (nI U)), (3, .int (nI ra))]) hx hb dX9_triesBits_127 hl (by decide) rfl (fun ls hl => ?_)
                    refine lv_aload_n hx hb dX9_triesBits_129 rfl (lv_at hl 2 rfl) ?_
                    refine lv_iload hx hb dX9_triesBits_130 (lv_at hl 1 rfl) ?_
                    refine my_goVS (wc := (wl_kf_X9_parts cI cJ cK m0 a_row a_tape a_number a_read a_readBits a_stands a_parted a_bitsWere a_stood a_chosen a_bestChosen a_often a_sorted a_risen a_risenWays m_thrown (nI m_told) (nI m_taped) (nI m_at) (nI m_to) (nI m_many) (nI m_readMany) m0_fewest_99 (nI m_size) mn a_stands_99 a_parted_99)) hP hD hS hA [0, 1, 2, 3] rfl [some 0, some 1, some 2, some 3] (by decide +kernel) (my_cV (As := [.int (nI w_1)]) (rest := []) (ci := 9) (wc := (wl_kf_X9_parts cI cJ cK m0 a_row a_tape a_number a_read a_readBits a_stands a_parted a_bitsWere a_stood a_chosen a_bestChosen a_often a_sorted a_risen a_risenWays m_thrown (nI m_told) (nI m_taped) (nI m_at) (nI m_to) (nI m_many) (nI m_readMany) m0_fewest_99 (nI m_size) mn a_stands_99 a_parted_99)) ⟨hx, hb, hml, hown, hts⟩ (cwV 1 hts gX9_triesBits_X9_parts rfl rfl rfl (by decide +kernel) ⟨Nat.le_of_ble_eq_true rfl, Nat.le_of_ble_eq_true rfl⟩) hN hK hP hD [0, 1, 2, 3] rfl (by decide) rfl 0 rfl rfl rfl rfl hl.1 rfl (Nat.le_of_ble_eq_true rfl) dX9_triesBits_132 ⟨Nat.le_of_ble_eq_true rfl, Nat.le_of_ble_eq_true rfl⟩  ((kf_X9_parts l D cI cJ cK m0 a_row a_tape a_number a_read a_readBits a_stands a_parted a_bitsWere a_stood a_chosen a_bestChosen a_often a_sorted a_risen a_risenWays m_thrown m_told m_taped m_at m_to m_many m_readMany m0_fewest_99 m_size mn a_stands_99 a_parted_99 w_1 (by first | assumption | omega | decide +kernel) (by first | assumption | omega | decide +kernel) (by first | assumption | omega | decide +kernel) (by first | assumption | omega | decide +kernel) (by first | assumption | omega | decide +kernel) (by first | assumption | omega | decide +kernel) (by first | assumption | omega | decide +kernel) hR_mn hR_a_stands_99 hR_a_parted_99 (by first | assumption | omega | decide +kernel)) _)) (fun u H locs hp hPD hS => ?_)
                    obtain ⟨ms_6, mp_7, rfl, hR_ms_6, hR_mp_7, hpt⟩ := hp
                    obtain ⟨hP, hD⟩ := hPD rfl
                    have hP : va_P D vwCl (wl_kf_X9_triesBits_6 cI cJ cK m0 a_row a_tape a_number a_read a_readBits a_stands a_parted a_bitsWere a_stood a_chosen a_bestChosen a_often a_sorted a_risen a_risenWays m_thrown (nI m_told) (nI m_taped) (nI m_at) (nI m_to) (nI m_many) (nI m_readMany) m0_fewest_99 (nI m_size) mn ms_6 mp_7 a_stood_99 g_3 a_bestChosen_99) H := hP
                    have hD : va_D A (wl_kf_X9_triesBits_6 cI cJ cK m0 a_row a_tape a_number a_read a_readBits a_stands a_parted a_bitsWere a_stood a_chosen a_bestChosen a_often a_sorted a_risen a_risenWays m_thrown (nI m_told) (nI m_taped) (nI m_at) (nI m_to) (nI m_many) (nI m_readMany) m0_fewest_99 (nI m_size) mn ms_6 mp_7 a_stood_99 g_3 a_bestChosen_99) := hD
                    refine lv_aload_n hx hb dX9_triesBits_135 rfl (lv_at hl 2 rfl) ?_
                    refine lv_iload_n hx hb dX9_triesBits_136 rfl (lv_at hl 3 rfl) ?_
                    refine lv_iconst (v := 1) hx hb dX9_triesBits_137 (by decide +kernel) ?_
                    refine lv_iadd hx hb dX9_triesBits_138 ?_
                    refine my_eqi (y := 7) (by decide +kernel) ?_
                    refine lv_iload_n hx hb dX9_triesBits_139 rfl (lv_at hl 4 rfl) ?_
                    refine lv_iconst (v := 1) hx hb dX9_triesBits_140 (by decide +kernel) ?_
                    refine lv_iload hx hb dX9_triesBits_141 (lv_at hl 1 rfl) ?_
                    refine lv_ishl hx hb dX9_triesBits_143 ?_
                    refine my_eqi (y := nI (2 ^ w_1)) (my_shl1 (by omega)) ?_
                    refine lv_ior hx hb dX9_triesBits_144 ?_
                    refine my_eqi (y := nI (U ||| (2 ^ w_1))) (fa_or _ _) ?_
                    refine lv_iload_n hx hb dX9_triesBits_145 rfl (lv_at hl 5 rfl) ?_
                    refine lv_iload hx hb dX9_triesBits_146 (lv_at hl 0 rfl) ?_
                    refine lv_iadd hx hb dX9_triesBits_148 ?_
                    refine my_eqi (y := nI (ra + t_4)) (nI_add _ _) ?_
                    refine my_goVS (wc := (wl_kf_X9_triesBits_7 cI cJ cK m0 a_row a_tape a_number a_read a_readBits a_stands a_parted a_bitsWere a_stood a_chosen a_bestChosen a_often a_sorted a_risen a_risenWays m_thrown (nI m_told) (nI m_taped) (nI m_at) (nI m_to) (nI m_many) (nI m_readMany) m0_fewest_99 (nI m_size) mn ms_6 mp_7 a_stood_99 g_3 a_bestChosen_99)) hP hD hS hA [0, 1, 2, 3, 4, 5, 6] rfl [some 0, some 1, some 2, some 3, some 4, some 5, some 6] (by decide +kernel) (my_cV (As := [.int 7, .int (nI (U ||| (2 ^ w_1))), .int (nI (ra + t_4))]) (rest := []) (ci := 9) (wc := (wl_kf_X9_triesBits_7 cI cJ cK m0 a_row a_tape a_number a_read a_readBits a_stands a_parted a_bitsWere a_stood a_chosen a_bestChosen a_often a_sorted a_risen a_risenWays m_thrown (nI m_told) (nI m_taped) (nI m_at) (nI m_to) (nI m_many) (nI m_readMany) m0_fewest_99 (nI m_size) mn ms_6 mp_7 a_stood_99 g_3 a_bestChosen_99)) ⟨hx, hb, hml, hown, hts⟩ (cwV 3 hts gX9_triesBits_X9_triesBits rfl rfl rfl (by decide +kernel) ⟨Nat.le_of_ble_eq_true rfl, Nat.le_of_ble_eq_true rfl⟩) hN hK hP hD [0, 1, 2, 3, 4, 5, 6] rfl (by decide) rfl 0 rfl rfl rfl rfl hl.1 rfl (Nat.le_of_ble_eq_true rfl) dX9_triesBits_149 ⟨Nat.le_of_ble_eq_true rfl, Nat.le_of_ble_eq_true rfl⟩  ((kf_X9_triesBits_7 l D cI cJ cK m0 a_row a_tape a_number a_read a_readBits a_stands a_parted a_bitsWere a_stood a_chosen a_bestChosen a_often a_sorted a_risen a_risenWays m_thrown m_told m_taped m_at m_to m_many m_readMany m0_fewest_99 m_size mn ms_6 mp_7 a_stood_99 g_3 a_bestChosen_99 (U ||| (2 ^ w_1)) (ra + t_4) (min F (ra + tM (tF m_many 1 (vG mn ms) (uS U)) (uS U) (7 - (nI w_1).toInt).toNat)) (by first | assumption | omega | decide +kernel) (by first | assumption | omega | decide +kernel) (by first | assumption | omega | decide +kernel) (by first | assumption | omega | decide +kernel) (by first | assumption | omega | decide +kernel) (by first | assumption | omega | decide +kernel) (by first | assumption | omega | decide +kernel) hR_mn hR_ms_6 hR_mp_7 hR_a_stood_99 ((or_b U hU _ (by omega)).1) (by first | assumption | omega | decide +kernel) (hfw2)) _)) (fun u H locs hp hPD hS => ?_)
                    obtain ⟨m_fewest_8, ms_9, mp_10, mo_11, mc_12, me_13, rfl, hR_ms_9, hR_mp_10, hR_mo_11, hfw1, hst1, hso1⟩ := hp
                    obtain ⟨hP, hD⟩ := hPD rfl
                    have hP : va_P D vwCl (wl_kf_X9_triesBits_6 cI cJ cK m0 a_row a_tape a_number a_read a_readBits a_stands a_parted a_bitsWere a_stood a_chosen a_bestChosen a_often a_sorted a_risen a_risenWays m_thrown (nI m_told) (nI m_taped) (nI m_at) (nI m_to) (nI m_many) (nI m_readMany) m_fewest_8 (nI m_size) mn ms_9 mp_10 mo_11 mc_12 me_13) H := hP
                    have hD : va_D A (wl_kf_X9_triesBits_6 cI cJ cK m0 a_row a_tape a_number a_read a_readBits a_stands a_parted a_bitsWere a_stood a_chosen a_bestChosen a_often a_sorted a_risen a_risenWays m_thrown (nI m_told) (nI m_taped) (nI m_at) (nI m_to) (nI m_many) (nI m_readMany) m_fewest_8 (nI m_size) mn ms_9 mp_10 mo_11 mc_12 me_13) := hD
                    refine lv_iconst (v := 0) hx hb dX9_triesBits_152 (by decide +kernel) ?_
                    refine lv_istore (lv' := [(6, .int 0), (5, .int (nI t_4)), (4, .int (nI w_1)), (0, .ref m0), (1, .int 6), (2, .int (nI U)), (3, .int (nI ra))]) hx hb dX9_triesBits_153 hl (by decide) rfl (fun ls hl => ?_)
                    have loop155 : ∀ (n9 : Nat) (k : Nat) (a_stands_155 : Nat → Int32), 64 - k < n9 → (k ≤ 64) → (k ≤ m_many) → (∀ i, i < k → a_stands_155 i = ms i) → (RB 0 63 a_stands_155) → ∀ (H : Heap) (locs : List Loc) (ls : Array Slot), va_P D vwCl (wl_kf_X9_triesBits_6 cI cJ cK m0 a_row a_tape a_number a_read a_readBits a_stands a_parted a_bitsWere a_stood a_chosen a_bestChosen a_often a_sorted a_risen a_risenWays m_thrown (nI m_told) (nI m_taped) (nI m_at) (nI m_to) (nI m_many) (nI m_readMany) m_fewest_8 (nI m_size) mn a_stands_155 mp_10 mo_11 mc_12 me_13) H → va_D A (wl_kf_X9_triesBits_6 cI cJ cK m0 a_row a_tape a_number a_read a_readBits a_stands a_parted a_bitsWere a_stood a_chosen a_bestChosen a_often a_sorted a_risen a_risenWays m_thrown (nI m_told) (nI m_taped) (nI m_at) (nI m_to) (nI m_many) (nI m_readMany) m_fewest_8 (nI m_size) mn a_stands_155 mp_10 mo_11 mc_12 me_13) → va_S A s.heap H locs → lv_has ls 7 [(6, .int (nI k)), (5, .int (nI t_4)), (4, .int (nI w_1)), (0, .ref m0), (1, .int 6), (2, .int (nI U)), (3, .int (nI ra))] → W p l e ({ frames := 3, cells := 0, slots := 0, locals := 180 } : Room) s m [.ref m0, .int 6, .int (nI U), .int (nI ra)].toArray below meth c H locs 0 0 (MQ below (va_Qv (fun (u : va_W) => ∃ (m_fewest' : Int32) (ms' : Nat → Int32) (mp' : Nat → Int32) (mo' : Nat → Int32) (mc' : Nat → Int32) (me' : Nat → Int32), u = (wl_kf_X9_triesBits_6 cI cJ cK m0 a_row a_tape a_number a_read a_readBits a_stands a_parted a_bitsWere a_stood a_chosen a_bestChosen a_often a_sorted a_risen a_risenWays m_thrown (nI m_told) (nI m_taped) (nI m_at) (nI m_to) (nI m_many) (nI m_readMany) m_fewest' (nI m_size) mn ms' mp' mo' mc' me') ∧ RB 0 63 ms' ∧ RB 0 63 mp' ∧ RB 0 63 mo' ∧ fwR m_fewest' (min F (ra + tT m_many 2 (vG mn ms) (uS U))) ∧ (∀ i, i < m_many → ms' i = ms i) ∧ (∀ q, q < 384 → mo' q = mo q)) (my_B D (tyIJ cI cJ cK) A) A) [.ref m0, .int 6, .int (nI U), .int (nI ra)].toArray s 0 0 A) (F0 m 155 ls []) := by
                      intro n9
                      induction n9 with
                      | zero =>
                        intro k a_stands_155 hn9
                        exact absurd hn9 (Nat.not_lt_zero _)
                      | succ n9 ih155 =>
                        intro k a_stands_155 hn9 hk_k hkm hrs hR_a_stands_155 H locs ls hP hD hS hl
                        refine lv_iload hx hb dX9_triesBits_155 (lv_at hl 0 rfl) ?_
                        refine lv_aload_n hx hb dX9_triesBits_157 rfl (lv_at hl 3 rfl) ?_
                        refine va_get (ci := 9) (v := .int (nI m_many)) (C := RX9) (T := TX9) (N := 24) hx hb hts hi9 hown hK hP 0 rfl rfl 7 (by decide) fl88 (fun _ h9 => h9) rfl dX9_triesBits_158 ?_
                        refine lv_icmp_ge (tgt := 189) hx hb dX9_triesBits_161 (by decide) (fun c161 => ?_) (fun c161 => ?_)
                        ·
                          have d161 : ((k : Nat) : Int) ≥ ((m_many : Nat) : Int) := my_ge c161 (nI_toInt (by omega)) (nI_toInt (by omega))
                          obtain ⟨z_14, ez_14⟩ : ∃ y : Int32, y = nI w_1 + (-1) := ⟨_, rfl⟩
                          try have tz_14 : z_14.toInt = ((w_1 : Nat) : Int) + (-1) := by rw [ez_14]; exact my_addI (nI_toInt (by omega)) (by decide +kernel) (by omega) (by omega)
                          refine lv_iinc (v := z_14) (lv' := [(4, .int z_14), (6, .int (nI k)), (5, .int (nI t_4)), (0, .ref m0), (1, .int 6), (2, .int (nI U)), (3, .int (nI ra))]) hx hb dX9_triesBits_189 hl (k := 2) rfl (by rw [ez_14]; rfl) (by decide) rfl (fun ls hl => ?_)
                          refine lv_goto (tgt := 99) hx hb dX9_triesBits_192 (by decide) ?_
                          exact ih99  z_14 m_fewest_8 a_stands_155 mp_10 mo_11 mc_12 me_13 (by omega) (by first | assumption | omega | decide +kernel) (by first | assumption | omega | decide +kernel) (by first | exact th_skip hfw2 (by omega) (by omega) (by omega) (su_f d110 (by omega)) | exact th_done hfw1 (by omega) (by omega) (by omega) (su_t d110 (by omega)) (th_take (by omega) (by omega) hU hst2 hpt hrn)) (by first | exact hst2 | exact fun i hi => hrs i (by omega)) (by first | exact hso2 | exact fun i hi => (hso1 _ (by omega)).trans (hso2 i hi)) (by first | exact hso3 | exact fun q hq => (hso1 q (by omega)).trans (hso3 q hq)) hR_a_stands_155 hR_mp_10 hR_mo_11 _ _ ls hP hD hS (lv_sub hl [0, 3, 4, 5, 6] rfl)
                        ·
                          have d161 : ((k : Nat) : Int) < ((m_many : Nat) : Int) := my_nge c161 (nI_toInt (by omega)) (nI_toInt (by omega))
                          refine lv_aload_n hx hb dX9_triesBits_164 rfl (lv_at hl 3 rfl) ?_
                          refine va_get (ci := 9) (v := .ref a_stands) (C := RX9) (T := TX9) (N := 24) hx hb hts hi9 hown hK hP 0 rfl rfl 12 (by decide) fl58 (fun _ h9 => h9) rfl dX9_triesBits_165 ?_
                          refine lv_iload hx hb dX9_triesBits_168 (lv_at hl 0 rfl) ?_
                          refine lv_aload_n hx hb dX9_triesBits_170 rfl (lv_at hl 3 rfl) ?_
                          refine va_get (ci := 9) (v := .ref a_stood) (C := RX9) (T := TX9) (N := 24) hx hb hts hi9 hown hK hP 0 rfl rfl 15 (by decide) fl67 (fun _ h9 => h9) rfl dX9_triesBits_171 ?_
                          refine lv_bipush (v := 64) hx hb dX9_triesBits_174 (by decide +kernel) ?_
                          refine lv_iload_n hx hb dX9_triesBits_176 rfl (lv_at hl 4 rfl) ?_
                          refine lv_imul hx hb dX9_triesBits_177 ?_
                          refine my_eqi (y := 384) (by decide +kernel) ?_
                          refine lv_iload hx hb dX9_triesBits_178 (lv_at hl 0 rfl) ?_
                          refine lv_iadd hx hb dX9_triesBits_180 ?_
                          refine my_eqi (y := nI (k + 384)) (my_addN2 k 384) ?_
                          refine va_iald hx hb hK hP 4 0 rfl rfl (vp_in_nI (by omega) (by omega)) dX9_triesBits_181 ?_
                          refine my_eqi (y := mo_11 (k + 384)) (congrArg mo_11 (nI_clamp (by omega))) ?_
                          have hb_15 := hR_mo_11 (k + 384)
                          refine va_iast hx hb hK hP hD hS 2 0 rfl rfl (vp_in_nI (by omega) (by omega)) dX9_triesBits_182 (fun H locs hP hD hS => ?_)
                          obtain ⟨g_16, eg_16⟩ : ∃ g : Nat → Int32, g = upd a_stands_155 k (mo_11 (k + 384)) := ⟨_, rfl⟩
                          have eU : upd a_stands_155 (nI k : Int32).toNatClampNeg (mo_11 (k + 384)) = g_16 := by rw [eg_16, show (nI k : Int32).toNatClampNeg = k from nI_clamp (by omega)]
                          rw [eU] at hP hD
                          have hR_g_16 : RB 0 63 g_16 := by rw [eg_16]; exact hR_a_stands_155.upd rfl (by omega) (by omega)
                          have hP : va_P D vwCl (wl_kf_X9_triesBits_6 cI cJ cK m0 a_row a_tape a_number a_read a_readBits a_stands a_parted a_bitsWere a_stood a_chosen a_bestChosen a_often a_sorted a_risen a_risenWays m_thrown (nI m_told) (nI m_taped) (nI m_at) (nI m_to) (nI m_many) (nI m_readMany) m_fewest_8 (nI m_size) mn g_16 mp_10 mo_11 mc_12 me_13) H := hP
                          have hD : va_D A (wl_kf_X9_triesBits_6 cI cJ cK m0 a_row a_tape a_number a_read a_readBits a_stands a_parted a_bitsWere a_stood a_chosen a_bestChosen a_often a_sorted a_risen a_risenWays m_thrown (nI m_told) (nI m_taped) (nI m_at) (nI m_to) (nI m_many) (nI m_readMany) m_fewest_8 (nI m_size) mn g_16 mp_10 mo_11 mc_12 me_13) := hD
                          refine lv_iinc (v := nI (k + 1)) (lv' := [(6, .int (nI (k + 1))), (5, .int (nI t_4)), (4, .int (nI w_1)), (0, .ref m0), (1, .int 6), (2, .int (nI U)), (3, .int (nI ra))]) hx hb dX9_triesBits_183 hl (k := 0) rfl (my_incN k 1 (by decide +kernel)) (by decide) rfl (fun ls hl => ?_)
                          refine lv_goto (tgt := 155) hx hb dX9_triesBits_186 (by decide) ?_
                          exact ih155  (k + 1) g_16 (by omega) (by first | assumption | omega | decide +kernel) (by first | assumption | omega | decide +kernel) (nv_step (F := ms) (by assumption) ((hso1 _ (by omega)).trans (hso2 k (by omega))) hrs) hR_g_16 _ _ ls hP hD hS (lv_sub hl [0, 1, 2, 3, 4, 5, 6] rfl)
                    exact loop155 ((64 - 0) + 1) 0 ms_9 (Nat.lt_succ_self _) (by first | assumption | omega | decide +kernel) (by first | assumption | omega | decide +kernel) (fun i h => absurd h (Nat.not_lt_zero i)) hR_ms_9 _ _ ls hP hD hS (lv_sub hl [0, 1, 2, 3, 4, 5, 6] rfl)
            have ec_17 : (7 : Int32).toInt = 7 := by decide +kernel
            exact loop99 ((((7 : Int32).toInt + 1).toNat) + 1) (7 : Int32) m_fewest ms mp a_stood_61 mc me (Nat.lt_succ_self _) (by first | assumption | omega | decide +kernel) (by first | assumption | omega | decide +kernel) (th_0 hfw) (fun _ _ => rfl) (fun i hi => hs61 i (by omega)) (hs62) hR_ms hR_mp hR_a_stood_61 _ _ ls hP hD hS (lv_sub hl [0, 1, 2, 3, 4] rfl)
          ·
            have d67 : ((k : Nat) : Int) < ((m_many : Nat) : Int) := my_nge c67 (nI_toInt (by omega)) (nI_toInt (by omega))
            refine lv_aload_n hx hb dX9_triesBits_70 rfl (lv_at hl 1 rfl) ?_
            refine va_get (ci := 9) (v := .ref a_stood) (C := RX9) (T := TX9) (N := 24) hx hb hts hi9 hown hK hP 0 rfl rfl 15 (by decide) fl67 (fun _ h9 => h9) rfl dX9_triesBits_71 ?_
            refine lv_bipush (v := 64) hx hb dX9_triesBits_74 (by decide +kernel) ?_
            refine lv_iload_n hx hb dX9_triesBits_76 rfl (lv_at hl 2 rfl) ?_
            refine lv_imul hx hb dX9_triesBits_77 ?_
            refine my_eqi (y := 384) (by decide +kernel) ?_
            refine lv_iload hx hb dX9_triesBits_78 (lv_at hl 0 rfl) ?_
            refine lv_iadd hx hb dX9_triesBits_80 ?_
            refine my_eqi (y := nI (k + 384)) (my_addN2 k 384) ?_
            refine lv_aload_n hx hb dX9_triesBits_81 rfl (lv_at hl 1 rfl) ?_
            refine va_get (ci := 9) (v := .ref a_stands) (C := RX9) (T := TX9) (N := 24) hx hb hts hi9 hown hK hP 0 rfl rfl 12 (by decide) fl58 (fun _ h9 => h9) rfl dX9_triesBits_82 ?_
            refine lv_iload hx hb dX9_triesBits_85 (lv_at hl 0 rfl) ?_
            refine va_iald hx hb hK hP 2 0 rfl rfl (vp_in_nI (by omega) (by omega)) dX9_triesBits_87 ?_
            refine my_eqi (y := ms k) (congrArg ms (nI_clamp (by omega))) ?_
            have hb_18 := hR_ms k
            refine va_iast hx hb hK hP hD hS 4 0 rfl rfl (vp_in_nI (by omega) (by omega)) dX9_triesBits_88 (fun H locs hP hD hS => ?_)
            obtain ⟨g_19, eg_19⟩ : ∃ g : Nat → Int32, g = upd a_stood_61 (k + 384) (ms k) := ⟨_, rfl⟩
            have eU : upd a_stood_61 (nI (k + 384) : Int32).toNatClampNeg (ms k) = g_19 := by rw [eg_19, show (nI (k + 384) : Int32).toNatClampNeg = k + 384 from nI_clamp (by omega)]
            rw [eU] at hP hD
            have hR_g_19 : RB 0 63 g_19 := by rw [eg_19]; exact hR_a_stood_61.upd rfl (by omega) (by omega)
            have hP : va_P D vwCl (wl_kf_X9_triesBits_6 cI cJ cK m0 a_row a_tape a_number a_read a_readBits a_stands a_parted a_bitsWere a_stood a_chosen a_bestChosen a_often a_sorted a_risen a_risenWays m_thrown (nI m_told) (nI m_taped) (nI m_at) (nI m_to) (nI m_many) (nI m_readMany) m_fewest (nI m_size) mn ms mp g_19 mc me) H := hP
            have hD : va_D A (wl_kf_X9_triesBits_6 cI cJ cK m0 a_row a_tape a_number a_read a_readBits a_stands a_parted a_bitsWere a_stood a_chosen a_bestChosen a_often a_sorted a_risen a_risenWays m_thrown (nI m_told) (nI m_taped) (nI m_at) (nI m_to) (nI m_many) (nI m_readMany) m_fewest (nI m_size) mn ms mp g_19 mc me) := hD
            refine lv_iinc (v := nI (k + 1)) (lv' := [(4, .int (nI (k + 1))), (0, .ref m0), (1, .int 6), (2, .int (nI U)), (3, .int (nI ra))]) hx hb dX9_triesBits_89 hl (k := 0) rfl (my_incN k 1 (by decide +kernel)) (by decide) rfl (fun ls hl => ?_)
            refine lv_goto (tgt := 61) hx hb dX9_triesBits_92 (by decide) ?_
            exact ih61  (k + 1) g_19 (by omega) (by first | assumption | omega | decide +kernel) (by first | assumption | omega | decide +kernel) (th_s1 (a := 384) (by assumption) rfl hs61) (th_s2 (a := 384) (by assumption) (by omega) hs62) hR_g_19 _ _ ls hP hD hS (lv_sub hl [0, 1, 2, 3, 4] rfl)
      exact loop61 ((64 - 0) + 1) 0 mo (Nat.lt_succ_self _) (by first | assumption | omega | decide +kernel) (by first | assumption | omega | decide +kernel) (fun i h => absurd h (Nat.not_lt_zero i)) (fun _ _ => rfl) hR_mo _ _ ls hP hD hS (lv_sub hl [0, 1, 2, 3, 4] rfl)
    ·
      exact absurd c19 (by decide +kernel)
  refine lv_aload_n hx hb dX9_triesBits_0 rfl (lv_at hl 0 rfl) ?_
  refine va_get (ci := 9) (v := .int m_fewest) (C := RX9) (T := TX9) (N := 24) hx hb hts hi9 hown hK hP 0 rfl rfl 18 (by decide) fl162 (fun _ h9 => h9) rfl dX9_triesBits_1 ?_
  refine lv_if_lt (tgt := 16) hx hb dX9_triesBits_4 (by decide) (fun c4 => ?_) (fun c4 => ?_)
  ·
    have d4 : m_fewest.toInt < (0 : Int) := my_lt c4 rfl (by decide +kernel)
    exact cut16  _ _ ls hP hD hS hl
  ·
    have d4 : m_fewest.toInt ≥ (0 : Int) := my_nlt c4 rfl (by decide +kernel)
    refine lv_iload_n hx hb dX9_triesBits_7 rfl (lv_at hl 3 rfl) ?_
    refine lv_aload_n hx hb dX9_triesBits_8 rfl (lv_at hl 0 rfl) ?_
    refine va_get (ci := 9) (v := .int m_fewest) (C := RX9) (T := TX9) (N := 24) hx hb hts hi9 hown hK hP 0 rfl rfl 18 (by decide) fl162 (fun _ h9 => h9) rfl dX9_triesBits_9 ?_
    refine lv_icmp_lt (tgt := 16) hx hb dX9_triesBits_12 (by decide) (fun c12 => ?_) (fun c12 => ?_)
    ·
      have d12 : ((ra : Nat) : Int) < m_fewest.toInt := my_lt c12 (nI_toInt (by omega)) rfl
      exact cut16  _ _ ls hP hD hS hl
    ·
      have d12 : ((ra : Nat) : Int) ≥ m_fewest.toInt := my_nlt c12 (nI_toInt (by omega)) rfl
      exact my_retV hx hb hr hlocks hK hS (wl_kf_X9_triesBits_6 cI cJ cK m0 a_row a_tape a_number a_read a_readBits a_stands a_parted a_bitsWere a_stood a_chosen a_bestChosen a_often a_sorted a_risen a_risenWays m_thrown (nI m_told) (nI m_taped) (nI m_at) (nI m_to) (nI m_many) (nI m_readMany) m_fewest (nI m_size) mn ms mp mo mc me) hP hD (⟨m_fewest, ms, mp, mo, mc, me, rfl, hR_ms, hR_mp, hR_mo, (by first | exact th_end hfw2 (by omega) | exact th_prune hfw (by omega) (by omega)), (by first | exact hst2 | exact fun _ _ => rfl), (by first | exact hso3 | exact fun _ _ => rfl)⟩) dX9_triesBits_15
abbrev wl_kf_X9_triesBits_5 (cI cJ cK : ClassId) (m0 : Nat) (a_row : Nat) (a_tape : Nat) (a_number : Nat) (a_read : Nat) (a_readBits : Nat) (a_stands : Nat) (a_parted : Nat) (a_bitsWere : Nat) (a_stood : Nat) (a_chosen : Nat) (a_bestChosen : Nat) (a_often : Nat) (a_sorted : Nat) (a_risen : Nat) (a_risenWays : Nat) (v0_ : Int32) (v1_ : Int32) (v2_ : Int32) (v3_ : Int32) (v4_ : Int32) (v5_ : Int32) (v6_ : Int32) (v7_ : Int32) (v8_ : Int32) (v9_ : Nat → Int32) (v10_ : Nat → Int32) (v11_ : Nat → Int32) (v12_ : Nat → Int32) (v13_ : Nat → Int32) (v14_ : Nat → Int32) : va_W := [(m0, .inr (9, [.int v0_, .int v1_, .ref a_row, .ref a_tape, .int v2_, .int v3_, .int v4_, .int v5_, .ref a_number, .ref a_read, .int v6_, .ref a_readBits, .ref a_stands, .ref a_parted, .ref a_bitsWere, .ref a_stood, .ref a_chosen, .ref a_bestChosen, .int v7_, .ref a_often, .ref a_sorted, .int v8_, .ref a_risen, .ref a_risenWays])), (a_number, .inl (cI, 64, .inl v9_)), (a_stands, .inl (cI, 64, .inl v10_)), (a_parted, .inl (cI, 64, .inl v11_)), (a_stood, .inl (cI, 512, .inl v12_)), (a_chosen, .inl (cI, 8, .inl v13_)), (a_bestChosen, .inl (cI, 8, .inl v14_))]
set_option maxHeartbeats 4000000 in
set_option maxRecDepth 100000 in
theorem kf_X9_triesBits_5 (l : Launch) (D : va_G) (cI cJ cK : ClassId) (m0 : Nat) (a_row : Nat) (a_tape : Nat) (a_number : Nat) (a_read : Nat) (a_readBits : Nat) (a_stands : Nat) (a_parted : Nat) (a_bitsWere : Nat) (a_stood : Nat) (a_chosen : Nat) (a_bestChosen : Nat) (a_often : Nat) (a_sorted : Nat) (a_risen : Nat) (a_risenWays : Nat) (m_thrown : Int32) (m_told : Nat) (m_taped : Nat) (m_at : Nat) (m_to : Nat) (m_many : Nat) (m_readMany : Nat) (m_fewest : Int32) (m_size : Nat) (mn : Nat → Int32) (ms : Nat → Int32) (mp : Nat → Int32) (mo : Nat → Int32) (mc : Nat → Int32) (me : Nat → Int32) (U : Nat) (ra : Nat) (F : Nat) (hz_m_told : m_told ≤ 64) (hz_m_taped : m_taped ≤ 100) (hz_m_at : m_at ≤ 100) (hz_m_to : m_to ≤ 100) (hz_m_many : m_many ≤ 64) (hz_m_readMany : m_readMany ≤ 64) (hz_m_size : m_size ≤ 64) (hR_mn : RB 0 255 mn) (hR_ms : RB 0 63 ms) (hR_mp : RB 0 63 mp) (hR_mo : RB 0 63 mo) (hU : U < 256) (hra : ra ≤ 320) (hfw : fwR m_fewest F) : ctV l yX9_triesBits wsX9_triesBits ({ frames := 4, cells := 0, slots := 0, locals := 240 } : Room) D (tyIJ cI cJ cK) [.ref m0, .int 5, .int (nI U), .int (nI ra)] (wl_kf_X9_triesBits_5 cI cJ cK m0 a_row a_tape a_number a_read a_readBits a_stands a_parted a_bitsWere a_stood a_chosen a_bestChosen a_often a_sorted a_risen a_risenWays m_thrown (nI m_told) (nI m_taped) (nI m_at) (nI m_to) (nI m_many) (nI m_readMany) m_fewest (nI m_size) mn ms mp mo mc me) (fun (u : va_W) => ∃ (m_fewest' : Int32) (ms' : Nat → Int32) (mp' : Nat → Int32) (mo' : Nat → Int32) (mc' : Nat → Int32) (me' : Nat → Int32), u = (wl_kf_X9_triesBits_5 cI cJ cK m0 a_row a_tape a_number a_read a_readBits a_stands a_parted a_bitsWere a_stood a_chosen a_bestChosen a_often a_sorted a_risen a_risenWays m_thrown (nI m_told) (nI m_taped) (nI m_at) (nI m_to) (nI m_many) (nI m_readMany) m_fewest' (nI m_size) mn ms' mp' mo' mc' me') ∧ RB 0 63 ms' ∧ RB 0 63 mp' ∧ RB 0 63 mo' ∧ fwR m_fewest' (min F (ra + tT m_many 3 (vG mn ms) (uS U))) ∧ (∀ i, i < m_many → ms' i = ms i) ∧ (∀ q, q < 320 → mo' q = mo q)) := by
  refine ctV.of (cc := cX9_triesBits) (maxL := 7) (ret := none) (by decide) rfl (Nat.le_of_ble_eq_true rfl) ?_
  intro p e s m below meth c ls A hx hb hr hts hown hml hlocks hname hA hK hN hP hD hS hl
  have hl : lv_has ls 7 [(0, .ref m0), (1, .int 5), (2, .int (nI U)), (3, .int (nI ra))] := hl
  have hown : s.vm.findClass RX9 = some m.cls := hown
  have hi9 : ∀ w ∈ u_ws RX9 TX9 24, w ∈ wsX9_triesBits := by decide +kernel
  have fl162 := hts (.fieldLink RX9 162 "PlaneColumnModel" "fewest" "I") (by decide +kernel)
  have fl58 := hts (.fieldLink RX9 58 "PlaneColumnModel" "stands" "[I") (by decide +kernel)
  have fl67 := hts (.fieldLink RX9 67 "PlaneColumnModel" "stood" "[I") (by decide +kernel)
  have fl70 := hts (.fieldLink RX9 70 "PlaneColumnModel" "chosen" "[I") (by decide +kernel)
  have fl88 := hts (.fieldLink RX9 88 "PlaneColumnModel" "many" "I") (by decide +kernel)
  have cut16 : ∀ (H : Heap) (locs : List Loc) (ls : Array Slot), va_P D vwCl (wl_kf_X9_triesBits_5 cI cJ cK m0 a_row a_tape a_number a_read a_readBits a_stands a_parted a_bitsWere a_stood a_chosen a_bestChosen a_often a_sorted a_risen a_risenWays m_thrown (nI m_told) (nI m_taped) (nI m_at) (nI m_to) (nI m_many) (nI m_readMany) m_fewest (nI m_size) mn ms mp mo mc me) H → va_D A (wl_kf_X9_triesBits_5 cI cJ cK m0 a_row a_tape a_number a_read a_readBits a_stands a_parted a_bitsWere a_stood a_chosen a_bestChosen a_often a_sorted a_risen a_risenWays m_thrown (nI m_told) (nI m_taped) (nI m_at) (nI m_to) (nI m_many) (nI m_readMany) m_fewest (nI m_size) mn ms mp mo mc me) → va_S A s.heap H locs → lv_has ls 7 [(0, .ref m0), (1, .int 5), (2, .int (nI U)), (3, .int (nI ra))] → W p l e ({ frames := 4, cells := 0, slots := 0, locals := 240 } : Room) s m [.ref m0, .int 5, .int (nI U), .int (nI ra)].toArray below meth c H locs 0 0 (MQ below (va_Qv (fun (u : va_W) => ∃ (m_fewest' : Int32) (ms' : Nat → Int32) (mp' : Nat → Int32) (mo' : Nat → Int32) (mc' : Nat → Int32) (me' : Nat → Int32), u = (wl_kf_X9_triesBits_5 cI cJ cK m0 a_row a_tape a_number a_read a_readBits a_stands a_parted a_bitsWere a_stood a_chosen a_bestChosen a_often a_sorted a_risen a_risenWays m_thrown (nI m_told) (nI m_taped) (nI m_at) (nI m_to) (nI m_many) (nI m_readMany) m_fewest' (nI m_size) mn ms' mp' mo' mc' me') ∧ RB 0 63 ms' ∧ RB 0 63 mp' ∧ RB 0 63 mo' ∧ fwR m_fewest' (min F (ra + tT m_many 3 (vG mn ms) (uS U))) ∧ (∀ i, i < m_many → ms' i = ms i) ∧ (∀ q, q < 320 → mo' q = mo q)) (my_B D (tyIJ cI cJ cK) A) A) [.ref m0, .int 5, .int (nI U), .int (nI ra)].toArray s 0 0 A) (F0 m 16 ls []) := by
    intro H locs ls hP hD hS hl
    refine lv_iload_n hx hb dX9_triesBits_16 rfl (lv_at hl 1 rfl) ?_
    refine lv_bipush (v := 8) hx hb dX9_triesBits_17 (by decide +kernel) ?_
    refine lv_icmp_ne (tgt := 58) hx hb dX9_triesBits_19 (by decide) (fun c19 => ?_) (fun c19 => ?_)
    ·
      refine lv_iconst (v := 0) hx hb dX9_triesBits_58 (by decide +kernel) ?_
      refine lv_istore (lv' := [(4, .int 0), (0, .ref m0), (1, .int 5), (2, .int (nI U)), (3, .int (nI ra))]) hx hb dX9_triesBits_59 hl (by decide) rfl (fun ls hl => ?_)
      have loop61 : ∀ (n9 : Nat) (k : Nat) (a_stood_61 : Nat → Int32), 64 - k < n9 → (k ≤ 64) → (k ≤ m_many) → (∀ i, i < k → a_stood_61 (i + 320) = ms i) → (∀ q, q < 320 → a_stood_61 q = mo q) → (RB 0 63 a_stood_61) → ∀ (H : Heap) (locs : List Loc) (ls : Array Slot), va_P D vwCl (wl_kf_X9_triesBits_5 cI cJ cK m0 a_row a_tape a_number a_read a_readBits a_stands a_parted a_bitsWere a_stood a_chosen a_bestChosen a_often a_sorted a_risen a_risenWays m_thrown (nI m_told) (nI m_taped) (nI m_at) (nI m_to) (nI m_many) (nI m_readMany) m_fewest (nI m_size) mn ms mp a_stood_61 mc me) H → va_D A (wl_kf_X9_triesBits_5 cI cJ cK m0 a_row a_tape a_number a_read a_readBits a_stands a_parted a_bitsWere a_stood a_chosen a_bestChosen a_often a_sorted a_risen a_risenWays m_thrown (nI m_told) (nI m_taped) (nI m_at) (nI m_to) (nI m_many) (nI m_readMany) m_fewest (nI m_size) mn ms mp a_stood_61 mc me) → va_S A s.heap H locs → lv_has ls 7 [(4, .int (nI k)), (0, .ref m0), (1, .int 5), (2, .int (nI U)), (3, .int (nI ra))] → W p l e ({ frames := 4, cells := 0, slots := 0, locals := 240 } : Room) s m [.ref m0, .int 5, .int (nI U), .int (nI ra)].toArray below meth c H locs 0 0 (MQ below (va_Qv (fun (u : va_W) => ∃ (m_fewest' : Int32) (ms' : Nat → Int32) (mp' : Nat → Int32) (mo' : Nat → Int32) (mc' : Nat → Int32) (me' : Nat → Int32), u = (wl_kf_X9_triesBits_5 cI cJ cK m0 a_row a_tape a_number a_read a_readBits a_stands a_parted a_bitsWere a_stood a_chosen a_bestChosen a_often a_sorted a_risen a_risenWays m_thrown (nI m_told) (nI m_taped) (nI m_at) (nI m_to) (nI m_many) (nI m_readMany) m_fewest' (nI m_size) mn ms' mp' mo' mc' me') ∧ RB 0 63 ms' ∧ RB 0 63 mp' ∧ RB 0 63 mo' ∧ fwR m_fewest' (min F (ra + tT m_many 3 (vG mn ms) (uS U))) ∧ (∀ i, i < m_many → ms' i = ms i) ∧ (∀ q, q < 320 → mo' q = mo q)) (my_B D (tyIJ cI cJ cK) A) A) [.ref m0, .int 5, .int (nI U), .int (nI ra)].toArray s 0 0 A) (F0 m 61 ls []) := by
        intro n9
        induction n9 with
        | zero =>
          intro k a_stood_61 hn9
          exact absurd hn9 (Nat.not_lt_zero _)
        | succ n9 ih61 =>
          intro k a_stood_61 hn9 hk_k hkm hs61 hs62 hR_a_stood_61 H locs ls hP hD hS hl
          refine lv_iload hx hb dX9_triesBits_61 (lv_at hl 0 rfl) ?_
          refine lv_aload_n hx hb dX9_triesBits_63 rfl (lv_at hl 1 rfl) ?_
          refine va_get (ci := 9) (v := .int (nI m_many)) (C := RX9) (T := TX9) (N := 24) hx hb hts hi9 hown hK hP 0 rfl rfl 7 (by decide) fl88 (fun _ h9 => h9) rfl dX9_triesBits_64 ?_
          refine lv_icmp_ge (tgt := 95) hx hb dX9_triesBits_67 (by decide) (fun c67 => ?_) (fun c67 => ?_)
          ·
            have d67 : ((k : Nat) : Int) ≥ ((m_many : Nat) : Int) := my_ge c67 (nI_toInt (by omega)) (nI_toInt (by omega))
            refine lv_bipush (v := 7) hx hb dX9_triesBits_95 (by decide +kernel) ?_
            refine lv_istore (lv' := [(4, .int 7), (0, .ref m0), (1, .int 5), (2, .int (nI U)), (3, .int (nI ra))]) hx hb dX9_triesBits_97 hl (by decide) rfl (fun ls hl => ?_)
            have loop99 : ∀ (n9 : Nat) (x : Int32) (m0_fewest_99 : Int32) (a_stands_99 : Nat → Int32) (a_parted_99 : Nat → Int32) (a_stood_99 : Nat → Int32) (a_chosen_99 : Nat → Int32) (a_bestChosen_99 : Nat → Int32), (x.toInt + 1).toNat < n9 → (-1 ≤ x.toInt) → (x.toInt ≤ 7) → (fwR m0_fewest_99 (min F (ra + tM (tF m_many 2 (vG mn ms) (uS U)) (uS U) (7 - x.toInt).toNat))) → (∀ i, i < m_many → a_stands_99 i = ms i) → (∀ i, i < m_many → a_stood_99 (i + 320) = ms i) → (∀ q, q < 320 → a_stood_99 q = mo q) → (RB 0 63 a_stands_99) → (RB 0 63 a_parted_99) → (RB 0 63 a_stood_99) → ∀ (H : Heap) (locs : List Loc) (ls : Array Slot), va_P D vwCl (wl_kf_X9_triesBits_5 cI cJ cK m0 a_row a_tape a_number a_read a_readBits a_stands a_parted a_bitsWere a_stood a_chosen a_bestChosen a_often a_sorted a_risen a_risenWays m_thrown (nI m_told) (nI m_taped) (nI m_at) (nI m_to) (nI m_many) (nI m_readMany) m0_fewest_99 (nI m_size) mn a_stands_99 a_parted_99 a_stood_99 a_chosen_99 a_bestChosen_99) H → va_D A (wl_kf_X9_triesBits_5 cI cJ cK m0 a_row a_tape a_number a_read a_readBits a_stands a_parted a_bitsWere a_stood a_chosen a_bestChosen a_often a_sorted a_risen a_risenWays m_thrown (nI m_told) (nI m_taped) (nI m_at) (nI m_to) (nI m_many) (nI m_readMany) m0_fewest_99 (nI m_size) mn a_stands_99 a_parted_99 a_stood_99 a_chosen_99 a_bestChosen_99) → va_S A s.heap H locs → lv_has ls 7 [(4, .int x), (0, .ref m0), (1, .int 5), (2, .int (nI U)), (3, .int (nI ra))] → W p l e ({ frames := 4, cells := 0, slots := 0, locals := 240 } : Room) s m [.ref m0, .int 5, .int (nI U), .int (nI ra)].toArray below meth c H locs 0 0 (MQ below (va_Qv (fun (u : va_W) => ∃ (m_fewest' : Int32) (ms' : Nat → Int32) (mp' : Nat → Int32) (mo' : Nat → Int32) (mc' : Nat → Int32) (me' : Nat → Int32), u = (wl_kf_X9_triesBits_5 cI cJ cK m0 a_row a_tape a_number a_read a_readBits a_stands a_parted a_bitsWere a_stood a_chosen a_bestChosen a_often a_sorted a_risen a_risenWays m_thrown (nI m_told) (nI m_taped) (nI m_at) (nI m_to) (nI m_many) (nI m_readMany) m_fewest' (nI m_size) mn ms' mp' mo' mc' me') ∧ RB 0 63 ms' ∧ RB 0 63 mp' ∧ RB 0 63 mo' ∧ fwR m_fewest' (min F (ra + tT m_many 3 (vG mn ms) (uS U))) ∧ (∀ i, i < m_many → ms' i = ms i) ∧ (∀ q, q < 320 → mo' q = mo q)) (my_B D (tyIJ cI cJ cK) A) A) [.ref m0, .int 5, .int (nI U), .int (nI ra)].toArray s 0 0 A) (F0 m 99 ls []) := by
              intro n9
              induction n9 with
              | zero =>
                intro x m0_fewest_99 a_stands_99 a_parted_99 a_stood_99 a_chosen_99 a_bestChosen_99 hn9
                exact absurd hn9 (Nat.not_lt_zero _)
              | succ n9 ih99 =>
                intro x m0_fewest_99 a_stands_99 a_parted_99 a_stood_99 a_chosen_99 a_bestChosen_99 hn9 hx0 hx1 hfw2 hst2 hso2 hso3 hR_a_stands_99 hR_a_parted_99 hR_a_stood_99 H locs ls hP hD hS hl
                refine lv_iload hx hb dX9_triesBits_99 (lv_at hl 0 rfl) ?_
                refine lv_if_lt (tgt := 195) hx hb dX9_triesBits_101 (by decide) (fun c101 => ?_) (fun c101 => ?_)
                ·
                  have d101 : x.toInt < (0 : Int) := my_lt c101 rfl (by decide +kernel)
                  exact my_retV hx hb hr hlocks hK hS (wl_kf_X9_triesBits_5 cI cJ cK m0 a_row a_tape a_number a_read a_readBits a_stands a_parted a_bitsWere a_stood a_chosen a_bestChosen a_often a_sorted a_risen a_risenWays m_thrown (nI m_told) (nI m_taped) (nI m_at) (nI m_to) (nI m_many) (nI m_readMany) m0_fewest_99 (nI m_size) mn a_stands_99 a_parted_99 a_stood_99 a_chosen_99 a_bestChosen_99) hP hD (⟨m0_fewest_99, a_stands_99, a_parted_99, a_stood_99, a_chosen_99, a_bestChosen_99, rfl, hR_a_stands_99, hR_a_parted_99, hR_a_stood_99, (by first | exact th_end hfw2 (by omega) | exact th_prune hfw (by omega) (by omega)), (by first | exact hst2 | exact fun _ _ => rfl), (by first | exact hso3 | exact fun _ _ => rfl)⟩) dX9_triesBits_195
                ·
                  have d101 : x.toInt ≥ (0 : Int) := my_nlt c101 rfl (by decide +kernel)
                  obtain ⟨w_1, rfl, hw_1⟩ := my_natP (x := x) (by omega)
                  have hlw_1 : w_1 < 2147483648 := by have h9 := Int32.toInt_lt (nI w_1); omega
                  refine lv_iload_n hx hb dX9_triesBits_104 rfl (lv_at hl 3 rfl) ?_
                  refine lv_iload hx hb dX9_triesBits_105 (lv_at hl 0 rfl) ?_
                  refine lv_ishr hx hb dX9_triesBits_107 ?_
                  refine my_eqi (y := nI (U / 2 ^ w_1)) (my_shrG (by omega) (by omega)) ?_
                  refine lv_iconst (v := 1) hx hb dX9_triesBits_108 (by decide +kernel) ?_
                  refine lv_iand hx hb dX9_triesBits_109 ?_
                  refine my_eqi (y := nI ((U / 2 ^ w_1) % 2)) (my_maskN _ 1) ?_
                  refine lv_if_ne (tgt := 189) hx hb dX9_triesBits_110 (by decide) (fun c110 => ?_) (fun c110 => ?_)
                  ·
                    have d110 : (((U / 2 ^ w_1) % 2 : Nat) : Int) ≠ (0 : Int) := my_ne c110 (nI_toInt (by omega)) (by decide +kernel)
                    obtain ⟨z_2, ez_2⟩ : ∃ y : Int32, y = nI w_1 + (-1) := ⟨_, rfl⟩
                    try have tz_2 : z_2.toInt = ((w_1 : Nat) : Int) + (-1) := by rw [ez_2]; exact my_addI (nI_toInt (by omega)) (by decide +kernel) (by omega) (by omega)
                    refine lv_iinc (v := z_2) (lv' := [(4, .int z_2), (0, .ref m0), (1, .int 5), (2, .int (nI U)), (3, .int (nI ra))]) hx hb dX9_triesBits_189 hl (k := 0) rfl (by rw [ez_2]; rfl) (by decide) rfl (fun ls hl => ?_)
                    refine lv_goto (tgt := 99) hx hb dX9_triesBits_192 (by decide) ?_
                    exact ih99  z_2 m0_fewest_99 a_stands_99 a_parted_99 a_stood_99 a_chosen_99 a_bestChosen_99 (by omega) (by first | assumption | omega | decide +kernel) (by first | assumption | omega | decide +kernel) (by first | exact th_skip hfw2 (by omega) (by omega) (by omega) (su_f d110 (by omega)) | exact th_done hfw1 (by omega) (by omega) (by omega) (su_t d110 (by omega)) (th_take (by omega) (by omega) hU hst2 hpt hrn)) (by first | exact hst2 | exact fun i hi => hrs i (by omega)) (by first | exact hso2 | exact fun i hi => (hso1 _ (by omega)).trans (hso2 i hi)) (by first | exact hso3 | exact fun q hq => (hso1 q (by omega)).trans (hso3 q hq)) hR_a_stands_99 hR_a_parted_99 hR_a_stood_99 _ _ ls hP hD hS (lv_sub hl [0, 1, 2, 3, 4] rfl)
                  ·
                    have d110 : (((U / 2 ^ w_1) % 2 : Nat) : Int) = (0 : Int) := my_eq c110 (nI_toInt (by omega)) (by decide +kernel)
                    refine lv_aload_n hx hb dX9_triesBits_113 rfl (lv_at hl 1 rfl) ?_
                    refine va_get (ci := 9) (v := .ref a_chosen) (C := RX9) (T := TX9) (N := 24) hx hb hts hi9 hown hK hP 0 rfl rfl 16 (by decide) fl70 (fun _ h9 => h9) rfl dX9_triesBits_114 ?_
                    refine lv_iload_n hx hb dX9_triesBits_117 rfl (lv_at hl 2 rfl) ?_
                    refine lv_iload hx hb dX9_triesBits_118 (lv_at hl 0 rfl) ?_
                    refine va_iast hx hb hK hP hD hS 5 0 rfl rfl (vp_in_nI (n := 5) (by omega) (by omega)) dX9_triesBits_120 (fun H locs hP hD hS => ?_)
                    obtain ⟨g_3, eg_3⟩ : ∃ g : Nat → Int32, g = upd a_chosen_99 5 (nI w_1) := ⟨_, rfl⟩
                    have eU : upd a_chosen_99 (5 : Int32).toNatClampNeg (nI w_1) = g_3 := by rw [eg_3, show (5 : Int32).toNatClampNeg = 5 from by decide +kernel]
                    rw [eU] at hP hD
                    have hP : va_P D vwCl (wl_kf_X9_triesBits_5 cI cJ cK m0 a_row a_tape a_number a_read a_readBits a_stands a_parted a_bitsWere a_stood a_chosen a_bestChosen a_often a_sorted a_risen a_risenWays m_thrown (nI m_told) (nI m_taped) (nI m_at) (nI m_to) (nI m_many) (nI m_readMany) m0_fewest_99 (nI m_size) mn a_stands_99 a_parted_99 a_stood_99 g_3 a_bestChosen_99) H := hP
                    have hD : va_D A (wl_kf_X9_triesBits_5 cI cJ cK m0 a_row a_tape a_number a_read a_readBits a_stands a_parted a_bitsWere a_stood a_chosen a_bestChosen a_often a_sorted a_risen a_risenWays m_thrown (nI m_told) (nI m_taped) (nI m_at) (nI m_to) (nI m_many) (nI m_readMany) m0_fewest_99 (nI m_size) mn a_stands_99 a_parted_99 a_stood_99 g_3 a_bestChosen_99) := hD
                    refine lv_aload_n hx hb dX9_triesBits_121 rfl (lv_at hl 1 rfl) ?_
                    refine lv_iload hx hb dX9_triesBits_122 (lv_at hl 0 rfl) ?_
                    refine my_gpI (my_pV (As := [.int (nI w_1)]) (rest := []) (ci := 9) ⟨hx, hb, hml, hown, hts⟩ (cwV 1 hts gX9_triesBits_X9_runsOf rfl rfl rfl (by decide +kernel) ⟨Nat.le_of_ble_eq_true rfl, Nat.le_of_ble_eq_true rfl⟩) hN hK hP [0, 1, 2] rfl 0 rfl rfl rfl rfl hl.1 rfl (Nat.le_of_ble_eq_true rfl) dX9_triesBits_124 ⟨Nat.le_of_ble_eq_true rfl, Nat.le_of_ble_eq_true rfl⟩  (kf_X9_runsOf l D cI cJ cK m0 a_row a_tape a_number a_read a_readBits a_stands a_parted a_bitsWere a_stood a_chosen a_bestChosen a_often a_sorted a_risen a_risenWays m_thrown m_told m_taped m_at m_to m_many m_readMany m0_fewest_99 m_size mn a_stands_99 w_1 (by first | assumption | omega | decide +kernel) (by first | assumption | omega | decide +kernel) (by first | assumption | omega | decide +kernel) (by first | assumption | omega | decide +kernel) (by first | assumption | omega | decide +kernel) (by first | assumption | omega | decide +kernel) (by first | assumption | omega | decide +kernel) hR_mn hR_a_stands_99 (by first | assumption | omega | decide +kernel))) (fun r hp => ?_)
                    obtain ⟨t_4, rfl, hrn, hq_5⟩ := hp
                    refine lv_istore (lv' := [(5, .int (nI t_4)), (4, .int (nI w_1)), (0, .ref m0), (1, .int 5), (2, .int (nI U)), (3, .int (nI ra))]) hx hb dX9_triesBits_127 hl (by decide) rfl (fun ls hl => ?_)
                    refine lv_aload_n hx hb dX9_triesBits_129 rfl (lv_at hl 2 rfl) ?_
                    refine lv_iload hx hb dX9_triesBits_130 (lv_at hl 1 rfl) ?_
                    refine my_goVS (wc := (wl_kf_X9_parts cI cJ cK m0 a_row a_tape a_number a_read a_readBits a_stands a_parted a_bitsWere a_stood a_chosen a_bestChosen a_often a_sorted a_risen a_risenWays m_thrown (nI m_told) (nI m_taped) (nI m_at) (nI m_to) (nI m_many) (nI m_readMany) m0_fewest_99 (nI m_size) mn a_stands_99 a_parted_99)) hP hD hS hA [0, 1, 2, 3] rfl [some 0, some 1, some 2, some 3] (by decide +kernel) (my_cV (As := [.int (nI w_1)]) (rest := []) (ci := 9) (wc := (wl_kf_X9_parts cI cJ cK m0 a_row a_tape a_number a_read a_readBits a_stands a_parted a_bitsWere a_stood a_chosen a_bestChosen a_often a_sorted a_risen a_risenWays m_thrown (nI m_told) (nI m_taped) (nI m_at) (nI m_to) (nI m_many) (nI m_readMany) m0_fewest_99 (nI m_size) mn a_stands_99 a_parted_99)) ⟨hx, hb, hml, hown, hts⟩ (cwV 1 hts gX9_triesBits_X9_parts rfl rfl rfl (by decide +kernel) ⟨Nat.le_of_ble_eq_true rfl, Nat.le_of_ble_eq_true rfl⟩) hN hK hP hD [0, 1, 2, 3] rfl (by decide) rfl 0 rfl rfl rfl rfl hl.1 rfl (Nat.le_of_ble_eq_true rfl) dX9_triesBits_132 ⟨Nat.le_of_ble_eq_true rfl, Nat.le_of_ble_eq_true rfl⟩  ((kf_X9_parts l D cI cJ cK m0 a_row a_tape a_number a_read a_readBits a_stands a_parted a_bitsWere a_stood a_chosen a_bestChosen a_often a_sorted a_risen a_risenWays m_thrown m_told m_taped m_at m_to m_many m_readMany m0_fewest_99 m_size mn a_stands_99 a_parted_99 w_1 (by first | assumption | omega | decide +kernel) (by first | assumption | omega | decide +kernel) (by first | assumption | omega | decide +kernel) (by first | assumption | omega | decide +kernel) (by first | assumption | omega | decide +kernel) (by first | assumption | omega | decide +kernel) (by first | assumption | omega | decide +kernel) hR_mn hR_a_stands_99 hR_a_parted_99 (by first | assumption | omega | decide +kernel)) _)) (fun u H locs hp hPD hS => ?_)
                    obtain ⟨ms_6, mp_7, rfl, hR_ms_6, hR_mp_7, hpt⟩ := hp
                    obtain ⟨hP, hD⟩ := hPD rfl
                    have hP : va_P D vwCl (wl_kf_X9_triesBits_5 cI cJ cK m0 a_row a_tape a_number a_read a_readBits a_stands a_parted a_bitsWere a_stood a_chosen a_bestChosen a_often a_sorted a_risen a_risenWays m_thrown (nI m_told) (nI m_taped) (nI m_at) (nI m_to) (nI m_many) (nI m_readMany) m0_fewest_99 (nI m_size) mn ms_6 mp_7 a_stood_99 g_3 a_bestChosen_99) H := hP
                    have hD : va_D A (wl_kf_X9_triesBits_5 cI cJ cK m0 a_row a_tape a_number a_read a_readBits a_stands a_parted a_bitsWere a_stood a_chosen a_bestChosen a_often a_sorted a_risen a_risenWays m_thrown (nI m_told) (nI m_taped) (nI m_at) (nI m_to) (nI m_many) (nI m_readMany) m0_fewest_99 (nI m_size) mn ms_6 mp_7 a_stood_99 g_3 a_bestChosen_99) := hD
                    refine lv_aload_n hx hb dX9_triesBits_135 rfl (lv_at hl 2 rfl) ?_
                    refine lv_iload_n hx hb dX9_triesBits_136 rfl (lv_at hl 3 rfl) ?_
                    refine lv_iconst (v := 1) hx hb dX9_triesBits_137 (by decide +kernel) ?_
                    refine lv_iadd hx hb dX9_triesBits_138 ?_
                    refine my_eqi (y := 6) (by decide +kernel) ?_
                    refine lv_iload_n hx hb dX9_triesBits_139 rfl (lv_at hl 4 rfl) ?_
                    refine lv_iconst (v := 1) hx hb dX9_triesBits_140 (by decide +kernel) ?_
                    refine lv_iload hx hb dX9_triesBits_141 (lv_at hl 1 rfl) ?_
                    refine lv_ishl hx hb dX9_triesBits_143 ?_
                    refine my_eqi (y := nI (2 ^ w_1)) (my_shl1 (by omega)) ?_
                    refine lv_ior hx hb dX9_triesBits_144 ?_
                    refine my_eqi (y := nI (U ||| (2 ^ w_1))) (fa_or _ _) ?_
                    refine lv_iload_n hx hb dX9_triesBits_145 rfl (lv_at hl 5 rfl) ?_
                    refine lv_iload hx hb dX9_triesBits_146 (lv_at hl 0 rfl) ?_
                    refine lv_iadd hx hb dX9_triesBits_148 ?_
                    refine my_eqi (y := nI (ra + t_4)) (nI_add _ _) ?_
                    refine my_goVS (wc := (wl_kf_X9_triesBits_6 cI cJ cK m0 a_row a_tape a_number a_read a_readBits a_stands a_parted a_bitsWere a_stood a_chosen a_bestChosen a_often a_sorted a_risen a_risenWays m_thrown (nI m_told) (nI m_taped) (nI m_at) (nI m_to) (nI m_many) (nI m_readMany) m0_fewest_99 (nI m_size) mn ms_6 mp_7 a_stood_99 g_3 a_bestChosen_99)) hP hD hS hA [0, 1, 2, 3, 4, 5, 6] rfl [some 0, some 1, some 2, some 3, some 4, some 5, some 6] (by decide +kernel) (my_cV (As := [.int 6, .int (nI (U ||| (2 ^ w_1))), .int (nI (ra + t_4))]) (rest := []) (ci := 9) (wc := (wl_kf_X9_triesBits_6 cI cJ cK m0 a_row a_tape a_number a_read a_readBits a_stands a_parted a_bitsWere a_stood a_chosen a_bestChosen a_often a_sorted a_risen a_risenWays m_thrown (nI m_told) (nI m_taped) (nI m_at) (nI m_to) (nI m_many) (nI m_readMany) m0_fewest_99 (nI m_size) mn ms_6 mp_7 a_stood_99 g_3 a_bestChosen_99)) ⟨hx, hb, hml, hown, hts⟩ (cwV 3 hts gX9_triesBits_X9_triesBits rfl rfl rfl (by decide +kernel) ⟨Nat.le_of_ble_eq_true rfl, Nat.le_of_ble_eq_true rfl⟩) hN hK hP hD [0, 1, 2, 3, 4, 5, 6] rfl (by decide) rfl 0 rfl rfl rfl rfl hl.1 rfl (Nat.le_of_ble_eq_true rfl) dX9_triesBits_149 ⟨Nat.le_of_ble_eq_true rfl, Nat.le_of_ble_eq_true rfl⟩  ((kf_X9_triesBits_6 l D cI cJ cK m0 a_row a_tape a_number a_read a_readBits a_stands a_parted a_bitsWere a_stood a_chosen a_bestChosen a_often a_sorted a_risen a_risenWays m_thrown m_told m_taped m_at m_to m_many m_readMany m0_fewest_99 m_size mn ms_6 mp_7 a_stood_99 g_3 a_bestChosen_99 (U ||| (2 ^ w_1)) (ra + t_4) (min F (ra + tM (tF m_many 2 (vG mn ms) (uS U)) (uS U) (7 - (nI w_1).toInt).toNat)) (by first | assumption | omega | decide +kernel) (by first | assumption | omega | decide +kernel) (by first | assumption | omega | decide +kernel) (by first | assumption | omega | decide +kernel) (by first | assumption | omega | decide +kernel) (by first | assumption | omega | decide +kernel) (by first | assumption | omega | decide +kernel) hR_mn hR_ms_6 hR_mp_7 hR_a_stood_99 ((or_b U hU _ (by omega)).1) (by first | assumption | omega | decide +kernel) (hfw2)) _)) (fun u H locs hp hPD hS => ?_)
                    obtain ⟨m_fewest_8, ms_9, mp_10, mo_11, mc_12, me_13, rfl, hR_ms_9, hR_mp_10, hR_mo_11, hfw1, hst1, hso1⟩ := hp
                    obtain ⟨hP, hD⟩ := hPD rfl
                    have hP : va_P D vwCl (wl_kf_X9_triesBits_5 cI cJ cK m0 a_row a_tape a_number a_read a_readBits a_stands a_parted a_bitsWere a_stood a_chosen a_bestChosen a_often a_sorted a_risen a_risenWays m_thrown (nI m_told) (nI m_taped) (nI m_at) (nI m_to) (nI m_many) (nI m_readMany) m_fewest_8 (nI m_size) mn ms_9 mp_10 mo_11 mc_12 me_13) H := hP
                    have hD : va_D A (wl_kf_X9_triesBits_5 cI cJ cK m0 a_row a_tape a_number a_read a_readBits a_stands a_parted a_bitsWere a_stood a_chosen a_bestChosen a_often a_sorted a_risen a_risenWays m_thrown (nI m_told) (nI m_taped) (nI m_at) (nI m_to) (nI m_many) (nI m_readMany) m_fewest_8 (nI m_size) mn ms_9 mp_10 mo_11 mc_12 me_13) := hD
                    refine lv_iconst (v := 0) hx hb dX9_triesBits_152 (by decide +kernel) ?_
                    refine lv_istore (lv' := [(6, .int 0), (5, .int (nI t_4)), (4, .int (nI w_1)), (0, .ref m0), (1, .int 5), (2, .int (nI U)), (3, .int (nI ra))]) hx hb dX9_triesBits_153 hl (by decide) rfl (fun ls hl => ?_)
                    have loop155 : ∀ (n9 : Nat) (k : Nat) (a_stands_155 : Nat → Int32), 64 - k < n9 → (k ≤ 64) → (k ≤ m_many) → (∀ i, i < k → a_stands_155 i = ms i) → (RB 0 63 a_stands_155) → ∀ (H : Heap) (locs : List Loc) (ls : Array Slot), va_P D vwCl (wl_kf_X9_triesBits_5 cI cJ cK m0 a_row a_tape a_number a_read a_readBits a_stands a_parted a_bitsWere a_stood a_chosen a_bestChosen a_often a_sorted a_risen a_risenWays m_thrown (nI m_told) (nI m_taped) (nI m_at) (nI m_to) (nI m_many) (nI m_readMany) m_fewest_8 (nI m_size) mn a_stands_155 mp_10 mo_11 mc_12 me_13) H → va_D A (wl_kf_X9_triesBits_5 cI cJ cK m0 a_row a_tape a_number a_read a_readBits a_stands a_parted a_bitsWere a_stood a_chosen a_bestChosen a_often a_sorted a_risen a_risenWays m_thrown (nI m_told) (nI m_taped) (nI m_at) (nI m_to) (nI m_many) (nI m_readMany) m_fewest_8 (nI m_size) mn a_stands_155 mp_10 mo_11 mc_12 me_13) → va_S A s.heap H locs → lv_has ls 7 [(6, .int (nI k)), (5, .int (nI t_4)), (4, .int (nI w_1)), (0, .ref m0), (1, .int 5), (2, .int (nI U)), (3, .int (nI ra))] → W p l e ({ frames := 4, cells := 0, slots := 0, locals := 240 } : Room) s m [.ref m0, .int 5, .int (nI U), .int (nI ra)].toArray below meth c H locs 0 0 (MQ below (va_Qv (fun (u : va_W) => ∃ (m_fewest' : Int32) (ms' : Nat → Int32) (mp' : Nat → Int32) (mo' : Nat → Int32) (mc' : Nat → Int32) (me' : Nat → Int32), u = (wl_kf_X9_triesBits_5 cI cJ cK m0 a_row a_tape a_number a_read a_readBits a_stands a_parted a_bitsWere a_stood a_chosen a_bestChosen a_often a_sorted a_risen a_risenWays m_thrown (nI m_told) (nI m_taped) (nI m_at) (nI m_to) (nI m_many) (nI m_readMany) m_fewest' (nI m_size) mn ms' mp' mo' mc' me') ∧ RB 0 63 ms' ∧ RB 0 63 mp' ∧ RB 0 63 mo' ∧ fwR m_fewest' (min F (ra + tT m_many 3 (vG mn ms) (uS U))) ∧ (∀ i, i < m_many → ms' i = ms i) ∧ (∀ q, q < 320 → mo' q = mo q)) (my_B D (tyIJ cI cJ cK) A) A) [.ref m0, .int 5, .int (nI U), .int (nI ra)].toArray s 0 0 A) (F0 m 155 ls []) := by
                      intro n9
                      induction n9 with
                      | zero =>
                        intro k a_stands_155 hn9
                        exact absurd hn9 (Nat.not_lt_zero _)
                      | succ n9 ih155 =>
                        intro k a_stands_155 hn9 hk_k hkm hrs hR_a_stands_155 H locs ls hP hD hS hl
                        refine lv_iload hx hb dX9_triesBits_155 (lv_at hl 0 rfl) ?_
                        refine lv_aload_n hx hb dX9_triesBits_157 rfl (lv_at hl 3 rfl) ?_
                        refine va_get (ci := 9) (v := .int (nI m_many)) (C := RX9) (T := TX9) (N := 24) hx hb hts hi9 hown hK hP 0 rfl rfl 7 (by decide) fl88 (fun _ h9 => h9) rfl dX9_triesBits_158 ?_
                        refine lv_icmp_ge (tgt := 189) hx hb dX9_triesBits_161 (by decide) (fun c161 => ?_) (fun c161 => ?_)
                        ·
                          have d161 : ((k : Nat) : Int) ≥ ((m_many : Nat) : Int) := my_ge c161 (nI_toInt (by omega)) (nI_toInt (by omega))
                          obtain ⟨z_14, ez_14⟩ : ∃ y : Int32, y = nI w_1 + (-1) := ⟨_, rfl⟩
                          try have tz_14 : z_14.toInt = ((w_1 : Nat) : Int) + (-1) := by rw [ez_14]; exact my_addI (nI_toInt (by omega)) (by decide +kernel) (by omega) (by omega)
                          refine lv_iinc (v := z_14) (lv' := [(4, .int z_14), (6, .int (nI k)), (5, .int (nI t_4)), (0, .ref m0), (1, .int 5), (2, .int (nI U)), (3, .int (nI ra))]) hx hb dX9_triesBits_189 hl (k := 2) rfl (by rw [ez_14]; rfl) (by decide) rfl (fun ls hl => ?_)
                          refine lv_goto (tgt := 99) hx hb dX9_triesBits_192 (by decide) ?_
                          exact ih99  z_14 m_fewest_8 a_stands_155 mp_10 mo_11 mc_12 me_13 (by omega) (by first | assumption | omega | decide +kernel) (by first | assumption | omega | decide +kernel) (by first | exact th_skip hfw2 (by omega) (by omega) (by omega) (su_f d110 (by omega)) | exact th_done hfw1 (by omega) (by omega) (by omega) (su_t d110 (by omega)) (th_take (by omega) (by omega) hU hst2 hpt hrn)) (by first | exact hst2 | exact fun i hi => hrs i (by omega)) (by first | exact hso2 | exact fun i hi => (hso1 _ (by omega)).trans (hso2 i hi)) (by first | exact hso3 | exact fun q hq => (hso1 q (by omega)).trans (hso3 q hq)) hR_a_stands_155 hR_mp_10 hR_mo_11 _ _ ls hP hD hS (lv_sub hl [0, 3, 4, 5, 6] rfl)
                        ·
                          have d161 : ((k : Nat) : Int) < ((m_many : Nat) : Int) := my_nge c161 (nI_toInt (by omega)) (nI_toInt (by omega))
                          refine lv_aload_n hx hb dX9_triesBits_164 rfl (lv_at hl 3 rfl) ?_
                          refine va_get (ci := 9) (v := .ref a_stands) (C := RX9) (T := TX9) (N := 24) hx hb hts hi9 hown hK hP 0 rfl rfl 12 (by decide) fl58 (fun _ h9 => h9) rfl dX9_triesBits_165 ?_
                          refine lv_iload hx hb dX9_triesBits_168 (lv_at hl 0 rfl) ?_
                          refine lv_aload_n hx hb dX9_triesBits_170 rfl (lv_at hl 3 rfl) ?_
                          refine va_get (ci := 9) (v := .ref a_stood) (C := RX9) (T := TX9) (N := 24) hx hb hts hi9 hown hK hP 0 rfl rfl 15 (by decide) fl67 (fun _ h9 => h9) rfl dX9_triesBits_171 ?_
                          refine lv_bipush (v := 64) hx hb dX9_triesBits_174 (by decide +kernel) ?_
                          refine lv_iload_n hx hb dX9_triesBits_176 rfl (lv_at hl 4 rfl) ?_
                          refine lv_imul hx hb dX9_triesBits_177 ?_
                          refine my_eqi (y := 320) (by decide +kernel) ?_
                          refine lv_iload hx hb dX9_triesBits_178 (lv_at hl 0 rfl) ?_
                          refine lv_iadd hx hb dX9_triesBits_180 ?_
                          refine my_eqi (y := nI (k + 320)) (my_addN2 k 320) ?_
                          refine va_iald hx hb hK hP 4 0 rfl rfl (vp_in_nI (by omega) (by omega)) dX9_triesBits_181 ?_
                          refine my_eqi (y := mo_11 (k + 320)) (congrArg mo_11 (nI_clamp (by omega))) ?_
                          have hb_15 := hR_mo_11 (k + 320)
                          refine va_iast hx hb hK hP hD hS 2 0 rfl rfl (vp_in_nI (by omega) (by omega)) dX9_triesBits_182 (fun H locs hP hD hS => ?_)
                          obtain ⟨g_16, eg_16⟩ : ∃ g : Nat → Int32, g = upd a_stands_155 k (mo_11 (k + 320)) := ⟨_, rfl⟩
                          have eU : upd a_stands_155 (nI k : Int32).toNatClampNeg (mo_11 (k + 320)) = g_16 := by rw [eg_16, show (nI k : Int32).toNatClampNeg = k from nI_clamp (by omega)]
                          rw [eU] at hP hD
                          have hR_g_16 : RB 0 63 g_16 := by rw [eg_16]; exact hR_a_stands_155.upd rfl (by omega) (by omega)
                          have hP : va_P D vwCl (wl_kf_X9_triesBits_5 cI cJ cK m0 a_row a_tape a_number a_read a_readBits a_stands a_parted a_bitsWere a_stood a_chosen a_bestChosen a_often a_sorted a_risen a_risenWays m_thrown (nI m_told) (nI m_taped) (nI m_at) (nI m_to) (nI m_many) (nI m_readMany) m_fewest_8 (nI m_size) mn g_16 mp_10 mo_11 mc_12 me_13) H := hP
                          have hD : va_D A (wl_kf_X9_triesBits_5 cI cJ cK m0 a_row a_tape a_number a_read a_readBits a_stands a_parted a_bitsWere a_stood a_chosen a_bestChosen a_often a_sorted a_risen a_risenWays m_thrown (nI m_told) (nI m_taped) (nI m_at) (nI m_to) (nI m_many) (nI m_readMany) m_fewest_8 (nI m_size) mn g_16 mp_10 mo_11 mc_12 me_13) := hD
                          refine lv_iinc (v := nI (k + 1)) (lv' := [(6, .int (nI (k + 1))), (5, .int (nI t_4)), (4, .int (nI w_1)), (0, .ref m0), (1, .int 5), (2, .int (nI U)), (3, .int (nI ra))]) hx hb dX9_triesBits_183 hl (k := 0) rfl (my_incN k 1 (by decide +kernel)) (by decide) rfl (fun ls hl => ?_)
                          refine lv_goto (tgt := 155) hx hb dX9_triesBits_186 (by decide) ?_
                          exact ih155  (k + 1) g_16 (by omega) (by first | assumption | omega | decide +kernel) (by first | assumption | omega | decide +kernel) (nv_step (F := ms) (by assumption) ((hso1 _ (by omega)).trans (hso2 k (by omega))) hrs) hR_g_16 _ _ ls hP hD hS (lv_sub hl [0, 1, 2, 3, 4, 5, 6] rfl)
                    exact loop155 ((64 - 0) + 1) 0 ms_9 (Nat.lt_succ_self _) (by first | assumption | omega | decide +kernel) (by first | assumption | omega | decide +kernel) (fun i h => absurd h (Nat.not_lt_zero i)) hR_ms_9 _ _ ls hP hD hS (lv_sub hl [0, 1, 2, 3, 4, 5, 6] rfl)
            have ec_17 : (7 : Int32).toInt = 7 := by decide +kernel
            exact loop99 ((((7 : Int32).toInt + 1).toNat) + 1) (7 : Int32) m_fewest ms mp a_stood_61 mc me (Nat.lt_succ_self _) (by first | assumption | omega | decide +kernel) (by first | assumption | omega | decide +kernel) (th_0 hfw) (fun _ _ => rfl) (fun i hi => hs61 i (by omega)) (hs62) hR_ms hR_mp hR_a_stood_61 _ _ ls hP hD hS (lv_sub hl [0, 1, 2, 3, 4] rfl)
          ·
            have d67 : ((k : Nat) : Int) < ((m_many : Nat) : Int) := my_nge c67 (nI_toInt (by omega)) (nI_toInt (by omega))
            refine lv_aload_n hx hb dX9_triesBits_70 rfl (lv_at hl 1 rfl) ?_
            refine va_get (ci := 9) (v := .ref a_stood) (C := RX9) (T := TX9) (N := 24) hx hb hts hi9 hown hK hP 0 rfl rfl 15 (by decide) fl67 (fun _ h9 => h9) rfl dX9_triesBits_71 ?_
            refine lv_bipush (v := 64) hx hb dX9_triesBits_74 (by decide +kernel) ?_
            refine lv_iload_n hx hb dX9_triesBits_76 rfl (lv_at hl 2 rfl) ?_
            refine lv_imul hx hb dX9_triesBits_77 ?_
            refine my_eqi (y := 320) (by decide +kernel) ?_
            refine lv_iload hx hb dX9_triesBits_78 (lv_at hl 0 rfl) ?_
            refine lv_iadd hx hb dX9_triesBits_80 ?_
            refine my_eqi (y := nI (k + 320)) (my_addN2 k 320) ?_
            refine lv_aload_n hx hb dX9_triesBits_81 rfl (lv_at hl 1 rfl) ?_
            refine va_get (ci := 9) (v := .ref a_stands) (C := RX9) (T := TX9) (N := 24) hx hb hts hi9 hown hK hP 0 rfl rfl 12 (by decide) fl58 (fun _ h9 => h9) rfl dX9_triesBits_82 ?_
            refine lv_iload hx hb dX9_triesBits_85 (lv_at hl 0 rfl) ?_
            refine va_iald hx hb hK hP 2 0 rfl rfl (vp_in_nI (by omega) (by omega)) dX9_triesBits_87 ?_
            refine my_eqi (y := ms k) (congrArg ms (nI_clamp (by omega))) ?_
            have hb_18 := hR_ms k
            refine va_iast hx hb hK hP hD hS 4 0 rfl rfl (vp_in_nI (by omega) (by omega)) dX9_triesBits_88 (fun H locs hP hD hS => ?_)
            obtain ⟨g_19, eg_19⟩ : ∃ g : Nat → Int32, g = upd a_stood_61 (k + 320) (ms k) := ⟨_, rfl⟩
            have eU : upd a_stood_61 (nI (k + 320) : Int32).toNatClampNeg (ms k) = g_19 := by rw [eg_19, show (nI (k + 320) : Int32).toNatClampNeg = k + 320 from nI_clamp (by omega)]
            rw [eU] at hP hD
            have hR_g_19 : RB 0 63 g_19 := by rw [eg_19]; exact hR_a_stood_61.upd rfl (by omega) (by omega)
            have hP : va_P D vwCl (wl_kf_X9_triesBits_5 cI cJ cK m0 a_row a_tape a_number a_read a_readBits a_stands a_parted a_bitsWere a_stood a_chosen a_bestChosen a_often a_sorted a_risen a_risenWays m_thrown (nI m_told) (nI m_taped) (nI m_at) (nI m_to) (nI m_many) (nI m_readMany) m_fewest (nI m_size) mn ms mp g_19 mc me) H := hP
            have hD : va_D A (wl_kf_X9_triesBits_5 cI cJ cK m0 a_row a_tape a_number a_read a_readBits a_stands a_parted a_bitsWere a_stood a_chosen a_bestChosen a_often a_sorted a_risen a_risenWays m_thrown (nI m_told) (nI m_taped) (nI m_at) (nI m_to) (nI m_many) (nI m_readMany) m_fewest (nI m_size) mn ms mp g_19 mc me) := hD
            refine lv_iinc (v := nI (k + 1)) (lv' := [(4, .int (nI (k + 1))), (0, .ref m0), (1, .int 5), (2, .int (nI U)), (3, .int (nI ra))]) hx hb dX9_triesBits_89 hl (k := 0) rfl (my_incN k 1 (by decide +kernel)) (by decide) rfl (fun ls hl => ?_)
            refine lv_goto (tgt := 61) hx hb dX9_triesBits_92 (by decide) ?_
            exact ih61  (k + 1) g_19 (by omega) (by first | assumption | omega | decide +kernel) (by first | assumption | omega | decide +kernel) (th_s1 (a := 320) (by assumption) rfl hs61) (th_s2 (a := 320) (by assumption) (by omega) hs62) hR_g_19 _ _ ls hP hD hS (lv_sub hl [0, 1, 2, 3, 4] rfl)
      exact loop61 ((64 - 0) + 1) 0 mo (Nat.lt_succ_self _) (by first | assumption | omega | decide +kernel) (by first | assumption | omega | decide +kernel) (fun i h => absurd h (Nat.not_lt_zero i)) (fun _ _ => rfl) hR_mo _ _ ls hP hD hS (lv_sub hl [0, 1, 2, 3, 4] rfl)
    ·
      exact absurd c19 (by decide +kernel)
  refine lv_aload_n hx hb dX9_triesBits_0 rfl (lv_at hl 0 rfl) ?_
  refine va_get (ci := 9) (v := .int m_fewest) (C := RX9) (T := TX9) (N := 24) hx hb hts hi9 hown hK hP 0 rfl rfl 18 (by decide) fl162 (fun _ h9 => h9) rfl dX9_triesBits_1 ?_
  refine lv_if_lt (tgt := 16) hx hb dX9_triesBits_4 (by decide) (fun c4 => ?_) (fun c4 => ?_)
  ·
    have d4 : m_fewest.toInt < (0 : Int) := my_lt c4 rfl (by decide +kernel)
    exact cut16  _ _ ls hP hD hS hl
  ·
    have d4 : m_fewest.toInt ≥ (0 : Int) := my_nlt c4 rfl (by decide +kernel)
    refine lv_iload_n hx hb dX9_triesBits_7 rfl (lv_at hl 3 rfl) ?_
    refine lv_aload_n hx hb dX9_triesBits_8 rfl (lv_at hl 0 rfl) ?_
    refine va_get (ci := 9) (v := .int m_fewest) (C := RX9) (T := TX9) (N := 24) hx hb hts hi9 hown hK hP 0 rfl rfl 18 (by decide) fl162 (fun _ h9 => h9) rfl dX9_triesBits_9 ?_
    refine lv_icmp_lt (tgt := 16) hx hb dX9_triesBits_12 (by decide) (fun c12 => ?_) (fun c12 => ?_)
    ·
      have d12 : ((ra : Nat) : Int) < m_fewest.toInt := my_lt c12 (nI_toInt (by omega)) rfl
      exact cut16  _ _ ls hP hD hS hl
    ·
      have d12 : ((ra : Nat) : Int) ≥ m_fewest.toInt := my_nlt c12 (nI_toInt (by omega)) rfl
      exact my_retV hx hb hr hlocks hK hS (wl_kf_X9_triesBits_5 cI cJ cK m0 a_row a_tape a_number a_read a_readBits a_stands a_parted a_bitsWere a_stood a_chosen a_bestChosen a_often a_sorted a_risen a_risenWays m_thrown (nI m_told) (nI m_taped) (nI m_at) (nI m_to) (nI m_many) (nI m_readMany) m_fewest (nI m_size) mn ms mp mo mc me) hP hD (⟨m_fewest, ms, mp, mo, mc, me, rfl, hR_ms, hR_mp, hR_mo, (by first | exact th_end hfw2 (by omega) | exact th_prune hfw (by omega) (by omega)), (by first | exact hst2 | exact fun _ _ => rfl), (by first | exact hso3 | exact fun _ _ => rfl)⟩) dX9_triesBits_15
abbrev wl_kf_X9_triesBits_4 (cI cJ cK : ClassId) (m0 : Nat) (a_row : Nat) (a_tape : Nat) (a_number : Nat) (a_read : Nat) (a_readBits : Nat) (a_stands : Nat) (a_parted : Nat) (a_bitsWere : Nat) (a_stood : Nat) (a_chosen : Nat) (a_bestChosen : Nat) (a_often : Nat) (a_sorted : Nat) (a_risen : Nat) (a_risenWays : Nat) (v0_ : Int32) (v1_ : Int32) (v2_ : Int32) (v3_ : Int32) (v4_ : Int32) (v5_ : Int32) (v6_ : Int32) (v7_ : Int32) (v8_ : Int32) (v9_ : Nat → Int32) (v10_ : Nat → Int32) (v11_ : Nat → Int32) (v12_ : Nat → Int32) (v13_ : Nat → Int32) (v14_ : Nat → Int32) : va_W := [(m0, .inr (9, [.int v0_, .int v1_, .ref a_row, .ref a_tape, .int v2_, .int v3_, .int v4_, .int v5_, .ref a_number, .ref a_read, .int v6_, .ref a_readBits, .ref a_stands, .ref a_parted, .ref a_bitsWere, .ref a_stood, .ref a_chosen, .ref a_bestChosen, .int v7_, .ref a_often, .ref a_sorted, .int v8_, .ref a_risen, .ref a_risenWays])), (a_number, .inl (cI, 64, .inl v9_)), (a_stands, .inl (cI, 64, .inl v10_)), (a_parted, .inl (cI, 64, .inl v11_)), (a_stood, .inl (cI, 512, .inl v12_)), (a_chosen, .inl (cI, 8, .inl v13_)), (a_bestChosen, .inl (cI, 8, .inl v14_))]
set_option maxHeartbeats 4000000 in
set_option maxRecDepth 100000 in
theorem kf_X9_triesBits_4 (l : Launch) (D : va_G) (cI cJ cK : ClassId) (m0 : Nat) (a_row : Nat) (a_tape : Nat) (a_number : Nat) (a_read : Nat) (a_readBits : Nat) (a_stands : Nat) (a_parted : Nat) (a_bitsWere : Nat) (a_stood : Nat) (a_chosen : Nat) (a_bestChosen : Nat) (a_often : Nat) (a_sorted : Nat) (a_risen : Nat) (a_risenWays : Nat) (m_thrown : Int32) (m_told : Nat) (m_taped : Nat) (m_at : Nat) (m_to : Nat) (m_many : Nat) (m_readMany : Nat) (m_fewest : Int32) (m_size : Nat) (mn : Nat → Int32) (ms : Nat → Int32) (mp : Nat → Int32) (mo : Nat → Int32) (mc : Nat → Int32) (me : Nat → Int32) (U : Nat) (ra : Nat) (F : Nat) (hz_m_told : m_told ≤ 64) (hz_m_taped : m_taped ≤ 100) (hz_m_at : m_at ≤ 100) (hz_m_to : m_to ≤ 100) (hz_m_many : m_many ≤ 64) (hz_m_readMany : m_readMany ≤ 64) (hz_m_size : m_size ≤ 64) (hR_mn : RB 0 255 mn) (hR_ms : RB 0 63 ms) (hR_mp : RB 0 63 mp) (hR_mo : RB 0 63 mo) (hU : U < 256) (hra : ra ≤ 256) (hfw : fwR m_fewest F) : ctV l yX9_triesBits wsX9_triesBits ({ frames := 5, cells := 0, slots := 0, locals := 300 } : Room) D (tyIJ cI cJ cK) [.ref m0, .int 4, .int (nI U), .int (nI ra)] (wl_kf_X9_triesBits_4 cI cJ cK m0 a_row a_tape a_number a_read a_readBits a_stands a_parted a_bitsWere a_stood a_chosen a_bestChosen a_often a_sorted a_risen a_risenWays m_thrown (nI m_told) (nI m_taped) (nI m_at) (nI m_to) (nI m_many) (nI m_readMany) m_fewest (nI m_size) mn ms mp mo mc me) (fun (u : va_W) => ∃ (m_fewest' : Int32) (ms' : Nat → Int32) (mp' : Nat → Int32) (mo' : Nat → Int32) (mc' : Nat → Int32) (me' : Nat → Int32), u = (wl_kf_X9_triesBits_4 cI cJ cK m0 a_row a_tape a_number a_read a_readBits a_stands a_parted a_bitsWere a_stood a_chosen a_bestChosen a_often a_sorted a_risen a_risenWays m_thrown (nI m_told) (nI m_taped) (nI m_at) (nI m_to) (nI m_many) (nI m_readMany) m_fewest' (nI m_size) mn ms' mp' mo' mc' me') ∧ RB 0 63 ms' ∧ RB 0 63 mp' ∧ RB 0 63 mo' ∧ fwR m_fewest' (min F (ra + tT m_many 4 (vG mn ms) (uS U))) ∧ (∀ i, i < m_many → ms' i = ms i) ∧ (∀ q, q < 256 → mo' q = mo q)) := by
  refine ctV.of (cc := cX9_triesBits) (maxL := 7) (ret := none) (by decide) rfl (Nat.le_of_ble_eq_true rfl) ?_
  intro p e s m below meth c ls A hx hb hr hts hown hml hlocks hname hA hK hN hP hD hS hl
  have hl : lv_has ls 7 [(0, .ref m0), (1, .int 4), (2, .int (nI U)), (3, .int (nI ra))] := hl
  have hown : s.vm.findClass RX9 = some m.cls := hown
  have hi9 : ∀ w ∈ u_ws RX9 TX9 24, w ∈ wsX9_triesBits := by decide +kernel
  have fl162 := hts (.fieldLink RX9 162 "PlaneColumnModel" "fewest" "I") (by decide +kernel)
  have fl58 := hts (.fieldLink RX9 58 "PlaneColumnModel" "stands" "[I") (by decide +kernel)
  have fl67 := hts (.fieldLink RX9 67 "PlaneColumnModel" "stood" "[I") (by decide +kernel)
  have fl70 := hts (.fieldLink RX9 70 "PlaneColumnModel" "chosen" "[I") (by decide +kernel)
  have fl88 := hts (.fieldLink RX9 88 "PlaneColumnModel" "many" "I") (by decide +kernel)
  have cut16 : ∀ (H : Heap) (locs : List Loc) (ls : Array Slot), va_P D vwCl (wl_kf_X9_triesBits_4 cI cJ cK m0 a_row a_tape a_number a_read a_readBits a_stands a_parted a_bitsWere a_stood a_chosen a_bestChosen a_often a_sorted a_risen a_risenWays m_thrown (nI m_told) (nI m_taped) (nI m_at) (nI m_to) (nI m_many) (nI m_readMany) m_fewest (nI m_size) mn ms mp mo mc me) H → va_D A (wl_kf_X9_triesBits_4 cI cJ cK m0 a_row a_tape a_number a_read a_readBits a_stands a_parted a_bitsWere a_stood a_chosen a_bestChosen a_often a_sorted a_risen a_risenWays m_thrown (nI m_told) (nI m_taped) (nI m_at) (nI m_to) (nI m_many) (nI m_readMany) m_fewest (nI m_size) mn ms mp mo mc me) → va_S A s.heap H locs → lv_has ls 7 [(0, .ref m0), (1, .int 4), (2, .int (nI U)), (3, .int (nI ra))] → W p l e ({ frames := 5, cells := 0, slots := 0, locals := 300 } : Room) s m [.ref m0, .int 4, .int (nI U), .int (nI ra)].toArray below meth c H locs 0 0 (MQ below (va_Qv (fun (u : va_W) => ∃ (m_fewest' : Int32) (ms' : Nat → Int32) (mp' : Nat → Int32) (mo' : Nat → Int32) (mc' : Nat → Int32) (me' : Nat → Int32), u = (wl_kf_X9_triesBits_4 cI cJ cK m0 a_row a_tape a_number a_read a_readBits a_stands a_parted a_bitsWere a_stood a_chosen a_bestChosen a_often a_sorted a_risen a_risenWays m_thrown (nI m_told) (nI m_taped) (nI m_at) (nI m_to) (nI m_many) (nI m_readMany) m_fewest' (nI m_size) mn ms' mp' mo' mc' me') ∧ RB 0 63 ms' ∧ RB 0 63 mp' ∧ RB 0 63 mo' ∧ fwR m_fewest' (min F (ra + tT m_many 4 (vG mn ms) (uS U))) ∧ (∀ i, i < m_many → ms' i = ms i) ∧ (∀ q, q < 256 → mo' q = mo q)) (my_B D (tyIJ cI cJ cK) A) A) [.ref m0, .int 4, .int (nI U), .int (nI ra)].toArray s 0 0 A) (F0 m 16 ls []) := by
    intro H locs ls hP hD hS hl
    refine lv_iload_n hx hb dX9_triesBits_16 rfl (lv_at hl 1 rfl) ?_
    refine lv_bipush (v := 8) hx hb dX9_triesBits_17 (by decide +kernel) ?_
    refine lv_icmp_ne (tgt := 58) hx hb dX9_triesBits_19 (by decide) (fun c19 => ?_) (fun c19 => ?_)
    ·
      refine lv_iconst (v := 0) hx hb dX9_triesBits_58 (by decide +kernel) ?_
      refine lv_istore (lv' := [(4, .int 0), (0, .ref m0), (1, .int 4), (2, .int (nI U)), (3, .int (nI ra))]) hx hb dX9_triesBits_59 hl (by decide) rfl (fun ls hl => ?_)
      have loop61 : ∀ (n9 : Nat) (k : Nat) (a_stood_61 : Nat → Int32), 64 - k < n9 → (k ≤ 64) → (k ≤ m_many) → (∀ i, i < k → a_stood_61 (i + 256) = ms i) → (∀ q, q < 256 → a_stood_61 q = mo q) → (RB 0 63 a_stood_61) → ∀ (H : Heap) (locs : List Loc) (ls : Array Slot), va_P D vwCl (wl_kf_X9_triesBits_4 cI cJ cK m0 a_row a_tape a_number a_read a_readBits a_stands a_parted a_bitsWere a_stood a_chosen a_bestChosen a_often a_sorted a_risen a_risenWays m_thrown (nI m_told) (nI m_taped) (nI m_at) (nI m_to) (nI m_many) (nI m_readMany) m_fewest (nI m_size) mn ms mp a_stood_61 mc me) H → va_D A (wl_kf_X9_triesBits_4 cI cJ cK m0 a_row a_tape a_number a_read a_readBits a_stands a_parted a_bitsWere a_stood a_chosen a_bestChosen a_often a_sorted a_risen a_risenWays m_thrown (nI m_told) (nI m_taped) (nI m_at) (nI m_to) (nI m_many) (nI m_readMany) m_fewest (nI m_size) mn ms mp a_stood_61 mc me) → va_S A s.heap H locs → lv_has ls 7 [(4, .int (nI k)), (0, .ref m0), (1, .int 4), (2, .int (nI U)), (3, .int (nI ra))] → W p l e ({ frames := 5, cells := 0, slots := 0, locals := 300 } : Room) s m [.ref m0, .int 4, .int (nI U), .int (nI ra)].toArray below meth c H locs 0 0 (MQ below (va_Qv (fun (u : va_W) => ∃ (m_fewest' : Int32) (ms' : Nat → Int32) (mp' : Nat → Int32) (mo' : Nat → Int32) (mc' : Nat → Int32) (me' : Nat → Int32), u = (wl_kf_X9_triesBits_4 cI cJ cK m0 a_row a_tape a_number a_read a_readBits a_stands a_parted a_bitsWere a_stood a_chosen a_bestChosen a_often a_sorted a_risen a_risenWays m_thrown (nI m_told) (nI m_taped) (nI m_at) (nI m_to) (nI m_many) (nI m_readMany) m_fewest' (nI m_size) mn ms' mp' mo' mc' me') ∧ RB 0 63 ms' ∧ RB 0 63 mp' ∧ RB 0 63 mo' ∧ fwR m_fewest' (min F (ra + tT m_many 4 (vG mn ms) (uS U))) ∧ (∀ i, i < m_many → ms' i = ms i) ∧ (∀ q, q < 256 → mo' q = mo q)) (my_B D (tyIJ cI cJ cK) A) A) [.ref m0, .int 4, .int (nI U), .int (nI ra)].toArray s 0 0 A) (F0 m 61 ls []) := by
        intro n9
        induction n9 with
        | zero =>
          intro k a_stood_61 hn9
          exact absurd hn9 (Nat.not_lt_zero _)
        | succ n9 ih61 =>
          intro k a_stood_61 hn9 hk_k hkm hs61 hs62 hR_a_stood_61 H locs ls hP hD hS hl
          refine lv_iload hx hb dX9_triesBits_61 (lv_at hl 0 rfl) ?_
          refine lv_aload_n hx hb dX9_triesBits_63 rfl (lv_at hl 1 rfl) ?_
          refine va_get (ci := 9) (v := .int (nI m_many)) (C := RX9) (T := TX9) (N := 24) hx hb hts hi9 hown hK hP 0 rfl rfl 7 (by decide) fl88 (fun _ h9 => h9) rfl dX9_triesBits_64 ?_
          refine lv_icmp_ge (tgt := 95) hx hb dX9_triesBits_67 (by decide) (fun c67 => ?_) (fun c67 => ?_)
          ·
            have d67 : ((k : Nat) : Int) ≥ ((m_many : Nat) : Int) := my_ge c67 (nI_toInt (by omega)) (nI_toInt (by omega))
            refine lv_bipush (v := 7) hx hb dX9_triesBits_95 (by decide +kernel) ?_
            refine lv_istore (lv' := [(4, .int 7), (0, .ref m0), (1, .int 4), (2, .int (nI U)), (3, .int (nI ra))]) hx hb dX9_triesBits_97 hl (by decide) rfl (fun ls hl => ?_)
            have loop99 : ∀ (n9 : Nat) (x : Int32) (m0_fewest_99 : Int32) (a_stands_99 : Nat → Int32) (a_parted_99 : Nat → Int32) (a_stood_99 : Nat → Int32) (a_chosen_99 : Nat → Int32) (a_bestChosen_99 : Nat → Int32), (x.toInt + 1).toNat < n9 → (-1 ≤ x.toInt) → (x.toInt ≤ 7) → (fwR m0_fewest_99 (min F (ra + tM (tF m_many 3 (vG mn ms) (uS U)) (uS U) (7 - x.toInt).toNat))) → (∀ i, i < m_many → a_stands_99 i = ms i) → (∀ i, i < m_many → a_stood_99 (i + 256) = ms i) → (∀ q, q < 256 → a_stood_99 q = mo q) → (RB 0 63 a_stands_99) → (RB 0 63 a_parted_99) → (RB 0 63 a_stood_99) → ∀ (H : Heap) (locs : List Loc) (ls : Array Slot), va_P D vwCl (wl_kf_X9_triesBits_4 cI cJ cK m0 a_row a_tape a_number a_read a_readBits a_stands a_parted a_bitsWere a_stood a_chosen a_bestChosen a_often a_sorted a_risen a_risenWays m_thrown (nI m_told) (nI m_taped) (nI m_at) (nI m_to) (nI m_many) (nI m_readMany) m0_fewest_99 (nI m_size) mn a_stands_99 a_parted_99 a_stood_99 a_chosen_99 a_bestChosen_99) H → va_D A (wl_kf_X9_triesBits_4 cI cJ cK m0 a_row a_tape a_number a_read a_readBits a_stands a_parted a_bitsWere a_stood a_chosen a_bestChosen a_often a_sorted a_risen a_risenWays m_thrown (nI m_told) (nI m_taped) (nI m_at) (nI m_to) (nI m_many) (nI m_readMany) m0_fewest_99 (nI m_size) mn a_stands_99 a_parted_99 a_stood_99 a_chosen_99 a_bestChosen_99) → va_S A s.heap H locs → lv_has ls 7 [(4, .int x), (0, .ref m0), (1, .int 4), (2, .int (nI U)), (3, .int (nI ra))] → W p l e ({ frames := 5, cells := 0, slots := 0, locals := 300 } : Room) s m [.ref m0, .int 4, .int (nI U), .int (nI ra)].toArray below meth c H locs 0 0 (MQ below (va_Qv (fun (u : va_W) => ∃ (m_fewest' : Int32) (ms' : Nat → Int32) (mp' : Nat → Int32) (mo' : Nat → Int32) (mc' : Nat → Int32) (me' : Nat → Int32), u = (wl_kf_X9_triesBits_4 cI cJ cK m0 a_row a_tape a_number a_read a_readBits a_stands a_parted a_bitsWere a_stood a_chosen a_bestChosen a_often a_sorted a_risen a_risenWays m_thrown (nI m_told) (nI m_taped) (nI m_at) (nI m_to) (nI m_many) (nI m_readMany) m_fewest' (nI m_size) mn ms' mp' mo' mc' me') ∧ RB 0 63 ms' ∧ RB 0 63 mp' ∧ RB 0 63 mo' ∧ fwR m_fewest' (min F (ra + tT m_many 4 (vG mn ms) (uS U))) ∧ (∀ i, i < m_many → ms' i = ms i) ∧ (∀ q, q < 256 → mo' q = mo q)) (my_B D (tyIJ cI cJ cK) A) A) [.ref m0, .int 4, .int (nI U), .int (nI ra)].toArray s 0 0 A) (F0 m 99 ls []) := by
              intro n9
              induction n9 with
              | zero =>
                intro x m0_fewest_99 a_stands_99 a_parted_99 a_stood_99 a_chosen_99 a_bestChosen_99 hn9
                exact absurd hn9 (Nat.not_lt_zero _)
              | succ n9 ih99 =>
                intro x m0_fewest_99 a_stands_99 a_parted_99 a_stood_99 a_chosen_99 a_bestChosen_99 hn9 hx0 hx1 hfw2 hst2 hso2 hso3 hR_a_stands_99 hR_a_parted_99 hR_a_stood_99 H locs ls hP hD hS hl
                refine lv_iload hx hb dX9_triesBits_99 (lv_at hl 0 rfl) ?_
                refine lv_if_lt (tgt := 195) hx hb dX9_triesBits_101 (by decide) (fun c101 => ?_) (fun c101 => ?_)
                ·
                  have d101 : x.toInt < (0 : Int) := my_lt c101 rfl (by decide +kernel)
                  exact my_retV hx hb hr hlocks hK hS (wl_kf_X9_triesBits_4 cI cJ cK m0 a_row a_tape a_number a_read a_readBits a_stands a_parted a_bitsWere a_stood a_chosen a_bestChosen a_often a_sorted a_risen a_risenWays m_thrown (nI m_told) (nI m_taped) (nI m_at) (nI m_to) (nI m_many) (nI m_readMany) m0_fewest_99 (nI m_size) mn a_stands_99 a_parted_99 a_stood_99 a_chosen_99 a_bestChosen_99) hP hD (⟨m0_fewest_99, a_stands_99, a_parted_99, a_stood_99, a_chosen_99, a_bestChosen_99, rfl, hR_a_stands_99, hR_a_parted_99, hR_a_stood_99, (by first | exact th_end hfw2 (by omega) | exact th_prune hfw (by omega) (by omega)), (by first | exact hst2 | exact fun _ _ => rfl), (by first | exact hso3 | exact fun _ _ => rfl)⟩) dX9_triesBits_195
                ·
                  have d101 : x.toInt ≥ (0 : Int) := my_nlt c101 rfl (by decide +kernel)
                  obtain ⟨w_1, rfl, hw_1⟩ := my_natP (x := x) (by omega)
                  have hlw_1 : w_1 < 2147483648 := by have h9 := Int32.toInt_lt (nI w_1); omega
                  refine lv_iload_n hx hb dX9_triesBits_104 rfl (lv_at hl 3 rfl) ?_
                  refine lv_iload hx hb dX9_triesBits_105 (lv_at hl 0 rfl) ?_
                  refine lv_ishr hx hb dX9_triesBits_107 ?_
                  refine my_eqi (y := nI (U / 2 ^ w_1)) (my_shrG (by omega) (by omega)) ?_
                  refine lv_iconst (v := 1) hx hb dX9_triesBits_108 (by decide +kernel) ?_
                  refine lv_iand hx hb dX9_triesBits_109 ?_
                  refine my_eqi (y := nI ((U / 2 ^ w_1) % 2)) (my_maskN _ 1) ?_
                  refine lv_if_ne (tgt := 189) hx hb dX9_triesBits_110 (by decide) (fun c110 => ?_) (fun c110 => ?_)
                  ·
                    have d110 : (((U / 2 ^ w_1) % 2 : Nat) : Int) ≠ (0 : Int) := my_ne c110 (nI_toInt (by omega)) (by decide +kernel)
                    obtain ⟨z_2, ez_2⟩ : ∃ y : Int32, y = nI w_1 + (-1) := ⟨_, rfl⟩
                    try have tz_2 : z_2.toInt = ((w_1 : Nat) : Int) + (-1) := by rw [ez_2]; exact my_addI (nI_toInt (by omega)) (by decide +kernel) (by omega) (by omega)
                    refine lv_iinc (v := z_2) (lv' := [(4, .int z_2), (0, .ref m0), (1, .int 4), (2, .int (nI U)), (3, .int (nI ra))]) hx hb dX9_triesBits_189 hl (k := 0) rfl (by rw [ez_2]; rfl) (by decide) rfl (fun ls hl => ?_)
                    refine lv_goto (tgt := 99) hx hb dX9_triesBits_192 (by decide) ?_
                    exact ih99  z_2 m0_fewest_99 a_stands_99 a_parted_99 a_stood_99 a_chosen_99 a_bestChosen_99 (by omega) (by first | assumption | omega | decide +kernel) (by first | assumption | omega | decide +kernel) (by first | exact th_skip hfw2 (by omega) (by omega) (by omega) (su_f d110 (by omega)) | exact th_done hfw1 (by omega) (by omega) (by omega) (su_t d110 (by omega)) (th_take (by omega) (by omega) hU hst2 hpt hrn)) (by first | exact hst2 | exact fun i hi => hrs i (by omega)) (by first | exact hso2 | exact fun i hi => (hso1 _ (by omega)).trans (hso2 i hi)) (by first | exact hso3 | exact fun q hq => (hso1 q (by omega)).trans (hso3 q hq)) hR_a_stands_99 hR_a_parted_99 hR_a_stood_99 _ _ ls hP hD hS (lv_sub hl [0, 1, 2, 3, 4] rfl)
                  ·
                    have d110 : (((U / 2 ^ w_1) % 2 : Nat) : Int) = (0 : Int) := my_eq c110 (nI_toInt (by omega)) (by decide +kernel)
                    refine lv_aload_n hx hb dX9_triesBits_113 rfl (lv_at hl 1 rfl) ?_
                    refine va_get (ci := 9) (v := .ref a_chosen) (C := RX9) (T := TX9) (N := 24) hx hb hts hi9 hown hK hP 0 rfl rfl 16 (by decide) fl70 (fun _ h9 => h9) rfl dX9_triesBits_114 ?_
                    refine lv_iload_n hx hb dX9_triesBits_117 rfl (lv_at hl 2 rfl) ?_
                    refine lv_iload hx hb dX9_triesBits_118 (lv_at hl 0 rfl) ?_
                    refine va_iast hx hb hK hP hD hS 5 0 rfl rfl (vp_in_nI (n := 4) (by omega) (by omega)) dX9_triesBits_120 (fun H locs hP hD hS => ?_)
                    obtain ⟨g_3, eg_3⟩ : ∃ g : Nat → Int32, g = upd a_chosen_99 4 (nI w_1) := ⟨_, rfl⟩
                    have eU : upd a_chosen_99 (4 : Int32).toNatClampNeg (nI w_1) = g_3 := by rw [eg_3, show (4 : Int32).toNatClampNeg = 4 from by decide +kernel]
                    rw [eU] at hP hD
                    have hP : va_P D vwCl (wl_kf_X9_triesBits_4 cI cJ cK m0 a_row a_tape a_number a_read a_readBits a_stands a_parted a_bitsWere a_stood a_chosen a_bestChosen a_often a_sorted a_risen a_risenWays m_thrown (nI m_told) (nI m_taped) (nI m_at) (nI m_to) (nI m_many) (nI m_readMany) m0_fewest_99 (nI m_size) mn a_stands_99 a_parted_99 a_stood_99 g_3 a_bestChosen_99) H := hP
                    have hD : va_D A (wl_kf_X9_triesBits_4 cI cJ cK m0 a_row a_tape a_number a_read a_readBits a_stands a_parted a_bitsWere a_stood a_chosen a_bestChosen a_often a_sorted a_risen a_risenWays m_thrown (nI m_told) (nI m_taped) (nI m_at) (nI m_to) (nI m_many) (nI m_readMany) m0_fewest_99 (nI m_size) mn a_stands_99 a_parted_99 a_stood_99 g_3 a_bestChosen_99) := hD
                    refine lv_aload_n hx hb dX9_triesBits_121 rfl (lv_at hl 1 rfl) ?_
                    refine lv_iload hx hb dX9_triesBits_122 (lv_at hl 0 rfl) ?_
                    refine my_gpI (my_pV (As := [.int (nI w_1)]) (rest := []) (ci := 9) ⟨hx, hb, hml, hown, hts⟩ (cwV 1 hts gX9_triesBits_X9_runsOf rfl rfl rfl (by decide +kernel) ⟨Nat.le_of_ble_eq_true rfl, Nat.le_of_ble_eq_true rfl⟩) hN hK hP [0, 1, 2] rfl 0 rfl rfl rfl rfl hl.1 rfl (Nat.le_of_ble_eq_true rfl) dX9_triesBits_124 ⟨Nat.le_of_ble_eq_true rfl, Nat.le_of_ble_eq_true rfl⟩  (kf_X9_runsOf l D cI cJ cK m0 a_row a_tape a_number a_read a_readBits a_stands a_parted a_bitsWere a_stood a_chosen a_bestChosen a_often a_sorted a_risen a_risenWays m_thrown m_told m_taped m_at m_to m_many m_readMany m0_fewest_99 m_size mn a_stands_99 w_1 (by first | assumption | omega | decide +kernel) (by first | assumption | omega | decide +kernel) (by first | assumption | omega | decide +kernel) (by first | assumption | omega | decide +kernel) (by first | assumption | omega | decide +kernel) (by first | assumption | omega | decide +kernel) (by first | assumption | omega | decide +kernel) hR_mn hR_a_stands_99 (by first | assumption | omega | decide +kernel))) (fun r hp => ?_)
                    obtain ⟨t_4, rfl, hrn, hq_5⟩ := hp
                    refine lv_istore (lv' := [(5, .int (nI t_4)), (4, .int (nI w_1)), (0, .ref m0), (1, .int 4), (2, .int (nI U)), (3, .int (nI ra))]) hx hb dX9_triesBits_127 hl (by decide) rfl (fun ls hl => ?_)
                    refine lv_aload_n hx hb dX9_triesBits_129 rfl (lv_at hl 2 rfl) ?_
                    refine lv_iload hx hb dX9_triesBits_130 (lv_at hl 1 rfl) ?_
                    refine my_goVS (wc := (wl_kf_X9_parts cI cJ cK m0 a_row a_tape a_number a_read a_readBits a_stands a_parted a_bitsWere a_stood a_chosen a_bestChosen a_often a_sorted a_risen a_risenWays m_thrown (nI m_told) (nI m_taped) (nI m_at) (nI m_to) (nI m_many) (nI m_readMany) m0_fewest_99 (nI m_size) mn a_stands_99 a_parted_99)) hP hD hS hA [0, 1, 2, 3] rfl [some 0, some 1, some 2, some 3] (by decide +kernel) (my_cV (As := [.int (nI w_1)]) (rest := []) (ci := 9) (wc := (wl_kf_X9_parts cI cJ cK m0 a_row a_tape a_number a_read a_readBits a_stands a_parted a_bitsWere a_stood a_chosen a_bestChosen a_often a_sorted a_risen a_risenWays m_thrown (nI m_told) (nI m_taped) (nI m_at) (nI m_to) (nI m_many) (nI m_readMany) m0_fewest_99 (nI m_size) mn a_stands_99 a_parted_99)) ⟨hx, hb, hml, hown, hts⟩ (cwV 1 hts gX9_triesBits_X9_parts rfl rfl rfl (by decide +kernel) ⟨Nat.le_of_ble_eq_true rfl, Nat.le_of_ble_eq_true rfl⟩) hN hK hP hD [0, 1, 2, 3] rfl (by decide) rfl 0 rfl rfl rfl rfl hl.1 rfl (Nat.le_of_ble_eq_true rfl) dX9_triesBits_132 ⟨Nat.le_of_ble_eq_true rfl, Nat.le_of_ble_eq_true rfl⟩  ((kf_X9_parts l D cI cJ cK m0 a_row a_tape a_number a_read a_readBits a_stands a_parted a_bitsWere a_stood a_chosen a_bestChosen a_often a_sorted a_risen a_risenWays m_thrown m_told m_taped m_at m_to m_many m_readMany m0_fewest_99 m_size mn a_stands_99 a_parted_99 w_1 (by first | assumption | omega | decide +kernel) (by first | assumption | omega | decide +kernel) (by first | assumption | omega | decide +kernel) (by first | assumption | omega | decide +kernel) (by first | assumption | omega | decide +kernel) (by first | assumption | omega | decide +kernel) (by first | assumption | omega | decide +kernel) hR_mn hR_a_stands_99 hR_a_parted_99 (by first | assumption | omega | decide +kernel)) _)) (fun u H locs hp hPD hS => ?_)
                    obtain ⟨ms_6, mp_7, rfl, hR_ms_6, hR_mp_7, hpt⟩ := hp
                    obtain ⟨hP, hD⟩ := hPD rfl
                    have hP : va_P D vwCl (wl_kf_X9_triesBits_4 cI cJ cK m0 a_row a_tape a_number a_read a_readBits a_stands a_parted a_bitsWere a_stood a_chosen a_bestChosen a_often a_sorted a_risen a_risenWays m_thrown (nI m_told) (nI m_taped) (nI m_at) (nI m_to) (nI m_many) (nI m_readMany) m0_fewest_99 (nI m_size) mn ms_6 mp_7 a_stood_99 g_3 a_bestChosen_99) H := hP
                    have hD : va_D A (wl_kf_X9_triesBits_4 cI cJ cK m0 a_row a_tape a_number a_read a_readBits a_stands a_parted a_bitsWere a_stood a_chosen a_bestChosen a_often a_sorted a_risen a_risenWays m_thrown (nI m_told) (nI m_taped) (nI m_at) (nI m_to) (nI m_many) (nI m_readMany) m0_fewest_99 (nI m_size) mn ms_6 mp_7 a_stood_99 g_3 a_bestChosen_99) := hD
                    refine lv_aload_n hx hb dX9_triesBits_135 rfl (lv_at hl 2 rfl) ?_
                    refine lv_iload_n hx hb dX9_triesBits_136 rfl (lv_at hl 3 rfl) ?_
                    refine lv_iconst (v := 1) hx hb dX9_triesBits_137 (by decide +kernel) ?_
                    refine lv_iadd hx hb dX9_triesBits_138 ?_
                    refine my_eqi (y := 5) (by decide +kernel) ?_
                    refine lv_iload_n hx hb dX9_triesBits_139 rfl (lv_at hl 4 rfl) ?_
                    refine lv_iconst (v := 1) hx hb dX9_triesBits_140 (by decide +kernel) ?_
                    refine lv_iload hx hb dX9_triesBits_141 (lv_at hl 1 rfl) ?_
                    refine lv_ishl hx hb dX9_triesBits_143 ?_
                    refine my_eqi (y := nI (2 ^ w_1)) (my_shl1 (by omega)) ?_
                    refine lv_ior hx hb dX9_triesBits_144 ?_
                    refine my_eqi (y := nI (U ||| (2 ^ w_1))) (fa_or _ _) ?_
                    refine lv_iload_n hx hb dX9_triesBits_145 rfl (lv_at hl 5 rfl) ?_
                    refine lv_iload hx hb dX9_triesBits_146 (lv_at hl 0 rfl) ?_
                    refine lv_iadd hx hb dX9_triesBits_148 ?_
                    refine my_eqi (y := nI (ra + t_4)) (nI_add _ _) ?_
                    refine my_goVS (wc := (wl_kf_X9_triesBits_5 cI cJ cK m0 a_row a_tape a_number a_read a_readBits a_stands a_parted a_bitsWere a_stood a_chosen a_bestChosen a_often a_sorted a_risen a_risenWays m_thrown (nI m_told) (nI m_taped) (nI m_at) (nI m_to) (nI m_many) (nI m_readMany) m0_fewest_99 (nI m_size) mn ms_6 mp_7 a_stood_99 g_3 a_bestChosen_99)) hP hD hS hA [0, 1, 2, 3, 4, 5, 6] rfl [some 0, some 1, some 2, some 3, some 4, some 5, some 6] (by decide +kernel) (my_cV (As := [.int 5, .int (nI (U ||| (2 ^ w_1))), .int (nI (ra + t_4))]) (rest := []) (ci := 9) (wc := (wl_kf_X9_triesBits_5 cI cJ cK m0 a_row a_tape a_number a_read a_readBits a_stands a_parted a_bitsWere a_stood a_chosen a_bestChosen a_often a_sorted a_risen a_risenWays m_thrown (nI m_told) (nI m_taped) (nI m_at) (nI m_to) (nI m_many) (nI m_readMany) m0_fewest_99 (nI m_size) mn ms_6 mp_7 a_stood_99 g_3 a_bestChosen_99)) ⟨hx, hb, hml, hown, hts⟩ (cwV 3 hts gX9_triesBits_X9_triesBits rfl rfl rfl (by decide +kernel) ⟨Nat.le_of_ble_eq_true rfl, Nat.le_of_ble_eq_true rfl⟩) hN hK hP hD [0, 1, 2, 3, 4, 5, 6] rfl (by decide) rfl 0 rfl rfl rfl rfl hl.1 rfl (Nat.le_of_ble_eq_true rfl) dX9_triesBits_149 ⟨Nat.le_of_ble_eq_true rfl, Nat.le_of_ble_eq_true rfl⟩  ((kf_X9_triesBits_5 l D cI cJ cK m0 a_row a_tape a_number a_read a_readBits a_stands a_parted a_bitsWere a_stood a_chosen a_bestChosen a_often a_sorted a_risen a_risenWays m_thrown m_told m_taped m_at m_to m_many m_readMany m0_fewest_99 m_size mn ms_6 mp_7 a_stood_99 g_3 a_bestChosen_99 (U ||| (2 ^ w_1)) (ra + t_4) (min F (ra + tM (tF m_many 3 (vG mn ms) (uS U)) (uS U) (7 - (nI w_1).toInt).toNat)) (by first | assumption | omega | decide +kernel) (by first | assumption | omega | decide +kernel) (by first | assumption | omega | decide +kernel) (by first | assumption | omega | decide +kernel) (by first | assumption | omega | decide +kernel) (by first | assumption | omega | decide +kernel) (by first | assumption | omega | decide +kernel) hR_mn hR_ms_6 hR_mp_7 hR_a_stood_99 ((or_b U hU _ (by omega)).1) (by first | assumption | omega | decide +kernel) (hfw2)) _)) (fun u H locs hp hPD hS => ?_)
                    obtain ⟨m_fewest_8, ms_9, mp_10, mo_11, mc_12, me_13, rfl, hR_ms_9, hR_mp_10, hR_mo_11, hfw1, hst1, hso1⟩ := hp
                    obtain ⟨hP, hD⟩ := hPD rfl
                    have hP : va_P D vwCl (wl_kf_X9_triesBits_4 cI cJ cK m0 a_row a_tape a_number a_read a_readBits a_stands a_parted a_bitsWere a_stood a_chosen a_bestChosen a_often a_sorted a_risen a_risenWays m_thrown (nI m_told) (nI m_taped) (nI m_at) (nI m_to) (nI m_many) (nI m_readMany) m_fewest_8 (nI m_size) mn ms_9 mp_10 mo_11 mc_12 me_13) H := hP
                    have hD : va_D A (wl_kf_X9_triesBits_4 cI cJ cK m0 a_row a_tape a_number a_read a_readBits a_stands a_parted a_bitsWere a_stood a_chosen a_bestChosen a_often a_sorted a_risen a_risenWays m_thrown (nI m_told) (nI m_taped) (nI m_at) (nI m_to) (nI m_many) (nI m_readMany) m_fewest_8 (nI m_size) mn ms_9 mp_10 mo_11 mc_12 me_13) := hD
                    refine lv_iconst (v := 0) hx hb dX9_triesBits_152 (by decide +kernel) ?_
                    refine lv_istore (lv' := [(6, .int 0), (5, .int (nI t_4)), (4, .int (nI w_1)), (0, .ref m0), (1, .int 4), (2, .int (nI U)), (3, .int (nI ra))]) hx hb dX9_triesBits_153 hl (by decide) rfl (fun ls hl => ?_)
                    have loop155 : ∀ (n9 : Nat) (k : Nat) (a_stands_155 : Nat → Int32), 64 - k < n9 → (k ≤ 64) → (k ≤ m_many) → (∀ i, i < k → a_stands_155 i = ms i) → (RB 0 63 a_stands_155) → ∀ (H : Heap) (locs : List Loc) (ls : Array Slot), va_P D vwCl (wl_kf_X9_triesBits_4 cI cJ cK m0 a_row a_tape a_number a_read a_readBits a_stands a_parted a_bitsWere a_stood a_chosen a_bestChosen a_often a_sorted a_risen a_risenWays m_thrown (nI m_told) (nI m_taped) (nI m_at) (nI m_to) (nI m_many) (nI m_readMany) m_fewest_8 (nI m_size) mn a_stands_155 mp_10 mo_11 mc_12 me_13) H → va_D A (wl_kf_X9_triesBits_4 cI cJ cK m0 a_row a_tape a_number a_read a_readBits a_stands a_parted a_bitsWere a_stood a_chosen a_bestChosen a_often a_sorted a_risen a_risenWays m_thrown (nI m_told) (nI m_taped) (nI m_at) (nI m_to) (nI m_many) (nI m_readMany) m_fewest_8 (nI m_size) mn a_stands_155 mp_10 mo_11 mc_12 me_13) → va_S A s.heap H locs → lv_has ls 7 [(6, .int (nI k)), (5, .int (nI t_4)), (4, .int (nI w_1)), (0, .ref m0), (1, .int 4), (2, .int (nI U)), (3, .int (nI ra))] → W p l e ({ frames := 5, cells := 0, slots := 0, locals := 300 } : Room) s m [.ref m0, .int 4, .int (nI U), .int (nI ra)].toArray below meth c H locs 0 0 (MQ below (va_Qv (fun (u : va_W) => ∃ (m_fewest' : Int32) (ms' : Nat → Int32) (mp' : Nat → Int32) (mo' : Nat → Int32) (mc' : Nat → Int32) (me' : Nat → Int32), u = (wl_kf_X9_triesBits_4 cI cJ cK m0 a_row a_tape a_number a_read a_readBits a_stands a_parted a_bitsWere a_stood a_chosen a_bestChosen a_often a_sorted a_risen a_risenWays m_thrown (nI m_told) (nI m_taped) (nI m_at) (nI m_to) (nI m_many) (nI m_readMany) m_fewest' (nI m_size) mn ms' mp' mo' mc' me') ∧ RB 0 63 ms' ∧ RB 0 63 mp' ∧ RB 0 63 mo' ∧ fwR m_fewest' (min F (ra + tT m_many 4 (vG mn ms) (uS U))) ∧ (∀ i, i < m_many → ms' i = ms i) ∧ (∀ q, q < 256 → mo' q = mo q)) (my_B D (tyIJ cI cJ cK) A) A) [.ref m0, .int 4, .int (nI U), .int (nI ra)].toArray s 0 0 A) (F0 m 155 ls []) := by
                      intro n9
                      induction n9 with
                      | zero =>
                        intro k a_stands_155 hn9
                        exact absurd hn9 (Nat.not_lt_zero _)
                      | succ n9 ih155 =>
                        intro k a_stands_155 hn9 hk_k hkm hrs hR_a_stands_155 H locs ls hP hD hS hl
                        refine lv_iload hx hb dX9_triesBits_155 (lv_at hl 0 rfl) ?_
                        refine lv_aload_n hx hb dX9_triesBits_157 rfl (lv_at hl 3 rfl) ?_
                        refine va_get (ci := 9) (v := .int (nI m_many)) (C := RX9) (T := TX9) (N := 24) hx hb hts hi9 hown hK hP 0 rfl rfl 7 (by decide) fl88 (fun _ h9 => h9) rfl dX9_triesBits_158 ?_
                        refine lv_icmp_ge (tgt := 189) hx hb dX9_triesBits_161 (by decide) (fun c161 => ?_) (fun c161 => ?_)
                        ·
                          have d161 : ((k : Nat) : Int) ≥ ((m_many : Nat) : Int) := my_ge c161 (nI_toInt (by omega)) (nI_toInt (by omega))
                          obtain ⟨z_14, ez_14⟩ : ∃ y : Int32, y = nI w_1 + (-1) := ⟨_, rfl⟩
                          try have tz_14 : z_14.toInt = ((w_1 : Nat) : Int) + (-1) := by rw [ez_14]; exact my_addI (nI_toInt (by omega)) (by decide +kernel) (by omega) (by omega)
                          refine lv_iinc (v := z_14) (lv' := [(4, .int z_14), (6, .int (nI k)), (5, .int (nI t_4)), (0, .ref m0), (1, .int 4), (2, .int (nI U)), (3, .int (nI ra))]) hx hb dX9_triesBits_189 hl (k := 2) rfl (by rw [ez_14]; rfl) (by decide) rfl (fun ls hl => ?_)
                          refine lv_goto (tgt := 99) hx hb dX9_triesBits_192 (by decide) ?_
                          exact ih99  z_14 m_fewest_8 a_stands_155 mp_10 mo_11 mc_12 me_13 (by omega) (by first | assumption | omega | decide +kernel) (by first | assumption | omega | decide +kernel) (by first | exact th_skip hfw2 (by omega) (by omega) (by omega) (su_f d110 (by omega)) | exact th_done hfw1 (by omega) (by omega) (by omega) (su_t d110 (by omega)) (th_take (by omega) (by omega) hU hst2 hpt hrn)) (by first | exact hst2 | exact fun i hi => hrs i (by omega)) (by first | exact hso2 | exact fun i hi => (hso1 _ (by omega)).trans (hso2 i hi)) (by first | exact hso3 | exact fun q hq => (hso1 q (by omega)).trans (hso3 q hq)) hR_a_stands_155 hR_mp_10 hR_mo_11 _ _ ls hP hD hS (lv_sub hl [0, 3, 4, 5, 6] rfl)
                        ·
                          have d161 : ((k : Nat) : Int) < ((m_many : Nat) : Int) := my_nge c161 (nI_toInt (by omega)) (nI_toInt (by omega))
                          refine lv_aload_n hx hb dX9_triesBits_164 rfl (lv_at hl 3 rfl) ?_
                          refine va_get (ci := 9) (v := .ref a_stands) (C := RX9) (T := TX9) (N := 24) hx hb hts hi9 hown hK hP 0 rfl rfl 12 (by decide) fl58 (fun _ h9 => h9) rfl dX9_triesBits_165 ?_
                          refine lv_iload hx hb dX9_triesBits_168 (lv_at hl 0 rfl) ?_
                          refine lv_aload_n hx hb dX9_triesBits_170 rfl (lv_at hl 3 rfl) ?_
                          refine va_get (ci := 9) (v := .ref a_stood) (C := RX9) (T := TX9) (N := 24) hx hb hts hi9 hown hK hP 0 rfl rfl 15 (by decide) fl67 (fun _ h9 => h9) rfl dX9_triesBits_171 ?_
                          refine lv_bipush (v := 64) hx hb dX9_triesBits_174 (by decide +kernel) ?_
                          refine lv_iload_n hx hb dX9_triesBits_176 rfl (lv_at hl 4 rfl) ?_
                          refine lv_imul hx hb dX9_triesBits_177 ?_
                          refine my_eqi (y := 256) (by decide +kernel) ?_
                          refine lv_iload hx hb dX9_triesBits_178 (lv_at hl 0 rfl) ?_
                          refine lv_iadd hx hb dX9_triesBits_180 ?_
                          refine my_eqi (y := nI (k + 256)) (my_addN2 k 256) ?_
                          refine va_iald hx hb hK hP 4 0 rfl rfl (vp_in_nI (by omega) (by omega)) dX9_triesBits_181 ?_
                          refine my_eqi (y := mo_11 (k + 256)) (congrArg mo_11 (nI_clamp (by omega))) ?_
                          have hb_15 := hR_mo_11 (k + 256)
                          refine va_iast hx hb hK hP hD hS 2 0 rfl rfl (vp_in_nI (by omega) (by omega)) dX9_triesBits_182 (fun H locs hP hD hS => ?_)
                          obtain ⟨g_16, eg_16⟩ : ∃ g : Nat → Int32, g = upd a_stands_155 k (mo_11 (k + 256)) := ⟨_, rfl⟩
                          have eU : upd a_stands_155 (nI k : Int32).toNatClampNeg (mo_11 (k + 256)) = g_16 := by rw [eg_16, show (nI k : Int32).toNatClampNeg = k from nI_clamp (by omega)]
                          rw [eU] at hP hD
                          have hR_g_16 : RB 0 63 g_16 := by rw [eg_16]; exact hR_a_stands_155.upd rfl (by omega) (by omega)
                          have hP : va_P D vwCl (wl_kf_X9_triesBits_4 cI cJ cK m0 a_row a_tape a_number a_read a_readBits a_stands a_parted a_bitsWere a_stood a_chosen a_bestChosen a_often a_sorted a_risen a_risenWays m_thrown (nI m_told) (nI m_taped) (nI m_at) (nI m_to) (nI m_many) (nI m_readMany) m_fewest_8 (nI m_size) mn g_16 mp_10 mo_11 mc_12 me_13) H := hP
                          have hD : va_D A (wl_kf_X9_triesBits_4 cI cJ cK m0 a_row a_tape a_number a_read a_readBits a_stands a_parted a_bitsWere a_stood a_chosen a_bestChosen a_often a_sorted a_risen a_risenWays m_thrown (nI m_told) (nI m_taped) (nI m_at) (nI m_to) (nI m_many) (nI m_readMany) m_fewest_8 (nI m_size) mn g_16 mp_10 mo_11 mc_12 me_13) := hD
                          refine lv_iinc (v := nI (k + 1)) (lv' := [(6, .int (nI (k + 1))), (5, .int (nI t_4)), (4, .int (nI w_1)), (0, .ref m0), (1, .int 4), (2, .int (nI U)), (3, .int (nI ra))]) hx hb dX9_triesBits_183 hl (k := 0) rfl (my_incN k 1 (by decide +kernel)) (by decide) rfl (fun ls hl => ?_)
                          refine lv_goto (tgt := 155) hx hb dX9_triesBits_186 (by decide) ?_
                          exact ih155  (k + 1) g_16 (by omega) (by first | assumption | omega | decide +kernel) (by first | assumption | omega | decide +kernel) (nv_step (F := ms) (by assumption) ((hso1 _ (by omega)).trans (hso2 k (by omega))) hrs) hR_g_16 _ _ ls hP hD hS (lv_sub hl [0, 1, 2, 3, 4, 5, 6] rfl)
                    exact loop155 ((64 - 0) + 1) 0 ms_9 (Nat.lt_succ_self _) (by first | assumption | omega | decide +kernel) (by first | assumption | omega | decide +kernel) (fun i h => absurd h (Nat.not_lt_zero i)) hR_ms_9 _ _ ls hP hD hS (lv_sub hl [0, 1, 2, 3, 4, 5, 6] rfl)
            have ec_17 : (7 : Int32).toInt = 7 := by decide +kernel
            exact loop99 ((((7 : Int32).toInt + 1).toNat) + 1) (7 : Int32) m_fewest ms mp a_stood_61 mc me (Nat.lt_succ_self _) (by first | assumption | omega | decide +kernel) (by first | assumption | omega | decide +kernel) (th_0 hfw) (fun _ _ => rfl) (fun i hi => hs61 i (by omega)) (hs62) hR_ms hR_mp hR_a_stood_61 _ _ ls hP hD hS (lv_sub hl [0, 1, 2, 3, 4] rfl)
          ·
            have d67 : ((k : Nat) : Int) < ((m_many : Nat) : Int) := my_nge c67 (nI_toInt (by omega)) (nI_toInt (by omega))
            refine lv_aload_n hx hb dX9_triesBits_70 rfl (lv_at hl 1 rfl) ?_
            refine va_get (ci := 9) (v := .ref a_stood) (C := RX9) (T := TX9) (N := 24) hx hb hts hi9 hown hK hP 0 rfl rfl 15 (by decide) fl67 (fun _ h9 => h9) rfl dX9_triesBits_71 ?_
            refine lv_bipush (v := 64) hx hb dX9_triesBits_74 (by decide +kernel) ?_
            refine lv_iload_n hx hb dX9_triesBits_76 rfl (lv_at hl 2 rfl) ?_
            refine lv_imul hx hb dX9_triesBits_77 ?_
            refine my_eqi (y := 256) (by decide +kernel) ?_
            refine lv_iload hx hb dX9_triesBits_78 (lv_at hl 0 rfl) ?_
            refine lv_iadd hx hb dX9_triesBits_80 ?_
            refine my_eqi (y := nI (k + 256)) (my_addN2 k 256) ?_
            refine lv_aload_n hx hb dX9_triesBits_81 rfl (lv_at hl 1 rfl) ?_
            refine va_get (ci := 9) (v := .ref a_stands) (C := RX9) (T := TX9) (N := 24) hx hb hts hi9 hown hK hP 0 rfl rfl 12 (by decide) fl58 (fun _ h9 => h9) rfl dX9_triesBits_82 ?_
            refine lv_iload hx hb dX9_triesBits_85 (lv_at hl 0 rfl) ?_
            refine va_iald hx hb hK hP 2 0 rfl rfl (vp_in_nI (by omega) (by omega)) dX9_triesBits_87 ?_
            refine my_eqi (y := ms k) (congrArg ms (nI_clamp (by omega))) ?_
            have hb_18 := hR_ms k
            refine va_iast hx hb hK hP hD hS 4 0 rfl rfl (vp_in_nI (by omega) (by omega)) dX9_triesBits_88 (fun H locs hP hD hS => ?_)
            obtain ⟨g_19, eg_19⟩ : ∃ g : Nat → Int32, g = upd a_stood_61 (k + 256) (ms k) := ⟨_, rfl⟩
            have eU : upd a_stood_61 (nI (k + 256) : Int32).toNatClampNeg (ms k) = g_19 := by rw [eg_19, show (nI (k + 256) : Int32).toNatClampNeg = k + 256 from nI_clamp (by omega)]
            rw [eU] at hP hD
            have hR_g_19 : RB 0 63 g_19 := by rw [eg_19]; exact hR_a_stood_61.upd rfl (by omega) (by omega)
            have hP : va_P D vwCl (wl_kf_X9_triesBits_4 cI cJ cK m0 a_row a_tape a_number a_read a_readBits a_stands a_parted a_bitsWere a_stood a_chosen a_bestChosen a_often a_sorted a_risen a_risenWays m_thrown (nI m_told) (nI m_taped) (nI m_at) (nI m_to) (nI m_many) (nI m_readMany) m_fewest (nI m_size) mn ms mp g_19 mc me) H := hP
            have hD : va_D A (wl_kf_X9_triesBits_4 cI cJ cK m0 a_row a_tape a_number a_read a_readBits a_stands a_parted a_bitsWere a_stood a_chosen a_bestChosen a_often a_sorted a_risen a_risenWays m_thrown (nI m_told) (nI m_taped) (nI m_at) (nI m_to) (nI m_many) (nI m_readMany) m_fewest (nI m_size) mn ms mp g_19 mc me) := hD
            refine lv_iinc (v := nI (k + 1)) (lv' := [(4, .int (nI (k + 1))), (0, .ref m0), (1, .int 4), (2, .int (nI U)), (3, .int (nI ra))]) hx hb dX9_triesBits_89 hl (k := 0) rfl (my_incN k 1 (by decide +kernel)) (by decide) rfl (fun ls hl => ?_)
            refine lv_goto (tgt := 61) hx hb dX9_triesBits_92 (by decide) ?_
            exact ih61  (k + 1) g_19 (by omega) (by first | assumption | omega | decide +kernel) (by first | assumption | omega | decide +kernel) (th_s1 (a := 256) (by assumption) rfl hs61) (th_s2 (a := 256) (by assumption) (by omega) hs62) hR_g_19 _ _ ls hP hD hS (lv_sub hl [0, 1, 2, 3, 4] rfl)
      exact loop61 ((64 - 0) + 1) 0 mo (Nat.lt_succ_self _) (by first | assumption | omega | decide +kernel) (by first | assumption | omega | decide +kernel) (fun i h => absurd h (Nat.not_lt_zero i)) (fun _ _ => rfl) hR_mo _ _ ls hP hD hS (lv_sub hl [0, 1, 2, 3, 4] rfl)
    ·
      exact absurd c19 (by decide +kernel)
  refine lv_aload_n hx hb dX9_triesBits_0 rfl (lv_at hl 0 rfl) ?_
  refine va_get (ci := 9) (v := .int m_fewest) (C := RX9) (T := TX9) (N := 24) hx hb hts hi9 hown hK hP 0 rfl rfl 18 (by decide) fl162 (fun _ h9 => h9) rfl dX9_triesBits_1 ?_
  refine lv_if_lt (tgt := 16) hx hb dX9_triesBits_4 (by decide) (fun c4 => ?_) (fun c4 => ?_)
  ·
    have d4 : m_fewest.toInt < (0 : Int) := my_lt c4 rfl (by decide +kernel)
    exact cut16  _ _ ls hP hD hS hl
  ·
    have d4 : m_fewest.toInt ≥ (0 : Int) := my_nlt c4 rfl (by decide +kernel)
    refine lv_iload_n hx hb dX9_triesBits_7 rfl (lv_at hl 3 rfl) ?_
    refine lv_aload_n hx hb dX9_triesBits_8 rfl (lv_at hl 0 rfl) ?_
    refine va_get (ci := 9) (v := .int m_fewest) (C := RX9) (T := TX9) (N := 24) hx hb hts hi9 hown hK hP 0 rfl rfl 18 (by decide) fl162 (fun _ h9 => h9) rfl dX9_triesBits_9 ?_
    refine lv_icmp_lt (tgt := 16) hx hb dX9_triesBits_12 (by decide) (fun c12 => ?_) (fun c12 => ?_)
    ·
      have d12 : ((ra : Nat) : Int) < m_fewest.toInt := my_lt c12 (nI_toInt (by omega)) rfl
      exact cut16  _ _ ls hP hD hS hl
    ·
      have d12 : ((ra : Nat) : Int) ≥ m_fewest.toInt := my_nlt c12 (nI_toInt (by omega)) rfl
      exact my_retV hx hb hr hlocks hK hS (wl_kf_X9_triesBits_4 cI cJ cK m0 a_row a_tape a_number a_read a_readBits a_stands a_parted a_bitsWere a_stood a_chosen a_bestChosen a_often a_sorted a_risen a_risenWays m_thrown (nI m_told) (nI m_taped) (nI m_at) (nI m_to) (nI m_many) (nI m_readMany) m_fewest (nI m_size) mn ms mp mo mc me) hP hD (⟨m_fewest, ms, mp, mo, mc, me, rfl, hR_ms, hR_mp, hR_mo, (by first | exact th_end hfw2 (by omega) | exact th_prune hfw (by omega) (by omega)), (by first | exact hst2 | exact fun _ _ => rfl), (by first | exact hso3 | exact fun _ _ => rfl)⟩) dX9_triesBits_15
abbrev wl_kf_X9_triesBits_3 (cI cJ cK : ClassId) (m0 : Nat) (a_row : Nat) (a_tape : Nat) (a_number : Nat) (a_read : Nat) (a_readBits : Nat) (a_stands : Nat) (a_parted : Nat) (a_bitsWere : Nat) (a_stood : Nat) (a_chosen : Nat) (a_bestChosen : Nat) (a_often : Nat) (a_sorted : Nat) (a_risen : Nat) (a_risenWays : Nat) (v0_ : Int32) (v1_ : Int32) (v2_ : Int32) (v3_ : Int32) (v4_ : Int32) (v5_ : Int32) (v6_ : Int32) (v7_ : Int32) (v8_ : Int32) (v9_ : Nat → Int32) (v10_ : Nat → Int32) (v11_ : Nat → Int32) (v12_ : Nat → Int32) (v13_ : Nat → Int32) (v14_ : Nat → Int32) : va_W := [(m0, .inr (9, [.int v0_, .int v1_, .ref a_row, .ref a_tape, .int v2_, .int v3_, .int v4_, .int v5_, .ref a_number, .ref a_read, .int v6_, .ref a_readBits, .ref a_stands, .ref a_parted, .ref a_bitsWere, .ref a_stood, .ref a_chosen, .ref a_bestChosen, .int v7_, .ref a_often, .ref a_sorted, .int v8_, .ref a_risen, .ref a_risenWays])), (a_number, .inl (cI, 64, .inl v9_)), (a_stands, .inl (cI, 64, .inl v10_)), (a_parted, .inl (cI, 64, .inl v11_)), (a_stood, .inl (cI, 512, .inl v12_)), (a_chosen, .inl (cI, 8, .inl v13_)), (a_bestChosen, .inl (cI, 8, .inl v14_))]
set_option maxHeartbeats 4000000 in
set_option maxRecDepth 100000 in
theorem kf_X9_triesBits_3 (l : Launch) (D : va_G) (cI cJ cK : ClassId) (m0 : Nat) (a_row : Nat) (a_tape : Nat) (a_number : Nat) (a_read : Nat) (a_readBits : Nat) (a_stands : Nat) (a_parted : Nat) (a_bitsWere : Nat) (a_stood : Nat) (a_chosen : Nat) (a_bestChosen : Nat) (a_often : Nat) (a_sorted : Nat) (a_risen : Nat) (a_risenWays : Nat) (m_thrown : Int32) (m_told : Nat) (m_taped : Nat) (m_at : Nat) (m_to : Nat) (m_many : Nat) (m_readMany : Nat) (m_fewest : Int32) (m_size : Nat) (mn : Nat → Int32) (ms : Nat → Int32) (mp : Nat → Int32) (mo : Nat → Int32) (mc : Nat → Int32) (me : Nat → Int32) (U : Nat) (ra : Nat) (F : Nat) (hz_m_told : m_told ≤ 64) (hz_m_taped : m_taped ≤ 100) (hz_m_at : m_at ≤ 100) (hz_m_to : m_to ≤ 100) (hz_m_many : m_many ≤ 64) (hz_m_readMany : m_readMany ≤ 64) (hz_m_size : m_size ≤ 64) (hR_mn : RB 0 255 mn) (hR_ms : RB 0 63 ms) (hR_mp : RB 0 63 mp) (hR_mo : RB 0 63 mo) (hU : U < 256) (hra : ra ≤ 192) (hfw : fwR m_fewest F) : ctV l yX9_triesBits wsX9_triesBits ({ frames := 6, cells := 0, slots := 0, locals := 360 } : Room) D (tyIJ cI cJ cK) [.ref m0, .int 3, .int (nI U), .int (nI ra)] (wl_kf_X9_triesBits_3 cI cJ cK m0 a_row a_tape a_number a_read a_readBits a_stands a_parted a_bitsWere a_stood a_chosen a_bestChosen a_often a_sorted a_risen a_risenWays m_thrown (nI m_told) (nI m_taped) (nI m_at) (nI m_to) (nI m_many) (nI m_readMany) m_fewest (nI m_size) mn ms mp mo mc me) (fun (u : va_W) => ∃ (m_fewest' : Int32) (ms' : Nat → Int32) (mp' : Nat → Int32) (mo' : Nat → Int32) (mc' : Nat → Int32) (me' : Nat → Int32), u = (wl_kf_X9_triesBits_3 cI cJ cK m0 a_row a_tape a_number a_read a_readBits a_stands a_parted a_bitsWere a_stood a_chosen a_bestChosen a_often a_sorted a_risen a_risenWays m_thrown (nI m_told) (nI m_taped) (nI m_at) (nI m_to) (nI m_many) (nI m_readMany) m_fewest' (nI m_size) mn ms' mp' mo' mc' me') ∧ RB 0 63 ms' ∧ RB 0 63 mp' ∧ RB 0 63 mo' ∧ fwR m_fewest' (min F (ra + tT m_many 5 (vG mn ms) (uS U))) ∧ (∀ i, i < m_many → ms' i = ms i) ∧ (∀ q, q < 192 → mo' q = mo q)) := by
  refine ctV.of (cc := cX9_triesBits) (maxL := 7) (ret := none) (by decide) rfl (Nat.le_of_ble_eq_true rfl) ?_
  intro p e s m below meth c ls A hx hb hr hts hown hml hlocks hname hA hK hN hP hD hS hl
  have hl : lv_has ls 7 [(0, .ref m0), (1, .int 3), (2, .int (nI U)), (3, .int (nI ra))] := hl
  have hown : s.vm.findClass RX9 = some m.cls := hown
  have hi9 : ∀ w ∈ u_ws RX9 TX9 24, w ∈ wsX9_triesBits := by decide +kernel
  have fl162 := hts (.fieldLink RX9 162 "PlaneColumnModel" "fewest" "I") (by decide +kernel)
  have fl58 := hts (.fieldLink RX9 58 "PlaneColumnModel" "stands" "[I") (by decide +kernel)
  have fl67 := hts (.fieldLink RX9 67 "PlaneColumnModel" "stood" "[I") (by decide +kernel)
  have fl70 := hts (.fieldLink RX9 70 "PlaneColumnModel" "chosen" "[I") (by decide +kernel)
  have fl88 := hts (.fieldLink RX9 88 "PlaneColumnModel" "many" "I") (by decide +kernel)
  have cut16 : ∀ (H : Heap) (locs : List Loc) (ls : Array Slot), va_P D vwCl (wl_kf_X9_triesBits_3 cI cJ cK m0 a_row a_tape a_number a_read a_readBits a_stands a_parted a_bitsWere a_stood a_chosen a_bestChosen a_often a_sorted a_risen a_risenWays m_thrown (nI m_told) (nI m_taped) (nI m_at) (nI m_to) (nI m_many) (nI m_readMany) m_fewest (nI m_size) mn ms mp mo mc me) H → va_D A (wl_kf_X9_triesBits_3 cI cJ cK m0 a_row a_tape a_number a_read a_readBits a_stands a_parted a_bitsWere a_stood a_chosen a_bestChosen a_often a_sorted a_risen a_risenWays m_thrown (nI m_told) (nI m_taped) (nI m_at) (nI m_to) (nI m_many) (nI m_readMany) m_fewest (nI m_size) mn ms mp mo mc me) → va_S A s.heap H locs → lv_has ls 7 [(0, .ref m0), (1, .int 3), (2, .int (nI U)), (3, .int (nI ra))] → W p l e ({ frames := 6, cells := 0, slots := 0, locals := 360 } : Room) s m [.ref m0, .int 3, .int (nI U), .int (nI ra)].toArray below meth c H locs 0 0 (MQ below (va_Qv (fun (u : va_W) => ∃ (m_fewest' : Int32) (ms' : Nat → Int32) (mp' : Nat → Int32) (mo' : Nat → Int32) (mc' : Nat → Int32) (me' : Nat → Int32), u = (wl_kf_X9_triesBits_3 cI cJ cK m0 a_row a_tape a_number a_read a_readBits a_stands a_parted a_bitsWere a_stood a_chosen a_bestChosen a_often a_sorted a_risen a_risenWays m_thrown (nI m_told) (nI m_taped) (nI m_at) (nI m_to) (nI m_many) (nI m_readMany) m_fewest' (nI m_size) mn ms' mp' mo' mc' me') ∧ RB 0 63 ms' ∧ RB 0 63 mp' ∧ RB 0 63 mo' ∧ fwR m_fewest' (min F (ra + tT m_many 5 (vG mn ms) (uS U))) ∧ (∀ i, i < m_many → ms' i = ms i) ∧ (∀ q, q < 192 → mo' q = mo q)) (my_B D (tyIJ cI cJ cK) A) A) [.ref m0, .int 3, .int (nI U), .int (nI ra)].toArray s 0 0 A) (F0 m 16 ls []) := by
    intro H locs ls hP hD hS hl
    refine lv_iload_n hx hb dX9_triesBits_16 rfl (lv_at hl 1 rfl) ?_
    refine lv_bipush (v := 8) hx hb dX9_triesBits_17 (by decide +kernel) ?_
    refine lv_icmp_ne (tgt := 58) hx hb dX9_triesBits_19 (by decide) (fun c19 => ?_) (fun c19 => ?_)
    ·
      refine lv_iconst (v := 0) hx hb dX9_triesBits_58 (by decide +kernel) ?_
      refine lv_istore (lv' := [(4, .int 0), (0, .ref m0), (1, .int 3), (2, .int (nI U)), (3, .int (nI ra))]) hx hb dX9_triesBits_59 hl (by decide) rfl (fun ls hl => ?_)
      have loop61 : ∀ (n9 : Nat) (k : Nat) (a_stood_61 : Nat → Int32), 64 - k < n9 → (k ≤ 64) → (k ≤ m_many) → (∀ i, i < k → a_stood_61 (i + 192) = ms i) → (∀ q, q < 192 → a_stood_61 q = mo q) → (RB 0 63 a_stood_61) → ∀ (H : Heap) (locs : List Loc) (ls : Array Slot), va_P D vwCl (wl_kf_X9_triesBits_3 cI cJ cK m0 a_row a_tape a_number a_read a_readBits a_stands a_parted a_bitsWere a_stood a_chosen a_bestChosen a_often a_sorted a_risen a_risenWays m_thrown (nI m_told) (nI m_taped) (nI m_at) (nI m_to) (nI m_many) (nI m_readMany) m_fewest (nI m_size) mn ms mp a_stood_61 mc me) H → va_D A (wl_kf_X9_triesBits_3 cI cJ cK m0 a_row a_tape a_number a_read a_readBits a_stands a_parted a_bitsWere a_stood a_chosen a_bestChosen a_often a_sorted a_risen a_risenWays m_thrown (nI m_told) (nI m_taped) (nI m_at) (nI m_to) (nI m_many) (nI m_readMany) m_fewest (nI m_size) mn ms mp a_stood_61 mc me) → va_S A s.heap H locs → lv_has ls 7 [(4, .int (nI k)), (0, .ref m0), (1, .int 3), (2, .int (nI U)), (3, .int (nI ra))] → W p l e ({ frames := 6, cells := 0, slots := 0, locals := 360 } : Room) s m [.ref m0, .int 3, .int (nI U), .int (nI ra)].toArray below meth c H locs 0 0 (MQ below (va_Qv (fun (u : va_W) => ∃ (m_fewest' : Int32) (ms' : Nat → Int32) (mp' : Nat → Int32) (mo' : Nat → Int32) (mc' : Nat → Int32) (me' : Nat → Int32), u = (wl_kf_X9_triesBits_3 cI cJ cK m0 a_row a_tape a_number a_read a_readBits a_stands a_parted a_bitsWere a_stood a_chosen a_bestChosen a_often a_sorted a_risen a_risenWays m_thrown (nI m_told) (nI m_taped) (nI m_at) (nI m_to) (nI m_many) (nI m_readMany) m_fewest' (nI m_size) mn ms' mp' mo' mc' me') ∧ RB 0 63 ms' ∧ RB 0 63 mp' ∧ RB 0 63 mo' ∧ fwR m_fewest' (min F (ra + tT m_many 5 (vG mn ms) (uS U))) ∧ (∀ i, i < m_many → ms' i = ms i) ∧ (∀ q, q < 192 → mo' q = mo q)) (my_B D (tyIJ cI cJ cK) A) A) [.ref m0, .int 3, .int (nI U), .int (nI ra)].toArray s 0 0 A) (F0 m 61 ls []) := by
        intro n9
        induction n9 with
        | zero =>
          intro k a_stood_61 hn9
          exact absurd hn9 (Nat.not_lt_zero _)
        | succ n9 ih61 =>
          intro k a_stood_61 hn9 hk_k hkm hs61 hs62 hR_a_stood_61 H locs ls hP hD hS hl
          refine lv_iload hx hb dX9_triesBits_61 (lv_at hl 0 rfl) ?_
          refine lv_aload_n hx hb dX9_triesBits_63 rfl (lv_at hl 1 rfl) ?_
          refine va_get (ci := 9) (v := .int (nI m_many)) (C := RX9) (T := TX9) (N := 24) hx hb hts hi9 hown hK hP 0 rfl rfl 7 (by decide) fl88 (fun _ h9 => h9) rfl dX9_triesBits_64 ?_
          refine lv_icmp_ge (tgt := 95) hx hb dX9_triesBits_67 (by decide) (fun c67 => ?_) (fun c67 => ?_)
          ·
            have d67 : ((k : Nat) : Int) ≥ ((m_many : Nat) : Int) := my_ge c67 (nI_toInt (by omega)) (nI_toInt (by omega))
            refine lv_bipush (v := 7) hx hb dX9_triesBits_95 (by decide +kernel) ?_
            refine lv_istore (lv' := [(4, .int 7), (0, .ref m0), (1, .int 3), (2, .int (nI U)), (3, .int (nI ra))]) hx hb dX9_triesBits_97 hl (by decide) rfl (fun ls hl => ?_)
            have loop99 : ∀ (n9 : Nat) (x : Int32) (m0_fewest_99 : Int32) (a_stands_99 : Nat → Int32) (a_parted_99 : Nat → Int32) (a_stood_99 : Nat → Int32) (a_chosen_99 : Nat → Int32) (a_bestChosen_99 : Nat → Int32), (x.toInt + 1).toNat < n9 → (-1 ≤ x.toInt) → (x.toInt ≤ 7) → (fwR m0_fewest_99 (min F (ra + tM (tF m_many 4 (vG mn ms) (uS U)) (uS U) (7 - x.toInt).toNat))) → (∀ i, i < m_many → a_stands_99 i = ms i) → (∀ i, i < m_many → a_stood_99 (i + 192) = ms i) → (∀ q, q < 192 → a_stood_99 q = mo q) → (RB 0 63 a_stands_99) → (RB 0 63 a_parted_99) → (RB 0 63 a_stood_99) → ∀ (H : Heap) (locs : List Loc) (ls : Array Slot), va_P D vwCl (wl_kf_X9_triesBits_3 cI cJ cK m0 a_row a_tape a_number a_read a_readBits a_stands a_parted a_bitsWere a_stood a_chosen a_bestChosen a_often a_sorted a_risen a_risenWays m_thrown (nI m_told) (nI m_taped) (nI m_at) (nI m_to) (nI m_many) (nI m_readMany) m0_fewest_99 (nI m_size) mn a_stands_99 a_parted_99 a_stood_99 a_chosen_99 a_bestChosen_99) H → va_D A (wl_kf_X9_triesBits_3 cI cJ cK m0 a_row a_tape a_number a_read a_readBits a_stands a_parted a_bitsWere a_stood a_chosen a_bestChosen a_often a_sorted a_risen a_risenWays m_thrown (nI m_told) (nI m_taped) (nI m_at) (nI m_to) (nI m_many) (nI m_readMany) m0_fewest_99 (nI m_size) mn a_stands_99 a_parted_99 a_stood_99 a_chosen_99 a_bestChosen_99) → va_S A s.heap H locs → lv_has ls 7 [(4, .int x), (0, .ref m0), (1, .int 3), (2, .int (nI U)), (3, .int (nI ra))] → W p l e ({ frames := 6, cells := 0, slots := 0, locals := 360 } : Room) s m [.ref m0, .int 3, .int (nI U), .int (nI ra)].toArray below meth c H locs 0 0 (MQ below (va_Qv (fun (u : va_W) => ∃ (m_fewest' : Int32) (ms' : Nat → Int32) (mp' : Nat → Int32) (mo' : Nat → Int32) (mc' : Nat → Int32) (me' : Nat → Int32), u = (wl_kf_X9_triesBits_3 cI cJ cK m0 a_row a_tape a_number a_read a_readBits a_stands a_parted a_bitsWere a_stood a_chosen a_bestChosen a_often a_sorted a_risen a_risenWays m_thrown (nI m_told) (nI m_taped) (nI m_at) (nI m_to) (nI m_many) (nI m_readMany) m_fewest' (nI m_size) mn ms' mp' mo' mc' me') ∧ RB 0 63 ms' ∧ RB 0 63 mp' ∧ RB 0 63 mo' ∧ fwR m_fewest' (min F (ra + tT m_many 5 (vG mn ms) (uS U))) ∧ (∀ i, i < m_many → ms' i = ms i) ∧ (∀ q, q < 192 → mo' q = mo q)) (my_B D (tyIJ cI cJ cK) A) A) [.ref m0, .int 3, .int (nI U), .int (nI ra)].toArray s 0 0 A) (F0 m 99 ls []) := by
              intro n9
              induction n9 with
              | zero =>
                intro x m0_fewest_99 a_stands_99 a_parted_99 a_stood_99 a_chosen_99 a_bestChosen_99 hn9
                exact absurd hn9 (Nat.not_lt_zero _)
              | succ n9 ih99 =>
                intro x m0_fewest_99 a_stands_99 a_parted_99 a_stood_99 a_chosen_99 a_bestChosen_99 hn9 hx0 hx1 hfw2 hst2 hso2 hso3 hR_a_stands_99 hR_a_parted_99 hR_a_stood_99 H locs ls hP hD hS hl
                refine lv_iload hx hb dX9_triesBits_99 (lv_at hl 0 rfl) ?_
                refine lv_if_lt (tgt := 195) hx hb dX9_triesBits_101 (by decide) (fun c101 => ?_) (fun c101 => ?_)
                ·
                  have d101 : x.toInt < (0 : Int) := my_lt c101 rfl (by decide +kernel)
                  exact my_retV hx hb hr hlocks hK hS (wl_kf_X9_triesBits_3 cI cJ cK m0 a_row a_tape a_number a_read a_readBits a_stands a_parted a_bitsWere a_stood a_chosen a_bestChosen a_often a_sorted a_risen a_risenWays m_thrown (nI m_told) (nI m_taped) (nI m_at) (nI m_to) (nI m_many) (nI m_readMany) m0_fewest_99 (nI m_size) mn a_stands_99 a_parted_99 a_stood_99 a_chosen_99 a_bestChosen_99) hP hD (⟨m0_fewest_99, a_stands_99, a_parted_99, a_stood_99, a_chosen_99, a_bestChosen_99, rfl, hR_a_stands_99, hR_a_parted_99, hR_a_stood_99, (by first | exact th_end hfw2 (by omega) | exact th_prune hfw (by omega) (by omega)), (by first | exact hst2 | exact fun _ _ => rfl), (by first | exact hso3 | exact fun _ _ => rfl)⟩) dX9_triesBits_195
                ·
                  have d101 : x.toInt ≥ (0 : Int) := my_nlt c101 rfl (by decide +kernel)
                  obtain ⟨w_1, rfl, hw_1⟩ := my_natP (x := x) (by omega)
                  have hlw_1 : w_1 < 2147483648 := by have h9 := Int32.toInt_lt (nI w_1); omega
                  refine lv_iload_n hx hb dX9_triesBits_104 rfl (lv_at hl 3 rfl) ?_
                  refine lv_iload hx hb dX9_triesBits_105 (lv_at hl 0 rfl) ?_
                  refine lv_ishr hx hb dX9_triesBits_107 ?_
                  refine my_eqi (y := nI (U / 2 ^ w_1)) (my_shrG (by omega) (by omega)) ?_
                  refine lv_iconst (v := 1) hx hb dX9_triesBits_108 (by decide +kernel) ?_
                  refine lv_iand hx hb dX9_triesBits_109 ?_
                  refine my_eqi (y := nI ((U / 2 ^ w_1) % 2)) (my_maskN _ 1) ?_
                  refine lv_if_ne (tgt := 189) hx hb dX9_triesBits_110 (by decide) (fun c110 => ?_) (fun c110 => ?_)
                  ·
                    have d110 : (((U / 2 ^ w_1) % 2 : Nat) : Int) ≠ (0 : Int) := my_ne c110 (nI_toInt (by omega)) (by decide +kernel)
                    obtain ⟨z_2, ez_2⟩ : ∃ y : Int32, y = nI w_1 + (-1) := ⟨_, rfl⟩
                    try have tz_2 : z_2.toInt = ((w_1 : Nat) : Int) + (-1) := by rw [ez_2]; exact my_addI (nI_toInt (by omega)) (by decide +kernel) (by omega) (by omega)
                    refine lv_iinc (v := z_2) (lv' := [(4, .int z_2), (0, .ref m0), (1, .int 3), (2, .int (nI U)), (3, .int (nI ra))]) hx hb dX9_triesBits_189 hl (k := 0) rfl (by rw [ez_2]; rfl) (by decide) rfl (fun ls hl => ?_)
                    refine lv_goto (tgt := 99) hx hb dX9_triesBits_192 (by decide) ?_
                    exact ih99  z_2 m0_fewest_99 a_stands_99 a_parted_99 a_stood_99 a_chosen_99 a_bestChosen_99 (by omega) (by first | assumption | omega | decide +kernel) (by first | assumption | omega | decide +kernel) (by first | exact th_skip hfw2 (by omega) (by omega) (by omega) (su_f d110 (by omega)) | exact th_done hfw1 (by omega) (by omega) (by omega) (su_t d110 (by omega)) (th_take (by omega) (by omega) hU hst2 hpt hrn)) (by first | exact hst2 | exact fun i hi => hrs i (by omega)) (by first | exact hso2 | exact fun i hi => (hso1 _ (by omega)).trans (hso2 i hi)) (by first | exact hso3 | exact fun q hq => (hso1 q (by omega)).trans (hso3 q hq)) hR_a_stands_99 hR_a_parted_99 hR_a_stood_99 _ _ ls hP hD hS (lv_sub hl [0, 1, 2, 3, 4] rfl)
                  ·
                    have d110 : (((U / 2 ^ w_1) % 2 : Nat) : Int) = (0 : Int) := my_eq c110 (nI_toInt (by omega)) (by decide +kernel)
                    refine lv_aload_n hx hb dX9_triesBits_113 rfl (lv_at hl 1 rfl) ?_
                    refine va_get (ci := 9) (v := .ref a_chosen) (C := RX9) (T := TX9) (N := 24) hx hb hts hi9 hown hK hP 0 rfl rfl 16 (by decide) fl70 (fun _ h9 => h9) rfl dX9_triesBits_114 ?_
                    refine lv_iload_n hx hb dX9_triesBits_117 rfl (lv_at hl 2 rfl) ?_
                    refine lv_iload hx hb dX9_triesBits_118 (lv_at hl 0 rfl) ?_
                    refine va_iast hx hb hK hP hD hS 5 0 rfl rfl (vp_in_nI (n := 3) (by omega) (by omega)) dX9_triesBits_120 (fun H locs hP hD hS => ?_)
                    obtain ⟨g_3, eg_3⟩ : ∃ g : Nat → Int32, g = upd a_chosen_99 3 (nI w_1) := ⟨_, rfl⟩
                    have eU : upd a_chosen_99 (3 : Int32).toNatClampNeg (nI w_1) = g_3 := by rw [eg_3, show (3 : Int32).toNatClampNeg = 3 from by decide +kernel]
                    rw [eU] at hP hD
                    have hP : va_P D vwCl (wl_kf_X9_triesBits_3 cI cJ cK m0 a_row a_tape a_number a_read a_readBits a_stands a_parted a_bitsWere a_stood a_chosen a_bestChosen a_often a_sorted a_risen a_risenWays m_thrown (nI m_told) (nI m_taped) (nI m_at) (nI m_to) (nI m_many) (nI m_readMany) m0_fewest_99 (nI m_size) mn a_stands_99 a_parted_99 a_stood_99 g_3 a_bestChosen_99) H := hP
                    have hD : va_D A (wl_kf_X9_triesBits_3 cI cJ cK m0 a_row a_tape a_number a_read a_readBits a_stands a_parted a_bitsWere a_stood a_chosen a_bestChosen a_often a_sorted a_risen a_risenWays m_thrown (nI m_told) (nI m_taped) (nI m_at) (nI m_to) (nI m_many) (nI m_readMany) m0_fewest_99 (nI m_size) mn a_stands_99 a_parted_99 a_stood_99 g_3 a_bestChosen_99) := hD
                    refine lv_aload_n hx hb dX9_triesBits_121 rfl (lv_at hl 1 rfl) ?_
                    refine lv_iload hx hb dX9_triesBits_122 (lv_at hl 0 rfl) ?_
                    refine my_gpI (my_pV (As := [.int (nI w_1)]) (rest := []) (ci := 9) ⟨hx, hb, hml, hown, hts⟩ (cwV 1 hts gX9_triesBits_X9_runsOf rfl rfl rfl (by decide +kernel) ⟨Nat.le_of_ble_eq_true rfl, Nat.le_of_ble_eq_true rfl⟩) hN hK hP [0, 1, 2] rfl 0 rfl rfl rfl rfl hl.1 rfl (Nat.le_of_ble_eq_true rfl) dX9_triesBits_124 ⟨Nat.le_of_ble_eq_true rfl, Nat.le_of_ble_eq_true rfl⟩  (kf_X9_runsOf l D cI cJ cK m0 a_row a_tape a_number a_read a_readBits a_stands a_parted a_bitsWere a_stood a_chosen a_bestChosen a_often a_sorted a_risen a_risenWays m_thrown m_told m_taped m_at m_to m_many m_readMany m0_fewest_99 m_size mn a_stands_99 w_1 (by first | assumption | omega | decide +kernel) (by first | assumption | omega | decide +kernel) (by first | assumption | omega | decide +kernel) (by first | assumption | omega | decide +kernel) (by first | assumption | omega | decide +kernel) (by first | assumption | omega | decide +kernel) (by first | assumption | omega | decide +kernel) hR_mn hR_a_stands_99 (by first | assumption | omega | decide +kernel))) (fun r hp => ?_)
                    obtain ⟨t_4, rfl, hrn, hq_5⟩ := hp
                    refine lv_istore (lv' := [(5, .int (nI t_4)), (4, .int (nI w_1)), (0, .ref m0), (1, .int 3), (2, .int (nI U)), (3, .int (nI ra))]) hx hb dX9_triesBits_127 hl (by decide) rfl (fun ls hl => ?_)
                    refine lv_aload_n hx hb dX9_triesBits_129 rfl (lv_at hl 2 rfl) ?_
                    refine lv_iload hx hb dX9_triesBits_130 (lv_at hl 1 rfl) ?_
                    refine my_goVS (wc := (wl_kf_X9_parts cI cJ cK m0 a_row a_tape a_number a_read a_readBits a_stands a_parted a_bitsWere a_stood a_chosen a_bestChosen a_often a_sorted a_risen a_risenWays m_thrown (nI m_told) (nI m_taped) (nI m_at) (nI m_to) (nI m_many) (nI m_readMany) m0_fewest_99 (nI m_size) mn a_stands_99 a_parted_99)) hP hD hS hA [0, 1, 2, 3] rfl [some 0, some 1, some 2, some 3] (by decide +kernel) (my_cV (As := [.int (nI w_1)]) (rest := []) (ci := 9) (wc := (wl_kf_X9_parts cI cJ cK m0 a_row a_tape a_number a_read a_readBits a_stands a_parted a_bitsWere a_stood a_chosen a_bestChosen a_often a_sorted a_risen a_risenWays m_thrown (nI m_told) (nI m_taped) (nI m_at) (nI m_to) (nI m_many) (nI m_readMany) m0_fewest_99 (nI m_size) mn a_stands_99 a_parted_99)) ⟨hx, hb, hml, hown, hts⟩ (cwV 1 hts gX9_triesBits_X9_parts rfl rfl rfl (by decide +kernel) ⟨Nat.le_of_ble_eq_true rfl, Nat.le_of_ble_eq_true rfl⟩) hN hK hP hD [0, 1, 2, 3] rfl (by decide) rfl 0 rfl rfl rfl rfl hl.1 rfl (Nat.le_of_ble_eq_true rfl) dX9_triesBits_132 ⟨Nat.le_of_ble_eq_true rfl, Nat.le_of_ble_eq_true rfl⟩  ((kf_X9_parts l D cI cJ cK m0 a_row a_tape a_number a_read a_readBits a_stands a_parted a_bitsWere a_stood a_chosen a_bestChosen a_often a_sorted a_risen a_risenWays m_thrown m_told m_taped m_at m_to m_many m_readMany m0_fewest_99 m_size mn a_stands_99 a_parted_99 w_1 (by first | assumption | omega | decide +kernel) (by first | assumption | omega | decide +kernel) (by first | assumption | omega | decide +kernel) (by first | assumption | omega | decide +kernel) (by first | assumption | omega | decide +kernel) (by first | assumption | omega | decide +kernel) (by first | assumption | omega | decide +kernel) hR_mn hR_a_stands_99 hR_a_parted_99 (by first | assumption | omega | decide +kernel)) _)) (fun u H locs hp hPD hS => ?_)
                    obtain ⟨ms_6, mp_7, rfl, hR_ms_6, hR_mp_7, hpt⟩ := hp
                    obtain ⟨hP, hD⟩ := hPD rfl
                    have hP : va_P D vwCl (wl_kf_X9_triesBits_3 cI cJ cK m0 a_row a_tape a_number a_read a_readBits a_stands a_parted a_bitsWere a_stood a_chosen a_bestChosen a_often a_sorted a_risen a_risenWays m_thrown (nI m_told) (nI m_taped) (nI m_at) (nI m_to) (nI m_many) (nI m_readMany) m0_fewest_99 (nI m_size) mn ms_6 mp_7 a_stood_99 g_3 a_bestChosen_99) H := hP
                    have hD : va_D A (wl_kf_X9_triesBits_3 cI cJ cK m0 a_row a_tape a_number a_read a_readBits a_stands a_parted a_bitsWere a_stood a_chosen a_bestChosen a_often a_sorted a_risen a_risenWays m_thrown (nI m_told) (nI m_taped) (nI m_at) (nI m_to) (nI m_many) (nI m_readMany) m0_fewest_99 (nI m_size) mn ms_6 mp_7 a_stood_99 g_3 a_bestChosen_99) := hD
                    refine lv_aload_n hx hb dX9_triesBits_135 rfl (lv_at hl 2 rfl) ?_
                    refine lv_iload_n hx hb dX9_triesBits_136 rfl (lv_at hl 3 rfl) ?_
                    refine lv_iconst (v := 1) hx hb dX9_triesBits_137 (by decide +kernel) ?_
                    refine lv_iadd hx hb dX9_triesBits_138 ?_
                    refine my_eqi (y := 4) (by decide +kernel) ?_
                    refine lv_iload_n hx hb dX9_triesBits_139 rfl (lv_at hl 4 rfl) ?_
                    refine lv_iconst (v := 1) hx hb dX9_triesBits_140 (by decide +kernel) ?_
                    refine lv_iload hx hb dX9_triesBits_141 (lv_at hl 1 rfl) ?_
                    refine lv_ishl hx hb dX9_triesBits_143 ?_
                    refine my_eqi (y := nI (2 ^ w_1)) (my_shl1 (by omega)) ?_
                    refine lv_ior hx hb dX9_triesBits_144 ?_
                    refine my_eqi (y := nI (U ||| (2 ^ w_1))) (fa_or _ _) ?_
                    refine lv_iload_n hx hb dX9_triesBits_145 rfl (lv_at hl 5 rfl) ?_
                    refine lv_iload hx hb dX9_triesBits_146 (lv_at hl 0 rfl) ?_
                    refine lv_iadd hx hb dX9_triesBits_148 ?_
                    refine my_eqi (y := nI (ra + t_4)) (nI_add _ _) ?_
                    refine my_goVS (wc := (wl_kf_X9_triesBits_4 cI cJ cK m0 a_row a_tape a_number a_read a_readBits a_stands a_parted a_bitsWere a_stood a_chosen a_bestChosen a_often a_sorted a_risen a_risenWays m_thrown (nI m_told) (nI m_taped) (nI m_at) (nI m_to) (nI m_many) (nI m_readMany) m0_fewest_99 (nI m_size) mn ms_6 mp_7 a_stood_99 g_3 a_bestChosen_99)) hP hD hS hA [0, 1, 2, 3, 4, 5, 6] rfl [some 0, some 1, some 2, some 3, some 4, some 5, some 6] (by decide +kernel) (my_cV (As := [.int 4, .int (nI (U ||| (2 ^ w_1))), .int (nI (ra + t_4))]) (rest := []) (ci := 9) (wc := (wl_kf_X9_triesBits_4 cI cJ cK m0 a_row a_tape a_number a_read a_readBits a_stands a_parted a_bitsWere a_stood a_chosen a_bestChosen a_often a_sorted a_risen a_risenWays m_thrown (nI m_told) (nI m_taped) (nI m_at) (nI m_to) (nI m_many) (nI m_readMany) m0_fewest_99 (nI m_size) mn ms_6 mp_7 a_stood_99 g_3 a_bestChosen_99)) ⟨hx, hb, hml, hown, hts⟩ (cwV 3 hts gX9_triesBits_X9_triesBits rfl rfl rfl (by decide +kernel) ⟨Nat.le_of_ble_eq_true rfl, Nat.le_of_ble_eq_true rfl⟩) hN hK hP hD [0, 1, 2, 3, 4, 5, 6] rfl (by decide) rfl 0 rfl rfl rfl rfl hl.1 rfl (Nat.le_of_ble_eq_true rfl) dX9_triesBits_149 ⟨Nat.le_of_ble_eq_true rfl, Nat.le_of_ble_eq_true rfl⟩  ((kf_X9_triesBits_4 l D cI cJ cK m0 a_row a_tape a_number a_read a_readBits a_stands a_parted a_bitsWere a_stood a_chosen a_bestChosen a_often a_sorted a_risen a_risenWays m_thrown m_told m_taped m_at m_to m_many m_readMany m0_fewest_99 m_size mn ms_6 mp_7 a_stood_99 g_3 a_bestChosen_99 (U ||| (2 ^ w_1)) (ra + t_4) (min F (ra + tM (tF m_many 4 (vG mn ms) (uS U)) (uS U) (7 - (nI w_1).toInt).toNat)) (by first | assumption | omega | decide +kernel) (by first | assumption | omega | decide +kernel) (by first | assumption | omega | decide +kernel) (by first | assumption | omega | decide +kernel) (by first | assumption | omega | decide +kernel) (by first | assumption | omega | decide +kernel) (by first | assumption | omega | decide +kernel) hR_mn hR_ms_6 hR_mp_7 hR_a_stood_99 ((or_b U hU _ (by omega)).1) (by first | assumption | omega | decide +kernel) (hfw2)) _)) (fun u H locs hp hPD hS => ?_)
                    obtain ⟨m_fewest_8, ms_9, mp_10, mo_11, mc_12, me_13, rfl, hR_ms_9, hR_mp_10, hR_mo_11, hfw1, hst1, hso1⟩ := hp
                    obtain ⟨hP, hD⟩ := hPD rfl
                    have hP : va_P D vwCl (wl_kf_X9_triesBits_3 cI cJ cK m0 a_row a_tape a_number a_read a_readBits a_stands a_parted a_bitsWere a_stood a_chosen a_bestChosen a_often a_sorted a_risen a_risenWays m_thrown (nI m_told) (nI m_taped) (nI m_at) (nI m_to) (nI m_many) (nI m_readMany) m_fewest_8 (nI m_size) mn ms_9 mp_10 mo_11 mc_12 me_13) H := hP
                    have hD : va_D A (wl_kf_X9_triesBits_3 cI cJ cK m0 a_row a_tape a_number a_read a_readBits a_stands a_parted a_bitsWere a_stood a_chosen a_bestChosen a_often a_sorted a_risen a_risenWays m_thrown (nI m_told) (nI m_taped) (nI m_at) (nI m_to) (nI m_many) (nI m_readMany) m_fewest_8 (nI m_size) mn ms_9 mp_10 mo_11 mc_12 me_13) := hD
                    refine lv_iconst (v := 0) hx hb dX9_triesBits_152 (by decide +kernel) ?_
                    refine lv_istore (lv' := [(6, .int 0), (5, .int (nI t_4)), (4, .int (nI w_1)), (0, .ref m0), (1, .int 3), (2, .int (nI U)), (3, .int (nI ra))]) hx hb dX9_triesBits_153 hl (by decide) rfl (fun ls hl => ?_)
                    have loop155 : ∀ (n9 : Nat) (k : Nat) (a_stands_155 : Nat → Int32), 64 - k < n9 → (k ≤ 64) → (k ≤ m_many) → (∀ i, i < k → a_stands_155 i = ms i) → (RB 0 63 a_stands_155) → ∀ (H : Heap) (locs : List Loc) (ls : Array Slot), va_P D vwCl (wl_kf_X9_triesBits_3 cI cJ cK m0 a_row a_tape a_number a_read a_readBits a_stands a_parted a_bitsWere a_stood a_chosen a_bestChosen a_often a_sorted a_risen a_risenWays m_thrown (nI m_told) (nI m_taped) (nI m_at) (nI m_to) (nI m_many) (nI m_readMany) m_fewest_8 (nI m_size) mn a_stands_155 mp_10 mo_11 mc_12 me_13) H → va_D A (wl_kf_X9_triesBits_3 cI cJ cK m0 a_row a_tape a_number a_read a_readBits a_stands a_parted a_bitsWere a_stood a_chosen a_bestChosen a_often a_sorted a_risen a_risenWays m_thrown (nI m_told) (nI m_taped) (nI m_at) (nI m_to) (nI m_many) (nI m_readMany) m_fewest_8 (nI m_size) mn a_stands_155 mp_10 mo_11 mc_12 me_13) → va_S A s.heap H locs → lv_has ls 7 [(6, .int (nI k)), (5, .int (nI t_4)), (4, .int (nI w_1)), (0, .ref m0), (1, .int 3), (2, .int (nI U)), (3, .int (nI ra))] → W p l e ({ frames := 6, cells := 0, slots := 0, locals := 360 } : Room) s m [.ref m0, .int 3, .int (nI U), .int (nI ra)].toArray below meth c H locs 0 0 (MQ below (va_Qv (fun (u : va_W) => ∃ (m_fewest' : Int32) (ms' : Nat → Int32) (mp' : Nat → Int32) (mo' : Nat → Int32) (mc' : Nat → Int32) (me' : Nat → Int32), u = (wl_kf_X9_triesBits_3 cI cJ cK m0 a_row a_tape a_number a_read a_readBits a_stands a_parted a_bitsWere a_stood a_chosen a_bestChosen a_often a_sorted a_risen a_risenWays m_thrown (nI m_told) (nI m_taped) (nI m_at) (nI m_to) (nI m_many) (nI m_readMany) m_fewest' (nI m_size) mn ms' mp' mo' mc' me') ∧ RB 0 63 ms' ∧ RB 0 63 mp' ∧ RB 0 63 mo' ∧ fwR m_fewest' (min F (ra + tT m_many 5 (vG mn ms) (uS U))) ∧ (∀ i, i < m_many → ms' i = ms i) ∧ (∀ q, q < 192 → mo' q = mo q)) (my_B D (tyIJ cI cJ cK) A) A) [.ref m0, .int 3, .int (nI U), .int (nI ra)].toArray s 0 0 A) (F0 m 155 ls []) := by
                      intro n9
                      induction n9 with
                      | zero =>
                        intro k a_stands_155 hn9
                        exact absurd hn9 (Nat.not_lt_zero _)
                      | succ n9 ih155 =>
                        intro k a_stands_155 hn9 hk_k hkm hrs hR_a_stands_155 H locs ls hP hD hS hl
                        refine lv_iload hx hb dX9_triesBits_155 (lv_at hl 0 rfl) ?_
                        refine lv_aload_n hx hb dX9_triesBits_157 rfl (lv_at hl 3 rfl) ?_
                        refine va_get (ci := 9) (v := .int (nI m_many)) (C := RX9) (T := TX9) (N := 24) hx hb hts hi9 hown hK hP 0 rfl rfl 7 (by decide) fl88 (fun _ h9 => h9) rfl dX9_triesBits_158 ?_
                        refine lv_icmp_ge (tgt := 189) hx hb dX9_triesBits_161 (by decide) (fun c161 => ?_) (fun c161 => ?_)
                        ·
                          have d161 : ((k : Nat) : Int) ≥ ((m_many : Nat) : Int) := my_ge c161 (nI_toInt (by omega)) (nI_toInt (by omega))
                          obtain ⟨z_14, ez_14⟩ : ∃ y : Int32, y = nI w_1 + (-1) := ⟨_, rfl⟩
                          try have tz_14 : z_14.toInt = ((w_1 : Nat) : Int) + (-1) := by rw [ez_14]; exact my_addI (nI_toInt (by omega)) (by decide +kernel) (by omega) (by omega)
                          refine lv_iinc (v := z_14) (lv' := [(4, .int z_14), (6, .int (nI k)), (5, .int (nI t_4)), (0, .ref m0), (1, .int 3), (2, .int (nI U)), (3, .int (nI ra))]) hx hb dX9_triesBits_189 hl (k := 2) rfl (by rw [ez_14]; rfl) (by decide) rfl (fun ls hl => ?_)
                          refine lv_goto (tgt := 99) hx hb dX9_triesBits_192 (by decide) ?_
                          exact ih99  z_14 m_fewest_8 a_stands_155 mp_10 mo_11 mc_12 me_13 (by omega) (by first | assumption | omega | decide +kernel) (by first | assumption | omega | decide +kernel) (by first | exact th_skip hfw2 (by omega) (by omega) (by omega) (su_f d110 (by omega)) | exact th_done hfw1 (by omega) (by omega) (by omega) (su_t d110 (by omega)) (th_take (by omega) (by omega) hU hst2 hpt hrn)) (by first | exact hst2 | exact fun i hi => hrs i (by omega)) (by first | exact hso2 | exact fun i hi => (hso1 _ (by omega)).trans (hso2 i hi)) (by first | exact hso3 | exact fun q hq => (hso1 q (by omega)).trans (hso3 q hq)) hR_a_stands_155 hR_mp_10 hR_mo_11 _ _ ls hP hD hS (lv_sub hl [0, 3, 4, 5, 6] rfl)
                        ·
                          have d161 : ((k : Nat) : Int) < ((m_many : Nat) : Int) := my_nge c161 (nI_toInt (by omega)) (nI_toInt (by omega))
                          refine lv_aload_n hx hb dX9_triesBits_164 rfl (lv_at hl 3 rfl) ?_
                          refine va_get (ci := 9) (v := .ref a_stands) (C := RX9) (T := TX9) (N := 24) hx hb hts hi9 hown hK hP 0 rfl rfl 12 (by decide) fl58 (fun _ h9 => h9) rfl dX9_triesBits_165 ?_
                          refine lv_iload hx hb dX9_triesBits_168 (lv_at hl 0 rfl) ?_
                          refine lv_aload_n hx hb dX9_triesBits_170 rfl (lv_at hl 3 rfl) ?_
                          refine va_get (ci := 9) (v := .ref a_stood) (C := RX9) (T := TX9) (N := 24) hx hb hts hi9 hown hK hP 0 rfl rfl 15 (by decide) fl67 (fun _ h9 => h9) rfl dX9_triesBits_171 ?_
                          refine lv_bipush (v := 64) hx hb dX9_triesBits_174 (by decide +kernel) ?_
                          refine lv_iload_n hx hb dX9_triesBits_176 rfl (lv_at hl 4 rfl) ?_
                          refine lv_imul hx hb dX9_triesBits_177 ?_
                          refine my_eqi (y := 192) (by decide +kernel) ?_
                          refine lv_iload hx hb dX9_triesBits_178 (lv_at hl 0 rfl) ?_
                          refine lv_iadd hx hb dX9_triesBits_180 ?_
                          refine my_eqi (y := nI (k + 192)) (my_addN2 k 192) ?_
                          refine va_iald hx hb hK hP 4 0 rfl rfl (vp_in_nI (by omega) (by omega)) dX9_triesBits_181 ?_
                          refine my_eqi (y := mo_11 (k + 192)) (congrArg mo_11 (nI_clamp (by omega))) ?_
                          have hb_15 := hR_mo_11 (k + 192)
                          refine va_iast hx hb hK hP hD hS 2 0 rfl rfl (vp_in_nI (by omega) (by omega)) dX9_triesBits_182 (fun H locs hP hD hS => ?_)
                          obtain ⟨g_16, eg_16⟩ : ∃ g : Nat → Int32, g = upd a_stands_155 k (mo_11 (k + 192)) := ⟨_, rfl⟩
                          have eU : upd a_stands_155 (nI k : Int32).toNatClampNeg (mo_11 (k + 192)) = g_16 := by rw [eg_16, show (nI k : Int32).toNatClampNeg = k from nI_clamp (by omega)]
                          rw [eU] at hP hD
                          have hR_g_16 : RB 0 63 g_16 := by rw [eg_16]; exact hR_a_stands_155.upd rfl (by omega) (by omega)
                          have hP : va_P D vwCl (wl_kf_X9_triesBits_3 cI cJ cK m0 a_row a_tape a_number a_read a_readBits a_stands a_parted a_bitsWere a_stood a_chosen a_bestChosen a_often a_sorted a_risen a_risenWays m_thrown (nI m_told) (nI m_taped) (nI m_at) (nI m_to) (nI m_many) (nI m_readMany) m_fewest_8 (nI m_size) mn g_16 mp_10 mo_11 mc_12 me_13) H := hP
                          have hD : va_D A (wl_kf_X9_triesBits_3 cI cJ cK m0 a_row a_tape a_number a_read a_readBits a_stands a_parted a_bitsWere a_stood a_chosen a_bestChosen a_often a_sorted a_risen a_risenWays m_thrown (nI m_told) (nI m_taped) (nI m_at) (nI m_to) (nI m_many) (nI m_readMany) m_fewest_8 (nI m_size) mn g_16 mp_10 mo_11 mc_12 me_13) := hD
                          refine lv_iinc (v := nI (k + 1)) (lv' := [(6, .int (nI (k + 1))), (5, .int (nI t_4)), (4, .int (nI w_1)), (0, .ref m0), (1, .int 3), (2, .int (nI U)), (3, .int (nI ra))]) hx hb dX9_triesBits_183 hl (k := 0) rfl (my_incN k 1 (by decide +kernel)) (by decide) rfl (fun ls hl => ?_)
                          refine lv_goto (tgt := 155) hx hb dX9_triesBits_186 (by decide) ?_
                          exact ih155  (k + 1) g_16 (by omega) (by first | assumption | omega | decide +kernel) (by first | assumption | omega | decide +kernel) (nv_step (F := ms) (by assumption) ((hso1 _ (by omega)).trans (hso2 k (by omega))) hrs) hR_g_16 _ _ ls hP hD hS (lv_sub hl [0, 1, 2, 3, 4, 5, 6] rfl)
                    exact loop155 ((64 - 0) + 1) 0 ms_9 (Nat.lt_succ_self _) (by first | assumption | omega | decide +kernel) (by first | assumption | omega | decide +kernel) (fun i h => absurd h (Nat.not_lt_zero i)) hR_ms_9 _ _ ls hP hD hS (lv_sub hl [0, 1, 2, 3, 4, 5, 6] rfl)
            have ec_17 : (7 : Int32).toInt = 7 := by decide +kernel
            exact loop99 ((((7 : Int32).toInt + 1).toNat) + 1) (7 : Int32) m_fewest ms mp a_stood_61 mc me (Nat.lt_succ_self _) (by first | assumption | omega | decide +kernel) (by first | assumption | omega | decide +kernel) (th_0 hfw) (fun _ _ => rfl) (fun i hi => hs61 i (by omega)) (hs62) hR_ms hR_mp hR_a_stood_61 _ _ ls hP hD hS (lv_sub hl [0, 1, 2, 3, 4] rfl)
          ·
            have d67 : ((k : Nat) : Int) < ((m_many : Nat) : Int) := my_nge c67 (nI_toInt (by omega)) (nI_toInt (by omega))
            refine lv_aload_n hx hb dX9_triesBits_70 rfl (lv_at hl 1 rfl) ?_
            refine va_get (ci := 9) (v := .ref a_stood) (C := RX9) (T := TX9) (N := 24) hx hb hts hi9 hown hK hP 0 rfl rfl 15 (by decide) fl67 (fun _ h9 => h9) rfl dX9_triesBits_71 ?_
            refine lv_bipush (v := 64) hx hb dX9_triesBits_74 (by decide +kernel) ?_
            refine lv_iload_n hx hb dX9_triesBits_76 rfl (lv_at hl 2 rfl) ?_
            refine lv_imul hx hb dX9_triesBits_77 ?_
            refine my_eqi (y := 192) (by decide +kernel) ?_
            refine lv_iload hx hb dX9_triesBits_78 (lv_at hl 0 rfl) ?_
            refine lv_iadd hx hb dX9_triesBits_80 ?_
            refine my_eqi (y := nI (k + 192)) (my_addN2 k 192) ?_
            refine lv_aload_n hx hb dX9_triesBits_81 rfl (lv_at hl 1 rfl) ?_
            refine va_get (ci := 9) (v := .ref a_stands) (C := RX9) (T := TX9) (N := 24) hx hb hts hi9 hown hK hP 0 rfl rfl 12 (by decide) fl58 (fun _ h9 => h9) rfl dX9_triesBits_82 ?_
            refine lv_iload hx hb dX9_triesBits_85 (lv_at hl 0 rfl) ?_
            refine va_iald hx hb hK hP 2 0 rfl rfl (vp_in_nI (by omega) (by omega)) dX9_triesBits_87 ?_
            refine my_eqi (y := ms k) (congrArg ms (nI_clamp (by omega))) ?_
            have hb_18 := hR_ms k
            refine va_iast hx hb hK hP hD hS 4 0 rfl rfl (vp_in_nI (by omega) (by omega)) dX9_triesBits_88 (fun H locs hP hD hS => ?_)
            obtain ⟨g_19, eg_19⟩ : ∃ g : Nat → Int32, g = upd a_stood_61 (k + 192) (ms k) := ⟨_, rfl⟩
            have eU : upd a_stood_61 (nI (k + 192) : Int32).toNatClampNeg (ms k) = g_19 := by rw [eg_19, show (nI (k + 192) : Int32).toNatClampNeg = k + 192 from nI_clamp (by omega)]
            rw [eU] at hP hD
            have hR_g_19 : RB 0 63 g_19 := by rw [eg_19]; exact hR_a_stood_61.upd rfl (by omega) (by omega)
            have hP : va_P D vwCl (wl_kf_X9_triesBits_3 cI cJ cK m0 a_row a_tape a_number a_read a_readBits a_stands a_parted a_bitsWere a_stood a_chosen a_bestChosen a_often a_sorted a_risen a_risenWays m_thrown (nI m_told) (nI m_taped) (nI m_at) (nI m_to) (nI m_many) (nI m_readMany) m_fewest (nI m_size) mn ms mp g_19 mc me) H := hP
            have hD : va_D A (wl_kf_X9_triesBits_3 cI cJ cK m0 a_row a_tape a_number a_read a_readBits a_stands a_parted a_bitsWere a_stood a_chosen a_bestChosen a_often a_sorted a_risen a_risenWays m_thrown (nI m_told) (nI m_taped) (nI m_at) (nI m_to) (nI m_many) (nI m_readMany) m_fewest (nI m_size) mn ms mp g_19 mc me) := hD
            refine lv_iinc (v := nI (k + 1)) (lv' := [(4, .int (nI (k + 1))), (0, .ref m0), (1, .int 3), (2, .int (nI U)), (3, .int (nI ra))]) hx hb dX9_triesBits_89 hl (k := 0) rfl (my_incN k 1 (by decide +kernel)) (by decide) rfl (fun ls hl => ?_)
            refine lv_goto (tgt := 61) hx hb dX9_triesBits_92 (by decide) ?_
            exact ih61  (k + 1) g_19 (by omega) (by first | assumption | omega | decide +kernel) (by first | assumption | omega | decide +kernel) (th_s1 (a := 192) (by assumption) rfl hs61) (th_s2 (a := 192) (by assumption) (by omega) hs62) hR_g_19 _ _ ls hP hD hS (lv_sub hl [0, 1, 2, 3, 4] rfl)
      exact loop61 ((64 - 0) + 1) 0 mo (Nat.lt_succ_self _) (by first | assumption | omega | decide +kernel) (by first | assumption | omega | decide +kernel) (fun i h => absurd h (Nat.not_lt_zero i)) (fun _ _ => rfl) hR_mo _ _ ls hP hD hS (lv_sub hl [0, 1, 2, 3, 4] rfl)
    ·
      exact absurd c19 (by decide +kernel)
  refine lv_aload_n hx hb dX9_triesBits_0 rfl (lv_at hl 0 rfl) ?_
  refine va_get (ci := 9) (v := .int m_fewest) (C := RX9) (T := TX9) (N := 24) hx hb hts hi9 hown hK hP 0 rfl rfl 18 (by decide) fl162 (fun _ h9 => h9) rfl dX9_triesBits_1 ?_
  refine lv_if_lt (tgt := 16) hx hb dX9_triesBits_4 (by decide) (fun c4 => ?_) (fun c4 => ?_)
  ·
    have d4 : m_fewest.toInt < (0 : Int) := my_lt c4 rfl (by decide +kernel)
    exact cut16  _ _ ls hP hD hS hl
  ·
    have d4 : m_fewest.toInt ≥ (0 : Int) := my_nlt c4 rfl (by decide +kernel)
    refine lv_iload_n hx hb dX9_triesBits_7 rfl (lv_at hl 3 rfl) ?_
    refine lv_aload_n hx hb dX9_triesBits_8 rfl (lv_at hl 0 rfl) ?_
    refine va_get (ci := 9) (v := .int m_fewest) (C := RX9) (T := TX9) (N := 24) hx hb hts hi9 hown hK hP 0 rfl rfl 18 (by decide) fl162 (fun _ h9 => h9) rfl dX9_triesBits_9 ?_
    refine lv_icmp_lt (tgt := 16) hx hb dX9_triesBits_12 (by decide) (fun c12 => ?_) (fun c12 => ?_)
    ·
      have d12 : ((ra : Nat) : Int) < m_fewest.toInt := my_lt c12 (nI_toInt (by omega)) rfl
      exact cut16  _ _ ls hP hD hS hl
    ·
      have d12 : ((ra : Nat) : Int) ≥ m_fewest.toInt := my_nlt c12 (nI_toInt (by omega)) rfl
      exact my_retV hx hb hr hlocks hK hS (wl_kf_X9_triesBits_3 cI cJ cK m0 a_row a_tape a_number a_read a_readBits a_stands a_parted a_bitsWere a_stood a_chosen a_bestChosen a_often a_sorted a_risen a_risenWays m_thrown (nI m_told) (nI m_taped) (nI m_at) (nI m_to) (nI m_many) (nI m_readMany) m_fewest (nI m_size) mn ms mp mo mc me) hP hD (⟨m_fewest, ms, mp, mo, mc, me, rfl, hR_ms, hR_mp, hR_mo, (by first | exact th_end hfw2 (by omega) | exact th_prune hfw (by omega) (by omega)), (by first | exact hst2 | exact fun _ _ => rfl), (by first | exact hso3 | exact fun _ _ => rfl)⟩) dX9_triesBits_15
abbrev wl_kf_X9_triesBits_2 (cI cJ cK : ClassId) (m0 : Nat) (a_row : Nat) (a_tape : Nat) (a_number : Nat) (a_read : Nat) (a_readBits : Nat) (a_stands : Nat) (a_parted : Nat) (a_bitsWere : Nat) (a_stood : Nat) (a_chosen : Nat) (a_bestChosen : Nat) (a_often : Nat) (a_sorted : Nat) (a_risen : Nat) (a_risenWays : Nat) (v0_ : Int32) (v1_ : Int32) (v2_ : Int32) (v3_ : Int32) (v4_ : Int32) (v5_ : Int32) (v6_ : Int32) (v7_ : Int32) (v8_ : Int32) (v9_ : Nat → Int32) (v10_ : Nat → Int32) (v11_ : Nat → Int32) (v12_ : Nat → Int32) (v13_ : Nat → Int32) (v14_ : Nat → Int32) : va_W := [(m0, .inr (9, [.int v0_, .int v1_, .ref a_row, .ref a_tape, .int v2_, .int v3_, .int v4_, .int v5_, .ref a_number, .ref a_read, .int v6_, .ref a_readBits, .ref a_stands, .ref a_parted, .ref a_bitsWere, .ref a_stood, .ref a_chosen, .ref a_bestChosen, .int v7_, .ref a_often, .ref a_sorted, .int v8_, .ref a_risen, .ref a_risenWays])), (a_number, .inl (cI, 64, .inl v9_)), (a_stands, .inl (cI, 64, .inl v10_)), (a_parted, .inl (cI, 64, .inl v11_)), (a_stood, .inl (cI, 512, .inl v12_)), (a_chosen, .inl (cI, 8, .inl v13_)), (a_bestChosen, .inl (cI, 8, .inl v14_))]
set_option maxHeartbeats 4000000 in
set_option maxRecDepth 100000 in
theorem kf_X9_triesBits_2 (l : Launch) (D : va_G) (cI cJ cK : ClassId) (m0 : Nat) (a_row : Nat) (a_tape : Nat) (a_number : Nat) (a_read : Nat) (a_readBits : Nat) (a_stands : Nat) (a_parted : Nat) (a_bitsWere : Nat) (a_stood : Nat) (a_chosen : Nat) (a_bestChosen : Nat) (a_often : Nat) (a_sorted : Nat) (a_risen : Nat) (a_risenWays : Nat) (m_thrown : Int32) (m_told : Nat) (m_taped : Nat) (m_at : Nat) (m_to : Nat) (m_many : Nat) (m_readMany : Nat) (m_fewest : Int32) (m_size : Nat) (mn : Nat → Int32) (ms : Nat → Int32) (mp : Nat → Int32) (mo : Nat → Int32) (mc : Nat → Int32) (me : Nat → Int32) (U : Nat) (ra : Nat) (F : Nat) (hz_m_told : m_told ≤ 64) (hz_m_taped : m_taped ≤ 100) (hz_m_at : m_at ≤ 100) (hz_m_to : m_to ≤ 100) (hz_m_many : m_many ≤ 64) (hz_m_readMany : m_readMany ≤ 64) (hz_m_size : m_size ≤ 64) (hR_mn : RB 0 255 mn) (hR_ms : RB 0 63 ms) (hR_mp : RB 0 63 mp) (hR_mo : RB 0 63 mo) (hU : U < 256) (hra : ra ≤ 128) (hfw : fwR m_fewest F) : ctV l yX9_triesBits wsX9_triesBits ({ frames := 7, cells := 0, slots := 0, locals := 420 } : Room) D (tyIJ cI cJ cK) [.ref m0, .int 2, .int (nI U), .int (nI ra)] (wl_kf_X9_triesBits_2 cI cJ cK m0 a_row a_tape a_number a_read a_readBits a_stands a_parted a_bitsWere a_stood a_chosen a_bestChosen a_often a_sorted a_risen a_risenWays m_thrown (nI m_told) (nI m_taped) (nI m_at) (nI m_to) (nI m_many) (nI m_readMany) m_fewest (nI m_size) mn ms mp mo mc me) (fun (u : va_W) => ∃ (m_fewest' : Int32) (ms' : Nat → Int32) (mp' : Nat → Int32) (mo' : Nat → Int32) (mc' : Nat → Int32) (me' : Nat → Int32), u = (wl_kf_X9_triesBits_2 cI cJ cK m0 a_row a_tape a_number a_read a_readBits a_stands a_parted a_bitsWere a_stood a_chosen a_bestChosen a_often a_sorted a_risen a_risenWays m_thrown (nI m_told) (nI m_taped) (nI m_at) (nI m_to) (nI m_many) (nI m_readMany) m_fewest' (nI m_size) mn ms' mp' mo' mc' me') ∧ RB 0 63 ms' ∧ RB 0 63 mp' ∧ RB 0 63 mo' ∧ fwR m_fewest' (min F (ra + tT m_many 6 (vG mn ms) (uS U))) ∧ (∀ i, i < m_many → ms' i = ms i) ∧ (∀ q, q < 128 → mo' q = mo q)) := by
  refine ctV.of (cc := cX9_triesBits) (maxL := 7) (ret := none) (by decide) rfl (Nat.le_of_ble_eq_true rfl) ?_
  intro p e s m below meth c ls A hx hb hr hts hown hml hlocks hname hA hK hN hP hD hS hl
  have hl : lv_has ls 7 [(0, .ref m0), (1, .int 2), (2, .int (nI U)), (3, .int (nI ra))] := hl
  have hown : s.vm.findClass RX9 = some m.cls := hown
  have hi9 : ∀ w ∈ u_ws RX9 TX9 24, w ∈ wsX9_triesBits := by decide +kernel
  have fl162 := hts (.fieldLink RX9 162 "PlaneColumnModel" "fewest" "I") (by decide +kernel)
  have fl58 := hts (.fieldLink RX9 58 "PlaneColumnModel" "stands" "[I") (by decide +kernel)
  have fl67 := hts (.fieldLink RX9 67 "PlaneColumnModel" "stood" "[I") (by decide +kernel)
  have fl70 := hts (.fieldLink RX9 70 "PlaneColumnModel" "chosen" "[I") (by decide +kernel)
  have fl88 := hts (.fieldLink RX9 88 "PlaneColumnModel" "many" "I") (by decide +kernel)
  have cut16 : ∀ (H : Heap) (locs : List Loc) (ls : Array Slot), va_P D vwCl (wl_kf_X9_triesBits_2 cI cJ cK m0 a_row a_tape a_number a_read a_readBits a_stands a_parted a_bitsWere a_stood a_chosen a_bestChosen a_often a_sorted a_risen a_risenWays m_thrown (nI m_told) (nI m_taped) (nI m_at) (nI m_to) (nI m_many) (nI m_readMany) m_fewest (nI m_size) mn ms mp mo mc me) H → va_D A (wl_kf_X9_triesBits_2 cI cJ cK m0 a_row a_tape a_number a_read a_readBits a_stands a_parted a_bitsWere a_stood a_chosen a_bestChosen a_often a_sorted a_risen a_risenWays m_thrown (nI m_told) (nI m_taped) (nI m_at) (nI m_to) (nI m_many) (nI m_readMany) m_fewest (nI m_size) mn ms mp mo mc me) → va_S A s.heap H locs → lv_has ls 7 [(0, .ref m0), (1, .int 2), (2, .int (nI U)), (3, .int (nI ra))] → W p l e ({ frames := 7, cells := 0, slots := 0, locals := 420 } : Room) s m [.ref m0, .int 2, .int (nI U), .int (nI ra)].toArray below meth c H locs 0 0 (MQ below (va_Qv (fun (u : va_W) => ∃ (m_fewest' : Int32) (ms' : Nat → Int32) (mp' : Nat → Int32) (mo' : Nat → Int32) (mc' : Nat → Int32) (me' : Nat → Int32), u = (wl_kf_X9_triesBits_2 cI cJ cK m0 a_row a_tape a_number a_read a_readBits a_stands a_parted a_bitsWere a_stood a_chosen a_bestChosen a_often a_sorted a_risen a_risenWays m_thrown (nI m_told) (nI m_taped) (nI m_at) (nI m_to) (nI m_many) (nI m_readMany) m_fewest' (nI m_size) mn ms' mp' mo' mc' me') ∧ RB 0 63 ms' ∧ RB 0 63 mp' ∧ RB 0 63 mo' ∧ fwR m_fewest' (min F (ra + tT m_many 6 (vG mn ms) (uS U))) ∧ (∀ i, i < m_many → ms' i = ms i) ∧ (∀ q, q < 128 → mo' q = mo q)) (my_B D (tyIJ cI cJ cK) A) A) [.ref m0, .int 2, .int (nI U), .int (nI ra)].toArray s 0 0 A) (F0 m 16 ls []) := by
    intro H locs ls hP hD hS hl
    refine lv_iload_n hx hb dX9_triesBits_16 rfl (lv_at hl 1 rfl) ?_
    refine lv_bipush (v := 8) hx hb dX9_triesBits_17 (by decide +kernel) ?_
    refine lv_icmp_ne (tgt := 58) hx hb dX9_triesBits_19 (by decide) (fun c19 => ?_) (fun c19 => ?_)
    ·
      refine lv_iconst (v := 0) hx hb dX9_triesBits_58 (by decide +kernel) ?_
      refine lv_istore (lv' := [(4, .int 0), (0, .ref m0), (1, .int 2), (2, .int (nI U)), (3, .int (nI ra))]) hx hb dX9_triesBits_59 hl (by decide) rfl (fun ls hl => ?_)
      have loop61 : ∀ (n9 : Nat) (k : Nat) (a_stood_61 : Nat → Int32), 64 - k < n9 → (k ≤ 64) → (k ≤ m_many) → (∀ i, i < k → a_stood_61 (i + 128) = ms i) → (∀ q, q < 128 → a_stood_61 q = mo q) → (RB 0 63 a_stood_61) → ∀ (H : Heap) (locs : List Loc) (ls : Array Slot), va_P D vwCl (wl_kf_X9_triesBits_2 cI cJ cK m0 a_row a_tape a_number a_read a_readBits a_stands a_parted a_bitsWere a_stood a_chosen a_bestChosen a_often a_sorted a_risen a_risenWays m_thrown (nI m_told) (nI m_taped) (nI m_at) (nI m_to) (nI m_many) (nI m_readMany) m_fewest (nI m_size) mn ms mp a_stood_61 mc me) H → va_D A (wl_kf_X9_triesBits_2 cI cJ cK m0 a_row a_tape a_number a_read a_readBits a_stands a_parted a_bitsWere a_stood a_chosen a_bestChosen a_often a_sorted a_risen a_risenWays m_thrown (nI m_told) (nI m_taped) (nI m_at) (nI m_to) (nI m_many) (nI m_readMany) m_fewest (nI m_size) mn ms mp a_stood_61 mc me) → va_S A s.heap H locs → lv_has ls 7 [(4, .int (nI k)), (0, .ref m0), (1, .int 2), (2, .int (nI U)), (3, .int (nI ra))] → W p l e ({ frames := 7, cells := 0, slots := 0, locals := 420 } : Room) s m [.ref m0, .int 2, .int (nI U), .int (nI ra)].toArray below meth c H locs 0 0 (MQ below (va_Qv (fun (u : va_W) => ∃ (m_fewest' : Int32) (ms' : Nat → Int32) (mp' : Nat → Int32) (mo' : Nat → Int32) (mc' : Nat → Int32) (me' : Nat → Int32), u = (wl_kf_X9_triesBits_2 cI cJ cK m0 a_row a_tape a_number a_read a_readBits a_stands a_parted a_bitsWere a_stood a_chosen a_bestChosen a_often a_sorted a_risen a_risenWays m_thrown (nI m_told) (nI m_taped) (nI m_at) (nI m_to) (nI m_many) (nI m_readMany) m_fewest' (nI m_size) mn ms' mp' mo' mc' me') ∧ RB 0 63 ms' ∧ RB 0 63 mp' ∧ RB 0 63 mo' ∧ fwR m_fewest' (min F (ra + tT m_many 6 (vG mn ms) (uS U))) ∧ (∀ i, i < m_many → ms' i = ms i) ∧ (∀ q, q < 128 → mo' q = mo q)) (my_B D (tyIJ cI cJ cK) A) A) [.ref m0, .int 2, .int (nI U), .int (nI ra)].toArray s 0 0 A) (F0 m 61 ls []) := by
        intro n9
        induction n9 with
        | zero =>
          intro k a_stood_61 hn9
          exact absurd hn9 (Nat.not_lt_zero _)
        | succ n9 ih61 =>
          intro k a_stood_61 hn9 hk_k hkm hs61 hs62 hR_a_stood_61 H locs ls hP hD hS hl
          refine lv_iload hx hb dX9_triesBits_61 (lv_at hl 0 rfl) ?_
          refine lv_aload_n hx hb dX9_triesBits_63 rfl (lv_at hl 1 rfl) ?_
          refine va_get (ci := 9) (v := .int (nI m_many)) (C := RX9) (T := TX9) (N := 24) hx hb hts hi9 hown hK hP 0 rfl rfl 7 (by decide) fl88 (fun _ h9 => h9) rfl dX9_triesBits_64 ?_
          refine lv_icmp_ge (tgt := 95) hx hb dX9_triesBits_67 (by decide) (fun c67 => ?_) (fun c67 => ?_)
          ·
            have d67 : ((k : Nat) : Int) ≥ ((m_many : Nat) : Int) := my_ge c67 (nI_toInt (by omega)) (nI_toInt (by omega))
            refine lv_bipush (v := 7) hx hb dX9_triesBits_95 (by decide +kernel) ?_
            refine lv_istore (lv' := [(4, .int 7), (0, .ref m0), (1, .int 2), (2, .int (nI U)), (3, .int (nI ra))]) hx hb dX9_triesBits_97 hl (by decide) rfl (fun ls hl => ?_)
            have loop99 : ∀ (n9 : Nat) (x : Int32) (m0_fewest_99 : Int32) (a_stands_99 : Nat → Int32) (a_parted_99 : Nat → Int32) (a_stood_99 : Nat → Int32) (a_chosen_99 : Nat → Int32) (a_bestChosen_99 : Nat → Int32), (x.toInt + 1).toNat < n9 → (-1 ≤ x.toInt) → (x.toInt ≤ 7) → (fwR m0_fewest_99 (min F (ra + tM (tF m_many 5 (vG mn ms) (uS U)) (uS U) (7 - x.toInt).toNat))) → (∀ i, i < m_many → a_stands_99 i = ms i) → (∀ i, i < m_many → a_stood_99 (i + 128) = ms i) → (∀ q, q < 128 → a_stood_99 q = mo q) → (RB 0 63 a_stands_99) → (RB 0 63 a_parted_99) → (RB 0 63 a_stood_99) → ∀ (H : Heap) (locs : List Loc) (ls : Array Slot), va_P D vwCl (wl_kf_X9_triesBits_2 cI cJ cK m0 a_row a_tape a_number a_read a_readBits a_stands a_parted a_bitsWere a_stood a_chosen a_bestChosen a_often a_sorted a_risen a_risenWays m_thrown (nI m_told) (nI m_taped) (nI m_at) (nI m_to) (nI m_many) (nI m_readMany) m0_fewest_99 (nI m_size) mn a_stands_99 a_parted_99 a_stood_99 a_chosen_99 a_bestChosen_99) H → va_D A (wl_kf_X9_triesBits_2 cI cJ cK m0 a_row a_tape a_number a_read a_readBits a_stands a_parted a_bitsWere a_stood a_chosen a_bestChosen a_often a_sorted a_risen a_risenWays m_thrown (nI m_told) (nI m_taped) (nI m_at) (nI m_to) (nI m_many) (nI m_readMany) m0_fewest_99 (nI m_size) mn a_stands_99 a_parted_99 a_stood_99 a_chosen_99 a_bestChosen_99) → va_S A s.heap H locs → lv_has ls 7 [(4, .int x), (0, .ref m0), (1, .int 2), (2, .int (nI U)), (3, .int (nI ra))] → W p l e ({ frames := 7, cells := 0, slots := 0, locals := 420 } : Room) s m [.ref m0, .int 2, .int (nI U), .int (nI ra)].toArray below meth c H locs 0 0 (MQ below (va_Qv (fun (u : va_W) => ∃ (m_fewest' : Int32) (ms' : Nat → Int32) (mp' : Nat → Int32) (mo' : Nat → Int32) (mc' : Nat → Int32) (me' : Nat → Int32), u = (wl_kf_X9_triesBits_2 cI cJ cK m0 a_row a_tape a_number a_read a_readBits a_stands a_parted a_bitsWere a_stood a_chosen a_bestChosen a_often a_sorted a_risen a_risenWays m_thrown (nI m_told) (nI m_taped) (nI m_at) (nI m_to) (nI m_many) (nI m_readMany) m_fewest' (nI m_size) mn ms' mp' mo' mc' me') ∧ RB 0 63 ms' ∧ RB 0 63 mp' ∧ RB 0 63 mo' ∧ fwR m_fewest' (min F (ra + tT m_many 6 (vG mn ms) (uS U))) ∧ (∀ i, i < m_many → ms' i = ms i) ∧ (∀ q, q < 128 → mo' q = mo q)) (my_B D (tyIJ cI cJ cK) A) A) [.ref m0, .int 2, .int (nI U), .int (nI ra)].toArray s 0 0 A) (F0 m 99 ls []) := by
              intro n9
              induction n9 with
              | zero =>
                intro x m0_fewest_99 a_stands_99 a_parted_99 a_stood_99 a_chosen_99 a_bestChosen_99 hn9
                exact absurd hn9 (Nat.not_lt_zero _)
              | succ n9 ih99 =>
                intro x m0_fewest_99 a_stands_99 a_parted_99 a_stood_99 a_chosen_99 a_bestChosen_99 hn9 hx0 hx1 hfw2 hst2 hso2 hso3 hR_a_stands_99 hR_a_parted_99 hR_a_stood_99 H locs ls hP hD hS hl
                refine lv_iload hx hb dX9_triesBits_99 (lv_at hl 0 rfl) ?_
                refine lv_if_lt (tgt := 195) hx hb dX9_triesBits_101 (by decide) (fun c101 => ?_) (fun c101 => ?_)
                ·
                  have d101 : x.toInt < (0 : Int) := my_lt c101 rfl (by decide +kernel)
                  exact my_retV hx hb hr hlocks hK hS (wl_kf_X9_triesBits_2 cI cJ cK m0 a_row a_tape a_number a_read a_readBits a_stands a_parted a_bitsWere a_stood a_chosen a_bestChosen a_often a_sorted a_risen a_risenWays m_thrown (nI m_told) (nI m_taped) (nI m_at) (nI m_to) (nI m_many) (nI m_readMany) m0_fewest_99 (nI m_size) mn a_stands_99 a_parted_99 a_stood_99 a_chosen_99 a_bestChosen_99) hP hD (⟨m0_fewest_99, a_stands_99, a_parted_99, a_stood_99, a_chosen_99, a_bestChosen_99, rfl, hR_a_stands_99, hR_a_parted_99, hR_a_stood_99, (by first | exact th_end hfw2 (by omega) | exact th_prune hfw (by omega) (by omega)), (by first | exact hst2 | exact fun _ _ => rfl), (by first | exact hso3 | exact fun _ _ => rfl)⟩) dX9_triesBits_195
                ·
                  have d101 : x.toInt ≥ (0 : Int) := my_nlt c101 rfl (by decide +kernel)
                  obtain ⟨w_1, rfl, hw_1⟩ := my_natP (x := x) (by omega)
                  have hlw_1 : w_1 < 2147483648 := by have h9 := Int32.toInt_lt (nI w_1); omega
                  refine lv_iload_n hx hb dX9_triesBits_104 rfl (lv_at hl 3 rfl) ?_
                  refine lv_iload hx hb dX9_triesBits_105 (lv_at hl 0 rfl) ?_
                  refine lv_ishr hx hb dX9_triesBits_107 ?_
                  refine my_eqi (y := nI (U / 2 ^ w_1)) (my_shrG (by omega) (by omega)) ?_
                  refine lv_iconst (v := 1) hx hb dX9_triesBits_108 (by decide +kernel) ?_
                  refine lv_iand hx hb dX9_triesBits_109 ?_
                  refine my_eqi (y := nI ((U / 2 ^ w_1) % 2)) (my_maskN _ 1) ?_
                  refine lv_if_ne (tgt := 189) hx hb dX9_triesBits_110 (by decide) (fun c110 => ?_) (fun c110 => ?_)
                  ·
                    have d110 : (((U / 2 ^ w_1) % 2 : Nat) : Int) ≠ (0 : Int) := my_ne c110 (nI_toInt (by omega)) (by decide +kernel)
                    obtain ⟨z_2, ez_2⟩ : ∃ y : Int32, y = nI w_1 + (-1) := ⟨_, rfl⟩
                    try have tz_2 : z_2.toInt = ((w_1 : Nat) : Int) + (-1) := by rw [ez_2]; exact my_addI (nI_toInt (by omega)) (by decide +kernel) (by omega) (by omega)
                    refine lv_iinc (v := z_2) (lv' := [(4, .int z_2), (0, .ref m0), (1, .int 2), (2, .int (nI U)), (3, .int (nI ra))]) hx hb dX9_triesBits_189 hl (k := 0) rfl (by rw [ez_2]; rfl) (by decide) rfl (fun ls hl => ?_)
                    refine lv_goto (tgt := 99) hx hb dX9_triesBits_192 (by decide) ?_
                    exact ih99  z_2 m0_fewest_99 a_stands_99 a_parted_99 a_stood_99 a_chosen_99 a_bestChosen_99 (by omega) (by first | assumption | omega | decide +kernel) (by first | assumption | omega | decide +kernel) (by first | exact th_skip hfw2 (by omega) (by omega) (by omega) (su_f d110 (by omega)) | exact th_done hfw1 (by omega) (by omega) (by omega) (su_t d110 (by omega)) (th_take (by omega) (by omega) hU hst2 hpt hrn)) (by first | exact hst2 | exact fun i hi => hrs i (by omega)) (by first | exact hso2 | exact fun i hi => (hso1 _ (by omega)).trans (hso2 i hi)) (by first | exact hso3 | exact fun q hq => (hso1 q (by omega)).trans (hso3 q hq)) hR_a_stands_99 hR_a_parted_99 hR_a_stood_99 _ _ ls hP hD hS (lv_sub hl [0, 1, 2, 3, 4] rfl)
                  ·
                    have d110 : (((U / 2 ^ w_1) % 2 : Nat) : Int) = (0 : Int) := my_eq c110 (nI_toInt (by omega)) (by decide +kernel)
                    refine lv_aload_n hx hb dX9_triesBits_113 rfl (lv_at hl 1 rfl) ?_
                    refine va_get (ci := 9) (v := .ref a_chosen) (C := RX9) (T := TX9) (N := 24) hx hb hts hi9 hown hK hP 0 rfl rfl 16 (by decide) fl70 (fun _ h9 => h9) rfl dX9_triesBits_114 ?_
                    refine lv_iload_n hx hb dX9_triesBits_117 rfl (lv_at hl 2 rfl) ?_
                    refine lv_iload hx hb dX9_triesBits_118 (lv_at hl 0 rfl) ?_
                    refine va_iast hx hb hK hP hD hS 5 0 rfl rfl (vp_in_nI (n := 2) (by omega) (by omega)) dX9_triesBits_120 (fun H locs hP hD hS => ?_)
                    obtain ⟨g_3, eg_3⟩ : ∃ g : Nat → Int32, g = upd a_chosen_99 2 (nI w_1) := ⟨_, rfl⟩
                    have eU : upd a_chosen_99 (2 : Int32).toNatClampNeg (nI w_1) = g_3 := by rw [eg_3, show (2 : Int32).toNatClampNeg = 2 from by decide +kernel]
                    rw [eU] at hP hD
                    have hP : va_P D vwCl (wl_kf_X9_triesBits_2 cI cJ cK m0 a_row a_tape a_number a_read a_readBits a_stands a_parted a_bitsWere a_stood a_chosen a_bestChosen a_often a_sorted a_risen a_risenWays m_thrown (nI m_told) (nI m_taped) (nI m_at) (nI m_to) (nI m_many) (nI m_readMany) m0_fewest_99 (nI m_size) mn a_stands_99 a_parted_99 a_stood_99 g_3 a_bestChosen_99) H := hP
                    have hD : va_D A (wl_kf_X9_triesBits_2 cI cJ cK m0 a_row a_tape a_number a_read a_readBits a_stands a_parted a_bitsWere a_stood a_chosen a_bestChosen a_often a_sorted a_risen a_risenWays m_thrown (nI m_told) (nI m_taped) (nI m_at) (nI m_to) (nI m_many) (nI m_readMany) m0_fewest_99 (nI m_size) mn a_stands_99 a_parted_99 a_stood_99 g_3 a_bestChosen_99) := hD
                    refine lv_aload_n hx hb dX9_triesBits_121 rfl (lv_at hl 1 rfl) ?_
                    refine lv_iload hx hb dX9_triesBits_122 (lv_at hl 0 rfl) ?_
                    refine my_gpI (my_pV (As := [.int (nI w_1)]) (rest := []) (ci := 9) ⟨hx, hb, hml, hown, hts⟩ (cwV 1 hts gX9_triesBits_X9_runsOf rfl rfl rfl (by decide +kernel) ⟨Nat.le_of_ble_eq_true rfl, Nat.le_of_ble_eq_true rfl⟩) hN hK hP [0, 1, 2] rfl 0 rfl rfl rfl rfl hl.1 rfl (Nat.le_of_ble_eq_true rfl) dX9_triesBits_124 ⟨Nat.le_of_ble_eq_true rfl, Nat.le_of_ble_eq_true rfl⟩  (kf_X9_runsOf l D cI cJ cK m0 a_row a_tape a_number a_read a_readBits a_stands a_parted a_bitsWere a_stood a_chosen a_bestChosen a_often a_sorted a_risen a_risenWays m_thrown m_told m_taped m_at m_to m_many m_readMany m0_fewest_99 m_size mn a_stands_99 w_1 (by first | assumption | omega | decide +kernel) (by first | assumption | omega | decide +kernel) (by first | assumption | omega | decide +kernel) (by first | assumption | omega | decide +kernel) (by first | assumption | omega | decide +kernel) (by first | assumption | omega | decide +kernel) (by first | assumption | omega | decide +kernel) hR_mn hR_a_stands_99 (by first | assumption | omega | decide +kernel))) (fun r hp => ?_)
                    obtain ⟨t_4, rfl, hrn, hq_5⟩ := hp
                    refine lv_istore (lv' := [(5, .int (nI t_4)), (4, .int (nI w_1)), (0, .ref m0), (1, .int 2), (2, .int (nI U)), (3, .int (nI ra))]) hx hb dX9_triesBits_127 hl (by decide) rfl (fun ls hl => ?_)
                    refine lv_aload_n hx hb dX9_triesBits_129 rfl (lv_at hl 2 rfl) ?_
                    refine lv_iload hx hb dX9_triesBits_130 (lv_at hl 1 rfl) ?_
                    refine my_goVS (wc := (wl_kf_X9_parts cI cJ cK m0 a_row a_tape a_number a_read a_readBits a_stands a_parted a_bitsWere a_stood a_chosen a_bestChosen a_often a_sorted a_risen a_risenWays m_thrown (nI m_told) (nI m_taped) (nI m_at) (nI m_to) (nI m_many) (nI m_readMany) m0_fewest_99 (nI m_size) mn a_stands_99 a_parted_99)) hP hD hS hA [0, 1, 2, 3] rfl [some 0, some 1, some 2, some 3] (by decide +kernel) (my_cV (As := [.int (nI w_1)]) (rest := []) (ci := 9) (wc := (wl_kf_X9_parts cI cJ cK m0 a_row a_tape a_number a_read a_readBits a_stands a_parted a_bitsWere a_stood a_chosen a_bestChosen a_often a_sorted a_risen a_risenWays m_thrown (nI m_told) (nI m_taped) (nI m_at) (nI m_to) (nI m_many) (nI m_readMany) m0_fewest_99 (nI m_size) mn a_stands_99 a_parted_99)) ⟨hx, hb, hml, hown, hts⟩ (cwV 1 hts gX9_triesBits_X9_parts rfl rfl rfl (by decide +kernel) ⟨Nat.le_of_ble_eq_true rfl, Nat.le_of_ble_eq_true rfl⟩) hN hK hP hD [0, 1, 2, 3] rfl (by decide) rfl 0 rfl rfl rfl rfl hl.1 rfl (Nat.le_of_ble_eq_true rfl) dX9_triesBits_132 ⟨Nat.le_of_ble_eq_true rfl, Nat.le_of_ble_eq_true rfl⟩  ((kf_X9_parts l D cI cJ cK m0 a_row a_tape a_number a_read a_readBits a_stands a_parted a_bitsWere a_stood a_chosen a_bestChosen a_often a_sorted a_risen a_risenWays m_thrown m_told m_taped m_at m_to m_many m_readMany m0_fewest_99 m_size mn a_stands_99 a_parted_99 w_1 (by first | assumption | omega | decide +kernel) (by first | assumption | omega | decide +kernel) (by first | assumption | omega | decide +kernel) (by first | assumption | omega | decide +kernel) (by first | assumption | omega | decide +kernel) (by first | assumption | omega | decide +kernel) (by first | assumption | omega | decide +kernel) hR_mn hR_a_stands_99 hR_a_parted_99 (by first | assumption | omega | decide +kernel)) _)) (fun u H locs hp hPD hS => ?_)
                    obtain ⟨ms_6, mp_7, rfl, hR_ms_6, hR_mp_7, hpt⟩ := hp
                    obtain ⟨hP, hD⟩ := hPD rfl
                    have hP : va_P D vwCl (wl_kf_X9_triesBits_2 cI cJ cK m0 a_row a_tape a_number a_read a_readBits a_stands a_parted a_bitsWere a_stood a_chosen a_bestChosen a_often a_sorted a_risen a_risenWays m_thrown (nI m_told) (nI m_taped) (nI m_at) (nI m_to) (nI m_many) (nI m_readMany) m0_fewest_99 (nI m_size) mn ms_6 mp_7 a_stood_99 g_3 a_bestChosen_99) H := hP
                    have hD : va_D A (wl_kf_X9_triesBits_2 cI cJ cK m0 a_row a_tape a_number a_read a_readBits a_stands a_parted a_bitsWere a_stood a_chosen a_bestChosen a_often a_sorted a_risen a_risenWays m_thrown (nI m_told) (nI m_taped) (nI m_at) (nI m_to) (nI m_many) (nI m_readMany) m0_fewest_99 (nI m_size) mn ms_6 mp_7 a_stood_99 g_3 a_bestChosen_99) := hD
                    refine lv_aload_n hx hb dX9_triesBits_135 rfl (lv_at hl 2 rfl) ?_
                    refine lv_iload_n hx hb dX9_triesBits_136 rfl (lv_at hl 3 rfl) ?_
                    refine lv_iconst (v := 1) hx hb dX9_triesBits_137 (by decide +kernel) ?_
                    refine lv_iadd hx hb dX9_triesBits_138 ?_
                    refine my_eqi (y := 3) (by decide +kernel) ?_
                    refine lv_iload_n hx hb dX9_triesBits_139 rfl (lv_at hl 4 rfl) ?_
                    refine lv_iconst (v := 1) hx hb dX9_triesBits_140 (by decide +kernel) ?_
                    refine lv_iload hx hb dX9_triesBits_141 (lv_at hl 1 rfl) ?_
                    refine lv_ishl hx hb dX9_triesBits_143 ?_
                    refine my_eqi (y := nI (2 ^ w_1)) (my_shl1 (by omega)) ?_
                    refine lv_ior hx hb dX9_triesBits_144 ?_
                    refine my_eqi (y := nI (U ||| (2 ^ w_1))) (fa_or _ _) ?_
                    refine lv_iload_n hx hb dX9_triesBits_145 rfl (lv_at hl 5 rfl) ?_
                    refine lv_iload hx hb dX9_triesBits_146 (lv_at hl 0 rfl) ?_
                    refine lv_iadd hx hb dX9_triesBits_148 ?_
                    refine my_eqi (y := nI (ra + t_4)) (nI_add _ _) ?_
                    refine my_goVS (wc := (wl_kf_X9_triesBits_3 cI cJ cK m0 a_row a_tape a_number a_read a_readBits a_stands a_parted a_bitsWere a_stood a_chosen a_bestChosen a_often a_sorted a_risen a_risenWays m_thrown (nI m_told) (nI m_taped) (nI m_at) (nI m_to) (nI m_many) (nI m_readMany) m0_fewest_99 (nI m_size) mn ms_6 mp_7 a_stood_99 g_3 a_bestChosen_99)) hP hD hS hA [0, 1, 2, 3, 4, 5, 6] rfl [some 0, some 1, some 2, some 3, some 4, some 5, some 6] (by decide +kernel) (my_cV (As := [.int 3, .int (nI (U ||| (2 ^ w_1))), .int (nI (ra + t_4))]) (rest := []) (ci := 9) (wc := (wl_kf_X9_triesBits_3 cI cJ cK m0 a_row a_tape a_number a_read a_readBits a_stands a_parted a_bitsWere a_stood a_chosen a_bestChosen a_often a_sorted a_risen a_risenWays m_thrown (nI m_told) (nI m_taped) (nI m_at) (nI m_to) (nI m_many) (nI m_readMany) m0_fewest_99 (nI m_size) mn ms_6 mp_7 a_stood_99 g_3 a_bestChosen_99)) ⟨hx, hb, hml, hown, hts⟩ (cwV 3 hts gX9_triesBits_X9_triesBits rfl rfl rfl (by decide +kernel) ⟨Nat.le_of_ble_eq_true rfl, Nat.le_of_ble_eq_true rfl⟩) hN hK hP hD [0, 1, 2, 3, 4, 5, 6] rfl (by decide) rfl 0 rfl rfl rfl rfl hl.1 rfl (Nat.le_of_ble_eq_true rfl) dX9_triesBits_149 ⟨Nat.le_of_ble_eq_true rfl, Nat.le_of_ble_eq_true rfl⟩  ((kf_X9_triesBits_3 l D cI cJ cK m0 a_row a_tape a_number a_read a_readBits a_stands a_parted a_bitsWere a_stood a_chosen a_bestChosen a_often a_sorted a_risen a_risenWays m_thrown m_told m_taped m_at m_to m_many m_readMany m0_fewest_99 m_size mn ms_6 mp_7 a_stood_99 g_3 a_bestChosen_99 (U ||| (2 ^ w_1)) (ra + t_4) (min F (ra + tM (tF m_many 5 (vG mn ms) (uS U)) (uS U) (7 - (nI w_1).toInt).toNat)) (by first | assumption | omega | decide +kernel) (by first | assumption | omega | decide +kernel) (by first | assumption | omega | decide +kernel) (by first | assumption | omega | decide +kernel) (by first | assumption | omega | decide +kernel) (by first | assumption | omega | decide +kernel) (by first | assumption | omega | decide +kernel) hR_mn hR_ms_6 hR_mp_7 hR_a_stood_99 ((or_b U hU _ (by omega)).1) (by first | assumption | omega | decide +kernel) (hfw2)) _)) (fun u H locs hp hPD hS => ?_)
                    obtain ⟨m_fewest_8, ms_9, mp_10, mo_11, mc_12, me_13, rfl, hR_ms_9, hR_mp_10, hR_mo_11, hfw1, hst1, hso1⟩ := hp
                    obtain ⟨hP, hD⟩ := hPD rfl
                    have hP : va_P D vwCl (wl_kf_X9_triesBits_2 cI cJ cK m0 a_row a_tape a_number a_read a_readBits a_stands a_parted a_bitsWere a_stood a_chosen a_bestChosen a_often a_sorted a_risen a_risenWays m_thrown (nI m_told) (nI m_taped) (nI m_at) (nI m_to) (nI m_many) (nI m_readMany) m_fewest_8 (nI m_size) mn ms_9 mp_10 mo_11 mc_12 me_13) H := hP
                    have hD : va_D A (wl_kf_X9_triesBits_2 cI cJ cK m0 a_row a_tape a_number a_read a_readBits a_stands a_parted a_bitsWere a_stood a_chosen a_bestChosen a_often a_sorted a_risen a_risenWays m_thrown (nI m_told) (nI m_taped) (nI m_at) (nI m_to) (nI m_many) (nI m_readMany) m_fewest_8 (nI m_size) mn ms_9 mp_10 mo_11 mc_12 me_13) := hD
                    refine lv_iconst (v := 0) hx hb dX9_triesBits_152 (by decide +kernel) ?_
                    refine lv_istore (lv' := [(6, .int 0), (5, .int (nI t_4)), (4, .int (nI w_1)), (0, .ref m0), (1, .int 2), (2, .int (nI U)), (3, .int (nI ra))]) hx hb dX9_triesBits_153 hl (by decide) rfl (fun ls hl => ?_)
                    have loop155 : ∀ (n9 : Nat) (k : Nat) (a_stands_155 : Nat → Int32), 64 - k < n9 → (k ≤ 64) → (k ≤ m_many) → (∀ i, i < k → a_stands_155 i = ms i) → (RB 0 63 a_stands_155) → ∀ (H : Heap) (locs : List Loc) (ls : Array Slot), va_P D vwCl (wl_kf_X9_triesBits_2 cI cJ cK m0 a_row a_tape a_number a_read a_readBits a_stands a_parted a_bitsWere a_stood a_chosen a_bestChosen a_often a_sorted a_risen a_risenWays m_thrown (nI m_told) (nI m_taped) (nI m_at) (nI m_to) (nI m_many) (nI m_readMany) m_fewest_8 (nI m_size) mn a_stands_155 mp_10 mo_11 mc_12 me_13) H → va_D A (wl_kf_X9_triesBits_2 cI cJ cK m0 a_row a_tape a_number a_read a_readBits a_stands a_parted a_bitsWere a_stood a_chosen a_bestChosen a_often a_sorted a_risen a_risenWays m_thrown (nI m_told) (nI m_taped) (nI m_at) (nI m_to) (nI m_many) (nI m_readMany) m_fewest_8 (nI m_size) mn a_stands_155 mp_10 mo_11 mc_12 me_13) → va_S A s.heap H locs → lv_has ls 7 [(6, .int (nI k)), (5, .int (nI t_4)), (4, .int (nI w_1)), (0, .ref m0), (1, .int 2), (2, .int (nI U)), (3, .int (nI ra))] → W p l e ({ frames := 7, cells := 0, slots := 0, locals := 420 } : Room) s m [.ref m0, .int 2, .int (nI U), .int (nI ra)].toArray below meth c H locs 0 0 (MQ below (va_Qv (fun (u : va_W) => ∃ (m_fewest' : Int32) (ms' : Nat → Int32) (mp' : Nat → Int32) (mo' : Nat → Int32) (mc' : Nat → Int32) (me' : Nat → Int32), u = (wl_kf_X9_triesBits_2 cI cJ cK m0 a_row a_tape a_number a_read a_readBits a_stands a_parted a_bitsWere a_stood a_chosen a_bestChosen a_often a_sorted a_risen a_risenWays m_thrown (nI m_told) (nI m_taped) (nI m_at) (nI m_to) (nI m_many) (nI m_readMany) m_fewest' (nI m_size) mn ms' mp' mo' mc' me') ∧ RB 0 63 ms' ∧ RB 0 63 mp' ∧ RB 0 63 mo' ∧ fwR m_fewest' (min F (ra + tT m_many 6 (vG mn ms) (uS U))) ∧ (∀ i, i < m_many → ms' i = ms i) ∧ (∀ q, q < 128 → mo' q = mo q)) (my_B D (tyIJ cI cJ cK) A) A) [.ref m0, .int 2, .int (nI U), .int (nI ra)].toArray s 0 0 A) (F0 m 155 ls []) := by
                      intro n9
                      induction n9 with
                      | zero =>
                        intro k a_stands_155 hn9
                        exact absurd hn9 (Nat.not_lt_zero _)
                      | succ n9 ih155 =>
                        intro k a_stands_155 hn9 hk_k hkm hrs hR_a_stands_155 H locs ls hP hD hS hl
                        refine lv_iload hx hb dX9_triesBits_155 (lv_at hl 0 rfl) ?_
                        refine lv_aload_n hx hb dX9_triesBits_157 rfl (lv_at hl 3 rfl) ?_
                        refine va_get (ci := 9) (v := .int (nI m_many)) (C := RX9) (T := TX9) (N := 24) hx hb hts hi9 hown hK hP 0 rfl rfl 7 (by decide) fl88 (fun _ h9 => h9) rfl dX9_triesBits_158 ?_
                        refine lv_icmp_ge (tgt := 189) hx hb dX9_triesBits_161 (by decide) (fun c161 => ?_) (fun c161 => ?_)
                        ·
                          have d161 : ((k : Nat) : Int) ≥ ((m_many : Nat) : Int) := my_ge c161 (nI_toInt (by omega)) (nI_toInt (by omega))
                          obtain ⟨z_14, ez_14⟩ : ∃ y : Int32, y = nI w_1 + (-1) := ⟨_, rfl⟩
                          try have tz_14 : z_14.toInt = ((w_1 : Nat) : Int) + (-1) := by rw [ez_14]; exact my_addI (nI_toInt (by omega)) (by decide +kernel) (by omega) (by omega)
                          refine lv_iinc (v := z_14) (lv' := [(4, .int z_14), (6, .int (nI k)), (5, .int (nI t_4)), (0, .ref m0), (1, .int 2), (2, .int (nI U)), (3, .int (nI ra))]) hx hb dX9_triesBits_189 hl (k := 2) rfl (by rw [ez_14]; rfl) (by decide) rfl (fun ls hl => ?_)
                          refine lv_goto (tgt := 99) hx hb dX9_triesBits_192 (by decide) ?_
                          exact ih99  z_14 m_fewest_8 a_stands_155 mp_10 mo_11 mc_12 me_13 (by omega) (by first | assumption | omega | decide +kernel) (by first | assumption | omega | decide +kernel) (by first | exact th_skip hfw2 (by omega) (by omega) (by omega) (su_f d110 (by omega)) | exact th_done hfw1 (by omega) (by omega) (by omega) (su_t d110 (by omega)) (th_take (by omega) (by omega) hU hst2 hpt hrn)) (by first | exact hst2 | exact fun i hi => hrs i (by omega)) (by first | exact hso2 | exact fun i hi => (hso1 _ (by omega)).trans (hso2 i hi)) (by first | exact hso3 | exact fun q hq => (hso1 q (by omega)).trans (hso3 q hq)) hR_a_stands_155 hR_mp_10 hR_mo_11 _ _ ls hP hD hS (lv_sub hl [0, 3, 4, 5, 6] rfl)
                        ·
                          have d161 : ((k : Nat) : Int) < ((m_many : Nat) : Int) := my_nge c161 (nI_toInt (by omega)) (nI_toInt (by omega))
                          refine lv_aload_n hx hb dX9_triesBits_164 rfl (lv_at hl 3 rfl) ?_
                          refine va_get (ci := 9) (v := .ref a_stands) (C := RX9) (T := TX9) (N := 24) hx hb hts hi9 hown hK hP 0 rfl rfl 12 (by decide) fl58 (fun _ h9 => h9) rfl dX9_triesBits_165 ?_
                          refine lv_iload hx hb dX9_triesBits_168 (lv_at hl 0 rfl) ?_
                          refine lv_aload_n hx hb dX9_triesBits_170 rfl (lv_at hl 3 rfl) ?_
                          refine va_get (ci := 9) (v := .ref a_stood) (C := RX9) (T := TX9) (N := 24) hx hb hts hi9 hown hK hP 0 rfl rfl 15 (by decide) fl67 (fun _ h9 => h9) rfl dX9_triesBits_171 ?_
                          refine lv_bipush (v := 64) hx hb dX9_triesBits_174 (by decide +kernel) ?_
                          refine lv_iload_n hx hb dX9_triesBits_176 rfl (lv_at hl 4 rfl) ?_
                          refine lv_imul hx hb dX9_triesBits_177 ?_
                          refine my_eqi (y := 128) (by decide +kernel) ?_
                          refine lv_iload hx hb dX9_triesBits_178 (lv_at hl 0 rfl) ?_
                          refine lv_iadd hx hb dX9_triesBits_180 ?_
                          refine my_eqi (y := nI (k + 128)) (my_addN2 k 128) ?_
                          refine va_iald hx hb hK hP 4 0 rfl rfl (vp_in_nI (by omega) (by omega)) dX9_triesBits_181 ?_
                          refine my_eqi (y := mo_11 (k + 128)) (congrArg mo_11 (nI_clamp (by omega))) ?_
                          have hb_15 := hR_mo_11 (k + 128)
                          refine va_iast hx hb hK hP hD hS 2 0 rfl rfl (vp_in_nI (by omega) (by omega)) dX9_triesBits_182 (fun H locs hP hD hS => ?_)
                          obtain ⟨g_16, eg_16⟩ : ∃ g : Nat → Int32, g = upd a_stands_155 k (mo_11 (k + 128)) := ⟨_, rfl⟩
                          have eU : upd a_stands_155 (nI k : Int32).toNatClampNeg (mo_11 (k + 128)) = g_16 := by rw [eg_16, show (nI k : Int32).toNatClampNeg = k from nI_clamp (by omega)]
                          rw [eU] at hP hD
                          have hR_g_16 : RB 0 63 g_16 := by rw [eg_16]; exact hR_a_stands_155.upd rfl (by omega) (by omega)
                          have hP : va_P D vwCl (wl_kf_X9_triesBits_2 cI cJ cK m0 a_row a_tape a_number a_read a_readBits a_stands a_parted a_bitsWere a_stood a_chosen a_bestChosen a_often a_sorted a_risen a_risenWays m_thrown (nI m_told) (nI m_taped) (nI m_at) (nI m_to) (nI m_many) (nI m_readMany) m_fewest_8 (nI m_size) mn g_16 mp_10 mo_11 mc_12 me_13) H := hP
                          have hD : va_D A (wl_kf_X9_triesBits_2 cI cJ cK m0 a_row a_tape a_number a_read a_readBits a_stands a_parted a_bitsWere a_stood a_chosen a_bestChosen a_often a_sorted a_risen a_risenWays m_thrown (nI m_told) (nI m_taped) (nI m_at) (nI m_to) (nI m_many) (nI m_readMany) m_fewest_8 (nI m_size) mn g_16 mp_10 mo_11 mc_12 me_13) := hD
                          refine lv_iinc (v := nI (k + 1)) (lv' := [(6, .int (nI (k + 1))), (5, .int (nI t_4)), (4, .int (nI w_1)), (0, .ref m0), (1, .int 2), (2, .int (nI U)), (3, .int (nI ra))]) hx hb dX9_triesBits_183 hl (k := 0) rfl (my_incN k 1 (by decide +kernel)) (by decide) rfl (fun ls hl => ?_)
                          refine lv_goto (tgt := 155) hx hb dX9_triesBits_186 (by decide) ?_
                          exact ih155  (k + 1) g_16 (by omega) (by first | assumption | omega | decide +kernel) (by first | assumption | omega | decide +kernel) (nv_step (F := ms) (by assumption) ((hso1 _ (by omega)).trans (hso2 k (by omega))) hrs) hR_g_16 _ _ ls hP hD hS (lv_sub hl [0, 1, 2, 3, 4, 5, 6] rfl)
                    exact loop155 ((64 - 0) + 1) 0 ms_9 (Nat.lt_succ_self _) (by first | assumption | omega | decide +kernel) (by first | assumption | omega | decide +kernel) (fun i h => absurd h (Nat.not_lt_zero i)) hR_ms_9 _ _ ls hP hD hS (lv_sub hl [0, 1, 2, 3, 4, 5, 6] rfl)
            have ec_17 : (7 : Int32).toInt = 7 := by decide +kernel
            exact loop99 ((((7 : Int32).toInt + 1).toNat) + 1) (7 : Int32) m_fewest ms mp a_stood_61 mc me (Nat.lt_succ_self _) (by first | assumption | omega | decide +kernel) (by first | assumption | omega | decide +kernel) (th_0 hfw) (fun _ _ => rfl) (fun i hi => hs61 i (by omega)) (hs62) hR_ms hR_mp hR_a_stood_61 _ _ ls hP hD hS (lv_sub hl [0, 1, 2, 3, 4] rfl)
          ·
            have d67 : ((k : Nat) : Int) < ((m_many : Nat) : Int) := my_nge c67 (nI_toInt (by omega)) (nI_toInt (by omega))
            refine lv_aload_n hx hb dX9_triesBits_70 rfl (lv_at hl 1 rfl) ?_
            refine va_get (ci := 9) (v := .ref a_stood) (C := RX9) (T := TX9) (N := 24) hx hb hts hi9 hown hK hP 0 rfl rfl 15 (by decide) fl67 (fun _ h9 => h9) rfl dX9_triesBits_71 ?_
            refine lv_bipush (v := 64) hx hb dX9_triesBits_74 (by decide +kernel) ?_
            refine lv_iload_n hx hb dX9_triesBits_76 rfl (lv_at hl 2 rfl) ?_
            refine lv_imul hx hb dX9_triesBits_77 ?_
            refine my_eqi (y := 128) (by decide +kernel) ?_
            refine lv_iload hx hb dX9_triesBits_78 (lv_at hl 0 rfl) ?_
            refine lv_iadd hx hb dX9_triesBits_80 ?_
            refine my_eqi (y := nI (k + 128)) (my_addN2 k 128) ?_
            refine lv_aload_n hx hb dX9_triesBits_81 rfl (lv_at hl 1 rfl) ?_
            refine va_get (ci := 9) (v := .ref a_stands) (C := RX9) (T := TX9) (N := 24) hx hb hts hi9 hown hK hP 0 rfl rfl 12 (by decide) fl58 (fun _ h9 => h9) rfl dX9_triesBits_82 ?_
            refine lv_iload hx hb dX9_triesBits_85 (lv_at hl 0 rfl) ?_
            refine va_iald hx hb hK hP 2 0 rfl rfl (vp_in_nI (by omega) (by omega)) dX9_triesBits_87 ?_
            refine my_eqi (y := ms k) (congrArg ms (nI_clamp (by omega))) ?_
            have hb_18 := hR_ms k
            refine va_iast hx hb hK hP hD hS 4 0 rfl rfl (vp_in_nI (by omega) (by omega)) dX9_triesBits_88 (fun H locs hP hD hS => ?_)
            obtain ⟨g_19, eg_19⟩ : ∃ g : Nat → Int32, g = upd a_stood_61 (k + 128) (ms k) := ⟨_, rfl⟩
            have eU : upd a_stood_61 (nI (k + 128) : Int32).toNatClampNeg (ms k) = g_19 := by rw [eg_19, show (nI (k + 128) : Int32).toNatClampNeg = k + 128 from nI_clamp (by omega)]
            rw [eU] at hP hD
            have hR_g_19 : RB 0 63 g_19 := by rw [eg_19]; exact hR_a_stood_61.upd rfl (by omega) (by omega)
            have hP : va_P D vwCl (wl_kf_X9_triesBits_2 cI cJ cK m0 a_row a_tape a_number a_read a_readBits a_stands a_parted a_bitsWere a_stood a_chosen a_bestChosen a_often a_sorted a_risen a_risenWays m_thrown (nI m_told) (nI m_taped) (nI m_at) (nI m_to) (nI m_many) (nI m_readMany) m_fewest (nI m_size) mn ms mp g_19 mc me) H := hP
            have hD : va_D A (wl_kf_X9_triesBits_2 cI cJ cK m0 a_row a_tape a_number a_read a_readBits a_stands a_parted a_bitsWere a_stood a_chosen a_bestChosen a_often a_sorted a_risen a_risenWays m_thrown (nI m_told) (nI m_taped) (nI m_at) (nI m_to) (nI m_many) (nI m_readMany) m_fewest (nI m_size) mn ms mp g_19 mc me) := hD
            refine lv_iinc (v := nI (k + 1)) (lv' := [(4, .int (nI (k + 1))), (0, .ref m0), (1, .int 2), (2, .int (nI U)), (3, .int (nI ra))]) hx hb dX9_triesBits_89 hl (k := 0) rfl (my_incN k 1 (by decide +kernel)) (by decide) rfl (fun ls hl => ?_)
            refine lv_goto (tgt := 61) hx hb dX9_triesBits_92 (by decide) ?_
            exact ih61  (k + 1) g_19 (by omega) (by first | assumption | omega | decide +kernel) (by first | assumption | omega | decide +kernel) (th_s1 (a := 128) (by assumption) rfl hs61) (th_s2 (a := 128) (by assumption) (by omega) hs62) hR_g_19 _ _ ls hP hD hS (lv_sub hl [0, 1, 2, 3, 4] rfl)
      exact loop61 ((64 - 0) + 1) 0 mo (Nat.lt_succ_self _) (by first | assumption | omega | decide +kernel) (by first | assumption | omega | decide +kernel) (fun i h => absurd h (Nat.not_lt_zero i)) (fun _ _ => rfl) hR_mo _ _ ls hP hD hS (lv_sub hl [0, 1, 2, 3, 4] rfl)
    ·
      exact absurd c19 (by decide +kernel)
  refine lv_aload_n hx hb dX9_triesBits_0 rfl (lv_at hl 0 rfl) ?_
  refine va_get (ci := 9) (v := .int m_fewest) (C := RX9) (T := TX9) (N := 24) hx hb hts hi9 hown hK hP 0 rfl rfl 18 (by decide) fl162 (fun _ h9 => h9) rfl dX9_triesBits_1 ?_
  refine lv_if_lt (tgt := 16) hx hb dX9_triesBits_4 (by decide) (fun c4 => ?_) (fun c4 => ?_)
  ·
    have d4 : m_fewest.toInt < (0 : Int) := my_lt c4 rfl (by decide +kernel)
    exact cut16  _ _ ls hP hD hS hl
  ·
    have d4 : m_fewest.toInt ≥ (0 : Int) := my_nlt c4 rfl (by decide +kernel)
    refine lv_iload_n hx hb dX9_triesBits_7 rfl (lv_at hl 3 rfl) ?_
    refine lv_aload_n hx hb dX9_triesBits_8 rfl (lv_at hl 0 rfl) ?_
    refine va_get (ci := 9) (v := .int m_fewest) (C := RX9) (T := TX9) (N := 24) hx hb hts hi9 hown hK hP 0 rfl rfl 18 (by decide) fl162 (fun _ h9 => h9) rfl dX9_triesBits_9 ?_
    refine lv_icmp_lt (tgt := 16) hx hb dX9_triesBits_12 (by decide) (fun c12 => ?_) (fun c12 => ?_)
    ·
      have d12 : ((ra : Nat) : Int) < m_fewest.toInt := my_lt c12 (nI_toInt (by omega)) rfl
      exact cut16  _ _ ls hP hD hS hl
    ·
      have d12 : ((ra : Nat) : Int) ≥ m_fewest.toInt := my_nlt c12 (nI_toInt (by omega)) rfl
      exact my_retV hx hb hr hlocks hK hS (wl_kf_X9_triesBits_2 cI cJ cK m0 a_row a_tape a_number a_read a_readBits a_stands a_parted a_bitsWere a_stood a_chosen a_bestChosen a_often a_sorted a_risen a_risenWays m_thrown (nI m_told) (nI m_taped) (nI m_at) (nI m_to) (nI m_many) (nI m_readMany) m_fewest (nI m_size) mn ms mp mo mc me) hP hD (⟨m_fewest, ms, mp, mo, mc, me, rfl, hR_ms, hR_mp, hR_mo, (by first | exact th_end hfw2 (by omega) | exact th_prune hfw (by omega) (by omega)), (by first | exact hst2 | exact fun _ _ => rfl), (by first | exact hso3 | exact fun _ _ => rfl)⟩) dX9_triesBits_15
abbrev wl_kf_X9_triesBits_1 (cI cJ cK : ClassId) (m0 : Nat) (a_row : Nat) (a_tape : Nat) (a_number : Nat) (a_read : Nat) (a_readBits : Nat) (a_stands : Nat) (a_parted : Nat) (a_bitsWere : Nat) (a_stood : Nat) (a_chosen : Nat) (a_bestChosen : Nat) (a_often : Nat) (a_sorted : Nat) (a_risen : Nat) (a_risenWays : Nat) (v0_ : Int32) (v1_ : Int32) (v2_ : Int32) (v3_ : Int32) (v4_ : Int32) (v5_ : Int32) (v6_ : Int32) (v7_ : Int32) (v8_ : Int32) (v9_ : Nat → Int32) (v10_ : Nat → Int32) (v11_ : Nat → Int32) (v12_ : Nat → Int32) (v13_ : Nat → Int32) (v14_ : Nat → Int32) : va_W := [(m0, .inr (9, [.int v0_, .int v1_, .ref a_row, .ref a_tape, .int v2_, .int v3_, .int v4_, .int v5_, .ref a_number, .ref a_read, .int v6_, .ref a_readBits, .ref a_stands, .ref a_parted, .ref a_bitsWere, .ref a_stood, .ref a_chosen, .ref a_bestChosen, .int v7_, .ref a_often, .ref a_sorted, .int v8_, .ref a_risen, .ref a_risenWays])), (a_number, .inl (cI, 64, .inl v9_)), (a_stands, .inl (cI, 64, .inl v10_)), (a_parted, .inl (cI, 64, .inl v11_)), (a_stood, .inl (cI, 512, .inl v12_)), (a_chosen, .inl (cI, 8, .inl v13_)), (a_bestChosen, .inl (cI, 8, .inl v14_))]
set_option maxHeartbeats 4000000 in
set_option maxRecDepth 100000 in
theorem kf_X9_triesBits_1 (l : Launch) (D : va_G) (cI cJ cK : ClassId) (m0 : Nat) (a_row : Nat) (a_tape : Nat) (a_number : Nat) (a_read : Nat) (a_readBits : Nat) (a_stands : Nat) (a_parted : Nat) (a_bitsWere : Nat) (a_stood : Nat) (a_chosen : Nat) (a_bestChosen : Nat) (a_often : Nat) (a_sorted : Nat) (a_risen : Nat) (a_risenWays : Nat) (m_thrown : Int32) (m_told : Nat) (m_taped : Nat) (m_at : Nat) (m_to : Nat) (m_many : Nat) (m_readMany : Nat) (m_fewest : Int32) (m_size : Nat) (mn : Nat → Int32) (ms : Nat → Int32) (mp : Nat → Int32) (mo : Nat → Int32) (mc : Nat → Int32) (me : Nat → Int32) (U : Nat) (ra : Nat) (F : Nat) (hz_m_told : m_told ≤ 64) (hz_m_taped : m_taped ≤ 100) (hz_m_at : m_at ≤ 100) (hz_m_to : m_to ≤ 100) (hz_m_many : m_many ≤ 64) (hz_m_readMany : m_readMany ≤ 64) (hz_m_size : m_size ≤ 64) (hR_mn : RB 0 255 mn) (hR_ms : RB 0 63 ms) (hR_mp : RB 0 63 mp) (hR_mo : RB 0 63 mo) (hU : U < 256) (hra : ra ≤ 64) (hfw : fwR m_fewest F) : ctV l yX9_triesBits wsX9_triesBits ({ frames := 8, cells := 0, slots := 0, locals := 480 } : Room) D (tyIJ cI cJ cK) [.ref m0, .int 1, .int (nI U), .int (nI ra)] (wl_kf_X9_triesBits_1 cI cJ cK m0 a_row a_tape a_number a_read a_readBits a_stands a_parted a_bitsWere a_stood a_chosen a_bestChosen a_often a_sorted a_risen a_risenWays m_thrown (nI m_told) (nI m_taped) (nI m_at) (nI m_to) (nI m_many) (nI m_readMany) m_fewest (nI m_size) mn ms mp mo mc me) (fun (u : va_W) => ∃ (m_fewest' : Int32) (ms' : Nat → Int32) (mp' : Nat → Int32) (mo' : Nat → Int32) (mc' : Nat → Int32) (me' : Nat → Int32), u = (wl_kf_X9_triesBits_1 cI cJ cK m0 a_row a_tape a_number a_read a_readBits a_stands a_parted a_bitsWere a_stood a_chosen a_bestChosen a_often a_sorted a_risen a_risenWays m_thrown (nI m_told) (nI m_taped) (nI m_at) (nI m_to) (nI m_many) (nI m_readMany) m_fewest' (nI m_size) mn ms' mp' mo' mc' me') ∧ RB 0 63 ms' ∧ RB 0 63 mp' ∧ RB 0 63 mo' ∧ fwR m_fewest' (min F (ra + tT m_many 7 (vG mn ms) (uS U))) ∧ (∀ i, i < m_many → ms' i = ms i) ∧ (∀ q, q < 64 → mo' q = mo q)) := by
  refine ctV.of (cc := cX9_triesBits) (maxL := 7) (ret := none) (by decide) rfl (Nat.le_of_ble_eq_true rfl) ?_
  intro p e s m below meth c ls A hx hb hr hts hown hml hlocks hname hA hK hN hP hD hS hl
  have hl : lv_has ls 7 [(0, .ref m0), (1, .int 1), (2, .int (nI U)), (3, .int (nI ra))] := hl
  have hown : s.vm.findClass RX9 = some m.cls := hown
  have hi9 : ∀ w ∈ u_ws RX9 TX9 24, w ∈ wsX9_triesBits := by decide +kernel
  have fl162 := hts (.fieldLink RX9 162 "PlaneColumnModel" "fewest" "I") (by decide +kernel)
  have fl58 := hts (.fieldLink RX9 58 "PlaneColumnModel" "stands" "[I") (by decide +kernel)
  have fl67 := hts (.fieldLink RX9 67 "PlaneColumnModel" "stood" "[I") (by decide +kernel)
  have fl70 := hts (.fieldLink RX9 70 "PlaneColumnModel" "chosen" "[I") (by decide +kernel)
  have fl88 := hts (.fieldLink RX9 88 "PlaneColumnModel" "many" "I") (by decide +kernel)
  have cut16 : ∀ (H : Heap) (locs : List Loc) (ls : Array Slot), va_P D vwCl (wl_kf_X9_triesBits_1 cI cJ cK m0 a_row a_tape a_number a_read a_readBits a_stands a_parted a_bitsWere a_stood a_chosen a_bestChosen a_often a_sorted a_risen a_risenWays m_thrown (nI m_told) (nI m_taped) (nI m_at) (nI m_to) (nI m_many) (nI m_readMany) m_fewest (nI m_size) mn ms mp mo mc me) H → va_D A (wl_kf_X9_triesBits_1 cI cJ cK m0 a_row a_tape a_number a_read a_readBits a_stands a_parted a_bitsWere a_stood a_chosen a_bestChosen a_often a_sorted a_risen a_risenWays m_thrown (nI m_told) (nI m_taped) (nI m_at) (nI m_to) (nI m_many) (nI m_readMany) m_fewest (nI m_size) mn ms mp mo mc me) → va_S A s.heap H locs → lv_has ls 7 [(0, .ref m0), (1, .int 1), (2, .int (nI U)), (3, .int (nI ra))] → W p l e ({ frames := 8, cells := 0, slots := 0, locals := 480 } : Room) s m [.ref m0, .int 1, .int (nI U), .int (nI ra)].toArray below meth c H locs 0 0 (MQ below (va_Qv (fun (u : va_W) => ∃ (m_fewest' : Int32) (ms' : Nat → Int32) (mp' : Nat → Int32) (mo' : Nat → Int32) (mc' : Nat → Int32) (me' : Nat → Int32), u = (wl_kf_X9_triesBits_1 cI cJ cK m0 a_row a_tape a_number a_read a_readBits a_stands a_parted a_bitsWere a_stood a_chosen a_bestChosen a_often a_sorted a_risen a_risenWays m_thrown (nI m_told) (nI m_taped) (nI m_at) (nI m_to) (nI m_many) (nI m_readMany) m_fewest' (nI m_size) mn ms' mp' mo' mc' me') ∧ RB 0 63 ms' ∧ RB 0 63 mp' ∧ RB 0 63 mo' ∧ fwR m_fewest' (min F (ra + tT m_many 7 (vG mn ms) (uS U))) ∧ (∀ i, i < m_many → ms' i = ms i) ∧ (∀ q, q < 64 → mo' q = mo q)) (my_B D (tyIJ cI cJ cK) A) A) [.ref m0, .int 1, .int (nI U), .int (nI ra)].toArray s 0 0 A) (F0 m 16 ls []) := by
    intro H locs ls hP hD hS hl
    refine lv_iload_n hx hb dX9_triesBits_16 rfl (lv_at hl 1 rfl) ?_
    refine lv_bipush (v := 8) hx hb dX9_triesBits_17 (by decide +kernel) ?_
    refine lv_icmp_ne (tgt := 58) hx hb dX9_triesBits_19 (by decide) (fun c19 => ?_) (fun c19 => ?_)
    ·
      refine lv_iconst (v := 0) hx hb dX9_triesBits_58 (by decide +kernel) ?_
      refine lv_istore (lv' := [(4, .int 0), (0, .ref m0), (1, .int 1), (2, .int (nI U)), (3, .int (nI ra))]) hx hb dX9_triesBits_59 hl (by decide) rfl (fun ls hl => ?_)
      have loop61 : ∀ (n9 : Nat) (k : Nat) (a_stood_61 : Nat → Int32), 64 - k < n9 → (k ≤ 64) → (k ≤ m_many) → (∀ i, i < k → a_stood_61 (i + 64) = ms i) → (∀ q, q < 64 → a_stood_61 q = mo q) → (RB 0 63 a_stood_61) → ∀ (H : Heap) (locs : List Loc) (ls : Array Slot), va_P D vwCl (wl_kf_X9_triesBits_1 cI cJ cK m0 a_row a_tape a_number a_read a_readBits a_stands a_parted a_bitsWere a_stood a_chosen a_bestChosen a_often a_sorted a_risen a_risenWays m_thrown (nI m_told) (nI m_taped) (nI m_at) (nI m_to) (nI m_many) (nI m_readMany) m_fewest (nI m_size) mn ms mp a_stood_61 mc me) H → va_D A (wl_kf_X9_triesBits_1 cI cJ cK m0 a_row a_tape a_number a_read a_readBits a_stands a_parted a_bitsWere a_stood a_chosen a_bestChosen a_often a_sorted a_risen a_risenWays m_thrown (nI m_told) (nI m_taped) (nI m_at) (nI m_to) (nI m_many) (nI m_readMany) m_fewest (nI m_size) mn ms mp a_stood_61 mc me) → va_S A s.heap H locs → lv_has ls 7 [(4, .int (nI k)), (0, .ref m0), (1, .int 1), (2, .int (nI U)), (3, .int (nI ra))] → W p l e ({ frames := 8, cells := 0, slots := 0, locals := 480 } : Room) s m [.ref m0, .int 1, .int (nI U), .int (nI ra)].toArray below meth c H locs 0 0 (MQ below (va_Qv (fun (u : va_W) => ∃ (m_fewest' : Int32) (ms' : Nat → Int32) (mp' : Nat → Int32) (mo' : Nat → Int32) (mc' : Nat → Int32) (me' : Nat → Int32), u = (wl_kf_X9_triesBits_1 cI cJ cK m0 a_row a_tape a_number a_read a_readBits a_stands a_parted a_bitsWere a_stood a_chosen a_bestChosen a_often a_sorted a_risen a_risenWays m_thrown (nI m_told) (nI m_taped) (nI m_at) (nI m_to) (nI m_many) (nI m_readMany) m_fewest' (nI m_size) mn ms' mp' mo' mc' me') ∧ RB 0 63 ms' ∧ RB 0 63 mp' ∧ RB 0 63 mo' ∧ fwR m_fewest' (min F (ra + tT m_many 7 (vG mn ms) (uS U))) ∧ (∀ i, i < m_many → ms' i = ms i) ∧ (∀ q, q < 64 → mo' q = mo q)) (my_B D (tyIJ cI cJ cK) A) A) [.ref m0, .int 1, .int (nI U), .int (nI ra)].toArray s 0 0 A) (F0 m 61 ls []) := by
        intro n9
        induction n9 with
        | zero =>
          intro k a_stood_61 hn9
          exact absurd hn9 (Nat.not_lt_zero _)
        | succ n9 ih61 =>
          intro k a_stood_61 hn9 hk_k hkm hs61 hs62 hR_a_stood_61 H locs ls hP hD hS hl
          refine lv_iload hx hb dX9_triesBits_61 (lv_at hl 0 rfl) ?_
          refine lv_aload_n hx hb dX9_triesBits_63 rfl (lv_at hl 1 rfl) ?_
          refine va_get (ci := 9) (v := .int (nI m_many)) (C := RX9) (T := TX9) (N := 24) hx hb hts hi9 hown hK hP 0 rfl rfl 7 (by decide) fl88 (fun _ h9 => h9) rfl dX9_triesBits_64 ?_
          refine lv_icmp_ge (tgt := 95) hx hb dX9_triesBits_67 (by decide) (fun c67 => ?_) (fun c67 => ?_)
          ·
            have d67 : ((k : Nat) : Int) ≥ ((m_many : Nat) : Int) := my_ge c67 (nI_toInt (by omega)) (nI_toInt (by omega))
            refine lv_bipush (v := 7) hx hb dX9_triesBits_95 (by decide +kernel) ?_
            refine lv_istore (lv' := [(4, .int 7), (0, .ref m0), (1, .int 1), (2, .int (nI U)), (3, .int (nI ra))]) hx hb dX9_triesBits_97 hl (by decide) rfl (fun ls hl => ?_)
            have loop99 : ∀ (n9 : Nat) (x : Int32) (m0_fewest_99 : Int32) (a_stands_99 : Nat → Int32) (a_parted_99 : Nat → Int32) (a_stood_99 : Nat → Int32) (a_chosen_99 : Nat → Int32) (a_bestChosen_99 : Nat → Int32), (x.toInt + 1).toNat < n9 → (-1 ≤ x.toInt) → (x.toInt ≤ 7) → (fwR m0_fewest_99 (min F (ra + tM (tF m_many 6 (vG mn ms) (uS U)) (uS U) (7 - x.toInt).toNat))) → (∀ i, i < m_many → a_stands_99 i = ms i) → (∀ i, i < m_many → a_stood_99 (i + 64) = ms i) → (∀ q, q < 64 → a_stood_99 q = mo q) → (RB 0 63 a_stands_99) → (RB 0 63 a_parted_99) → (RB 0 63 a_stood_99) → ∀ (H : Heap) (locs : List Loc) (ls : Array Slot), va_P D vwCl (wl_kf_X9_triesBits_1 cI cJ cK m0 a_row a_tape a_number a_read a_readBits a_stands a_parted a_bitsWere a_stood a_chosen a_bestChosen a_often a_sorted a_risen a_risenWays m_thrown (nI m_told) (nI m_taped) (nI m_at) (nI m_to) (nI m_many) (nI m_readMany) m0_fewest_99 (nI m_size) mn a_stands_99 a_parted_99 a_stood_99 a_chosen_99 a_bestChosen_99) H → va_D A (wl_kf_X9_triesBits_1 cI cJ cK m0 a_row a_tape a_number a_read a_readBits a_stands a_parted a_bitsWere a_stood a_chosen a_bestChosen a_often a_sorted a_risen a_risenWays m_thrown (nI m_told) (nI m_taped) (nI m_at) (nI m_to) (nI m_many) (nI m_readMany) m0_fewest_99 (nI m_size) mn a_stands_99 a_parted_99 a_stood_99 a_chosen_99 a_bestChosen_99) → va_S A s.heap H locs → lv_has ls 7 [(4, .int x), (0, .ref m0), (1, .int 1), (2, .int (nI U)), (3, .int (nI ra))] → W p l e ({ frames := 8, cells := 0, slots := 0, locals := 480 } : Room) s m [.ref m0, .int 1, .int (nI U), .int (nI ra)].toArray below meth c H locs 0 0 (MQ below (va_Qv (fun (u : va_W) => ∃ (m_fewest' : Int32) (ms' : Nat → Int32) (mp' : Nat → Int32) (mo' : Nat → Int32) (mc' : Nat → Int32) (me' : Nat → Int32), u = (wl_kf_X9_triesBits_1 cI cJ cK m0 a_row a_tape a_number a_read a_readBits a_stands a_parted a_bitsWere a_stood a_chosen a_bestChosen a_often a_sorted a_risen a_risenWays m_thrown (nI m_told) (nI m_taped) (nI m_at) (nI m_to) (nI m_many) (nI m_readMany) m_fewest' (nI m_size) mn ms' mp' mo' mc' me') ∧ RB 0 63 ms' ∧ RB 0 63 mp' ∧ RB 0 63 mo' ∧ fwR m_fewest' (min F (ra + tT m_many 7 (vG mn ms) (uS U))) ∧ (∀ i, i < m_many → ms' i = ms i) ∧ (∀ q, q < 64 → mo' q = mo q)) (my_B D (tyIJ cI cJ cK) A) A) [.ref m0, .int 1, .int (nI U), .int (nI ra)].toArray s 0 0 A) (F0 m 99 ls []) := by
              intro n9
              induction n9 with
              | zero =>
                intro x m0_fewest_99 a_stands_99 a_parted_99 a_stood_99 a_chosen_99 a_bestChosen_99 hn9
                exact absurd hn9 (Nat.not_lt_zero _)
              | succ n9 ih99 =>
                intro x m0_fewest_99 a_stands_99 a_parted_99 a_stood_99 a_chosen_99 a_bestChosen_99 hn9 hx0 hx1 hfw2 hst2 hso2 hso3 hR_a_stands_99 hR_a_parted_99 hR_a_stood_99 H locs ls hP hD hS hl
                refine lv_iload hx hb dX9_triesBits_99 (lv_at hl 0 rfl) ?_
                refine lv_if_lt (tgt := 195) hx hb dX9_triesBits_101 (by decide) (fun c101 => ?_) (fun c101 => ?_)
                ·
                  have d101 : x.toInt < (0 : Int) := my_lt c101 rfl (by decide +kernel)
                  exact my_retV hx hb hr hlocks hK hS (wl_kf_X9_triesBits_1 cI cJ cK m0 a_row a_tape a_number a_read a_readBits a_stands a_parted a_bitsWere a_stood a_chosen a_bestChosen a_often a_sorted a_risen a_risenWays m_thrown (nI m_told) (nI m_taped) (nI m_at) (nI m_to) (nI m_many) (nI m_readMany) m0_fewest_99 (nI m_size) mn a_stands_99 a_parted_99 a_stood_99 a_chosen_99 a_bestChosen_99) hP hD (⟨m0_fewest_99, a_stands_99, a_parted_99, a_stood_99, a_chosen_99, a_bestChosen_99, rfl, hR_a_stands_99, hR_a_parted_99, hR_a_stood_99, (by first | exact th_end hfw2 (by omega) | exact th_prune hfw (by omega) (by omega)), (by first | exact hst2 | exact fun _ _ => rfl), (by first | exact hso3 | exact fun _ _ => rfl)⟩) dX9_triesBits_195
                ·
                  have d101 : x.toInt ≥ (0 : Int) := my_nlt c101 rfl (by decide +kernel)
                  obtain ⟨w_1, rfl, hw_1⟩ := my_natP (x := x) (by omega)
                  have hlw_1 : w_1 < 2147483648 := by have h9 := Int32.toInt_lt (nI w_1); omega
                  refine lv_iload_n hx hb dX9_triesBits_104 rfl (lv_at hl 3 rfl) ?_
                  refine lv_iload hx hb dX9_triesBits_105 (lv_at hl 0 rfl) ?_
                  refine lv_ishr hx hb dX9_triesBits_107 ?_
                  refine my_eqi (y := nI (U / 2 ^ w_1)) (my_shrG (by omega) (by omega)) ?_
                  refine lv_iconst (v := 1) hx hb dX9_triesBits_108 (by decide +kernel) ?_
                  refine lv_iand hx hb dX9_triesBits_109 ?_
                  refine my_eqi (y := nI ((U / 2 ^ w_1) % 2)) (my_maskN _ 1) ?_
                  refine lv_if_ne (tgt := 189) hx hb dX9_triesBits_110 (by decide) (fun c110 => ?_) (fun c110 => ?_)
                  ·
                    have d110 : (((U / 2 ^ w_1) % 2 : Nat) : Int) ≠ (0 : Int) := my_ne c110 (nI_toInt (by omega)) (by decide +kernel)
                    obtain ⟨z_2, ez_2⟩ : ∃ y : Int32, y = nI w_1 + (-1) := ⟨_, rfl⟩
                    try have tz_2 : z_2.toInt = ((w_1 : Nat) : Int) + (-1) := by rw [ez_2]; exact my_addI (nI_toInt (by omega)) (by decide +kernel) (by omega) (by omega)
                    refine lv_iinc (v := z_2) (lv' := [(4, .int z_2), (0, .ref m0), (1, .int 1), (2, .int (nI U)), (3, .int (nI ra))]) hx hb dX9_triesBits_189 hl (k := 0) rfl (by rw [ez_2]; rfl) (by decide) rfl (fun ls hl => ?_)
                    refine lv_goto (tgt := 99) hx hb dX9_triesBits_192 (by decide) ?_
                    exact ih99  z_2 m0_fewest_99 a_stands_99 a_parted_99 a_stood_99 a_chosen_99 a_bestChosen_99 (by omega) (by first | assumption | omega | decide +kernel) (by first | assumption | omega | decide +kernel) (by first | exact th_skip hfw2 (by omega) (by omega) (by omega) (su_f d110 (by omega)) | exact th_done hfw1 (by omega) (by omega) (by omega) (su_t d110 (by omega)) (th_take (by omega) (by omega) hU hst2 hpt hrn)) (by first | exact hst2 | exact fun i hi => hrs i (by omega)) (by first | exact hso2 | exact fun i hi => (hso1 _ (by omega)).trans (hso2 i hi)) (by first | exact hso3 | exact fun q hq => (hso1 q (by omega)).trans (hso3 q hq)) hR_a_stands_99 hR_a_parted_99 hR_a_stood_99 _ _ ls hP hD hS (lv_sub hl [0, 1, 2, 3, 4] rfl)
                  ·
                    have d110 : (((U / 2 ^ w_1) % 2 : Nat) : Int) = (0 : Int) := my_eq c110 (nI_toInt (by omega)) (by decide +kernel)
                    refine lv_aload_n hx hb dX9_triesBits_113 rfl (lv_at hl 1 rfl) ?_
                    refine va_get (ci := 9) (v := .ref a_chosen) (C := RX9) (T := TX9) (N := 24) hx hb hts hi9 hown hK hP 0 rfl rfl 16 (by decide) fl70 (fun _ h9 => h9) rfl dX9_triesBits_114 ?_
                    refine lv_iload_n hx hb dX9_triesBits_117 rfl (lv_at hl 2 rfl) ?_
                    refine lv_iload hx hb dX9_triesBits_118 (lv_at hl 0 rfl) ?_
                    refine va_iast hx hb hK hP hD hS 5 0 rfl rfl (vp_in_nI (n := 1) (by omega) (by omega)) dX9_triesBits_120 (fun H locs hP hD hS => ?_)
                    obtain ⟨g_3, eg_3⟩ : ∃ g : Nat → Int32, g = upd a_chosen_99 1 (nI w_1) := ⟨_, rfl⟩
                    have eU : upd a_chosen_99 (1 : Int32).toNatClampNeg (nI w_1) = g_3 := by rw [eg_3, show (1 : Int32).toNatClampNeg = 1 from by decide +kernel]
                    rw [eU] at hP hD
                    have hP : va_P D vwCl (wl_kf_X9_triesBits_1 cI cJ cK m0 a_row a_tape a_number a_read a_readBits a_stands a_parted a_bitsWere a_stood a_chosen a_bestChosen a_often a_sorted a_risen a_risenWays m_thrown (nI m_told) (nI m_taped) (nI m_at) (nI m_to) (nI m_many) (nI m_readMany) m0_fewest_99 (nI m_size) mn a_stands_99 a_parted_99 a_stood_99 g_3 a_bestChosen_99) H := hP
                    have hD : va_D A (wl_kf_X9_triesBits_1 cI cJ cK m0 a_row a_tape a_number a_read a_readBits a_stands a_parted a_bitsWere a_stood a_chosen a_bestChosen a_often a_sorted a_risen a_risenWays m_thrown (nI m_told) (nI m_taped) (nI m_at) (nI m_to) (nI m_many) (nI m_readMany) m0_fewest_99 (nI m_size) mn a_stands_99 a_parted_99 a_stood_99 g_3 a_bestChosen_99) := hD
                    refine lv_aload_n hx hb dX9_triesBits_121 rfl (lv_at hl 1 rfl) ?_
                    refine lv_iload hx hb dX9_triesBits_122 (lv_at hl 0 rfl) ?_
                    refine my_gpI (my_pV (As := [.int (nI w_1)]) (rest := []) (ci := 9) ⟨hx, hb, hml, hown, hts⟩ (cwV 1 hts gX9_triesBits_X9_runsOf rfl rfl rfl (by decide +kernel) ⟨Nat.le_of_ble_eq_true rfl, Nat.le_of_ble_eq_true rfl⟩) hN hK hP [0, 1, 2] rfl 0 rfl rfl rfl rfl hl.1 rfl (Nat.le_of_ble_eq_true rfl) dX9_triesBits_124 ⟨Nat.le_of_ble_eq_true rfl, Nat.le_of_ble_eq_true rfl⟩  (kf_X9_runsOf l D cI cJ cK m0 a_row a_tape a_number a_read a_readBits a_stands a_parted a_bitsWere a_stood a_chosen a_bestChosen a_often a_sorted a_risen a_risenWays m_thrown m_told m_taped m_at m_to m_many m_readMany m0_fewest_99 m_size mn a_stands_99 w_1 (by first | assumption | omega | decide +kernel) (by first | assumption | omega | decide +kernel) (by first | assumption | omega | decide +kernel) (by first | assumption | omega | decide +kernel) (by first | assumption | omega | decide +kernel) (by first | assumption | omega | decide +kernel) (by first | assumption | omega | decide +kernel) hR_mn hR_a_stands_99 (by first | assumption | omega | decide +kernel))) (fun r hp => ?_)
                    obtain ⟨t_4, rfl, hrn, hq_5⟩ := hp
                    refine lv_istore (lv' := [(5, .int (nI t_4)), (4, .int (nI w_1)), (0, .ref m0), (1, .int 1), (2, .int (nI U)), (3, .int (nI ra))]) hx hb dX9_triesBits_127 hl (by decide) rfl (fun ls hl => ?_)
                    refine lv_aload_n hx hb dX9_triesBits_129 rfl (lv_at hl 2 rfl) ?_
                    refine lv_iload hx hb dX9_triesBits_130 (lv_at hl 1 rfl) ?_
                    refine my_goVS (wc := (wl_kf_X9_parts cI cJ cK m0 a_row a_tape a_number a_read a_readBits a_stands a_parted a_bitsWere a_stood a_chosen a_bestChosen a_often a_sorted a_risen a_risenWays m_thrown (nI m_told) (nI m_taped) (nI m_at) (nI m_to) (nI m_many) (nI m_readMany) m0_fewest_99 (nI m_size) mn a_stands_99 a_parted_99)) hP hD hS hA [0, 1, 2, 3] rfl [some 0, some 1, some 2, some 3] (by decide +kernel) (my_cV (As := [.int (nI w_1)]) (rest := []) (ci := 9) (wc := (wl_kf_X9_parts cI cJ cK m0 a_row a_tape a_number a_read a_readBits a_stands a_parted a_bitsWere a_stood a_chosen a_bestChosen a_often a_sorted a_risen a_risenWays m_thrown (nI m_told) (nI m_taped) (nI m_at) (nI m_to) (nI m_many) (nI m_readMany) m0_fewest_99 (nI m_size) mn a_stands_99 a_parted_99)) ⟨hx, hb, hml, hown, hts⟩ (cwV 1 hts gX9_triesBits_X9_parts rfl rfl rfl (by decide +kernel) ⟨Nat.le_of_ble_eq_true rfl, Nat.le_of_ble_eq_true rfl⟩) hN hK hP hD [0, 1, 2, 3] rfl (by decide) rfl 0 rfl rfl rfl rfl hl.1 rfl (Nat.le_of_ble_eq_true rfl) dX9_triesBits_132 ⟨Nat.le_of_ble_eq_true rfl, Nat.le_of_ble_eq_true rfl⟩  ((kf_X9_parts l D cI cJ cK m0 a_row a_tape a_number a_read a_readBits a_stands a_parted a_bitsWere a_stood a_chosen a_bestChosen a_often a_sorted a_risen a_risenWays m_thrown m_told m_taped m_at m_to m_many m_readMany m0_fewest_99 m_size mn a_stands_99 a_parted_99 w_1 (by first | assumption | omega | decide +kernel) (by first | assumption | omega | decide +kernel) (by first | assumption | omega | decide +kernel) (by first | assumption | omega | decide +kernel) (by first | assumption | omega | decide +kernel) (by first | assumption | omega | decide +kernel) (by first | assumption | omega | decide +kernel) hR_mn hR_a_stands_99 hR_a_parted_99 (by first | assumption | omega | decide +kernel)) _)) (fun u H locs hp hPD hS => ?_)
                    obtain ⟨ms_6, mp_7, rfl, hR_ms_6, hR_mp_7, hpt⟩ := hp
                    obtain ⟨hP, hD⟩ := hPD rfl
                    have hP : va_P D vwCl (wl_kf_X9_triesBits_1 cI cJ cK m0 a_row a_tape a_number a_read a_readBits a_stands a_parted a_bitsWere a_stood a_chosen a_bestChosen a_often a_sorted a_risen a_risenWays m_thrown (nI m_told) (nI m_taped) (nI m_at) (nI m_to) (nI m_many) (nI m_readMany) m0_fewest_99 (nI m_size) mn ms_6 mp_7 a_stood_99 g_3 a_bestChosen_99) H := hP
                    have hD : va_D A (wl_kf_X9_triesBits_1 cI cJ cK m0 a_row a_tape a_number a_read a_readBits a_stands a_parted a_bitsWere a_stood a_chosen a_bestChosen a_often a_sorted a_risen a_risenWays m_thrown (nI m_told) (nI m_taped) (nI m_at) (nI m_to) (nI m_many) (nI m_readMany) m0_fewest_99 (nI m_size) mn ms_6 mp_7 a_stood_99 g_3 a_bestChosen_99) := hD
                    refine lv_aload_n hx hb dX9_triesBits_135 rfl (lv_at hl 2 rfl) ?_
                    refine lv_iload_n hx hb dX9_triesBits_136 rfl (lv_at hl 3 rfl) ?_
                    refine lv_iconst (v := 1) hx hb dX9_triesBits_137 (by decide +kernel) ?_
                    refine lv_iadd hx hb dX9_triesBits_138 ?_
                    refine my_eqi (y := 2) (by decide +kernel) ?_
                    refine lv_iload_n hx hb dX9_triesBits_139 rfl (lv_at hl 4 rfl) ?_
                    refine lv_iconst (v := 1) hx hb dX9_triesBits_140 (by decide +kernel) ?_
                    refine lv_iload hx hb dX9_triesBits_141 (lv_at hl 1 rfl) ?_
                    refine lv_ishl hx hb dX9_triesBits_143 ?_
                    refine my_eqi (y := nI (2 ^ w_1)) (my_shl1 (by omega)) ?_
                    refine lv_ior hx hb dX9_triesBits_144 ?_
                    refine my_eqi (y := nI (U ||| (2 ^ w_1))) (fa_or _ _) ?_
                    refine lv_iload_n hx hb dX9_triesBits_145 rfl (lv_at hl 5 rfl) ?_
                    refine lv_iload hx hb dX9_triesBits_146 (lv_at hl 0 rfl) ?_
                    refine lv_iadd hx hb dX9_triesBits_148 ?_
                    refine my_eqi (y := nI (ra + t_4)) (nI_add _ _) ?_
                    refine my_goVS (wc := (wl_kf_X9_triesBits_2 cI cJ cK m0 a_row a_tape a_number a_read a_readBits a_stands a_parted a_bitsWere a_stood a_chosen a_bestChosen a_often a_sorted a_risen a_risenWays m_thrown (nI m_told) (nI m_taped) (nI m_at) (nI m_to) (nI m_many) (nI m_readMany) m0_fewest_99 (nI m_size) mn ms_6 mp_7 a_stood_99 g_3 a_bestChosen_99)) hP hD hS hA [0, 1, 2, 3, 4, 5, 6] rfl [some 0, some 1, some 2, some 3, some 4, some 5, some 6] (by decide +kernel) (my_cV (As := [.int 2, .int (nI (U ||| (2 ^ w_1))), .int (nI (ra + t_4))]) (rest := []) (ci := 9) (wc := (wl_kf_X9_triesBits_2 cI cJ cK m0 a_row a_tape a_number a_read a_readBits a_stands a_parted a_bitsWere a_stood a_chosen a_bestChosen a_often a_sorted a_risen a_risenWays m_thrown (nI m_told) (nI m_taped) (nI m_at) (nI m_to) (nI m_many) (nI m_readMany) m0_fewest_99 (nI m_size) mn ms_6 mp_7 a_stood_99 g_3 a_bestChosen_99)) ⟨hx, hb, hml, hown, hts⟩ (cwV 3 hts gX9_triesBits_X9_triesBits rfl rfl rfl (by decide +kernel) ⟨Nat.le_of_ble_eq_true rfl, Nat.le_of_ble_eq_true rfl⟩) hN hK hP hD [0, 1, 2, 3, 4, 5, 6] rfl (by decide) rfl 0 rfl rfl rfl rfl hl.1 rfl (Nat.le_of_ble_eq_true rfl) dX9_triesBits_149 ⟨Nat.le_of_ble_eq_true rfl, Nat.le_of_ble_eq_true rfl⟩  ((kf_X9_triesBits_2 l D cI cJ cK m0 a_row a_tape a_number a_read a_readBits a_stands a_parted a_bitsWere a_stood a_chosen a_bestChosen a_often a_sorted a_risen a_risenWays m_thrown m_told m_taped m_at m_to m_many m_readMany m0_fewest_99 m_size mn ms_6 mp_7 a_stood_99 g_3 a_bestChosen_99 (U ||| (2 ^ w_1)) (ra + t_4) (min F (ra + tM (tF m_many 6 (vG mn ms) (uS U)) (uS U) (7 - (nI w_1).toInt).toNat)) (by first | assumption | omega | decide +kernel) (by first | assumption | omega | decide +kernel) (by first | assumption | omega | decide +kernel) (by first | assumption | omega | decide +kernel) (by first | assumption | omega | decide +kernel) (by first | assumption | omega | decide +kernel) (by first | assumption | omega | decide +kernel) hR_mn hR_ms_6 hR_mp_7 hR_a_stood_99 ((or_b U hU _ (by omega)).1) (by first | assumption | omega | decide +kernel) (hfw2)) _)) (fun u H locs hp hPD hS => ?_)
                    obtain ⟨m_fewest_8, ms_9, mp_10, mo_11, mc_12, me_13, rfl, hR_ms_9, hR_mp_10, hR_mo_11, hfw1, hst1, hso1⟩ := hp
                    obtain ⟨hP, hD⟩ := hPD rfl
                    have hP : va_P D vwCl (wl_kf_X9_triesBits_1 cI cJ cK m0 a_row a_tape a_number a_read a_readBits a_stands a_parted a_bitsWere a_stood a_chosen a_bestChosen a_often a_sorted a_risen a_risenWays m_thrown (nI m_told) (nI m_taped) (nI m_at) (nI m_to) (nI m_many) (nI m_readMany) m_fewest_8 (nI m_size) mn ms_9 mp_10 mo_11 mc_12 me_13) H := hP
                    have hD : va_D A (wl_kf_X9_triesBits_1 cI cJ cK m0 a_row a_tape a_number a_read a_readBits a_stands a_parted a_bitsWere a_stood a_chosen a_bestChosen a_often a_sorted a_risen a_risenWays m_thrown (nI m_told) (nI m_taped) (nI m_at) (nI m_to) (nI m_many) (nI m_readMany) m_fewest_8 (nI m_size) mn ms_9 mp_10 mo_11 mc_12 me_13) := hD
                    refine lv_iconst (v := 0) hx hb dX9_triesBits_152 (by decide +kernel) ?_
                    refine lv_istore (lv' := [(6, .int 0), (5, .int (nI t_4)), (4, .int (nI w_1)), (0, .ref m0), (1, .int 1), (2, .int (nI U)), (3, .int (nI ra))]) hx hb dX9_triesBits_153 hl (by decide) rfl (fun ls hl => ?_)
                    have loop155 : ∀ (n9 : Nat) (k : Nat) (a_stands_155 : Nat → Int32), 64 - k < n9 → (k ≤ 64) → (k ≤ m_many) → (∀ i, i < k → a_stands_155 i = ms i) → (RB 0 63 a_stands_155) → ∀ (H : Heap) (locs : List Loc) (ls : Array Slot), va_P D vwCl (wl_kf_X9_triesBits_1 cI cJ cK m0 a_row a_tape a_number a_read a_readBits a_stands a_parted a_bitsWere a_stood a_chosen a_bestChosen a_often a_sorted a_risen a_risenWays m_thrown (nI m_told) (nI m_taped) (nI m_at) (nI m_to) (nI m_many) (nI m_readMany) m_fewest_8 (nI m_size) mn a_stands_155 mp_10 mo_11 mc_12 me_13) H → va_D A (wl_kf_X9_triesBits_1 cI cJ cK m0 a_row a_tape a_number a_read a_readBits a_stands a_parted a_bitsWere a_stood a_chosen a_bestChosen a_often a_sorted a_risen a_risenWays m_thrown (nI m_told) (nI m_taped) (nI m_at) (nI m_to) (nI m_many) (nI m_readMany) m_fewest_8 (nI m_size) mn a_stands_155 mp_10 mo_11 mc_12 me_13) → va_S A s.heap H locs → lv_has ls 7 [(6, .int (nI k)), (5, .int (nI t_4)), (4, .int (nI w_1)), (0, .ref m0), (1, .int 1), (2, .int (nI U)), (3, .int (nI ra))] → W p l e ({ frames := 8, cells := 0, slots := 0, locals := 480 } : Room) s m [.ref m0, .int 1, .int (nI U), .int (nI ra)].toArray below meth c H locs 0 0 (MQ below (va_Qv (fun (u : va_W) => ∃ (m_fewest' : Int32) (ms' : Nat → Int32) (mp' : Nat → Int32) (mo' : Nat → Int32) (mc' : Nat → Int32) (me' : Nat → Int32), u = (wl_kf_X9_triesBits_1 cI cJ cK m0 a_row a_tape a_number a_read a_readBits a_stands a_parted a_bitsWere a_stood a_chosen a_bestChosen a_often a_sorted a_risen a_risenWays m_thrown (nI m_told) (nI m_taped) (nI m_at) (nI m_to) (nI m_many) (nI m_readMany) m_fewest' (nI m_size) mn ms' mp' mo' mc' me') ∧ RB 0 63 ms' ∧ RB 0 63 mp' ∧ RB 0 63 mo' ∧ fwR m_fewest' (min F (ra + tT m_many 7 (vG mn ms) (uS U))) ∧ (∀ i, i < m_many → ms' i = ms i) ∧ (∀ q, q < 64 → mo' q = mo q)) (my_B D (tyIJ cI cJ cK) A) A) [.ref m0, .int 1, .int (nI U), .int (nI ra)].toArray s 0 0 A) (F0 m 155 ls []) := by
                      intro n9
                      induction n9 with
                      | zero =>
                        intro k a_stands_155 hn9
                        exact absurd hn9 (Nat.not_lt_zero _)
                      | succ n9 ih155 =>
                        intro k a_stands_155 hn9 hk_k hkm hrs hR_a_stands_155 H locs ls hP hD hS hl
                        refine lv_iload hx hb dX9_triesBits_155 (lv_at hl 0 rfl) ?_
                        refine lv_aload_n hx hb dX9_triesBits_157 rfl (lv_at hl 3 rfl) ?_
                        refine va_get (ci := 9) (v := .int (nI m_many)) (C := RX9) (T := TX9) (N := 24) hx hb hts hi9 hown hK hP 0 rfl rfl 7 (by decide) fl88 (fun _ h9 => h9) rfl dX9_triesBits_158 ?_
                        refine lv_icmp_ge (tgt := 189) hx hb dX9_triesBits_161 (by decide) (fun c161 => ?_) (fun c161 => ?_)
                        ·
                          have d161 : ((k : Nat) : Int) ≥ ((m_many : Nat) : Int) := my_ge c161 (nI_toInt (by omega)) (nI_toInt (by omega))
                          obtain ⟨z_14, ez_14⟩ : ∃ y : Int32, y = nI w_1 + (-1) := ⟨_, rfl⟩
                          try have tz_14 : z_14.toInt = ((w_1 : Nat) : Int) + (-1) := by rw [ez_14]; exact my_addI (nI_toInt (by omega)) (by decide +kernel) (by omega) (by omega)
                          refine lv_iinc (v := z_14) (lv' := [(4, .int z_14), (6, .int (nI k)), (5, .int (nI t_4)), (0, .ref m0), (1, .int 1), (2, .int (nI U)), (3, .int (nI ra))]) hx hb dX9_triesBits_189 hl (k := 2) rfl (by rw [ez_14]; rfl) (by decide) rfl (fun ls hl => ?_)
                          refine lv_goto (tgt := 99) hx hb dX9_triesBits_192 (by decide) ?_
                          exact ih99  z_14 m_fewest_8 a_stands_155 mp_10 mo_11 mc_12 me_13 (by omega) (by first | assumption | omega | decide +kernel) (by first | assumption | omega | decide +kernel) (by first | exact th_skip hfw2 (by omega) (by omega) (by omega) (su_f d110 (by omega)) | exact th_done hfw1 (by omega) (by omega) (by omega) (su_t d110 (by omega)) (th_take (by omega) (by omega) hU hst2 hpt hrn)) (by first | exact hst2 | exact fun i hi => hrs i (by omega)) (by first | exact hso2 | exact fun i hi => (hso1 _ (by omega)).trans (hso2 i hi)) (by first | exact hso3 | exact fun q hq => (hso1 q (by omega)).trans (hso3 q hq)) hR_a_stands_155 hR_mp_10 hR_mo_11 _ _ ls hP hD hS (lv_sub hl [0, 3, 4, 5, 6] rfl)
                        ·
                          have d161 : ((k : Nat) : Int) < ((m_many : Nat) : Int) := my_nge c161 (nI_toInt (by omega)) (nI_toInt (by omega))
                          refine lv_aload_n hx hb dX9_triesBits_164 rfl (lv_at hl 3 rfl) ?_
                          refine va_get (ci := 9) (v := .ref a_stands) (C := RX9) (T := TX9) (N := 24) hx hb hts hi9 hown hK hP 0 rfl rfl 12 (by decide) fl58 (fun _ h9 => h9) rfl dX9_triesBits_165 ?_
                          refine lv_iload hx hb dX9_triesBits_168 (lv_at hl 0 rfl) ?_
                          refine lv_aload_n hx hb dX9_triesBits_170 rfl (lv_at hl 3 rfl) ?_
                          refine va_get (ci := 9) (v := .ref a_stood) (C := RX9) (T := TX9) (N := 24) hx hb hts hi9 hown hK hP 0 rfl rfl 15 (by decide) fl67 (fun _ h9 => h9) rfl dX9_triesBits_171 ?_
                          refine lv_bipush (v := 64) hx hb dX9_triesBits_174 (by decide +kernel) ?_
                          refine lv_iload_n hx hb dX9_triesBits_176 rfl (lv_at hl 4 rfl) ?_
                          refine lv_imul hx hb dX9_triesBits_177 ?_
                          refine my_eqi (y := 64) (by decide +kernel) ?_
                          refine lv_iload hx hb dX9_triesBits_178 (lv_at hl 0 rfl) ?_
                          refine lv_iadd hx hb dX9_triesBits_180 ?_
                          refine my_eqi (y := nI (k + 64)) (my_addN2 k 64) ?_
                          refine va_iald hx hb hK hP 4 0 rfl rfl (vp_in_nI (by omega) (by omega)) dX9_triesBits_181 ?_
                          refine my_eqi (y := mo_11 (k + 64)) (congrArg mo_11 (nI_clamp (by omega))) ?_
                          have hb_15 := hR_mo_11 (k + 64)
                          refine va_iast hx hb hK hP hD hS 2 0 rfl rfl (vp_in_nI (by omega) (by omega)) dX9_triesBits_182 (fun H locs hP hD hS => ?_)
                          obtain ⟨g_16, eg_16⟩ : ∃ g : Nat → Int32, g = upd a_stands_155 k (mo_11 (k + 64)) := ⟨_, rfl⟩
                          have eU : upd a_stands_155 (nI k : Int32).toNatClampNeg (mo_11 (k + 64)) = g_16 := by rw [eg_16, show (nI k : Int32).toNatClampNeg = k from nI_clamp (by omega)]
                          rw [eU] at hP hD
                          have hR_g_16 : RB 0 63 g_16 := by rw [eg_16]; exact hR_a_stands_155.upd rfl (by omega) (by omega)
                          have hP : va_P D vwCl (wl_kf_X9_triesBits_1 cI cJ cK m0 a_row a_tape a_number a_read a_readBits a_stands a_parted a_bitsWere a_stood a_chosen a_bestChosen a_often a_sorted a_risen a_risenWays m_thrown (nI m_told) (nI m_taped) (nI m_at) (nI m_to) (nI m_many) (nI m_readMany) m_fewest_8 (nI m_size) mn g_16 mp_10 mo_11 mc_12 me_13) H := hP
                          have hD : va_D A (wl_kf_X9_triesBits_1 cI cJ cK m0 a_row a_tape a_number a_read a_readBits a_stands a_parted a_bitsWere a_stood a_chosen a_bestChosen a_often a_sorted a_risen a_risenWays m_thrown (nI m_told) (nI m_taped) (nI m_at) (nI m_to) (nI m_many) (nI m_readMany) m_fewest_8 (nI m_size) mn g_16 mp_10 mo_11 mc_12 me_13) := hD
                          refine lv_iinc (v := nI (k + 1)) (lv' := [(6, .int (nI (k + 1))), (5, .int (nI t_4)), (4, .int (nI w_1)), (0, .ref m0), (1, .int 1), (2, .int (nI U)), (3, .int (nI ra))]) hx hb dX9_triesBits_183 hl (k := 0) rfl (my_incN k 1 (by decide +kernel)) (by decide) rfl (fun ls hl => ?_)
                          refine lv_goto (tgt := 155) hx hb dX9_triesBits_186 (by decide) ?_
                          exact ih155  (k + 1) g_16 (by omega) (by first | assumption | omega | decide +kernel) (by first | assumption | omega | decide +kernel) (nv_step (F := ms) (by assumption) ((hso1 _ (by omega)).trans (hso2 k (by omega))) hrs) hR_g_16 _ _ ls hP hD hS (lv_sub hl [0, 1, 2, 3, 4, 5, 6] rfl)
                    exact loop155 ((64 - 0) + 1) 0 ms_9 (Nat.lt_succ_self _) (by first | assumption | omega | decide +kernel) (by first | assumption | omega | decide +kernel) (fun i h => absurd h (Nat.not_lt_zero i)) hR_ms_9 _ _ ls hP hD hS (lv_sub hl [0, 1, 2, 3, 4, 5, 6] rfl)
            have ec_17 : (7 : Int32).toInt = 7 := by decide +kernel
            exact loop99 ((((7 : Int32).toInt + 1).toNat) + 1) (7 : Int32) m_fewest ms mp a_stood_61 mc me (Nat.lt_succ_self _) (by first | assumption | omega | decide +kernel) (by first | assumption | omega | decide +kernel) (th_0 hfw) (fun _ _ => rfl) (fun i hi => hs61 i (by omega)) (hs62) hR_ms hR_mp hR_a_stood_61 _ _ ls hP hD hS (lv_sub hl [0, 1, 2, 3, 4] rfl)
          ·
            have d67 : ((k : Nat) : Int) < ((m_many : Nat) : Int) := my_nge c67 (nI_toInt (by omega)) (nI_toInt (by omega))
            refine lv_aload_n hx hb dX9_triesBits_70 rfl (lv_at hl 1 rfl) ?_
            refine va_get (ci := 9) (v := .ref a_stood) (C := RX9) (T := TX9) (N := 24) hx hb hts hi9 hown hK hP 0 rfl rfl 15 (by decide) fl67 (fun _ h9 => h9) rfl dX9_triesBits_71 ?_
            refine lv_bipush (v := 64) hx hb dX9_triesBits_74 (by decide +kernel) ?_
            refine lv_iload_n hx hb dX9_triesBits_76 rfl (lv_at hl 2 rfl) ?_
            refine lv_imul hx hb dX9_triesBits_77 ?_
            refine my_eqi (y := 64) (by decide +kernel) ?_
            refine lv_iload hx hb dX9_triesBits_78 (lv_at hl 0 rfl) ?_
            refine lv_iadd hx hb dX9_triesBits_80 ?_
            refine my_eqi (y := nI (k + 64)) (my_addN2 k 64) ?_
            refine lv_aload_n hx hb dX9_triesBits_81 rfl (lv_at hl 1 rfl) ?_
            refine va_get (ci := 9) (v := .ref a_stands) (C := RX9) (T := TX9) (N := 24) hx hb hts hi9 hown hK hP 0 rfl rfl 12 (by decide) fl58 (fun _ h9 => h9) rfl dX9_triesBits_82 ?_
            refine lv_iload hx hb dX9_triesBits_85 (lv_at hl 0 rfl) ?_
            refine va_iald hx hb hK hP 2 0 rfl rfl (vp_in_nI (by omega) (by omega)) dX9_triesBits_87 ?_
            refine my_eqi (y := ms k) (congrArg ms (nI_clamp (by omega))) ?_
            have hb_18 := hR_ms k
            refine va_iast hx hb hK hP hD hS 4 0 rfl rfl (vp_in_nI (by omega) (by omega)) dX9_triesBits_88 (fun H locs hP hD hS => ?_)
            obtain ⟨g_19, eg_19⟩ : ∃ g : Nat → Int32, g = upd a_stood_61 (k + 64) (ms k) := ⟨_, rfl⟩
            have eU : upd a_stood_61 (nI (k + 64) : Int32).toNatClampNeg (ms k) = g_19 := by rw [eg_19, show (nI (k + 64) : Int32).toNatClampNeg = k + 64 from nI_clamp (by omega)]
            rw [eU] at hP hD
            have hR_g_19 : RB 0 63 g_19 := by rw [eg_19]; exact hR_a_stood_61.upd rfl (by omega) (by omega)
            have hP : va_P D vwCl (wl_kf_X9_triesBits_1 cI cJ cK m0 a_row a_tape a_number a_read a_readBits a_stands a_parted a_bitsWere a_stood a_chosen a_bestChosen a_often a_sorted a_risen a_risenWays m_thrown (nI m_told) (nI m_taped) (nI m_at) (nI m_to) (nI m_many) (nI m_readMany) m_fewest (nI m_size) mn ms mp g_19 mc me) H := hP
            have hD : va_D A (wl_kf_X9_triesBits_1 cI cJ cK m0 a_row a_tape a_number a_read a_readBits a_stands a_parted a_bitsWere a_stood a_chosen a_bestChosen a_often a_sorted a_risen a_risenWays m_thrown (nI m_told) (nI m_taped) (nI m_at) (nI m_to) (nI m_many) (nI m_readMany) m_fewest (nI m_size) mn ms mp g_19 mc me) := hD
            refine lv_iinc (v := nI (k + 1)) (lv' := [(4, .int (nI (k + 1))), (0, .ref m0), (1, .int 1), (2, .int (nI U)), (3, .int (nI ra))]) hx hb dX9_triesBits_89 hl (k := 0) rfl (my_incN k 1 (by decide +kernel)) (by decide) rfl (fun ls hl => ?_)
            refine lv_goto (tgt := 61) hx hb dX9_triesBits_92 (by decide) ?_
            exact ih61  (k + 1) g_19 (by omega) (by first | assumption | omega | decide +kernel) (by first | assumption | omega | decide +kernel) (th_s1 (a := 64) (by assumption) rfl hs61) (th_s2 (a := 64) (by assumption) (by omega) hs62) hR_g_19 _ _ ls hP hD hS (lv_sub hl [0, 1, 2, 3, 4] rfl)
      exact loop61 ((64 - 0) + 1) 0 mo (Nat.lt_succ_self _) (by first | assumption | omega | decide +kernel) (by first | assumption | omega | decide +kernel) (fun i h => absurd h (Nat.not_lt_zero i)) (fun _ _ => rfl) hR_mo _ _ ls hP hD hS (lv_sub hl [0, 1, 2, 3, 4] rfl)
    ·
      exact absurd c19 (by decide +kernel)
  refine lv_aload_n hx hb dX9_triesBits_0 rfl (lv_at hl 0 rfl) ?_
  refine va_get (ci := 9) (v := .int m_fewest) (C := RX9) (T := TX9) (N := 24) hx hb hts hi9 hown hK hP 0 rfl rfl 18 (by decide) fl162 (fun _ h9 => h9) rfl dX9_triesBits_1 ?_
  refine lv_if_lt (tgt := 16) hx hb dX9_triesBits_4 (by decide) (fun c4 => ?_) (fun c4 => ?_)
  ·
    have d4 : m_fewest.toInt < (0 : Int) := my_lt c4 rfl (by decide +kernel)
    exact cut16  _ _ ls hP hD hS hl
  ·
    have d4 : m_fewest.toInt ≥ (0 : Int) := my_nlt c4 rfl (by decide +kernel)
    refine lv_iload_n hx hb dX9_triesBits_7 rfl (lv_at hl 3 rfl) ?_
    refine lv_aload_n hx hb dX9_triesBits_8 rfl (lv_at hl 0 rfl) ?_
    refine va_get (ci := 9) (v := .int m_fewest) (C := RX9) (T := TX9) (N := 24) hx hb hts hi9 hown hK hP 0 rfl rfl 18 (by decide) fl162 (fun _ h9 => h9) rfl dX9_triesBits_9 ?_
    refine lv_icmp_lt (tgt := 16) hx hb dX9_triesBits_12 (by decide) (fun c12 => ?_) (fun c12 => ?_)
    ·
      have d12 : ((ra : Nat) : Int) < m_fewest.toInt := my_lt c12 (nI_toInt (by omega)) rfl
      exact cut16  _ _ ls hP hD hS hl
    ·
      have d12 : ((ra : Nat) : Int) ≥ m_fewest.toInt := my_nlt c12 (nI_toInt (by omega)) rfl
      exact my_retV hx hb hr hlocks hK hS (wl_kf_X9_triesBits_1 cI cJ cK m0 a_row a_tape a_number a_read a_readBits a_stands a_parted a_bitsWere a_stood a_chosen a_bestChosen a_often a_sorted a_risen a_risenWays m_thrown (nI m_told) (nI m_taped) (nI m_at) (nI m_to) (nI m_many) (nI m_readMany) m_fewest (nI m_size) mn ms mp mo mc me) hP hD (⟨m_fewest, ms, mp, mo, mc, me, rfl, hR_ms, hR_mp, hR_mo, (by first | exact th_end hfw2 (by omega) | exact th_prune hfw (by omega) (by omega)), (by first | exact hst2 | exact fun _ _ => rfl), (by first | exact hso3 | exact fun _ _ => rfl)⟩) dX9_triesBits_15
abbrev wl_kf_X9_triesBits_0 (cI cJ cK : ClassId) (m0 : Nat) (a_row : Nat) (a_tape : Nat) (a_number : Nat) (a_read : Nat) (a_readBits : Nat) (a_stands : Nat) (a_parted : Nat) (a_bitsWere : Nat) (a_stood : Nat) (a_chosen : Nat) (a_bestChosen : Nat) (a_often : Nat) (a_sorted : Nat) (a_risen : Nat) (a_risenWays : Nat) (v0_ : Int32) (v1_ : Int32) (v2_ : Int32) (v3_ : Int32) (v4_ : Int32) (v5_ : Int32) (v6_ : Int32) (v7_ : Int32) (v8_ : Int32) (v9_ : Nat → Int32) (v10_ : Nat → Int32) (v11_ : Nat → Int32) (v12_ : Nat → Int32) (v13_ : Nat → Int32) (v14_ : Nat → Int32) : va_W := [(m0, .inr (9, [.int v0_, .int v1_, .ref a_row, .ref a_tape, .int v2_, .int v3_, .int v4_, .int v5_, .ref a_number, .ref a_read, .int v6_, .ref a_readBits, .ref a_stands, .ref a_parted, .ref a_bitsWere, .ref a_stood, .ref a_chosen, .ref a_bestChosen, .int v7_, .ref a_often, .ref a_sorted, .int v8_, .ref a_risen, .ref a_risenWays])), (a_number, .inl (cI, 64, .inl v9_)), (a_stands, .inl (cI, 64, .inl v10_)), (a_parted, .inl (cI, 64, .inl v11_)), (a_stood, .inl (cI, 512, .inl v12_)), (a_chosen, .inl (cI, 8, .inl v13_)), (a_bestChosen, .inl (cI, 8, .inl v14_))]
set_option maxHeartbeats 4000000 in
set_option maxRecDepth 100000 in
theorem kf_X9_triesBits_0 (l : Launch) (D : va_G) (cI cJ cK : ClassId) (m0 : Nat) (a_row : Nat) (a_tape : Nat) (a_number : Nat) (a_read : Nat) (a_readBits : Nat) (a_stands : Nat) (a_parted : Nat) (a_bitsWere : Nat) (a_stood : Nat) (a_chosen : Nat) (a_bestChosen : Nat) (a_often : Nat) (a_sorted : Nat) (a_risen : Nat) (a_risenWays : Nat) (m_thrown : Int32) (m_told : Nat) (m_taped : Nat) (m_at : Nat) (m_to : Nat) (m_many : Nat) (m_readMany : Nat) (m_fewest : Int32) (m_size : Nat) (mn : Nat → Int32) (ms : Nat → Int32) (mp : Nat → Int32) (mo : Nat → Int32) (mc : Nat → Int32) (me : Nat → Int32) (U : Nat) (ra : Nat) (F : Nat) (hz_m_told : m_told ≤ 64) (hz_m_taped : m_taped ≤ 100) (hz_m_at : m_at ≤ 100) (hz_m_to : m_to ≤ 100) (hz_m_many : m_many ≤ 64) (hz_m_readMany : m_readMany ≤ 64) (hz_m_size : m_size ≤ 64) (hR_mn : RB 0 255 mn) (hR_ms : RB 0 63 ms) (hR_mp : RB 0 63 mp) (hR_mo : RB 0 63 mo) (hU : U < 256) (hra : ra ≤ 0) (hfw : fwR m_fewest F) : ctV l yX9_triesBits wsX9_triesBits ({ frames := 9, cells := 0, slots := 0, locals := 540 } : Room) D (tyIJ cI cJ cK) [.ref m0, .int 0, .int (nI U), .int (nI ra)] (wl_kf_X9_triesBits_0 cI cJ cK m0 a_row a_tape a_number a_read a_readBits a_stands a_parted a_bitsWere a_stood a_chosen a_bestChosen a_often a_sorted a_risen a_risenWays m_thrown (nI m_told) (nI m_taped) (nI m_at) (nI m_to) (nI m_many) (nI m_readMany) m_fewest (nI m_size) mn ms mp mo mc me) (fun (u : va_W) => ∃ (m_fewest' : Int32) (ms' : Nat → Int32) (mp' : Nat → Int32) (mo' : Nat → Int32) (mc' : Nat → Int32) (me' : Nat → Int32), u = (wl_kf_X9_triesBits_0 cI cJ cK m0 a_row a_tape a_number a_read a_readBits a_stands a_parted a_bitsWere a_stood a_chosen a_bestChosen a_often a_sorted a_risen a_risenWays m_thrown (nI m_told) (nI m_taped) (nI m_at) (nI m_to) (nI m_many) (nI m_readMany) m_fewest' (nI m_size) mn ms' mp' mo' mc' me') ∧ RB 0 63 ms' ∧ RB 0 63 mp' ∧ RB 0 63 mo' ∧ fwR m_fewest' (min F (ra + tT m_many 8 (vG mn ms) (uS U))) ∧ (∀ i, i < m_many → ms' i = ms i) ∧ (∀ q, q < 0 → mo' q = mo q)) := by
  refine ctV.of (cc := cX9_triesBits) (maxL := 7) (ret := none) (by decide) rfl (Nat.le_of_ble_eq_true rfl) ?_
  intro p e s m below meth c ls A hx hb hr hts hown hml hlocks hname hA hK hN hP hD hS hl
  have hl : lv_has ls 7 [(0, .ref m0), (1, .int 0), (2, .int (nI U)), (3, .int (nI ra))] := hl
  have hown : s.vm.findClass RX9 = some m.cls := hown
  have hi9 : ∀ w ∈ u_ws RX9 TX9 24, w ∈ wsX9_triesBits := by decide +kernel
  have fl162 := hts (.fieldLink RX9 162 "PlaneColumnModel" "fewest" "I") (by decide +kernel)
  have fl58 := hts (.fieldLink RX9 58 "PlaneColumnModel" "stands" "[I") (by decide +kernel)
  have fl67 := hts (.fieldLink RX9 67 "PlaneColumnModel" "stood" "[I") (by decide +kernel)
  have fl70 := hts (.fieldLink RX9 70 "PlaneColumnModel" "chosen" "[I") (by decide +kernel)
  have fl88 := hts (.fieldLink RX9 88 "PlaneColumnModel" "many" "I") (by decide +kernel)
  have cut16 : ∀ (H : Heap) (locs : List Loc) (ls : Array Slot), va_P D vwCl (wl_kf_X9_triesBits_0 cI cJ cK m0 a_row a_tape a_number a_read a_readBits a_stands a_parted a_bitsWere a_stood a_chosen a_bestChosen a_often a_sorted a_risen a_risenWays m_thrown (nI m_told) (nI m_taped) (nI m_at) (nI m_to) (nI m_many) (nI m_readMany) m_fewest (nI m_size) mn ms mp mo mc me) H → va_D A (wl_kf_X9_triesBits_0 cI cJ cK m0 a_row a_tape a_number a_read a_readBits a_stands a_parted a_bitsWere a_stood a_chosen a_bestChosen a_often a_sorted a_risen a_risenWays m_thrown (nI m_told) (nI m_taped) (nI m_at) (nI m_to) (nI m_many) (nI m_readMany) m_fewest (nI m_size) mn ms mp mo mc me) → va_S A s.heap H locs → lv_has ls 7 [(0, .ref m0), (1, .int 0), (2, .int (nI U)), (3, .int (nI ra))] → W p l e ({ frames := 9, cells := 0, slots := 0, locals := 540 } : Room) s m [.ref m0, .int 0, .int (nI U), .int (nI ra)].toArray below meth c H locs 0 0 (MQ below (va_Qv (fun (u : va_W) => ∃ (m_fewest' : Int32) (ms' : Nat → Int32) (mp' : Nat → Int32) (mo' : Nat → Int32) (mc' : Nat → Int32) (me' : Nat → Int32), u = (wl_kf_X9_triesBits_0 cI cJ cK m0 a_row a_tape a_number a_read a_readBits a_stands a_parted a_bitsWere a_stood a_chosen a_bestChosen a_often a_sorted a_risen a_risenWays m_thrown (nI m_told) (nI m_taped) (nI m_at) (nI m_to) (nI m_many) (nI m_readMany) m_fewest' (nI m_size) mn ms' mp' mo' mc' me') ∧ RB 0 63 ms' ∧ RB 0 63 mp' ∧ RB 0 63 mo' ∧ fwR m_fewest' (min F (ra + tT m_many 8 (vG mn ms) (uS U))) ∧ (∀ i, i < m_many → ms' i = ms i) ∧ (∀ q, q < 0 → mo' q = mo q)) (my_B D (tyIJ cI cJ cK) A) A) [.ref m0, .int 0, .int (nI U), .int (nI ra)].toArray s 0 0 A) (F0 m 16 ls []) := by
    intro H locs ls hP hD hS hl
    refine lv_iload_n hx hb dX9_triesBits_16 rfl (lv_at hl 1 rfl) ?_
    refine lv_bipush (v := 8) hx hb dX9_triesBits_17 (by decide +kernel) ?_
    refine lv_icmp_ne (tgt := 58) hx hb dX9_triesBits_19 (by decide) (fun c19 => ?_) (fun c19 => ?_)
    ·
      refine lv_iconst (v := 0) hx hb dX9_triesBits_58 (by decide +kernel) ?_
      refine lv_istore (lv' := [(4, .int 0), (0, .ref m0), (1, .int 0), (2, .int (nI U)), (3, .int (nI ra))]) hx hb dX9_triesBits_59 hl (by decide) rfl (fun ls hl => ?_)
      have loop61 : ∀ (n9 : Nat) (k : Nat) (a_stood_61 : Nat → Int32), 64 - k < n9 → (k ≤ 64) → (k ≤ m_many) → (∀ i, i < k → a_stood_61 (i + 0) = ms i) → (∀ q, q < 0 → a_stood_61 q = mo q) → (RB 0 63 a_stood_61) → ∀ (H : Heap) (locs : List Loc) (ls : Array Slot), va_P D vwCl (wl_kf_X9_triesBits_0 cI cJ cK m0 a_row a_tape a_number a_read a_readBits a_stands a_parted a_bitsWere a_stood a_chosen a_bestChosen a_often a_sorted a_risen a_risenWays m_thrown (nI m_told) (nI m_taped) (nI m_at) (nI m_to) (nI m_many) (nI m_readMany) m_fewest (nI m_size) mn ms mp a_stood_61 mc me) H → va_D A (wl_kf_X9_triesBits_0 cI cJ cK m0 a_row a_tape a_number a_read a_readBits a_stands a_parted a_bitsWere a_stood a_chosen a_bestChosen a_often a_sorted a_risen a_risenWays m_thrown (nI m_told) (nI m_taped) (nI m_at) (nI m_to) (nI m_many) (nI m_readMany) m_fewest (nI m_size) mn ms mp a_stood_61 mc me) → va_S A s.heap H locs → lv_has ls 7 [(4, .int (nI k)), (0, .ref m0), (1, .int 0), (2, .int (nI U)), (3, .int (nI ra))] → W p l e ({ frames := 9, cells := 0, slots := 0, locals := 540 } : Room) s m [.ref m0, .int 0, .int (nI U), .int (nI ra)].toArray below meth c H locs 0 0 (MQ below (va_Qv (fun (u : va_W) => ∃ (m_fewest' : Int32) (ms' : Nat → Int32) (mp' : Nat → Int32) (mo' : Nat → Int32) (mc' : Nat → Int32) (me' : Nat → Int32), u = (wl_kf_X9_triesBits_0 cI cJ cK m0 a_row a_tape a_number a_read a_readBits a_stands a_parted a_bitsWere a_stood a_chosen a_bestChosen a_often a_sorted a_risen a_risenWays m_thrown (nI m_told) (nI m_taped) (nI m_at) (nI m_to) (nI m_many) (nI m_readMany) m_fewest' (nI m_size) mn ms' mp' mo' mc' me') ∧ RB 0 63 ms' ∧ RB 0 63 mp' ∧ RB 0 63 mo' ∧ fwR m_fewest' (min F (ra + tT m_many 8 (vG mn ms) (uS U))) ∧ (∀ i, i < m_many → ms' i = ms i) ∧ (∀ q, q < 0 → mo' q = mo q)) (my_B D (tyIJ cI cJ cK) A) A) [.ref m0, .int 0, .int (nI U), .int (nI ra)].toArray s 0 0 A) (F0 m 61 ls []) := by
        intro n9
        induction n9 with
        | zero =>
          intro k a_stood_61 hn9
          exact absurd hn9 (Nat.not_lt_zero _)
        | succ n9 ih61 =>
          intro k a_stood_61 hn9 hk_k hkm hs61 hs62 hR_a_stood_61 H locs ls hP hD hS hl
          refine lv_iload hx hb dX9_triesBits_61 (lv_at hl 0 rfl) ?_
          refine lv_aload_n hx hb dX9_triesBits_63 rfl (lv_at hl 1 rfl) ?_
          refine va_get (ci := 9) (v := .int (nI m_many)) (C := RX9) (T := TX9) (N := 24) hx hb hts hi9 hown hK hP 0 rfl rfl 7 (by decide) fl88 (fun _ h9 => h9) rfl dX9_triesBits_64 ?_
          refine lv_icmp_ge (tgt := 95) hx hb dX9_triesBits_67 (by decide) (fun c67 => ?_) (fun c67 => ?_)
          ·
            have d67 : ((k : Nat) : Int) ≥ ((m_many : Nat) : Int) := my_ge c67 (nI_toInt (by omega)) (nI_toInt (by omega))
            refine lv_bipush (v := 7) hx hb dX9_triesBits_95 (by decide +kernel) ?_
            refine lv_istore (lv' := [(4, .int 7), (0, .ref m0), (1, .int 0), (2, .int (nI U)), (3, .int (nI ra))]) hx hb dX9_triesBits_97 hl (by decide) rfl (fun ls hl => ?_)
            have loop99 : ∀ (n9 : Nat) (x : Int32) (m0_fewest_99 : Int32) (a_stands_99 : Nat → Int32) (a_parted_99 : Nat → Int32) (a_stood_99 : Nat → Int32) (a_chosen_99 : Nat → Int32) (a_bestChosen_99 : Nat → Int32), (x.toInt + 1).toNat < n9 → (-1 ≤ x.toInt) → (x.toInt ≤ 7) → (fwR m0_fewest_99 (min F (ra + tM (tF m_many 7 (vG mn ms) (uS U)) (uS U) (7 - x.toInt).toNat))) → (∀ i, i < m_many → a_stands_99 i = ms i) → (∀ i, i < m_many → a_stood_99 (i + 0) = ms i) → (∀ q, q < 0 → a_stood_99 q = mo q) → (RB 0 63 a_stands_99) → (RB 0 63 a_parted_99) → (RB 0 63 a_stood_99) → ∀ (H : Heap) (locs : List Loc) (ls : Array Slot), va_P D vwCl (wl_kf_X9_triesBits_0 cI cJ cK m0 a_row a_tape a_number a_read a_readBits a_stands a_parted a_bitsWere a_stood a_chosen a_bestChosen a_often a_sorted a_risen a_risenWays m_thrown (nI m_told) (nI m_taped) (nI m_at) (nI m_to) (nI m_many) (nI m_readMany) m0_fewest_99 (nI m_size) mn a_stands_99 a_parted_99 a_stood_99 a_chosen_99 a_bestChosen_99) H → va_D A (wl_kf_X9_triesBits_0 cI cJ cK m0 a_row a_tape a_number a_read a_readBits a_stands a_parted a_bitsWere a_stood a_chosen a_bestChosen a_often a_sorted a_risen a_risenWays m_thrown (nI m_told) (nI m_taped) (nI m_at) (nI m_to) (nI m_many) (nI m_readMany) m0_fewest_99 (nI m_size) mn a_stands_99 a_parted_99 a_stood_99 a_chosen_99 a_bestChosen_99) → va_S A s.heap H locs → lv_has ls 7 [(4, .int x), (0, .ref m0), (1, .int 0), (2, .int (nI U)), (3, .int (nI ra))] → W p l e ({ frames := 9, cells := 0, slots := 0, locals := 540 } : Room) s m [.ref m0, .int 0, .int (nI U), .int (nI ra)].toArray below meth c H locs 0 0 (MQ below (va_Qv (fun (u : va_W) => ∃ (m_fewest' : Int32) (ms' : Nat → Int32) (mp' : Nat → Int32) (mo' : Nat → Int32) (mc' : Nat → Int32) (me' : Nat → Int32), u = (wl_kf_X9_triesBits_0 cI cJ cK m0 a_row a_tape a_number a_read a_readBits a_stands a_parted a_bitsWere a_stood a_chosen a_bestChosen a_often a_sorted a_risen a_risenWays m_thrown (nI m_told) (nI m_taped) (nI m_at) (nI m_to) (nI m_many) (nI m_readMany) m_fewest' (nI m_size) mn ms' mp' mo' mc' me') ∧ RB 0 63 ms' ∧ RB 0 63 mp' ∧ RB 0 63 mo' ∧ fwR m_fewest' (min F (ra + tT m_many 8 (vG mn ms) (uS U))) ∧ (∀ i, i < m_many → ms' i = ms i) ∧ (∀ q, q < 0 → mo' q = mo q)) (my_B D (tyIJ cI cJ cK) A) A) [.ref m0, .int 0, .int (nI U), .int (nI ra)].toArray s 0 0 A) (F0 m 99 ls []) := by
              intro n9
              induction n9 with
              | zero =>
                intro x m0_fewest_99 a_stands_99 a_parted_99 a_stood_99 a_chosen_99 a_bestChosen_99 hn9
                exact absurd hn9 (Nat.not_lt_zero _)
              | succ n9 ih99 =>
                intro x m0_fewest_99 a_stands_99 a_parted_99 a_stood_99 a_chosen_99 a_bestChosen_99 hn9 hx0 hx1 hfw2 hst2 hso2 hso3 hR_a_stands_99 hR_a_parted_99 hR_a_stood_99 H locs ls hP hD hS hl
                refine lv_iload hx hb dX9_triesBits_99 (lv_at hl 0 rfl) ?_
                refine lv_if_lt (tgt := 195) hx hb dX9_triesBits_101 (by decide) (fun c101 => ?_) (fun c101 => ?_)
                ·
                  have d101 : x.toInt < (0 : Int) := my_lt c101 rfl (by decide +kernel)
                  exact my_retV hx hb hr hlocks hK hS (wl_kf_X9_triesBits_0 cI cJ cK m0 a_row a_tape a_number a_read a_readBits a_stands a_parted a_bitsWere a_stood a_chosen a_bestChosen a_often a_sorted a_risen a_risenWays m_thrown (nI m_told) (nI m_taped) (nI m_at) (nI m_to) (nI m_many) (nI m_readMany) m0_fewest_99 (nI m_size) mn a_stands_99 a_parted_99 a_stood_99 a_chosen_99 a_bestChosen_99) hP hD (⟨m0_fewest_99, a_stands_99, a_parted_99, a_stood_99, a_chosen_99, a_bestChosen_99, rfl, hR_a_stands_99, hR_a_parted_99, hR_a_stood_99, (by first | exact th_end hfw2 (by omega) | exact th_prune hfw (by omega) (by omega)), (by first | exact hst2 | exact fun _ _ => rfl), (by first | exact hso3 | exact fun _ _ => rfl)⟩) dX9_triesBits_195
                ·
                  have d101 : x.toInt ≥ (0 : Int) := my_nlt c101 rfl (by decide +kernel)
                  obtain ⟨w_1, rfl, hw_1⟩ := my_natP (x := x) (by omega)
                  have hlw_1 : w_1 < 2147483648 := by have h9 := Int32.toInt_lt (nI w_1); omega
                  refine lv_iload_n hx hb dX9_triesBits_104 rfl (lv_at hl 3 rfl) ?_
                  refine lv_iload hx hb dX9_triesBits_105 (lv_at hl 0 rfl) ?_
                  refine lv_ishr hx hb dX9_triesBits_107 ?_
                  refine my_eqi (y := nI (U / 2 ^ w_1)) (my_shrG (by omega) (by omega)) ?_
                  refine lv_iconst (v := 1) hx hb dX9_triesBits_108 (by decide +kernel) ?_
                  refine lv_iand hx hb dX9_triesBits_109 ?_
                  refine my_eqi (y := nI ((U / 2 ^ w_1) % 2)) (my_maskN _ 1) ?_
                  refine lv_if_ne (tgt := 189) hx hb dX9_triesBits_110 (by decide) (fun c110 => ?_) (fun c110 => ?_)
                  ·
                    have d110 : (((U / 2 ^ w_1) % 2 : Nat) : Int) ≠ (0 : Int) := my_ne c110 (nI_toInt (by omega)) (by decide +kernel)
                    obtain ⟨z_2, ez_2⟩ : ∃ y : Int32, y = nI w_1 + (-1) := ⟨_, rfl⟩
                    try have tz_2 : z_2.toInt = ((w_1 : Nat) : Int) + (-1) := by rw [ez_2]; exact my_addI (nI_toInt (by omega)) (by decide +kernel) (by omega) (by omega)
                    refine lv_iinc (v := z_2) (lv' := [(4, .int z_2), (0, .ref m0), (1, .int 0), (2, .int (nI U)), (3, .int (nI ra))]) hx hb dX9_triesBits_189 hl (k := 0) rfl (by rw [ez_2]; rfl) (by decide) rfl (fun ls hl => ?_)
                    refine lv_goto (tgt := 99) hx hb dX9_triesBits_192 (by decide) ?_
                    exact ih99  z_2 m0_fewest_99 a_stands_99 a_parted_99 a_stood_99 a_chosen_99 a_bestChosen_99 (by omega) (by first | assumption | omega | decide +kernel) (by first | assumption | omega | decide +kernel) (by first | exact th_skip hfw2 (by omega) (by omega) (by omega) (su_f d110 (by omega)) | exact th_done hfw1 (by omega) (by omega) (by omega) (su_t d110 (by omega)) (th_take (by omega) (by omega) hU hst2 hpt hrn)) (by first | exact hst2 | exact fun i hi => hrs i (by omega)) (by first | exact hso2 | exact fun i hi => (hso1 _ (by omega)).trans (hso2 i hi)) (by first | exact hso3 | exact fun q hq => (hso1 q (by omega)).trans (hso3 q hq)) hR_a_stands_99 hR_a_parted_99 hR_a_stood_99 _ _ ls hP hD hS (lv_sub hl [0, 1, 2, 3, 4] rfl)
                  ·
                    have d110 : (((U / 2 ^ w_1) % 2 : Nat) : Int) = (0 : Int) := my_eq c110 (nI_toInt (by omega)) (by decide +kernel)
                    refine lv_aload_n hx hb dX9_triesBits_113 rfl (lv_at hl 1 rfl) ?_
                    refine va_get (ci := 9) (v := .ref a_chosen) (C := RX9) (T := TX9) (N := 24) hx hb hts hi9 hown hK hP 0 rfl rfl 16 (by decide) fl70 (fun _ h9 => h9) rfl dX9_triesBits_114 ?_
                    refine lv_iload_n hx hb dX9_triesBits_117 rfl (lv_at hl 2 rfl) ?_
                    refine lv_iload hx hb dX9_triesBits_118 (lv_at hl 0 rfl) ?_
                    refine va_iast hx hb hK hP hD hS 5 0 rfl rfl (vp_in_nI (n := 0) (by omega) (by omega)) dX9_triesBits_120 (fun H locs hP hD hS => ?_)
                    obtain ⟨g_3, eg_3⟩ : ∃ g : Nat → Int32, g = upd a_chosen_99 0 (nI w_1) := ⟨_, rfl⟩
                    have eU : upd a_chosen_99 (0 : Int32).toNatClampNeg (nI w_1) = g_3 := by rw [eg_3, show (0 : Int32).toNatClampNeg = 0 from by decide +kernel]
                    rw [eU] at hP hD
                    have hP : va_P D vwCl (wl_kf_X9_triesBits_0 cI cJ cK m0 a_row a_tape a_number a_read a_readBits a_stands a_parted a_bitsWere a_stood a_chosen a_bestChosen a_often a_sorted a_risen a_risenWays m_thrown (nI m_told) (nI m_taped) (nI m_at) (nI m_to) (nI m_many) (nI m_readMany) m0_fewest_99 (nI m_size) mn a_stands_99 a_parted_99 a_stood_99 g_3 a_bestChosen_99) H := hP
                    have hD : va_D A (wl_kf_X9_triesBits_0 cI cJ cK m0 a_row a_tape a_number a_read a_readBits a_stands a_parted a_bitsWere a_stood a_chosen a_bestChosen a_often a_sorted a_risen a_risenWays m_thrown (nI m_told) (nI m_taped) (nI m_at) (nI m_to) (nI m_many) (nI m_readMany) m0_fewest_99 (nI m_size) mn a_stands_99 a_parted_99 a_stood_99 g_3 a_bestChosen_99) := hD
                    refine lv_aload_n hx hb dX9_triesBits_121 rfl (lv_at hl 1 rfl) ?_
                    refine lv_iload hx hb dX9_triesBits_122 (lv_at hl 0 rfl) ?_
                    refine my_gpI (my_pV (As := [.int (nI w_1)]) (rest := []) (ci := 9) ⟨hx, hb, hml, hown, hts⟩ (cwV 1 hts gX9_triesBits_X9_runsOf rfl rfl rfl (by decide +kernel) ⟨Nat.le_of_ble_eq_true rfl, Nat.le_of_ble_eq_true rfl⟩) hN hK hP [0, 1, 2] rfl 0 rfl rfl rfl rfl hl.1 rfl (Nat.le_of_ble_eq_true rfl) dX9_triesBits_124 ⟨Nat.le_of_ble_eq_true rfl, Nat.le_of_ble_eq_true rfl⟩  (kf_X9_runsOf l D cI cJ cK m0 a_row a_tape a_number a_read a_readBits a_stands a_parted a_bitsWere a_stood a_chosen a_bestChosen a_often a_sorted a_risen a_risenWays m_thrown m_told m_taped m_at m_to m_many m_readMany m0_fewest_99 m_size mn a_stands_99 w_1 (by first | assumption | omega | decide +kernel) (by first | assumption | omega | decide +kernel) (by first | assumption | omega | decide +kernel) (by first | assumption | omega | decide +kernel) (by first | assumption | omega | decide +kernel) (by first | assumption | omega | decide +kernel) (by first | assumption | omega | decide +kernel) hR_mn hR_a_stands_99 (by first | assumption | omega | decide +kernel))) (fun r hp => ?_)
                    obtain ⟨t_4, rfl, hrn, hq_5⟩ := hp
                    refine lv_istore (lv' := [(5, .int (nI t_4)), (4, .int (nI w_1)), (0, .ref m0), (1, .int 0), (2, .int (nI U)), (3, .int (nI ra))]) hx hb dX9_triesBits_127 hl (by decide) rfl (fun ls hl => ?_)
                    refine lv_aload_n hx hb dX9_triesBits_129 rfl (lv_at hl 2 rfl) ?_
                    refine lv_iload hx hb dX9_triesBits_130 (lv_at hl 1 rfl) ?_
                    refine my_goVS (wc := (wl_kf_X9_parts cI cJ cK m0 a_row a_tape a_number a_read a_readBits a_stands a_parted a_bitsWere a_stood a_chosen a_bestChosen a_often a_sorted a_risen a_risenWays m_thrown (nI m_told) (nI m_taped) (nI m_at) (nI m_to) (nI m_many) (nI m_readMany) m0_fewest_99 (nI m_size) mn a_stands_99 a_parted_99)) hP hD hS hA [0, 1, 2, 3] rfl [some 0, some 1, some 2, some 3] (by decide +kernel) (my_cV (As := [.int (nI w_1)]) (rest := []) (ci := 9) (wc := (wl_kf_X9_parts cI cJ cK m0 a_row a_tape a_number a_read a_readBits a_stands a_parted a_bitsWere a_stood a_chosen a_bestChosen a_often a_sorted a_risen a_risenWays m_thrown (nI m_told) (nI m_taped) (nI m_at) (nI m_to) (nI m_many) (nI m_readMany) m0_fewest_99 (nI m_size) mn a_stands_99 a_parted_99)) ⟨hx, hb, hml, hown, hts⟩ (cwV 1 hts gX9_triesBits_X9_parts rfl rfl rfl (by decide +kernel) ⟨Nat.le_of_ble_eq_true rfl, Nat.le_of_ble_eq_true rfl⟩) hN hK hP hD [0, 1, 2, 3] rfl (by decide) rfl 0 rfl rfl rfl rfl hl.1 rfl (Nat.le_of_ble_eq_true rfl) dX9_triesBits_132 ⟨Nat.le_of_ble_eq_true rfl, Nat.le_of_ble_eq_true rfl⟩  ((kf_X9_parts l D cI cJ cK m0 a_row a_tape a_number a_read a_readBits a_stands a_parted a_bitsWere a_stood a_chosen a_bestChosen a_often a_sorted a_risen a_risenWays m_thrown m_told m_taped m_at m_to m_many m_readMany m0_fewest_99 m_size mn a_stands_99 a_parted_99 w_1 (by first | assumption | omega | decide +kernel) (by first | assumption | omega | decide +kernel) (by first | assumption | omega | decide +kernel) (by first | assumption | omega | decide +kernel) (by first | assumption | omega | decide +kernel) (by first | assumption | omega | decide +kernel) (by first | assumption | omega | decide +kernel) hR_mn hR_a_stands_99 hR_a_parted_99 (by first | assumption | omega | decide +kernel)) _)) (fun u H locs hp hPD hS => ?_)
                    obtain ⟨ms_6, mp_7, rfl, hR_ms_6, hR_mp_7, hpt⟩ := hp
                    obtain ⟨hP, hD⟩ := hPD rfl
                    have hP : va_P D vwCl (wl_kf_X9_triesBits_0 cI cJ cK m0 a_row a_tape a_number a_read a_readBits a_stands a_parted a_bitsWere a_stood a_chosen a_bestChosen a_often a_sorted a_risen a_risenWays m_thrown (nI m_told) (nI m_taped) (nI m_at) (nI m_to) (nI m_many) (nI m_readMany) m0_fewest_99 (nI m_size) mn ms_6 mp_7 a_stood_99 g_3 a_bestChosen_99) H := hP
                    have hD : va_D A (wl_kf_X9_triesBits_0 cI cJ cK m0 a_row a_tape a_number a_read a_readBits a_stands a_parted a_bitsWere a_stood a_chosen a_bestChosen a_often a_sorted a_risen a_risenWays m_thrown (nI m_told) (nI m_taped) (nI m_at) (nI m_to) (nI m_many) (nI m_readMany) m0_fewest_99 (nI m_size) mn ms_6 mp_7 a_stood_99 g_3 a_bestChosen_99) := hD
                    refine lv_aload_n hx hb dX9_triesBits_135 rfl (lv_at hl 2 rfl) ?_
                    refine lv_iload_n hx hb dX9_triesBits_136 rfl (lv_at hl 3 rfl) ?_
                    refine lv_iconst (v := 1) hx hb dX9_triesBits_137 (by decide +kernel) ?_
                    refine lv_iadd hx hb dX9_triesBits_138 ?_
                    refine my_eqi (y := 1) (by decide +kernel) ?_
                    refine lv_iload_n hx hb dX9_triesBits_139 rfl (lv_at hl 4 rfl) ?_
                    refine lv_iconst (v := 1) hx hb dX9_triesBits_140 (by decide +kernel) ?_
                    refine lv_iload hx hb dX9_triesBits_141 (lv_at hl 1 rfl) ?_
                    refine lv_ishl hx hb dX9_triesBits_143 ?_
                    refine my_eqi (y := nI (2 ^ w_1)) (my_shl1 (by omega)) ?_
                    refine lv_ior hx hb dX9_triesBits_144 ?_
                    refine my_eqi (y := nI (U ||| (2 ^ w_1))) (fa_or _ _) ?_
                    refine lv_iload_n hx hb dX9_triesBits_145 rfl (lv_at hl 5 rfl) ?_
                    refine lv_iload hx hb dX9_triesBits_146 (lv_at hl 0 rfl) ?_
                    refine lv_iadd hx hb dX9_triesBits_148 ?_
                    refine my_eqi (y := nI (ra + t_4)) (nI_add _ _) ?_
                    refine my_goVS (wc := (wl_kf_X9_triesBits_1 cI cJ cK m0 a_row a_tape a_number a_read a_readBits a_stands a_parted a_bitsWere a_stood a_chosen a_bestChosen a_often a_sorted a_risen a_risenWays m_thrown (nI m_told) (nI m_taped) (nI m_at) (nI m_to) (nI m_many) (nI m_readMany) m0_fewest_99 (nI m_size) mn ms_6 mp_7 a_stood_99 g_3 a_bestChosen_99)) hP hD hS hA [0, 1, 2, 3, 4, 5, 6] rfl [some 0, some 1, some 2, some 3, some 4, some 5, some 6] (by decide +kernel) (my_cV (As := [.int 1, .int (nI (U ||| (2 ^ w_1))), .int (nI (ra + t_4))]) (rest := []) (ci := 9) (wc := (wl_kf_X9_triesBits_1 cI cJ cK m0 a_row a_tape a_number a_read a_readBits a_stands a_parted a_bitsWere a_stood a_chosen a_bestChosen a_often a_sorted a_risen a_risenWays m_thrown (nI m_told) (nI m_taped) (nI m_at) (nI m_to) (nI m_many) (nI m_readMany) m0_fewest_99 (nI m_size) mn ms_6 mp_7 a_stood_99 g_3 a_bestChosen_99)) ⟨hx, hb, hml, hown, hts⟩ (cwV 3 hts gX9_triesBits_X9_triesBits rfl rfl rfl (by decide +kernel) ⟨Nat.le_of_ble_eq_true rfl, Nat.le_of_ble_eq_true rfl⟩) hN hK hP hD [0, 1, 2, 3, 4, 5, 6] rfl (by decide) rfl 0 rfl rfl rfl rfl hl.1 rfl (Nat.le_of_ble_eq_true rfl) dX9_triesBits_149 ⟨Nat.le_of_ble_eq_true rfl, Nat.le_of_ble_eq_true rfl⟩  ((kf_X9_triesBits_1 l D cI cJ cK m0 a_row a_tape a_number a_read a_readBits a_stands a_parted a_bitsWere a_stood a_chosen a_bestChosen a_often a_sorted a_risen a_risenWays m_thrown m_told m_taped m_at m_to m_many m_readMany m0_fewest_99 m_size mn ms_6 mp_7 a_stood_99 g_3 a_bestChosen_99 (U ||| (2 ^ w_1)) (ra + t_4) (min F (ra + tM (tF m_many 7 (vG mn ms) (uS U)) (uS U) (7 - (nI w_1).toInt).toNat)) (by first | assumption | omega | decide +kernel) (by first | assumption | omega | decide +kernel) (by first | assumption | omega | decide +kernel) (by first | assumption | omega | decide +kernel) (by first | assumption | omega | decide +kernel) (by first | assumption | omega | decide +kernel) (by first | assumption | omega | decide +kernel) hR_mn hR_ms_6 hR_mp_7 hR_a_stood_99 ((or_b U hU _ (by omega)).1) (by first | assumption | omega | decide +kernel) (hfw2)) _)) (fun u H locs hp hPD hS => ?_)
                    obtain ⟨m_fewest_8, ms_9, mp_10, mo_11, mc_12, me_13, rfl, hR_ms_9, hR_mp_10, hR_mo_11, hfw1, hst1, hso1⟩ := hp
                    obtain ⟨hP, hD⟩ := hPD rfl
                    have hP : va_P D vwCl (wl_kf_X9_triesBits_0 cI cJ cK m0 a_row a_tape a_number a_read a_readBits a_stands a_parted a_bitsWere a_stood a_chosen a_bestChosen a_often a_sorted a_risen a_risenWays m_thrown (nI m_told) (nI m_taped) (nI m_at) (nI m_to) (nI m_many) (nI m_readMany) m_fewest_8 (nI m_size) mn ms_9 mp_10 mo_11 mc_12 me_13) H := hP
                    have hD : va_D A (wl_kf_X9_triesBits_0 cI cJ cK m0 a_row a_tape a_number a_read a_readBits a_stands a_parted a_bitsWere a_stood a_chosen a_bestChosen a_often a_sorted a_risen a_risenWays m_thrown (nI m_told) (nI m_taped) (nI m_at) (nI m_to) (nI m_many) (nI m_readMany) m_fewest_8 (nI m_size) mn ms_9 mp_10 mo_11 mc_12 me_13) := hD
                    refine lv_iconst (v := 0) hx hb dX9_triesBits_152 (by decide +kernel) ?_
                    refine lv_istore (lv' := [(6, .int 0), (5, .int (nI t_4)), (4, .int (nI w_1)), (0, .ref m0), (1, .int 0), (2, .int (nI U)), (3, .int (nI ra))]) hx hb dX9_triesBits_153 hl (by decide) rfl (fun ls hl => ?_)
                    have loop155 : ∀ (n9 : Nat) (k : Nat) (a_stands_155 : Nat → Int32), 64 - k < n9 → (k ≤ 64) → (k ≤ m_many) → (∀ i, i < k → a_stands_155 i = ms i) → (RB 0 63 a_stands_155) → ∀ (H : Heap) (locs : List Loc) (ls : Array Slot), va_P D vwCl (wl_kf_X9_triesBits_0 cI cJ cK m0 a_row a_tape a_number a_read a_readBits a_stands a_parted a_bitsWere a_stood a_chosen a_bestChosen a_often a_sorted a_risen a_risenWays m_thrown (nI m_told) (nI m_taped) (nI m_at) (nI m_to) (nI m_many) (nI m_readMany) m_fewest_8 (nI m_size) mn a_stands_155 mp_10 mo_11 mc_12 me_13) H → va_D A (wl_kf_X9_triesBits_0 cI cJ cK m0 a_row a_tape a_number a_read a_readBits a_stands a_parted a_bitsWere a_stood a_chosen a_bestChosen a_often a_sorted a_risen a_risenWays m_thrown (nI m_told) (nI m_taped) (nI m_at) (nI m_to) (nI m_many) (nI m_readMany) m_fewest_8 (nI m_size) mn a_stands_155 mp_10 mo_11 mc_12 me_13) → va_S A s.heap H locs → lv_has ls 7 [(6, .int (nI k)), (5, .int (nI t_4)), (4, .int (nI w_1)), (0, .ref m0), (1, .int 0), (2, .int (nI U)), (3, .int (nI ra))] → W p l e ({ frames := 9, cells := 0, slots := 0, locals := 540 } : Room) s m [.ref m0, .int 0, .int (nI U), .int (nI ra)].toArray below meth c H locs 0 0 (MQ below (va_Qv (fun (u : va_W) => ∃ (m_fewest' : Int32) (ms' : Nat → Int32) (mp' : Nat → Int32) (mo' : Nat → Int32) (mc' : Nat → Int32) (me' : Nat → Int32), u = (wl_kf_X9_triesBits_0 cI cJ cK m0 a_row a_tape a_number a_read a_readBits a_stands a_parted a_bitsWere a_stood a_chosen a_bestChosen a_often a_sorted a_risen a_risenWays m_thrown (nI m_told) (nI m_taped) (nI m_at) (nI m_to) (nI m_many) (nI m_readMany) m_fewest' (nI m_size) mn ms' mp' mo' mc' me') ∧ RB 0 63 ms' ∧ RB 0 63 mp' ∧ RB 0 63 mo' ∧ fwR m_fewest' (min F (ra + tT m_many 8 (vG mn ms) (uS U))) ∧ (∀ i, i < m_many → ms' i = ms i) ∧ (∀ q, q < 0 → mo' q = mo q)) (my_B D (tyIJ cI cJ cK) A) A) [.ref m0, .int 0, .int (nI U), .int (nI ra)].toArray s 0 0 A) (F0 m 155 ls []) := by
                      intro n9
                      induction n9 with
                      | zero =>
                        intro k a_stands_155 hn9
                        exact absurd hn9 (Nat.not_lt_zero _)
                      | succ n9 ih155 =>
                        intro k a_stands_155 hn9 hk_k hkm hrs hR_a_stands_155 H locs ls hP hD hS hl
                        refine lv_iload hx hb dX9_triesBits_155 (lv_at hl 0 rfl) ?_
                        refine lv_aload_n hx hb dX9_triesBits_157 rfl (lv_at hl 3 rfl) ?_
                        refine va_get (ci := 9) (v := .int (nI m_many)) (C := RX9) (T := TX9) (N := 24) hx hb hts hi9 hown hK hP 0 rfl rfl 7 (by decide) fl88 (fun _ h9 => h9) rfl dX9_triesBits_158 ?_
                        refine lv_icmp_ge (tgt := 189) hx hb dX9_triesBits_161 (by decide) (fun c161 => ?_) (fun c161 => ?_)
                        ·
                          have d161 : ((k : Nat) : Int) ≥ ((m_many : Nat) : Int) := my_ge c161 (nI_toInt (by omega)) (nI_toInt (by omega))
                          obtain ⟨z_14, ez_14⟩ : ∃ y : Int32, y = nI w_1 + (-1) := ⟨_, rfl⟩
                          try have tz_14 : z_14.toInt = ((w_1 : Nat) : Int) + (-1) := by rw [ez_14]; exact my_addI (nI_toInt (by omega)) (by decide +kernel) (by omega) (by omega)
                          refine lv_iinc (v := z_14) (lv' := [(4, .int z_14), (6, .int (nI k)), (5, .int (nI t_4)), (0, .ref m0), (1, .int 0), (2, .int (nI U)), (3, .int (nI ra))]) hx hb dX9_triesBits_189 hl (k := 2) rfl (by rw [ez_14]; rfl) (by decide) rfl (fun ls hl => ?_)
                          refine lv_goto (tgt := 99) hx hb dX9_triesBits_192 (by decide) ?_
                          exact ih99  z_14 m_fewest_8 a_stands_155 mp_10 mo_11 mc_12 me_13 (by omega) (by first | assumption | omega | decide +kernel) (by first | assumption | omega | decide +kernel) (by first | exact th_skip hfw2 (by omega) (by omega) (by omega) (su_f d110 (by omega)) | exact th_done hfw1 (by omega) (by omega) (by omega) (su_t d110 (by omega)) (th_take (by omega) (by omega) hU hst2 hpt hrn)) (by first | exact hst2 | exact fun i hi => hrs i (by omega)) (by first | exact hso2 | exact fun i hi => (hso1 _ (by omega)).trans (hso2 i hi)) (by first | exact hso3 | exact fun q hq => (hso1 q (by omega)).trans (hso3 q hq)) hR_a_stands_155 hR_mp_10 hR_mo_11 _ _ ls hP hD hS (lv_sub hl [0, 3, 4, 5, 6] rfl)
                        ·
                          have d161 : ((k : Nat) : Int) < ((m_many : Nat) : Int) := my_nge c161 (nI_toInt (by omega)) (nI_toInt (by omega))
                          refine lv_aload_n hx hb dX9_triesBits_164 rfl (lv_at hl 3 rfl) ?_
                          refine va_get (ci := 9) (v := .ref a_stands) (C := RX9) (T := TX9) (N := 24) hx hb hts hi9 hown hK hP 0 rfl rfl 12 (by decide) fl58 (fun _ h9 => h9) rfl dX9_triesBits_165 ?_
                          refine lv_iload hx hb dX9_triesBits_168 (lv_at hl 0 rfl) ?_
                          refine lv_aload_n hx hb dX9_triesBits_170 rfl (lv_at hl 3 rfl) ?_
                          refine va_get (ci := 9) (v := .ref a_stood) (C := RX9) (T := TX9) (N := 24) hx hb hts hi9 hown hK hP 0 rfl rfl 15 (by decide) fl67 (fun _ h9 => h9) rfl dX9_triesBits_171 ?_
                          refine lv_bipush (v := 64) hx hb dX9_triesBits_174 (by decide +kernel) ?_
                          refine lv_iload_n hx hb dX9_triesBits_176 rfl (lv_at hl 4 rfl) ?_
                          refine lv_imul hx hb dX9_triesBits_177 ?_
                          refine my_eqi (y := 0) (by decide +kernel) ?_
                          refine lv_iload hx hb dX9_triesBits_178 (lv_at hl 0 rfl) ?_
                          refine lv_iadd hx hb dX9_triesBits_180 ?_
                          refine my_eqi (y := nI k) (my_addN2 k 0) ?_
                          refine va_iald hx hb hK hP 4 0 rfl rfl (vp_in_nI (by omega) (by omega)) dX9_triesBits_181 ?_
                          refine my_eqi (y := mo_11 k) (congrArg mo_11 (nI_clamp (by omega))) ?_
                          have hb_15 := hR_mo_11 k
                          refine va_iast hx hb hK hP hD hS 2 0 rfl rfl (vp_in_nI (by omega) (by omega)) dX9_triesBits_182 (fun H locs hP hD hS => ?_)
                          obtain ⟨g_16, eg_16⟩ : ∃ g : Nat → Int32, g = upd a_stands_155 k (mo_11 k) := ⟨_, rfl⟩
                          have eU : upd a_stands_155 (nI k : Int32).toNatClampNeg (mo_11 k) = g_16 := by rw [eg_16, show (nI k : Int32).toNatClampNeg = k from nI_clamp (by omega)]
                          rw [eU] at hP hD
                          have hR_g_16 : RB 0 63 g_16 := by rw [eg_16]; exact hR_a_stands_155.upd rfl (by omega) (by omega)
                          have hP : va_P D vwCl (wl_kf_X9_triesBits_0 cI cJ cK m0 a_row a_tape a_number a_read a_readBits a_stands a_parted a_bitsWere a_stood a_chosen a_bestChosen a_often a_sorted a_risen a_risenWays m_thrown (nI m_told) (nI m_taped) (nI m_at) (nI m_to) (nI m_many) (nI m_readMany) m_fewest_8 (nI m_size) mn g_16 mp_10 mo_11 mc_12 me_13) H := hP
                          have hD : va_D A (wl_kf_X9_triesBits_0 cI cJ cK m0 a_row a_tape a_number a_read a_readBits a_stands a_parted a_bitsWere a_stood a_chosen a_bestChosen a_often a_sorted a_risen a_risenWays m_thrown (nI m_told) (nI m_taped) (nI m_at) (nI m_to) (nI m_many) (nI m_readMany) m_fewest_8 (nI m_size) mn g_16 mp_10 mo_11 mc_12 me_13) := hD
                          refine lv_iinc (v := nI (k + 1)) (lv' := [(6, .int (nI (k + 1))), (5, .int (nI t_4)), (4, .int (nI w_1)), (0, .ref m0), (1, .int 0), (2, .int (nI U)), (3, .int (nI ra))]) hx hb dX9_triesBits_183 hl (k := 0) rfl (my_incN k 1 (by decide +kernel)) (by decide) rfl (fun ls hl => ?_)
                          refine lv_goto (tgt := 155) hx hb dX9_triesBits_186 (by decide) ?_
                          exact ih155  (k + 1) g_16 (by omega) (by first | assumption | omega | decide +kernel) (by first | assumption | omega | decide +kernel) (nv_step (F := ms) (by assumption) ((hso1 _ (by omega)).trans (hso2 k (by omega))) hrs) hR_g_16 _ _ ls hP hD hS (lv_sub hl [0, 1, 2, 3, 4, 5, 6] rfl)
                    exact loop155 ((64 - 0) + 1) 0 ms_9 (Nat.lt_succ_self _) (by first | assumption | omega | decide +kernel) (by first | assumption | omega | decide +kernel) (fun i h => absurd h (Nat.not_lt_zero i)) hR_ms_9 _ _ ls hP hD hS (lv_sub hl [0, 1, 2, 3, 4, 5, 6] rfl)
            have ec_17 : (7 : Int32).toInt = 7 := by decide +kernel
            exact loop99 ((((7 : Int32).toInt + 1).toNat) + 1) (7 : Int32) m_fewest ms mp a_stood_61 mc me (Nat.lt_succ_self _) (by first | assumption | omega | decide +kernel) (by first | assumption | omega | decide +kernel) (th_0 hfw) (fun _ _ => rfl) (fun i hi => hs61 i (by omega)) (hs62) hR_ms hR_mp hR_a_stood_61 _ _ ls hP hD hS (lv_sub hl [0, 1, 2, 3, 4] rfl)
          ·
            have d67 : ((k : Nat) : Int) < ((m_many : Nat) : Int) := my_nge c67 (nI_toInt (by omega)) (nI_toInt (by omega))
            refine lv_aload_n hx hb dX9_triesBits_70 rfl (lv_at hl 1 rfl) ?_
            refine va_get (ci := 9) (v := .ref a_stood) (C := RX9) (T := TX9) (N := 24) hx hb hts hi9 hown hK hP 0 rfl rfl 15 (by decide) fl67 (fun _ h9 => h9) rfl dX9_triesBits_71 ?_
            refine lv_bipush (v := 64) hx hb dX9_triesBits_74 (by decide +kernel) ?_
            refine lv_iload_n hx hb dX9_triesBits_76 rfl (lv_at hl 2 rfl) ?_
            refine lv_imul hx hb dX9_triesBits_77 ?_
            refine my_eqi (y := 0) (by decide +kernel) ?_
            refine lv_iload hx hb dX9_triesBits_78 (lv_at hl 0 rfl) ?_
            refine lv_iadd hx hb dX9_triesBits_80 ?_
            refine my_eqi (y := nI k) (my_addN2 k 0) ?_
            refine lv_aload_n hx hb dX9_triesBits_81 rfl (lv_at hl 1 rfl) ?_
            refine va_get (ci := 9) (v := .ref a_stands) (C := RX9) (T := TX9) (N := 24) hx hb hts hi9 hown hK hP 0 rfl rfl 12 (by decide) fl58 (fun _ h9 => h9) rfl dX9_triesBits_82 ?_
            refine lv_iload hx hb dX9_triesBits_85 (lv_at hl 0 rfl) ?_
            refine va_iald hx hb hK hP 2 0 rfl rfl (vp_in_nI (by omega) (by omega)) dX9_triesBits_87 ?_
            refine my_eqi (y := ms k) (congrArg ms (nI_clamp (by omega))) ?_
            have hb_18 := hR_ms k
            refine va_iast hx hb hK hP hD hS 4 0 rfl rfl (vp_in_nI (by omega) (by omega)) dX9_triesBits_88 (fun H locs hP hD hS => ?_)
            obtain ⟨g_19, eg_19⟩ : ∃ g : Nat → Int32, g = upd a_stood_61 k (ms k) := ⟨_, rfl⟩
            have eU : upd a_stood_61 (nI k : Int32).toNatClampNeg (ms k) = g_19 := by rw [eg_19, show (nI k : Int32).toNatClampNeg = k from nI_clamp (by omega)]
            rw [eU] at hP hD
            have hR_g_19 : RB 0 63 g_19 := by rw [eg_19]; exact hR_a_stood_61.upd rfl (by omega) (by omega)
            have hP : va_P D vwCl (wl_kf_X9_triesBits_0 cI cJ cK m0 a_row a_tape a_number a_read a_readBits a_stands a_parted a_bitsWere a_stood a_chosen a_bestChosen a_often a_sorted a_risen a_risenWays m_thrown (nI m_told) (nI m_taped) (nI m_at) (nI m_to) (nI m_many) (nI m_readMany) m_fewest (nI m_size) mn ms mp g_19 mc me) H := hP
            have hD : va_D A (wl_kf_X9_triesBits_0 cI cJ cK m0 a_row a_tape a_number a_read a_readBits a_stands a_parted a_bitsWere a_stood a_chosen a_bestChosen a_often a_sorted a_risen a_risenWays m_thrown (nI m_told) (nI m_taped) (nI m_at) (nI m_to) (nI m_many) (nI m_readMany) m_fewest (nI m_size) mn ms mp g_19 mc me) := hD
            refine lv_iinc (v := nI (k + 1)) (lv' := [(4, .int (nI (k + 1))), (0, .ref m0), (1, .int 0), (2, .int (nI U)), (3, .int (nI ra))]) hx hb dX9_triesBits_89 hl (k := 0) rfl (my_incN k 1 (by decide +kernel)) (by decide) rfl (fun ls hl => ?_)
            refine lv_goto (tgt := 61) hx hb dX9_triesBits_92 (by decide) ?_
            exact ih61  (k + 1) g_19 (by omega) (by first | assumption | omega | decide +kernel) (by first | assumption | omega | decide +kernel) (th_s1 (a := 0) (by assumption) rfl hs61) (th_s2 (a := 0) (by assumption) (by omega) hs62) hR_g_19 _ _ ls hP hD hS (lv_sub hl [0, 1, 2, 3, 4] rfl)
      exact loop61 ((64 - 0) + 1) 0 mo (Nat.lt_succ_self _) (by first | assumption | omega | decide +kernel) (by first | assumption | omega | decide +kernel) (fun i h => absurd h (Nat.not_lt_zero i)) (fun _ _ => rfl) hR_mo _ _ ls hP hD hS (lv_sub hl [0, 1, 2, 3, 4] rfl)
    ·
      exact absurd c19 (by decide +kernel)
  refine lv_aload_n hx hb dX9_triesBits_0 rfl (lv_at hl 0 rfl) ?_
  refine va_get (ci := 9) (v := .int m_fewest) (C := RX9) (T := TX9) (N := 24) hx hb hts hi9 hown hK hP 0 rfl rfl 18 (by decide) fl162 (fun _ h9 => h9) rfl dX9_triesBits_1 ?_
  refine lv_if_lt (tgt := 16) hx hb dX9_triesBits_4 (by decide) (fun c4 => ?_) (fun c4 => ?_)
  ·
    have d4 : m_fewest.toInt < (0 : Int) := my_lt c4 rfl (by decide +kernel)
    exact cut16  _ _ ls hP hD hS hl
  ·
    have d4 : m_fewest.toInt ≥ (0 : Int) := my_nlt c4 rfl (by decide +kernel)
    refine lv_iload_n hx hb dX9_triesBits_7 rfl (lv_at hl 3 rfl) ?_
    refine lv_aload_n hx hb dX9_triesBits_8 rfl (lv_at hl 0 rfl) ?_
    refine va_get (ci := 9) (v := .int m_fewest) (C := RX9) (T := TX9) (N := 24) hx hb hts hi9 hown hK hP 0 rfl rfl 18 (by decide) fl162 (fun _ h9 => h9) rfl dX9_triesBits_9 ?_
    refine lv_icmp_lt (tgt := 16) hx hb dX9_triesBits_12 (by decide) (fun c12 => ?_) (fun c12 => ?_)
    ·
      have d12 : ((ra : Nat) : Int) < m_fewest.toInt := my_lt c12 (nI_toInt (by omega)) rfl
      exact cut16  _ _ ls hP hD hS hl
    ·
      have d12 : ((ra : Nat) : Int) ≥ m_fewest.toInt := my_nlt c12 (nI_toInt (by omega)) rfl
      exact my_retV hx hb hr hlocks hK hS (wl_kf_X9_triesBits_0 cI cJ cK m0 a_row a_tape a_number a_read a_readBits a_stands a_parted a_bitsWere a_stood a_chosen a_bestChosen a_often a_sorted a_risen a_risenWays m_thrown (nI m_told) (nI m_taped) (nI m_at) (nI m_to) (nI m_many) (nI m_readMany) m_fewest (nI m_size) mn ms mp mo mc me) hP hD (⟨m_fewest, ms, mp, mo, mc, me, rfl, hR_ms, hR_mp, hR_mo, (by first | exact th_end hfw2 (by omega) | exact th_prune hfw (by omega) (by omega)), (by first | exact hst2 | exact fun _ _ => rfl), (by first | exact hso3 | exact fun _ _ => rfl)⟩) dX9_triesBits_15
abbrev wl_k_X9_thrift (cI cJ cK : ClassId) (m0 : Nat) (a_row : Nat) (a_tape : Nat) (a_number : Nat) (a_read : Nat) (a_readBits : Nat) (a_stands : Nat) (a_parted : Nat) (a_bitsWere : Nat) (a_stood : Nat) (a_chosen : Nat) (a_bestChosen : Nat) (a_often : Nat) (a_sorted : Nat) (a_risen : Nat) (a_risenWays : Nat) (v0_ : Int32) (v1_ : Int32) (v2_ : Int32) (v3_ : Int32) (v4_ : Int32) (v5_ : Int32) (v6_ : Int32) (v7_ : Int32) (v8_ : Int32) (v9_ : Nat → Int32) (v10_ : Nat → Int32) (v11_ : Nat → Int32) (v12_ : Nat → Int32) (v13_ : Nat → Int32) (v14_ : Nat → Int32) (v15_ : Nat → Int64) : va_W := [(m0, .inr (9, [.int v0_, .int v1_, .ref a_row, .ref a_tape, .int v2_, .int v3_, .int v4_, .int v5_, .ref a_number, .ref a_read, .int v6_, .ref a_readBits, .ref a_stands, .ref a_parted, .ref a_bitsWere, .ref a_stood, .ref a_chosen, .ref a_bestChosen, .int v7_, .ref a_often, .ref a_sorted, .int v8_, .ref a_risen, .ref a_risenWays])), (a_number, .inl (cI, 64, .inl v9_)), (a_stands, .inl (cI, 64, .inl v10_)), (a_parted, .inl (cI, 64, .inl v11_)), (a_stood, .inl (cI, 512, .inl v12_)), (a_chosen, .inl (cI, 8, .inl v13_)), (a_bestChosen, .inl (cI, 8, .inl v14_)), (a_row, .inl (cJ, 64, .inr (.inl v15_)))]
set_option maxHeartbeats 4000000 in
set_option maxRecDepth 100000 in
theorem k_X9_thrift (l : Launch) (D : va_G) (cI cJ cK : ClassId) (m0 : Nat) (a_row : Nat) (a_tape : Nat) (a_number : Nat) (a_read : Nat) (a_readBits : Nat) (a_stands : Nat) (a_parted : Nat) (a_bitsWere : Nat) (a_stood : Nat) (a_chosen : Nat) (a_bestChosen : Nat) (a_often : Nat) (a_sorted : Nat) (a_risen : Nat) (a_risenWays : Nat) (m_thrown : Int32) (m_told : Nat) (m_taped : Nat) (m_at : Nat) (m_to : Nat) (m_many : Nat) (m_readMany : Nat) (m_fewest : Int32) (m_size : Nat) (mn : Nat → Int32) (ms : Nat → Int32) (mp : Nat → Int32) (mo : Nat → Int32) (mc : Nat → Int32) (me : Nat → Int32) (mr : Nat → Int64) (hz_m_told : m_told ≤ 64) (hz_m_taped : m_taped ≤ 100) (hz_m_at : m_at ≤ 100) (hz_m_to : m_to ≤ 100) (hz_m_many : m_many ≤ 64) (hz_m_readMany : m_readMany ≤ 64) (hz_m_size : m_size ≤ 64) (hR_mn : RB 0 255 mn) (hR_ms : RB 0 63 ms) (hR_mp : RB 0 63 mp) (hR_mo : RB 0 63 mo) : ctI l yX9_thrift wsX9_thrift ({ frames := 10, cells := 0, slots := 0, locals := 600 } : Room) D (tyIJ cI cJ cK) [.ref m0] (wl_k_X9_thrift cI cJ cK m0 a_row a_tape a_number a_read a_readBits a_stands a_parted a_bitsWere a_stood a_chosen a_bestChosen a_often a_sorted a_risen a_risenWays m_thrown (nI m_told) (nI m_taped) (nI m_at) (nI m_to) (nI m_many) (nI m_readMany) m_fewest (nI m_size) mn ms mp mo mc me mr) (fun (r : Int32) (u : va_W) => ∃ (m_thrown' : Int32) (m_told' : Nat) (m_fewest' : Int32) (ms' : Nat → Int32) (mp' : Nat → Int32) (mo' : Nat → Int32) (mc' : Nat → Int32) (me' : Nat → Int32) (mr' : Nat → Int64), u = (wl_k_X9_thrift cI cJ cK m0 a_row a_tape a_number a_read a_readBits a_stands a_parted a_bitsWere a_stood a_chosen a_bestChosen a_often a_sorted a_risen a_risenWays m_thrown' (nI m_told') (nI m_taped) (nI m_at) (nI m_to) (nI m_many) (nI m_readMany) m_fewest' (nI m_size) mn ms' mp' mo' mc' me' mr') ∧ m_told' ≤ 64 ∧ RB 0 63 ms' ∧ RB 0 63 mp' ∧ RB 0 63 mo' ∧ r = nI (thF mn m_many) ∧ True ∧ m_told' = 8) := by
  refine ctI.of (cc := cX9_thrift) (maxL := 2) (ret := (some .int)) (by decide) rfl (Nat.le_of_ble_eq_true rfl) ?_
  intro p e s m below meth c ls A hx hb hr hts hown hml hlocks hname hA hK hN hP hD hS hl
  have hl : lv_has ls 2 [(0, .ref m0)] := hl
  have hown : s.vm.findClass RX9 = some m.cls := hown
  have hi9 : ∀ w ∈ u_ws RX9 TX9 24, w ∈ wsX9_thrift := by decide +kernel
  have fl1 := hts (.fieldLink RX9 1 "PlaneColumnModel" "thrown" "I") (by decide +kernel)
  have fl11 := hts (.fieldLink RX9 11 "PlaneColumnModel" "told" "I") (by decide +kernel)
  have fl162 := hts (.fieldLink RX9 162 "PlaneColumnModel" "fewest" "I") (by decide +kernel)
  have fl73 := hts (.fieldLink RX9 73 "PlaneColumnModel" "bestChosen" "[I") (by decide +kernel)
  refine lv_aload_n hx hb dX9_thrift_0 rfl (lv_at hl 0 rfl) ?_
  refine lv_iconst (v := 0) hx hb dX9_thrift_1 (by decide +kernel) ?_
  refine va_put (ci := 9) (v := .int 0) (ty := (.int)) (C := RX9) (T := TX9) (N := 24) hx hb hts hi9 tyX9 tyX9_ok nmX9 hown hK hP hD hS 0 rfl rfl 0 (by decide) fl1 (fun _ h9 => h9) rfl (by decide +kernel) rfl rfl (Nat.le_of_ble_eq_true rfl) dX9_thrift_2 (fun H locs hP hD hS => ?_)
  have hP : va_P D vwCl (wl_k_X9_thrift cI cJ cK m0 a_row a_tape a_number a_read a_readBits a_stands a_parted a_bitsWere a_stood a_chosen a_bestChosen a_often a_sorted a_risen a_risenWays 0 (nI m_told) (nI m_taped) (nI m_at) (nI m_to) (nI m_many) (nI m_readMany) m_fewest (nI m_size) mn ms mp mo mc me mr) H := hP
  have hD : va_D A (wl_k_X9_thrift cI cJ cK m0 a_row a_tape a_number a_read a_readBits a_stands a_parted a_bitsWere a_stood a_chosen a_bestChosen a_often a_sorted a_risen a_risenWays 0 (nI m_told) (nI m_taped) (nI m_at) (nI m_to) (nI m_many) (nI m_readMany) m_fewest (nI m_size) mn ms mp mo mc me mr) := hD
  refine lv_aload_n hx hb dX9_thrift_5 rfl (lv_at hl 0 rfl) ?_
  refine my_goVS (wc := (wl_k_X9_begins cI cJ cK m0 a_row a_tape a_number a_read a_readBits a_stands a_parted a_bitsWere a_stood a_chosen a_bestChosen a_often a_sorted a_risen a_risenWays 0 (nI m_told) (nI m_taped) (nI m_at) (nI m_to) (nI m_many) (nI m_readMany) m_fewest (nI m_size) ms)) hP hD hS hA [0, 2] rfl [some 0, none, some 1] (by decide +kernel) (my_cV (As := []) (rest := []) (ci := 9) (wc := (wl_k_X9_begins cI cJ cK m0 a_row a_tape a_number a_read a_readBits a_stands a_parted a_bitsWere a_stood a_chosen a_bestChosen a_often a_sorted a_risen a_risenWays 0 (nI m_told) (nI m_taped) (nI m_at) (nI m_to) (nI m_many) (nI m_readMany) m_fewest (nI m_size) ms)) ⟨hx, hb, hml, hown, hts⟩ (cwV 0 hts gX9_thrift_X9_begins rfl rfl rfl (by decide +kernel) ⟨Nat.le_of_ble_eq_true rfl, Nat.le_of_ble_eq_true rfl⟩) hN hK hP hD [0, 2] rfl (by decide) rfl 0 rfl rfl rfl rfl hl.1 rfl (Nat.le_of_ble_eq_true rfl) dX9_thrift_6 ⟨Nat.le_of_ble_eq_true rfl, Nat.le_of_ble_eq_true rfl⟩  ((k_X9_begins l D cI cJ cK m0 a_row a_tape a_number a_read a_readBits a_stands a_parted a_bitsWere a_stood a_chosen a_bestChosen a_often a_sorted a_risen a_risenWays (0 : Int32) m_told m_taped m_at m_to m_many m_readMany m_fewest m_size ms (by first | assumption | omega | decide +kernel) (by first | assumption | omega | decide +kernel) (by first | assumption | omega | decide +kernel) (by first | assumption | omega | decide +kernel) (by first | assumption | omega | decide +kernel) (by first | assumption | omega | decide +kernel) (by first | assumption | omega | decide +kernel) hR_ms) _)) (fun u H locs hp hPD hS => ?_)
  obtain ⟨ms_1, rfl, hR_ms_1, hst⟩ := hp
  obtain ⟨hP, hD⟩ := hPD rfl
  have hP : va_P D vwCl (wl_k_X9_thrift cI cJ cK m0 a_row a_tape a_number a_read a_readBits a_stands a_parted a_bitsWere a_stood a_chosen a_bestChosen a_often a_sorted a_risen a_risenWays 0 (nI m_told) (nI m_taped) (nI m_at) (nI m_to) (nI m_many) (nI m_readMany) m_fewest (nI m_size) mn ms_1 mp mo mc me mr) H := hP
  have hD : va_D A (wl_k_X9_thrift cI cJ cK m0 a_row a_tape a_number a_read a_readBits a_stands a_parted a_bitsWere a_stood a_chosen a_bestChosen a_often a_sorted a_risen a_risenWays 0 (nI m_told) (nI m_taped) (nI m_at) (nI m_to) (nI m_many) (nI m_readMany) m_fewest (nI m_size) mn ms_1 mp mo mc me mr) := hD
  refine lv_aload_n hx hb dX9_thrift_9 rfl (lv_at hl 0 rfl) ?_
  refine lv_iconst (v := (-1)) hx hb dX9_thrift_10 (by decide +kernel) ?_
  refine va_put (ci := 9) (v := .int (-1)) (ty := (.int)) (C := RX9) (T := TX9) (N := 24) hx hb hts hi9 tyX9 tyX9_ok nmX9 hown hK hP hD hS 0 rfl rfl 18 (by decide) fl162 (fun _ h9 => h9) rfl (by decide +kernel) rfl rfl (Nat.le_of_ble_eq_true rfl) dX9_thrift_11 (fun H locs hP hD hS => ?_)
  have hP : va_P D vwCl (wl_k_X9_thrift cI cJ cK m0 a_row a_tape a_number a_read a_readBits a_stands a_parted a_bitsWere a_stood a_chosen a_bestChosen a_often a_sorted a_risen a_risenWays 0 (nI m_told) (nI m_taped) (nI m_at) (nI m_to) (nI m_many) (nI m_readMany) (-1) (nI m_size) mn ms_1 mp mo mc me mr) H := hP
  have hD : va_D A (wl_k_X9_thrift cI cJ cK m0 a_row a_tape a_number a_read a_readBits a_stands a_parted a_bitsWere a_stood a_chosen a_bestChosen a_often a_sorted a_risen a_risenWays 0 (nI m_told) (nI m_taped) (nI m_at) (nI m_to) (nI m_many) (nI m_readMany) (-1) (nI m_size) mn ms_1 mp mo mc me mr) := hD
  refine lv_aload_n hx hb dX9_thrift_14 rfl (lv_at hl 0 rfl) ?_
  refine lv_iconst (v := 0) hx hb dX9_thrift_15 (by decide +kernel) ?_
  refine lv_iconst (v := 0) hx hb dX9_thrift_16 (by decide +kernel) ?_
  refine lv_iconst (v := 0) hx hb dX9_thrift_17 (by decide +kernel) ?_
  refine my_goVS (wc := (wl_kf_X9_triesBits_0 cI cJ cK m0 a_row a_tape a_number a_read a_readBits a_stands a_parted a_bitsWere a_stood a_chosen a_bestChosen a_often a_sorted a_risen a_risenWays 0 (nI m_told) (nI m_taped) (nI m_at) (nI m_to) (nI m_many) (nI m_readMany) (-1) (nI m_size) mn ms_1 mp mo mc me)) hP hD hS hA [0, 1, 2, 3, 4, 5, 6] rfl [some 0, some 1, some 2, some 3, some 4, some 5, some 6] (by decide +kernel) (my_cV (As := [.int 0, .int 0, .int 0]) (rest := []) (ci := 9) (wc := (wl_kf_X9_triesBits_0 cI cJ cK m0 a_row a_tape a_number a_read a_readBits a_stands a_parted a_bitsWere a_stood a_chosen a_bestChosen a_often a_sorted a_risen a_risenWays 0 (nI m_told) (nI m_taped) (nI m_at) (nI m_to) (nI m_many) (nI m_readMany) (-1) (nI m_size) mn ms_1 mp mo mc me)) ⟨hx, hb, hml, hown, hts⟩ (cwV 3 hts gX9_thrift_X9_triesBits rfl rfl rfl (by decide +kernel) ⟨Nat.le_of_ble_eq_true rfl, Nat.le_of_ble_eq_true rfl⟩) hN hK hP hD [0, 1, 2, 3, 4, 5, 6] rfl (by decide) rfl 0 rfl rfl rfl rfl hl.1 rfl (Nat.le_of_ble_eq_true rfl) dX9_thrift_18 ⟨Nat.le_of_ble_eq_true rfl, Nat.le_of_ble_eq_true rfl⟩  ((kf_X9_triesBits_0 l D cI cJ cK m0 a_row a_tape a_number a_read a_readBits a_stands a_parted a_bitsWere a_stood a_chosen a_bestChosen a_often a_sorted a_risen a_risenWays (0 : Int32) m_told m_taped m_at m_to m_many m_readMany (-1 : Int32) m_size mn ms_1 mp mo mc me 0 0 100000 (by first | assumption | omega | decide +kernel) (by first | assumption | omega | decide +kernel) (by first | assumption | omega | decide +kernel) (by first | assumption | omega | decide +kernel) (by first | assumption | omega | decide +kernel) (by first | assumption | omega | decide +kernel) (by first | assumption | omega | decide +kernel) hR_mn hR_ms_1 hR_mp hR_mo (by first | assumption | omega | decide +kernel) (by first | assumption | omega | decide +kernel) (Or.inl ⟨by decide +kernel, rfl⟩)) _)) (fun u H locs hp hPD hS => ?_)
  obtain ⟨m_fewest_2, ms_3, mp_4, mo_5, mc_6, me_7, rfl, hR_ms_3, hR_mp_4, hR_mo_5, hfw1, hst1, hso1⟩ := hp
  obtain ⟨hP, hD⟩ := hPD rfl
  have hP : va_P D vwCl (wl_k_X9_thrift cI cJ cK m0 a_row a_tape a_number a_read a_readBits a_stands a_parted a_bitsWere a_stood a_chosen a_bestChosen a_often a_sorted a_risen a_risenWays 0 (nI m_told) (nI m_taped) (nI m_at) (nI m_to) (nI m_many) (nI m_readMany) m_fewest_2 (nI m_size) mn ms_3 mp_4 mo_5 mc_6 me_7 mr) H := hP
  have hD : va_D A (wl_k_X9_thrift cI cJ cK m0 a_row a_tape a_number a_read a_readBits a_stands a_parted a_bitsWere a_stood a_chosen a_bestChosen a_often a_sorted a_risen a_risenWays 0 (nI m_told) (nI m_taped) (nI m_at) (nI m_to) (nI m_many) (nI m_readMany) m_fewest_2 (nI m_size) mn ms_3 mp_4 mo_5 mc_6 me_7 mr) := hD
  refine lv_aload_n hx hb dX9_thrift_21 rfl (lv_at hl 0 rfl) ?_
  refine lv_iconst (v := 0) hx hb dX9_thrift_22 (by decide +kernel) ?_
  refine va_put (ci := 9) (v := .int 0) (ty := (.int)) (C := RX9) (T := TX9) (N := 24) hx hb hts hi9 tyX9 tyX9_ok nmX9 hown hK hP hD hS 0 rfl rfl 1 (by decide) fl11 (fun _ h9 => h9) rfl (by decide +kernel) rfl rfl (Nat.le_of_ble_eq_true rfl) dX9_thrift_23 (fun H locs hP hD hS => ?_)
  have hP : va_P D vwCl (wl_k_X9_thrift cI cJ cK m0 a_row a_tape a_number a_read a_readBits a_stands a_parted a_bitsWere a_stood a_chosen a_bestChosen a_often a_sorted a_risen a_risenWays 0 0 (nI m_taped) (nI m_at) (nI m_to) (nI m_many) (nI m_readMany) m_fewest_2 (nI m_size) mn ms_3 mp_4 mo_5 mc_6 me_7 mr) H := hP
  have hD : va_D A (wl_k_X9_thrift cI cJ cK m0 a_row a_tape a_number a_read a_readBits a_stands a_parted a_bitsWere a_stood a_chosen a_bestChosen a_often a_sorted a_risen a_risenWays 0 0 (nI m_taped) (nI m_at) (nI m_to) (nI m_many) (nI m_readMany) m_fewest_2 (nI m_size) mn ms_3 mp_4 mo_5 mc_6 me_7 mr) := hD
  refine lv_iconst (v := 0) hx hb dX9_thrift_26 (by decide +kernel) ?_
  refine lv_istore_n (lv' := [(1, .int 0), (0, .ref m0)]) hx hb dX9_thrift_27 rfl hl (by decide) rfl (fun ls hl => ?_)
  have loop28 : ∀ (n9 : Nat) (k : Nat) (m0_told_28 : Nat) (a_row_28 : Nat → Int64), 8 - k < n9 → (k ≤ 8) → (m0_told_28 = k) → (m0_told_28 ≤ 64) → ∀ (H : Heap) (locs : List Loc) (ls : Array Slot), va_P D vwCl (wl_k_X9_thrift cI cJ cK m0 a_row a_tape a_number a_read a_readBits a_stands a_parted a_bitsWere a_stood a_chosen a_bestChosen a_often a_sorted a_risen a_risenWays 0 (nI m0_told_28) (nI m_taped) (nI m_at) (nI m_to) (nI m_many) (nI m_readMany) m_fewest_2 (nI m_size) mn ms_3 mp_4 mo_5 mc_6 me_7 a_row_28) H → va_D A (wl_k_X9_thrift cI cJ cK m0 a_row a_tape a_number a_read a_readBits a_stands a_parted a_bitsWere a_stood a_chosen a_bestChosen a_often a_sorted a_risen a_risenWays 0 (nI m0_told_28) (nI m_taped) (nI m_at) (nI m_to) (nI m_many) (nI m_readMany) m_fewest_2 (nI m_size) mn ms_3 mp_4 mo_5 mc_6 me_7 a_row_28) → va_S A s.heap H locs → lv_has ls 2 [(1, .int (nI k)), (0, .ref m0)] → W p l e ({ frames := 10, cells := 0, slots := 0, locals := 600 } : Room) s m [.ref m0].toArray below meth c H locs 0 0 (MQ below (va_Qi (fun (r : Int32) (u : va_W) => ∃ (m_thrown' : Int32) (m_told' : Nat) (m_fewest' : Int32) (ms' : Nat → Int32) (mp' : Nat → Int32) (mo' : Nat → Int32) (mc' : Nat → Int32) (me' : Nat → Int32) (mr' : Nat → Int64), u = (wl_k_X9_thrift cI cJ cK m0 a_row a_tape a_number a_read a_readBits a_stands a_parted a_bitsWere a_stood a_chosen a_bestChosen a_often a_sorted a_risen a_risenWays m_thrown' (nI m_told') (nI m_taped) (nI m_at) (nI m_to) (nI m_many) (nI m_readMany) m_fewest' (nI m_size) mn ms' mp' mo' mc' me' mr') ∧ m_told' ≤ 64 ∧ RB 0 63 ms' ∧ RB 0 63 mp' ∧ RB 0 63 mo' ∧ r = nI (thF mn m_many) ∧ True ∧ m_told' = 8) (my_B D (tyIJ cI cJ cK) A) A) [.ref m0].toArray s 0 0 A) (F0 m 28 ls []) := by
    intro n9
    induction n9 with
    | zero =>
      intro k m0_told_28 a_row_28 hn9
      exact absurd hn9 (Nat.not_lt_zero _)
    | succ n9 ih28 =>
      intro k m0_told_28 a_row_28 hn9 hk_k ht hz_m0_told_28 H locs ls hP hD hS hl
      refine lv_iload_n hx hb dX9_thrift_28 rfl (lv_at hl 0 rfl) ?_
      refine lv_bipush (v := 8) hx hb dX9_thrift_29 (by decide +kernel) ?_
      refine lv_icmp_ge (tgt := 51) hx hb dX9_thrift_31 (by decide) (fun c31 => ?_) (fun c31 => ?_)
      ·
        have d31 : ((k : Nat) : Int) ≥ (8 : Int) := my_ge c31 (nI_toInt (by omega)) (by decide +kernel)
        refine lv_aload_n hx hb dX9_thrift_51 rfl (lv_at hl 1 rfl) ?_
        refine va_get (ci := 9) (v := .int m_fewest_2) (C := RX9) (T := TX9) (N := 24) hx hb hts hi9 hown hK hP 0 rfl rfl 18 (by decide) fl162 (fun _ h9 => h9) rfl dX9_thrift_52 ?_
        exact my_retI hx hb hr hlocks hK hS (wl_k_X9_thrift cI cJ cK m0 a_row a_tape a_number a_read a_readBits a_stands a_parted a_bitsWere a_stood a_chosen a_bestChosen a_often a_sorted a_risen a_risenWays 0 (nI m0_told_28) (nI m_taped) (nI m_at) (nI m_to) (nI m_many) (nI m_readMany) m_fewest_2 (nI m_size) mn ms_3 mp_4 mo_5 mc_6 me_7 a_row_28) hP hD (⟨0, m0_told_28, m_fewest_2, ms_3, mp_4, mo_5, mc_6, me_7, a_row_28, rfl, (by first | assumption | omega | trivial | decide +kernel), hR_ms_3, hR_mp_4, hR_mo_5, (th_ref hfw1 hst (by omega) rfl), (by first | assumption | omega | trivial | decide +kernel), (by first | assumption | omega | trivial | decide +kernel)⟩) dX9_thrift_55
      ·
        have d31 : ((k : Nat) : Int) < (8 : Int) := my_nge c31 (nI_toInt (by omega)) (by decide +kernel)
        refine lv_aload_n hx hb dX9_thrift_34 rfl (lv_at hl 1 rfl) ?_
        refine lv_aload_n hx hb dX9_thrift_35 rfl (lv_at hl 1 rfl) ?_
        refine va_get (ci := 9) (v := .ref a_bestChosen) (C := RX9) (T := TX9) (N := 24) hx hb hts hi9 hown hK hP 0 rfl rfl 17 (by decide) fl73 (fun _ h9 => h9) rfl dX9_thrift_36 ?_
        refine lv_iload_n hx hb dX9_thrift_39 rfl (lv_at hl 0 rfl) ?_
        refine va_iald hx hb hK hP 6 0 rfl rfl (vp_in_nI (by omega) (by omega)) dX9_thrift_40 ?_
        refine my_eqi (y := me_7 k) (congrArg me_7 (nI_clamp (by omega))) ?_
        refine lv_i2l (v := (me_7 k).toInt64) hx hb dX9_thrift_41 rfl ?_
        refine my_goVS (wc := (wl_k_X9_enters cI cJ cK m0 a_row a_tape a_number a_read a_readBits a_stands a_parted a_bitsWere a_stood a_chosen a_bestChosen a_often a_sorted a_risen a_risenWays 0 (nI m0_told_28) (nI m_taped) (nI m_at) (nI m_to) (nI m_many) (nI m_readMany) m_fewest_2 (nI m_size) a_row_28)) hP hD hS hA [0, 7] rfl [some 0, none, none, none, none, none, none, some 1] (by decide +kernel) (my_cV (As := [.long ((me_7 k).toInt64)]) (rest := []) (ci := 9) (wc := (wl_k_X9_enters cI cJ cK m0 a_row a_tape a_number a_read a_readBits a_stands a_parted a_bitsWere a_stood a_chosen a_bestChosen a_often a_sorted a_risen a_risenWays 0 (nI m0_told_28) (nI m_taped) (nI m_at) (nI m_to) (nI m_many) (nI m_readMany) m_fewest_2 (nI m_size) a_row_28)) ⟨hx, hb, hml, hown, hts⟩ (cwV 1 hts gX9_thrift_X9_enters rfl rfl rfl (by decide +kernel) ⟨Nat.le_of_ble_eq_true rfl, Nat.le_of_ble_eq_true rfl⟩) hN hK hP hD [0, 7] rfl (by decide) rfl 0 rfl rfl rfl rfl hl.1 rfl (Nat.le_of_ble_eq_true rfl) dX9_thrift_42 ⟨Nat.le_of_ble_eq_true rfl, Nat.le_of_ble_eq_true rfl⟩  ((k_X9_enters l D cI cJ cK m0 a_row a_tape a_number a_read a_readBits a_stands a_parted a_bitsWere a_stood a_chosen a_bestChosen a_often a_sorted a_risen a_risenWays (0 : Int32) m0_told_28 m_taped m_at m_to m_many m_readMany m_fewest_2 m_size a_row_28 ((me_7 k).toInt64) (by first | assumption | omega | decide +kernel) (by first | assumption | omega | decide +kernel) (by first | assumption | omega | decide +kernel) (by first | assumption | omega | decide +kernel) (by first | assumption | omega | decide +kernel) (by first | assumption | omega | decide +kernel) (by first | assumption | omega | decide +kernel) (by first | assumption | omega | decide +kernel)) _)) (fun u H locs hp hPD hS => ?_)
        obtain ⟨m_told_9, mr_10, rfl, hhz_m_told_11, ht_12⟩ := hp
        obtain ⟨hP, hD⟩ := hPD rfl
        have hP : va_P D vwCl (wl_k_X9_thrift cI cJ cK m0 a_row a_tape a_number a_read a_readBits a_stands a_parted a_bitsWere a_stood a_chosen a_bestChosen a_often a_sorted a_risen a_risenWays 0 (nI m_told_9) (nI m_taped) (nI m_at) (nI m_to) (nI m_many) (nI m_readMany) m_fewest_2 (nI m_size) mn ms_3 mp_4 mo_5 mc_6 me_7 mr_10) H := hP
        have hD : va_D A (wl_k_X9_thrift cI cJ cK m0 a_row a_tape a_number a_read a_readBits a_stands a_parted a_bitsWere a_stood a_chosen a_bestChosen a_often a_sorted a_risen a_risenWays 0 (nI m_told_9) (nI m_taped) (nI m_at) (nI m_to) (nI m_many) (nI m_readMany) m_fewest_2 (nI m_size) mn ms_3 mp_4 mo_5 mc_6 me_7 mr_10) := hD
        refine lv_iinc (v := nI (k + 1)) (lv' := [(1, .int (nI (k + 1))), (0, .ref m0)]) hx hb dX9_thrift_45 hl (k := 0) rfl (my_incN k 1 (by decide +kernel)) (by decide) rfl (fun ls hl => ?_)
        refine lv_goto (tgt := 28) hx hb dX9_thrift_48 (by decide) ?_
        exact ih28  (k + 1) m_told_9 mr_10 (by omega) (by first | assumption | omega | decide +kernel) (by first | assumption | omega | decide +kernel) (by first | assumption | omega | decide +kernel) _ _ ls hP hD hS (lv_sub hl [0, 1] rfl)
  exact loop28 ((8 - 0) + 1) 0 0 mr (Nat.lt_succ_self _) (by first | assumption | omega | decide +kernel) (by first | assumption | omega | decide +kernel) (by first | assumption | omega | decide +kernel) _ _ ls hP hD hS (lv_sub hl [0, 1] rfl)
