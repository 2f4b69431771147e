set_option maxHeartbeats 4000000 in
set_option maxRecDepth 100000 in
theorem k0_X9_column (l : Launch) (D : va_G) (cI cJ : ClassId) (m0 : Nat) (a_row : Nat) (a_tape : Nat) (a_number : Nat) (a_read : Nat) (a_readBits : Nat) (a_stands : Nat) (a_parted : Nat) (a_bitsWere : Nat) (a_stood : Nat) (a_chosen : Nat) (a_bestChosen : Nat) (a_often : Nat) (a_sorted : Nat) (a_risen : Nat) (a_risenWays : Nat) : ctI l yX9_column wsX9_column ({ frames := 1, cells := 0, slots := 0, locals := 60 } : Room) D (tyIJ cI cJ) [.ref m0] [(m0, .inr (9, [.int 0, .int 0, .ref a_row, .ref a_tape, .int 0, .int 0, .int 0, .int 0, .ref a_number, .ref a_read, .int 0, .ref a_readBits, .ref a_stands, .ref a_parted, .ref a_bitsWere, .ref a_stood, .ref a_chosen, .ref a_bestChosen, .int 0, .ref a_often, .ref a_sorted, .int 0, .ref a_risen, .ref a_risenWays]))] (fun (r : Int32) (u : va_W) => u = [] ∧ r = 0) := by
  refine ctI.of (cc := cX9_column) (maxL := 2) (ret := (some .int)) (by decide) rfl (Nat.le_of_ble_eq_true rfl) ?_
  intro p e s m below meth c ls A hx hb hr hts hown hml hlocks hname hA hK hN hP hD hS hl
  have hl : lv_has ls 2 [(0, .ref m0)] := hl
  have hown : s.vm.findClass RX9 = some m.cls := hown
  have hi9 : ∀ w ∈ u_ws RX9 TX9 24, w ∈ wsX9_column := by decide +kernel
  have fl1 := hts (.fieldLink RX9 1 "PlaneColumnModel" "thrown" "I") (by decide +kernel)
  have fl25 := hts (.fieldLink RX9 25 "PlaneColumnModel" "to" "I") (by decide +kernel)
  have fl88 := hts (.fieldLink RX9 88 "PlaneColumnModel" "many" "I") (by decide +kernel)
  have fl93 := hts (.fieldLink RX9 93 "PlaneColumnModel" "readMany" "I") (by decide +kernel)
  refine lv_aload_n hx hb dX9_column_0 rfl (lv_at hl 0 rfl) ?_
  refine lv_iconst (v := 0) hx hb dX9_column_1 (by decide +kernel) ?_
  refine va_put (ci := 9) (v := .int 0) (ty := (.int)) (C := RX9) (T := TX9) (N := 24) hx hb hts hi9 tyX9 tyX9_ok nmX9 hown hK hP hD hS 0 rfl rfl 0 (by decide) fl1 (fun _ h9 => h9) rfl (by decide +kernel) rfl rfl (Nat.le_of_ble_eq_true rfl) dX9_column_2 (fun H locs hP hD hS => ?_)
  have hP : va_P D vwCl [(m0, .inr (9, [.int 0, .int 0, .ref a_row, .ref a_tape, .int 0, .int 0, .int 0, .int 0, .ref a_number, .ref a_read, .int 0, .ref a_readBits, .ref a_stands, .ref a_parted, .ref a_bitsWere, .ref a_stood, .ref a_chosen, .ref a_bestChosen, .int 0, .ref a_often, .ref a_sorted, .int 0, .ref a_risen, .ref a_risenWays]))] H := hP
  have hD : va_D A [(m0, .inr (9, [.int 0, .int 0, .ref a_row, .ref a_tape, .int 0, .int 0, .int 0, .int 0, .ref a_number, .ref a_read, .int 0, .ref a_readBits, .ref a_stands, .ref a_parted, .ref a_bitsWere, .ref a_stood, .ref a_chosen, .ref a_bestChosen, .int 0, .ref a_often, .ref a_sorted, .int 0, .ref a_risen, .ref a_risenWays]))] := hD
  refine lv_aload_n hx hb dX9_column_5 rfl (lv_at hl 0 rfl) ?_
  refine my_goV (wr := []) hP hD hS hA [0] [] rfl rfl (by decide) (by decide) (my_cV (As := []) (rest := []) (ci := 9) (wc := [(m0, .inr (9, [.int 0, .int 0, .ref a_row, .ref a_tape, .int 0, .int 0, .int 0, .int 0, .ref a_number, .ref a_read, .int 0, .ref a_readBits, .ref a_stands, .ref a_parted, .ref a_bitsWere, .ref a_stood, .ref a_chosen, .ref a_bestChosen, .int 0, .ref a_often, .ref a_sorted, .int 0, .ref a_risen, .ref a_risenWays]))]) ⟨hx, hb, hml, hown, hts⟩ (cwV 0 hts gX9_column_X9_reads rfl rfl rfl (by decide +kernel) ⟨Nat.le_of_ble_eq_true rfl, Nat.le_of_ble_eq_true rfl⟩) hN hK hP hD [0] rfl (by decide) rfl 0 rfl rfl rfl rfl hl.1 rfl (Nat.le_of_ble_eq_true rfl) dX9_column_6 ⟨Nat.le_of_ble_eq_true rfl, Nat.le_of_ble_eq_true rfl⟩  ((k0_X9_reads l D cI cJ m0 a_row a_tape a_number a_read a_readBits a_stands a_parted a_bitsWere a_stood a_chosen a_bestChosen a_often a_sorted a_risen a_risenWays (0 : Int32) (0 : Int32) (0 : Int32) (0 : Int32) (0 : Int32) (0 : Int32) (0 : Int32) (0 : Int32)) _)) (fun u H locs hp hP hD hS => ?_)
  obtain rfl := hp
  have hP : va_P D vwCl [(m0, .inr (9, [.int 0, .int 0, .ref a_row, .ref a_tape, .int 0, .int 0, .int 0, .int 0, .ref a_number, .ref a_read, .int 0, .ref a_readBits, .ref a_stands, .ref a_parted, .ref a_bitsWere, .ref a_stood, .ref a_chosen, .ref a_bestChosen, .int 0, .ref a_often, .ref a_sorted, .int 0, .ref a_risen, .ref a_risenWays]))] H := hP
  have hD : va_D A [(m0, .inr (9, [.int 0, .int 0, .ref a_row, .ref a_tape, .int 0, .int 0, .int 0, .int 0, .ref a_number, .ref a_read, .int 0, .ref a_readBits, .ref a_stands, .ref a_parted, .ref a_bitsWere, .ref a_stood, .ref a_chosen, .ref a_bestChosen, .int 0, .ref a_often, .ref a_sorted, .int 0, .ref a_risen, .ref a_risenWays]))] := hD
  refine lv_aload_n hx hb dX9_column_9 rfl (lv_at hl 0 rfl) ?_
  refine lv_iconst (v := 0) hx hb dX9_column_10 (by decide +kernel) ?_
  refine va_put (ci := 9) (v := .int 0) (ty := (.int)) (C := RX9) (T := TX9) (N := 24) hx hb hts hi9 tyX9 tyX9_ok nmX9 hown hK hP hD hS 0 rfl rfl 10 (by decide) fl93 (fun _ h9 => h9) rfl (by decide +kernel) rfl rfl (Nat.le_of_ble_eq_true rfl) dX9_column_11 (fun H locs hP hD hS => ?_)
  have hP : va_P D vwCl [(m0, .inr (9, [.int 0, .int 0, .ref a_row, .ref a_tape, .int 0, .int 0, .int 0, .int 0, .ref a_number, .ref a_read, .int 0, .ref a_readBits, .ref a_stands, .ref a_parted, .ref a_bitsWere, .ref a_stood, .ref a_chosen, .ref a_bestChosen, .int 0, .ref a_often, .ref a_sorted, .int 0, .ref a_risen, .ref a_risenWays]))] H := hP
  have hD : va_D A [(m0, .inr (9, [.int 0, .int 0, .ref a_row, .ref a_tape, .int 0, .int 0, .int 0, .int 0, .ref a_number, .ref a_read, .int 0, .ref a_readBits, .ref a_stands, .ref a_parted, .ref a_bitsWere, .ref a_stood, .ref a_chosen, .ref a_bestChosen, .int 0, .ref a_often, .ref a_sorted, .int 0, .ref a_risen, .ref a_risenWays]))] := hD
  refine lv_aload_n hx hb dX9_column_14 rfl (lv_at hl 0 rfl) ?_
  refine va_get (ci := 9) (v := .int 0) (C := RX9) (T := TX9) (N := 24) hx hb hts hi9 hown hK hP 0 rfl rfl 6 (by decide) fl25 (fun _ h9 => h9) rfl dX9_column_15 ?_
  refine lv_if_le (tgt := 25) hx hb dX9_column_18 (by decide) (fun c18 => ?_) (fun c18 => ?_)
  ·
    refine lv_iconst (v := 0) hx hb dX9_column_25 (by decide +kernel) ?_
    refine lv_istore_n (lv' := [(1, .int 0), (0, .ref m0)]) hx hb dX9_column_26 rfl hl (by decide) rfl (fun ls hl => ?_)
    refine lv_iload_n hx hb dX9_column_27 rfl (lv_at hl 0 rfl) ?_
    refine lv_if_eq (tgt := 55) hx hb dX9_column_28 (by decide) (fun c28 => ?_) (fun c28 => ?_)
    ·
      refine lv_aload_n hx hb dX9_column_55 rfl (lv_at hl 1 rfl) ?_
      refine my_goV (wr := []) hP hD hS hA [0] [] rfl rfl (by decide) (by decide) (my_cV (As := []) (rest := []) (ci := 9) (wc := [(m0, .inr (9, [.int 0, .int 0, .ref a_row, .ref a_tape, .int 0, .int 0, .int 0, .int 0, .ref a_number, .ref a_read, .int 0, .ref a_readBits, .ref a_stands, .ref a_parted, .ref a_bitsWere, .ref a_stood, .ref a_chosen, .ref a_bestChosen, .int 0, .ref a_often, .ref a_sorted, .int 0, .ref a_risen, .ref a_risenWays]))]) ⟨hx, hb, hml, hown, hts⟩ (cwV 0 hts gX9_column_X9_becomesRead rfl rfl rfl (by decide +kernel) ⟨Nat.le_of_ble_eq_true rfl, Nat.le_of_ble_eq_true rfl⟩) hN hK hP hD [0] rfl (by decide) rfl 0 rfl rfl rfl rfl hl.1 rfl (Nat.le_of_ble_eq_true rfl) dX9_column_56 ⟨Nat.le_of_ble_eq_true rfl, Nat.le_of_ble_eq_true rfl⟩  ((k0_X9_becomesRead l D cI cJ m0 a_row a_tape a_number a_read a_readBits a_stands a_parted a_bitsWere a_stood a_chosen a_bestChosen a_often a_sorted a_risen a_risenWays (0 : Int32) (0 : Int32) (0 : Int32) (0 : Int32) (0 : Int32) (0 : Int32) (0 : Int32) (0 : Int32)) _)) (fun u H locs hp hP hD hS => ?_)
      obtain rfl := hp
      have hP : va_P D vwCl [(m0, .inr (9, [.int 0, .int 0, .ref a_row, .ref a_tape, .int 0, .int 0, .int 0, .int 0, .ref a_number, .ref a_read, .int 0, .ref a_readBits, .ref a_stands, .ref a_parted, .ref a_bitsWere, .ref a_stood, .ref a_chosen, .ref a_bestChosen, .int 0, .ref a_often, .ref a_sorted, .int 0, .ref a_risen, .ref a_risenWays]))] H := hP
      have hD : va_D A [(m0, .inr (9, [.int 0, .int 0, .ref a_row, .ref a_tape, .int 0, .int 0, .int 0, .int 0, .ref a_number, .ref a_read, .int 0, .ref a_readBits, .ref a_stands, .ref a_parted, .ref a_bitsWere, .ref a_stood, .ref a_chosen, .ref a_bestChosen, .int 0, .ref a_often, .ref a_sorted, .int 0, .ref a_risen, .ref a_risenWays]))] := hD
      refine lv_aload_n hx hb dX9_column_59 rfl (lv_at hl 1 rfl) ?_
      refine va_get (ci := 9) (v := .int 0) (C := RX9) (T := TX9) (N := 24) hx hb hts hi9 hown hK hP 0 rfl rfl 7 (by decide) fl88 (fun _ h9 => h9) rfl dX9_column_60 ?_
      exact my_retI hx hb hr hlocks hK hS [] (hP.sub [] rfl) (hD.sub [] (by decide) rfl) (⟨rfl, rfl⟩) dX9_column_63
    ·
      exact absurd c28 (by decide +kernel)
  ·
    exact absurd c18 (by decide +kernel)
set_option maxHeartbeats 4000000 in
set_option maxRecDepth 100000 in
theorem k0_X9_planes (l : Launch) (D : va_G) (cI cJ : ClassId) (m0 : Nat) (a_row : Nat) (a_tape : Nat) (a_number : Nat) (a_read : Nat) (a_readBits : Nat) (a_stands : Nat) (a_parted : Nat) (a_bitsWere : Nat) (a_stood : Nat) (a_chosen : Nat) (a_bestChosen : Nat) (a_often : Nat) (a_sorted : Nat) (a_risen : Nat) (a_risenWays : Nat) : ctI l yX9_planes wsX9_planes ({ frames := 3, cells := 0, slots := 0, locals := 180 } : Room) D (tyIJ cI cJ) [.ref m0] [(m0, .inr (9, [.int 0, .int 0, .ref a_row, .ref a_tape, .int 0, .int 0, .int 0, .int 0, .ref a_number, .ref a_read, .int 0, .ref a_readBits, .ref a_stands, .ref a_parted, .ref a_bitsWere, .ref a_stood, .ref a_chosen, .ref a_bestChosen, .int 0, .ref a_often, .ref a_sorted, .int 0, .ref a_risen, .ref a_risenWays]))] (fun (r : Int32) (u : va_W) => u = [] ∧ r = (-1)) := by
  refine ctI.of (cc := cX9_planes) (maxL := 9) (ret := (some .int)) (by decide) rfl (Nat.le_of_ble_eq_true rfl) ?_
  intro p e s m below meth c ls A hx hb hr hts hown hml hlocks hname hA hK hN hP hD hS hl
  have hl : lv_has ls 9 [(0, .ref m0)] := hl
  have hown : s.vm.findClass RX9 = some m.cls := hown
  have hi9 : ∀ w ∈ u_ws RX9 TX9 24, w ∈ wsX9_planes := by decide +kernel
  have fl1 := hts (.fieldLink RX9 1 "PlaneColumnModel" "thrown" "I") (by decide +kernel)
  have fl28 := hts (.fieldLink RX9 28 "PlaneColumnModel" "at" "I") (by decide +kernel)
  have fl93 := hts (.fieldLink RX9 93 "PlaneColumnModel" "readMany" "I") (by decide +kernel)
  refine lv_aload_n hx hb dX9_planes_0 rfl (lv_at hl 0 rfl) ?_
  refine lv_iconst (v := 0) hx hb dX9_planes_1 (by decide +kernel) ?_
  refine va_put (ci := 9) (v := .int 0) (ty := (.int)) (C := RX9) (T := TX9) (N := 24) hx hb hts hi9 tyX9 tyX9_ok nmX9 hown hK hP hD hS 0 rfl rfl 0 (by decide) fl1 (fun _ h9 => h9) rfl (by decide +kernel) rfl rfl (Nat.le_of_ble_eq_true rfl) dX9_planes_2 (fun H locs hP hD hS => ?_)
  have hP : va_P D vwCl [(m0, .inr (9, [.int 0, .int 0, .ref a_row, .ref a_tape, .int 0, .int 0, .int 0, .int 0, .ref a_number, .ref a_read, .int 0, .ref a_readBits, .ref a_stands, .ref a_parted, .ref a_bitsWere, .ref a_stood, .ref a_chosen, .ref a_bestChosen, .int 0, .ref a_often, .ref a_sorted, .int 0, .ref a_risen, .ref a_risenWays]))] H := hP
  have hD : va_D A [(m0, .inr (9, [.int 0, .int 0, .ref a_row, .ref a_tape, .int 0, .int 0, .int 0, .int 0, .ref a_number, .ref a_read, .int 0, .ref a_readBits, .ref a_stands, .ref a_parted, .ref a_bitsWere, .ref a_stood, .ref a_chosen, .ref a_bestChosen, .int 0, .ref a_often, .ref a_sorted, .int 0, .ref a_risen, .ref a_risenWays]))] := hD
  refine lv_aload_n hx hb dX9_planes_5 rfl (lv_at hl 0 rfl) ?_
  refine my_goV (wr := []) hP hD hS hA [0] [] rfl rfl (by decide) (by decide) (my_cV (As := []) (rest := []) (ci := 9) (wc := [(m0, .inr (9, [.int 0, .int 0, .ref a_row, .ref a_tape, .int 0, .int 0, .int 0, .int 0, .ref a_number, .ref a_read, .int 0, .ref a_readBits, .ref a_stands, .ref a_parted, .ref a_bitsWere, .ref a_stood, .ref a_chosen, .ref a_bestChosen, .int 0, .ref a_often, .ref a_sorted, .int 0, .ref a_risen, .ref a_risenWays]))]) ⟨hx, hb, hml, hown, hts⟩ (cwV 0 hts gX9_planes_X9_reads rfl rfl rfl (by decide +kernel) ⟨Nat.le_of_ble_eq_true rfl, Nat.le_of_ble_eq_true rfl⟩) hN hK hP hD [0] rfl (by decide) rfl 0 rfl rfl rfl rfl hl.1 rfl (Nat.le_of_ble_eq_true rfl) dX9_planes_6 ⟨Nat.le_of_ble_eq_true rfl, Nat.le_of_ble_eq_true rfl⟩  ((k0_X9_reads l D cI cJ m0 a_row a_tape a_number a_read a_readBits a_stands a_parted a_bitsWere a_stood a_chosen a_bestChosen a_often a_sorted a_risen a_risenWays (0 : Int32) (0 : Int32) (0 : Int32) (0 : Int32) (0 : Int32) (0 : Int32) (0 : Int32) (0 : Int32)) _)) (fun u H locs hp hP hD hS => ?_)
  obtain rfl := hp
  have hP : va_P D vwCl [(m0, .inr (9, [.int 0, .int 0, .ref a_row, .ref a_tape, .int 0, .int 0, .int 0, .int 0, .ref a_number, .ref a_read, .int 0, .ref a_readBits, .ref a_stands, .ref a_parted, .ref a_bitsWere, .ref a_stood, .ref a_chosen, .ref a_bestChosen, .int 0, .ref a_often, .ref a_sorted, .int 0, .ref a_risen, .ref a_risenWays]))] H := hP
  have hD : va_D A [(m0, .inr (9, [.int 0, .int 0, .ref a_row, .ref a_tape, .int 0, .int 0, .int 0, .int 0, .ref a_number, .ref a_read, .int 0, .ref a_readBits, .ref a_stands, .ref a_parted, .ref a_bitsWere, .ref a_stood, .ref a_chosen, .ref a_bestChosen, .int 0, .ref a_often, .ref a_sorted, .int 0, .ref a_risen, .ref a_risenWays]))] := hD
  refine lv_aload_n hx hb dX9_planes_9 rfl (lv_at hl 0 rfl) ?_
  refine lv_iconst (v := 0) hx hb dX9_planes_10 (by decide +kernel) ?_
  refine va_put (ci := 9) (v := .int 0) (ty := (.int)) (C := RX9) (T := TX9) (N := 24) hx hb hts hi9 tyX9 tyX9_ok nmX9 hown hK hP hD hS 0 rfl rfl 10 (by decide) fl93 (fun _ h9 => h9) rfl (by decide +kernel) rfl rfl (Nat.le_of_ble_eq_true rfl) dX9_planes_11 (fun H locs hP hD hS => ?_)
  have hP : va_P D vwCl [(m0, .inr (9, [.int 0, .int 0, .ref a_row, .ref a_tape, .int 0, .int 0, .int 0, .int 0, .ref a_number, .ref a_read, .int 0, .ref a_readBits, .ref a_stands, .ref a_parted, .ref a_bitsWere, .ref a_stood, .ref a_chosen, .ref a_bestChosen, .int 0, .ref a_often, .ref a_sorted, .int 0, .ref a_risen, .ref a_risenWays]))] H := hP
  have hD : va_D A [(m0, .inr (9, [.int 0, .int 0, .ref a_row, .ref a_tape, .int 0, .int 0, .int 0, .int 0, .ref a_number, .ref a_read, .int 0, .ref a_readBits, .ref a_stands, .ref a_parted, .ref a_bitsWere, .ref a_stood, .ref a_chosen, .ref a_bestChosen, .int 0, .ref a_often, .ref a_sorted, .int 0, .ref a_risen, .ref a_risenWays]))] := hD
  refine lv_iconst (v := 0) hx hb dX9_planes_14 (by decide +kernel) ?_
  refine lv_istore_n (lv' := [(1, .int 0), (0, .ref m0)]) hx hb dX9_planes_15 rfl hl (by decide) rfl (fun ls hl => ?_)
  refine lv_iload_n hx hb dX9_planes_16 rfl (lv_at hl 0 rfl) ?_
  refine lv_bipush (v := 8) hx hb dX9_planes_17 (by decide +kernel) ?_
  refine lv_icmp_ge (tgt := 43) hx hb dX9_planes_19 (by decide) (fun c19 => ?_) (fun c19 => ?_)
  ·
    exact absurd c19 (by decide +kernel)
  ·
    refine lv_aload_n hx hb dX9_planes_22 rfl (lv_at hl 1 rfl) ?_
    refine lv_iload_n hx hb dX9_planes_23 rfl (lv_at hl 0 rfl) ?_
    refine my_goI (wr := []) hP hD hS hA [0] [] rfl rfl (by decide) (by decide) (my_cV (As := [.int 0]) (rest := []) (ci := 9) (wc := [(m0, .inr (9, [.int 0, .int 0, .ref a_row, .ref a_tape, .int 0, .int 0, .int 0, .int 0, .ref a_number, .ref a_read, .int 0, .ref a_readBits, .ref a_stands, .ref a_parted, .ref a_bitsWere, .ref a_stood, .ref a_chosen, .ref a_bestChosen, .int 0, .ref a_often, .ref a_sorted, .int 0, .ref a_risen, .ref a_risenWays]))]) ⟨hx, hb, hml, hown, hts⟩ (cwV 1 hts gX9_planes_X9_readsRow rfl rfl rfl (by decide +kernel) ⟨Nat.le_of_ble_eq_true rfl, Nat.le_of_ble_eq_true rfl⟩) hN hK hP hD [0] rfl (by decide) rfl 0 rfl rfl rfl rfl hl.1 rfl (Nat.le_of_ble_eq_true rfl) dX9_planes_24 ⟨Nat.le_of_ble_eq_true rfl, Nat.le_of_ble_eq_true rfl⟩  ((k0_X9_readsRow l D cI cJ m0 a_row a_tape a_number a_read a_readBits a_stands a_parted a_bitsWere a_stood a_chosen a_bestChosen a_often a_sorted a_risen a_risenWays (0 : Int32) (0 : Int32) (0 : Int32) (0 : Int32) (0 : Int32) (0 : Int32)) _)) (fun r u H locs hp hP hD hS => ?_)
    obtain ⟨rfl, rfl⟩ := hp
    have hP : va_P D vwCl [(m0, .inr (9, [.int 0, .int 0, .ref a_row, .ref a_tape, .int 0, .int 0, .int 0, .int 0, .ref a_number, .ref a_read, .int 0, .ref a_readBits, .ref a_stands, .ref a_parted, .ref a_bitsWere, .ref a_stood, .ref a_chosen, .ref a_bestChosen, .int 0, .ref a_often, .ref a_sorted, .int 0, .ref a_risen, .ref a_risenWays]))] H := hP
    have hD : va_D A [(m0, .inr (9, [.int 0, .int 0, .ref a_row, .ref a_tape, .int 0, .int 0, .int 0, .int 0, .ref a_number, .ref a_read, .int 0, .ref a_readBits, .ref a_stands, .ref a_parted, .ref a_bitsWere, .ref a_stood, .ref a_chosen, .ref a_bestChosen, .int 0, .ref a_often, .ref a_sorted, .int 0, .ref a_risen, .ref a_risenWays]))] := hD
    refine lv_if_ne (tgt := 37) hx hb dX9_planes_27 (by decide) (fun c27 => ?_) (fun c27 => ?_)
    ·
      exact absurd c27 (by decide +kernel)
    ·
      refine lv_iconst (v := (-1)) hx hb dX9_planes_30 (by decide +kernel) ?_
      refine lv_aload_n hx hb dX9_planes_31 rfl (lv_at hl 1 rfl) ?_
      refine va_get (ci := 9) (v := .int 0) (C := RX9) (T := TX9) (N := 24) hx hb hts hi9 hown hK hP 0 rfl rfl 5 (by decide) fl28 (fun _ h9 => h9) rfl dX9_planes_32 ?_
      refine lv_isub hx hb dX9_planes_35 ?_
      refine my_eqi (y := (-1)) (by decide +kernel) ?_
      exact my_retI hx hb hr hlocks hK hS [] (hP.sub [] rfl) (hD.sub [] (by decide) rfl) (⟨rfl, rfl⟩) dX9_planes_36
set_option maxHeartbeats 4000000 in
set_option maxRecDepth 100000 in
theorem k0_X9_adds (l : Launch) (D : va_G) (cI cJ : ClassId) (m0 : Nat) (a_row : Nat) (a_tape : Nat) (a_number : Nat) (a_read : Nat) (a_readBits : Nat) (a_stands : Nat) (a_parted : Nat) (a_bitsWere : Nat) (a_stood : Nat) (a_chosen : Nat) (a_bestChosen : Nat) (a_often : Nat) (a_sorted : Nat) (a_risen : Nat) (a_risenWays : Nat) (nf : Nat → Int32) (v9 : Int32) : ctI l yX9_adds wsX9_adds ({ frames := 2, cells := 0, slots := 0, locals := 120 } : Room) D (tyIJ cI cJ) [.ref m0, .int v9] [(m0, .inr (9, [.int 0, .int 0, .ref a_row, .ref a_tape, .int 0, .int 0, .int 0, .int 0, .ref a_number, .ref a_read, .int 0, .ref a_readBits, .ref a_stands, .ref a_parted, .ref a_bitsWere, .ref a_stood, .ref a_chosen, .ref a_bestChosen, .int 0, .ref a_often, .ref a_sorted, .int 0, .ref a_risen, .ref a_risenWays])), (a_number, .inl (cI, 64, .inl nf))] (fun (r : Int32) (u : va_W) => (u = [] ∧ r = 1 ∧ 0 ≤ v9.toInt ∧ v9.toInt ≤ 255) ∨ (u = [] ∧ r = (-1) ∧ (v9.toInt < 0 ∨ 255 < v9.toInt))) := by
  refine ctI.of (cc := cX9_adds) (maxL := 2) (ret := (some .int)) (by decide) rfl (Nat.le_of_ble_eq_true rfl) ?_
  intro p e s m below meth c ls A hx hb hr hts hown hml hlocks hname hA hK hN hP hD hS hl
  have hl : lv_has ls 2 [(0, .ref m0), (1, .int v9)] := hl
  have hown : s.vm.findClass RX9 = some m.cls := hown
  have hi9 : ∀ w ∈ u_ws RX9 TX9 24, w ∈ wsX9_adds := by decide +kernel
  have fl1 := hts (.fieldLink RX9 1 "PlaneColumnModel" "thrown" "I") (by decide +kernel)
  have fl49 := hts (.fieldLink RX9 49 "PlaneColumnModel" "number" "[I") (by decide +kernel)
  have fl88 := hts (.fieldLink RX9 88 "PlaneColumnModel" "many" "I") (by decide +kernel)
  refine lv_aload_n hx hb dX9_adds_0 rfl (lv_at hl 0 rfl) ?_
  refine lv_iconst (v := 0) hx hb dX9_adds_1 (by decide +kernel) ?_
  refine va_put (ci := 9) (v := .int 0) (ty := (.int)) (C := RX9) (T := TX9) (N := 24) hx hb hts hi9 tyX9 tyX9_ok nmX9 hown hK hP hD hS 0 rfl rfl 0 (by decide) fl1 (fun _ h9 => h9) rfl (by decide +kernel) rfl rfl (Nat.le_of_ble_eq_true rfl) dX9_adds_2 (fun H locs hP hD hS => ?_)
  have hP : va_P D vwCl [(m0, .inr (9, [.int 0, .int 0, .ref a_row, .ref a_tape, .int 0, .int 0, .int 0, .int 0, .ref a_number, .ref a_read, .int 0, .ref a_readBits, .ref a_stands, .ref a_parted, .ref a_bitsWere, .ref a_stood, .ref a_chosen, .ref a_bestChosen, .int 0, .ref a_often, .ref a_sorted, .int 0, .ref a_risen, .ref a_risenWays])), (a_number, .inl (cI, 64, .inl nf))] H := hP
  have hD : va_D A [(m0, .inr (9, [.int 0, .int 0, .ref a_row, .ref a_tape, .int 0, .int 0, .int 0, .int 0, .ref a_number, .ref a_read, .int 0, .ref a_readBits, .ref a_stands, .ref a_parted, .ref a_bitsWere, .ref a_stood, .ref a_chosen, .ref a_bestChosen, .int 0, .ref a_often, .ref a_sorted, .int 0, .ref a_risen, .ref a_risenWays])), (a_number, .inl (cI, 64, .inl nf))] := hD
  refine lv_iload_n hx hb dX9_adds_5 rfl (lv_at hl 1 rfl) ?_
  refine my_gpI (my_pS (As := [.int v9]) (rest := []) ⟨hx, hb, hml, hown, hts⟩ (va_cwS 1 hts gX9_adds_X9_isNumber rfl rfl rfl (by decide +kernel) ⟨Nat.le_of_ble_eq_true rfl, Nat.le_of_ble_eq_true rfl⟩) hN hK hP [] rfl rfl hl.1 rfl (Nat.le_of_ble_eq_true rfl) dX9_adds_6 ⟨Nat.le_of_ble_eq_true rfl, Nat.le_of_ble_eq_true rfl⟩  (k_X9_isNumber l D cI cJ v9)) (fun r hp => ?_)
  rcases hp with ⟨rfl, hgv_1, hlv_2⟩ | ⟨rfl, ho_3⟩
  ·
    refine lv_if_ne (tgt := 14) hx hb dX9_adds_9 (by decide) (fun c9 => ?_) (fun c9 => ?_)
    ·
      refine lv_aload_n hx hb dX9_adds_14 rfl (lv_at hl 0 rfl) ?_
      refine va_get (ci := 9) (v := .int 0) (C := RX9) (T := TX9) (N := 24) hx hb hts hi9 hown hK hP 0 rfl rfl 7 (by decide) fl88 (fun _ h9 => h9) rfl dX9_adds_15 ?_
      refine lv_bipush (v := 64) hx hb dX9_adds_18 (by decide +kernel) ?_
      refine lv_icmp_ne (tgt := 26) hx hb dX9_adds_20 (by decide) (fun c20 => ?_) (fun c20 => ?_)
      ·
        refine lv_aload_n hx hb dX9_adds_26 rfl (lv_at hl 0 rfl) ?_
        refine va_get (ci := 9) (v := .ref a_number) (C := RX9) (T := TX9) (N := 24) hx hb hts hi9 hown hK hP 0 rfl rfl 8 (by decide) fl49 (fun _ h9 => h9) rfl dX9_adds_27 ?_
        refine lv_aload_n hx hb dX9_adds_30 rfl (lv_at hl 0 rfl) ?_
        refine va_get (ci := 9) (v := .int 0) (C := RX9) (T := TX9) (N := 24) hx hb hts hi9 hown hK hP 0 rfl rfl 7 (by decide) fl88 (fun _ h9 => h9) rfl dX9_adds_31 ?_
        refine lv_iload_n hx hb dX9_adds_34 rfl (lv_at hl 1 rfl) ?_
        refine va_iast hx hb hK hP hD hS 1 0 rfl rfl (vp_in_nI (n := 0) (by omega) (by omega)) dX9_adds_35 (fun H locs hP hD hS => ?_)
        have eU : upd nf (0 : Int32).toNatClampNeg v9 = upd nf 0 v9 := by rw [show (0 : Int32).toNatClampNeg = 0 from by decide +kernel]
        rw [eU] at hP hD
        have hP : va_P D vwCl [(m0, .inr (9, [.int 0, .int 0, .ref a_row, .ref a_tape, .int 0, .int 0, .int 0, .int 0, .ref a_number, .ref a_read, .int 0, .ref a_readBits, .ref a_stands, .ref a_parted, .ref a_bitsWere, .ref a_stood, .ref a_chosen, .ref a_bestChosen, .int 0, .ref a_often, .ref a_sorted, .int 0, .ref a_risen, .ref a_risenWays])), (a_number, .inl (cI, 64, .inl (upd nf 0 v9)))] H := hP
        have hD : va_D A [(m0, .inr (9, [.int 0, .int 0, .ref a_row, .ref a_tape, .int 0, .int 0, .int 0, .int 0, .ref a_number, .ref a_read, .int 0, .ref a_readBits, .ref a_stands, .ref a_parted, .ref a_bitsWere, .ref a_stood, .ref a_chosen, .ref a_bestChosen, .int 0, .ref a_often, .ref a_sorted, .int 0, .ref a_risen, .ref a_risenWays])), (a_number, .inl (cI, 64, .inl (upd nf 0 v9)))] := hD
        refine lv_aload_n hx hb dX9_adds_36 rfl (lv_at hl 0 rfl) ?_
        refine lv_dup hx hb dX9_adds_37 rfl ?_
        refine va_get (ci := 9) (v := .int 0) (C := RX9) (T := TX9) (N := 24) hx hb hts hi9 hown hK hP 0 rfl rfl 7 (by decide) fl88 (fun _ h9 => h9) rfl dX9_adds_38 ?_
        refine lv_iconst (v := 1) hx hb dX9_adds_41 (by decide +kernel) ?_
        refine lv_iadd hx hb dX9_adds_42 ?_
        refine my_eqi (y := 1) (by decide +kernel) ?_
        refine va_put (ci := 9) (v := .int 1) (ty := (.int)) (C := RX9) (T := TX9) (N := 24) hx hb hts hi9 tyX9 tyX9_ok nmX9 hown hK hP hD hS 0 rfl rfl 7 (by decide) fl88 (fun _ h9 => h9) rfl (by decide +kernel) rfl rfl (Nat.le_of_ble_eq_true rfl) dX9_adds_43 (fun H locs hP hD hS => ?_)
        have hP : va_P D vwCl [(m0, .inr (9, [.int 0, .int 0, .ref a_row, .ref a_tape, .int 0, .int 0, .int 0, .int 1, .ref a_number, .ref a_read, .int 0, .ref a_readBits, .ref a_stands, .ref a_parted, .ref a_bitsWere, .ref a_stood, .ref a_chosen, .ref a_bestChosen, .int 0, .ref a_often, .ref a_sorted, .int 0, .ref a_risen, .ref a_risenWays])), (a_number, .inl (cI, 64, .inl (upd nf 0 v9)))] H := hP
        have hD : va_D A [(m0, .inr (9, [.int 0, .int 0, .ref a_row, .ref a_tape, .int 0, .int 0, .int 0, .int 1, .ref a_number, .ref a_read, .int 0, .ref a_readBits, .ref a_stands, .ref a_parted, .ref a_bitsWere, .ref a_stood, .ref a_chosen, .ref a_bestChosen, .int 0, .ref a_often, .ref a_sorted, .int 0, .ref a_risen, .ref a_risenWays])), (a_number, .inl (cI, 64, .inl (upd nf 0 v9)))] := hD
        refine lv_aload_n hx hb dX9_adds_46 rfl (lv_at hl 0 rfl) ?_
        refine va_get (ci := 9) (v := .int 1) (C := RX9) (T := TX9) (N := 24) hx hb hts hi9 hown hK hP 0 rfl rfl 7 (by decide) fl88 (fun _ h9 => h9) rfl dX9_adds_47 ?_
        exact my_retI hx hb hr hlocks hK hS [] (hP.sub [] rfl) (hD.sub [] (by decide) rfl) (Or.inl ⟨rfl, rfl, (by first | omega | assumption | trivial | decide +kernel), (by first | omega | assumption | trivial | decide +kernel)⟩) dX9_adds_50
      ·
        exact absurd c20 (by decide +kernel)
    ·
      exact absurd c9 (by decide +kernel)
  ·
    refine lv_if_ne (tgt := 14) hx hb dX9_adds_9 (by decide) (fun c9 => ?_) (fun c9 => ?_)
    ·
      exact absurd c9 (by decide +kernel)
    ·
      refine lv_iconst (v := (-1)) hx hb dX9_adds_12 (by decide +kernel) ?_
      exact my_retI hx hb hr hlocks hK hS [] (hP.sub [] rfl) (hD.sub [] (by decide) rfl) (Or.inr (⟨rfl, rfl, (by first | omega | assumption | trivial | decide +kernel)⟩)) dX9_adds_13
set_option maxHeartbeats 4000000 in
set_option maxRecDepth 100000 in
theorem k0_X9_puts (l : Launch) (D : va_G) (cI cJ : ClassId) (m0 : Nat) (a_row : Nat) (a_tape : Nat) (a_number : Nat) (a_read : Nat) (a_readBits : Nat) (a_stands : Nat) (a_parted : Nat) (a_bitsWere : Nat) (a_stood : Nat) (a_chosen : Nat) (a_bestChosen : Nat) (a_often : Nat) (a_sorted : Nat) (a_risen : Nat) (a_risenWays : Nat) (p9 : Int32) (v9 : Int32) : ctI l yX9_puts wsX9_puts ({ frames := 2, cells := 0, slots := 0, locals := 120 } : Room) D (tyIJ cI cJ) [.ref m0, .int p9, .int v9] [(m0, .inr (9, [.int 0, .int 0, .ref a_row, .ref a_tape, .int 0, .int 0, .int 0, .int 0, .ref a_number, .ref a_read, .int 0, .ref a_readBits, .ref a_stands, .ref a_parted, .ref a_bitsWere, .ref a_stood, .ref a_chosen, .ref a_bestChosen, .int 0, .ref a_often, .ref a_sorted, .int 0, .ref a_risen, .ref a_risenWays]))] (fun (r : Int32) (u : va_W) => (u = [] ∧ r = (-2) ∧ 0 ≤ v9.toInt ∧ v9.toInt ≤ 255) ∨ (u = [] ∧ r = (-1) ∧ (v9.toInt < 0 ∨ 255 < v9.toInt))) := by
  refine ctI.of (cc := cX9_puts) (maxL := 4) (ret := (some .int)) (by decide) rfl (Nat.le_of_ble_eq_true rfl) ?_
  intro p e s m below meth c ls A hx hb hr hts hown hml hlocks hname hA hK hN hP hD hS hl
  have hl : lv_has ls 4 [(0, .ref m0), (1, .int p9), (2, .int v9)] := hl
  have hown : s.vm.findClass RX9 = some m.cls := hown
  have hi9 : ∀ w ∈ u_ws RX9 TX9 24, w ∈ wsX9_puts := by decide +kernel
  have fl1 := hts (.fieldLink RX9 1 "PlaneColumnModel" "thrown" "I") (by decide +kernel)
  refine lv_aload_n hx hb dX9_puts_0 rfl (lv_at hl 0 rfl) ?_
  refine lv_iconst (v := 0) hx hb dX9_puts_1 (by decide +kernel) ?_
  refine va_put (ci := 9) (v := .int 0) (ty := (.int)) (C := RX9) (T := TX9) (N := 24) hx hb hts hi9 tyX9 tyX9_ok nmX9 hown hK hP hD hS 0 rfl rfl 0 (by decide) fl1 (fun _ h9 => h9) rfl (by decide +kernel) rfl rfl (Nat.le_of_ble_eq_true rfl) dX9_puts_2 (fun H locs hP hD hS => ?_)
  have hP : va_P D vwCl [(m0, .inr (9, [.int 0, .int 0, .ref a_row, .ref a_tape, .int 0, .int 0, .int 0, .int 0, .ref a_number, .ref a_read, .int 0, .ref a_readBits, .ref a_stands, .ref a_parted, .ref a_bitsWere, .ref a_stood, .ref a_chosen, .ref a_bestChosen, .int 0, .ref a_often, .ref a_sorted, .int 0, .ref a_risen, .ref a_risenWays]))] H := hP
  have hD : va_D A [(m0, .inr (9, [.int 0, .int 0, .ref a_row, .ref a_tape, .int 0, .int 0, .int 0, .int 0, .ref a_number, .ref a_read, .int 0, .ref a_readBits, .ref a_stands, .ref a_parted, .ref a_bitsWere, .ref a_stood, .ref a_chosen, .ref a_bestChosen, .int 0, .ref a_often, .ref a_sorted, .int 0, .ref a_risen, .ref a_risenWays]))] := hD
  refine lv_iload_n hx hb dX9_puts_5 rfl (lv_at hl 2 rfl) ?_
  refine my_gpI (my_pS (As := [.int v9]) (rest := []) ⟨hx, hb, hml, hown, hts⟩ (va_cwS 1 hts gX9_puts_X9_isNumber rfl rfl rfl (by decide +kernel) ⟨Nat.le_of_ble_eq_true rfl, Nat.le_of_ble_eq_true rfl⟩) hN hK hP [] rfl rfl hl.1 rfl (Nat.le_of_ble_eq_true rfl) dX9_puts_6 ⟨Nat.le_of_ble_eq_true rfl, Nat.le_of_ble_eq_true rfl⟩  (k_X9_isNumber l D cI cJ v9)) (fun r hp => ?_)
  rcases hp with ⟨rfl, hgv_1, hlv_2⟩ | ⟨rfl, ho_3⟩
  ·
    refine lv_if_ne (tgt := 14) hx hb dX9_puts_9 (by decide) (fun c9 => ?_) (fun c9 => ?_)
    ·
      refine lv_aload_n hx hb dX9_puts_14 rfl (lv_at hl 0 rfl) ?_
      refine lv_iload_n hx hb dX9_puts_15 rfl (lv_at hl 1 rfl) ?_
      refine my_gpI (my_pV (As := [.int p9]) (rest := []) (ci := 9) ⟨hx, hb, hml, hown, hts⟩ (cwV 1 hts gX9_puts_X9_isPlace rfl rfl rfl (by decide +kernel) ⟨Nat.le_of_ble_eq_true rfl, Nat.le_of_ble_eq_true rfl⟩) hN hK hP [0] rfl 0 rfl rfl rfl rfl hl.1 rfl (Nat.le_of_ble_eq_true rfl) dX9_puts_16 ⟨Nat.le_of_ble_eq_true rfl, Nat.le_of_ble_eq_true rfl⟩  (k0_X9_isPlace l D cI cJ m0 a_row a_tape a_number a_read a_readBits a_stands a_parted a_bitsWere a_stood a_chosen a_bestChosen a_often a_sorted a_risen a_risenWays (0 : Int32) (0 : Int32) (0 : Int32) (0 : Int32) (0 : Int32) (0 : Int32) (0 : Int32) (0 : Int32) p9)) (fun r hp => ?_)
      obtain rfl := hp
      refine lv_if_ne (tgt := 25) hx hb dX9_puts_19 (by decide) (fun c19 => ?_) (fun c19 => ?_)
      ·
        exact absurd c19 (by decide +kernel)
      ·
        refine lv_bipush (v := (-2)) hx hb dX9_puts_22 (by decide +kernel) ?_
        exact my_retI hx hb hr hlocks hK hS [] (hP.sub [] rfl) (hD.sub [] (by decide) rfl) (Or.inl ⟨rfl, rfl, (by first | omega | assumption | trivial | decide +kernel), (by first | omega | assumption | trivial | decide +kernel)⟩) dX9_puts_24
    ·
      exact absurd c9 (by decide +kernel)
  ·
    refine lv_if_ne (tgt := 14) hx hb dX9_puts_9 (by decide) (fun c9 => ?_) (fun c9 => ?_)
    ·
      exact absurd c9 (by decide +kernel)
    ·
      refine lv_iconst (v := (-1)) hx hb dX9_puts_12 (by decide +kernel) ?_
      exact my_retI hx hb hr hlocks hK hS [] (hP.sub [] rfl) (hD.sub [] (by decide) rfl) (Or.inr (⟨rfl, rfl, (by first | omega | assumption | trivial | decide +kernel)⟩)) dX9_puts_13
set_option maxHeartbeats 4000000 in
set_option maxRecDepth 100000 in
theorem k0_X9_cuts (l : Launch) (D : va_G) (cI cJ : ClassId) (m0 : Nat) (a_row : Nat) (a_tape : Nat) (a_number : Nat) (a_read : Nat) (a_readBits : Nat) (a_stands : Nat) (a_parted : Nat) (a_bitsWere : Nat) (a_stood : Nat) (a_chosen : Nat) (a_bestChosen : Nat) (a_often : Nat) (a_sorted : Nat) (a_risen : Nat) (a_risenWays : Nat) (p9 : Int32) : ctI l yX9_cuts wsX9_cuts ({ frames := 2, cells := 0, slots := 0, locals := 120 } : Room) D (tyIJ cI cJ) [.ref m0, .int p9] [(m0, .inr (9, [.int 0, .int 0, .ref a_row, .ref a_tape, .int 0, .int 0, .int 0, .int 0, .ref a_number, .ref a_read, .int 0, .ref a_readBits, .ref a_stands, .ref a_parted, .ref a_bitsWere, .ref a_stood, .ref a_chosen, .ref a_bestChosen, .int 0, .ref a_often, .ref a_sorted, .int 0, .ref a_risen, .ref a_risenWays]))] (fun (r : Int32) (u : va_W) => u = [] ∧ r = (-2)) := by
  refine ctI.of (cc := cX9_cuts) (maxL := 4) (ret := (some .int)) (by decide) rfl (Nat.le_of_ble_eq_true rfl) ?_
  intro p e s m below meth c ls A hx hb hr hts hown hml hlocks hname hA hK hN hP hD hS hl
  have hl : lv_has ls 4 [(0, .ref m0), (1, .int p9)] := hl
  have hown : s.vm.findClass RX9 = some m.cls := hown
  have hi9 : ∀ w ∈ u_ws RX9 TX9 24, w ∈ wsX9_cuts := by decide +kernel
  have fl1 := hts (.fieldLink RX9 1 "PlaneColumnModel" "thrown" "I") (by decide +kernel)
  refine lv_aload_n hx hb dX9_cuts_0 rfl (lv_at hl 0 rfl) ?_
  refine lv_iconst (v := 0) hx hb dX9_cuts_1 (by decide +kernel) ?_
  refine va_put (ci := 9) (v := .int 0) (ty := (.int)) (C := RX9) (T := TX9) (N := 24) hx hb hts hi9 tyX9 tyX9_ok nmX9 hown hK hP hD hS 0 rfl rfl 0 (by decide) fl1 (fun _ h9 => h9) rfl (by decide +kernel) rfl rfl (Nat.le_of_ble_eq_true rfl) dX9_cuts_2 (fun H locs hP hD hS => ?_)
  have hP : va_P D vwCl [(m0, .inr (9, [.int 0, .int 0, .ref a_row, .ref a_tape, .int 0, .int 0, .int 0, .int 0, .ref a_number, .ref a_read, .int 0, .ref a_readBits, .ref a_stands, .ref a_parted, .ref a_bitsWere, .ref a_stood, .ref a_chosen, .ref a_bestChosen, .int 0, .ref a_often, .ref a_sorted, .int 0, .ref a_risen, .ref a_risenWays]))] H := hP
  have hD : va_D A [(m0, .inr (9, [.int 0, .int 0, .ref a_row, .ref a_tape, .int 0, .int 0, .int 0, .int 0, .ref a_number, .ref a_read, .int 0, .ref a_readBits, .ref a_stands, .ref a_parted, .ref a_bitsWere, .ref a_stood, .ref a_chosen, .ref a_bestChosen, .int 0, .ref a_often, .ref a_sorted, .int 0, .ref a_risen, .ref a_risenWays]))] := hD
  refine lv_aload_n hx hb dX9_cuts_5 rfl (lv_at hl 0 rfl) ?_
  refine lv_iload_n hx hb dX9_cuts_6 rfl (lv_at hl 1 rfl) ?_
  refine my_gpI (my_pV (As := [.int p9]) (rest := []) (ci := 9) ⟨hx, hb, hml, hown, hts⟩ (cwV 1 hts gX9_cuts_X9_isPlace rfl rfl rfl (by decide +kernel) ⟨Nat.le_of_ble_eq_true rfl, Nat.le_of_ble_eq_true rfl⟩) hN hK hP [0] rfl 0 rfl rfl rfl rfl hl.1 rfl (Nat.le_of_ble_eq_true rfl) dX9_cuts_7 ⟨Nat.le_of_ble_eq_true rfl, Nat.le_of_ble_eq_true rfl⟩  (k0_X9_isPlace l D cI cJ m0 a_row a_tape a_number a_read a_readBits a_stands a_parted a_bitsWere a_stood a_chosen a_bestChosen a_often a_sorted a_risen a_risenWays (0 : Int32) (0 : Int32) (0 : Int32) (0 : Int32) (0 : Int32) (0 : Int32) (0 : Int32) (0 : Int32) p9)) (fun r hp => ?_)
  obtain rfl := hp
  refine lv_if_ne (tgt := 16) hx hb dX9_cuts_10 (by decide) (fun c10 => ?_) (fun c10 => ?_)
  ·
    exact absurd c10 (by decide +kernel)
  ·
    refine lv_bipush (v := (-2)) hx hb dX9_cuts_13 (by decide +kernel) ?_
    exact my_retI hx hb hr hlocks hK hS [] (hP.sub [] rfl) (hD.sub [] (by decide) rfl) (⟨rfl, rfl⟩) dX9_cuts_15
set_option maxHeartbeats 4000000 in
set_option maxRecDepth 100000 in
theorem k0_X9_swaps (l : Launch) (D : va_G) (cI cJ : ClassId) (m0 : Nat) (a_row : Nat) (a_tape : Nat) (a_number : Nat) (a_read : Nat) (a_readBits : Nat) (a_stands : Nat) (a_parted : Nat) (a_bitsWere : Nat) (a_stood : Nat) (a_chosen : Nat) (a_bestChosen : Nat) (a_often : Nat) (a_sorted : Nat) (a_risen : Nat) (a_risenWays : Nat) (p9 : Int32) (q9 : Int32) : ctI l yX9_swaps wsX9_swaps ({ frames := 2, cells := 0, slots := 0, locals := 120 } : Room) D (tyIJ cI cJ) [.ref m0, .int p9, .int q9] [(m0, .inr (9, [.int 0, .int 0, .ref a_row, .ref a_tape, .int 0, .int 0, .int 0, .int 0, .ref a_number, .ref a_read, .int 0, .ref a_readBits, .ref a_stands, .ref a_parted, .ref a_bitsWere, .ref a_stood, .ref a_chosen, .ref a_bestChosen, .int 0, .ref a_often, .ref a_sorted, .int 0, .ref a_risen, .ref a_risenWays]))] (fun (r : Int32) (u : va_W) => u = [] ∧ r = (-2)) := by
  refine ctI.of (cc := cX9_swaps) (maxL := 3) (ret := (some .int)) (by decide) rfl (Nat.le_of_ble_eq_true rfl) ?_
  intro p e s m below meth c ls A hx hb hr hts hown hml hlocks hname hA hK hN hP hD hS hl
  have hl : lv_has ls 3 [(0, .ref m0), (1, .int p9), (2, .int q9)] := hl
  have hown : s.vm.findClass RX9 = some m.cls := hown
  have hi9 : ∀ w ∈ u_ws RX9 TX9 24, w ∈ wsX9_swaps := by decide +kernel
  have fl1 := hts (.fieldLink RX9 1 "PlaneColumnModel" "thrown" "I") (by decide +kernel)
  refine lv_aload_n hx hb dX9_swaps_0 rfl (lv_at hl 0 rfl) ?_
  refine lv_iconst (v := 0) hx hb dX9_swaps_1 (by decide +kernel) ?_
  refine va_put (ci := 9) (v := .int 0) (ty := (.int)) (C := RX9) (T := TX9) (N := 24) hx hb hts hi9 tyX9 tyX9_ok nmX9 hown hK hP hD hS 0 rfl rfl 0 (by decide) fl1 (fun _ h9 => h9) rfl (by decide +kernel) rfl rfl (Nat.le_of_ble_eq_true rfl) dX9_swaps_2 (fun H locs hP hD hS => ?_)
  have hP : va_P D vwCl [(m0, .inr (9, [.int 0, .int 0, .ref a_row, .ref a_tape, .int 0, .int 0, .int 0, .int 0, .ref a_number, .ref a_read, .int 0, .ref a_readBits, .ref a_stands, .ref a_parted, .ref a_bitsWere, .ref a_stood, .ref a_chosen, .ref a_bestChosen, .int 0, .ref a_often, .ref a_sorted, .int 0, .ref a_risen, .ref a_risenWays]))] H := hP
  have hD : va_D A [(m0, .inr (9, [.int 0, .int 0, .ref a_row, .ref a_tape, .int 0, .int 0, .int 0, .int 0, .ref a_number, .ref a_read, .int 0, .ref a_readBits, .ref a_stands, .ref a_parted, .ref a_bitsWere, .ref a_stood, .ref a_chosen, .ref a_bestChosen, .int 0, .ref a_often, .ref a_sorted, .int 0, .ref a_risen, .ref a_risenWays]))] := hD
  refine lv_aload_n hx hb dX9_swaps_5 rfl (lv_at hl 0 rfl) ?_
  refine lv_iload_n hx hb dX9_swaps_6 rfl (lv_at hl 1 rfl) ?_
  refine my_gpI (my_pV (As := [.int p9]) (rest := []) (ci := 9) ⟨hx, hb, hml, hown, hts⟩ (cwV 1 hts gX9_swaps_X9_isPlace rfl rfl rfl (by decide +kernel) ⟨Nat.le_of_ble_eq_true rfl, Nat.le_of_ble_eq_true rfl⟩) hN hK hP [0] rfl 0 rfl rfl rfl rfl hl.1 rfl (Nat.le_of_ble_eq_true rfl) dX9_swaps_7 ⟨Nat.le_of_ble_eq_true rfl, Nat.le_of_ble_eq_true rfl⟩  (k0_X9_isPlace l D cI cJ m0 a_row a_tape a_number a_read a_readBits a_stands a_parted a_bitsWere a_stood a_chosen a_bestChosen a_often a_sorted a_risen a_risenWays (0 : Int32) (0 : Int32) (0 : Int32) (0 : Int32) (0 : Int32) (0 : Int32) (0 : Int32) (0 : Int32) p9)) (fun r hp => ?_)
  obtain rfl := hp
  refine lv_if_eq (tgt := 26) hx hb dX9_swaps_10 (by decide) (fun c10 => ?_) (fun c10 => ?_)
  ·
    refine lv_bipush (v := (-2)) hx hb dX9_swaps_26 (by decide +kernel) ?_
    exact my_retI hx hb hr hlocks hK hS [] (hP.sub [] rfl) (hD.sub [] (by decide) rfl) (⟨rfl, rfl⟩) dX9_swaps_28
  ·
    exact absurd c10 (by decide +kernel)
set_option maxHeartbeats 4000000 in
set_option maxRecDepth 100000 in
theorem k0_X9_reverses (l : Launch) (D : va_G) (cI cJ : ClassId) (m0 : Nat) (a_row : Nat) (a_tape : Nat) (a_number : Nat) (a_read : Nat) (a_readBits : Nat) (a_stands : Nat) (a_parted : Nat) (a_bitsWere : Nat) (a_stood : Nat) (a_chosen : Nat) (a_bestChosen : Nat) (a_often : Nat) (a_sorted : Nat) (a_risen : Nat) (a_risenWays : Nat) (l9 : Int32) (r9 : Int32) : ctI l yX9_reverses wsX9_reverses ({ frames := 3, cells := 0, slots := 0, locals := 180 } : Room) D (tyIJ cI cJ) [.ref m0, .int l9, .int r9] [(m0, .inr (9, [.int 0, .int 0, .ref a_row, .ref a_tape, .int 0, .int 0, .int 0, .int 0, .ref a_number, .ref a_read, .int 0, .ref a_readBits, .ref a_stands, .ref a_parted, .ref a_bitsWere, .ref a_stood, .ref a_chosen, .ref a_bestChosen, .int 0, .ref a_often, .ref a_sorted, .int 0, .ref a_risen, .ref a_risenWays]))] (fun (r : Int32) (u : va_W) => (u = [] ∧ r = 0 ∧ l9.toInt = 0 ∧ r9.toInt = 0) ∨ (u = [] ∧ r = (-1) ∧ (l9.toInt < 0 ∨ r9.toInt < l9.toInt ∨ 0 < r9.toInt))) := by
  refine ctI.of (cc := cX9_reverses) (maxL := 5) (ret := (some .int)) (by decide) rfl (Nat.le_of_ble_eq_true rfl) ?_
  intro p e s m below meth c ls A hx hb hr hts hown hml hlocks hname hA hK hN hP hD hS hl
  have hl : lv_has ls 5 [(0, .ref m0), (1, .int l9), (2, .int r9)] := hl
  have hown : s.vm.findClass RX9 = some m.cls := hown
  have hi9 : ∀ w ∈ u_ws RX9 TX9 24, w ∈ wsX9_reverses := by decide +kernel
  have fl1 := hts (.fieldLink RX9 1 "PlaneColumnModel" "thrown" "I") (by decide +kernel)
  refine lv_aload_n hx hb dX9_reverses_0 rfl (lv_at hl 0 rfl) ?_
  refine lv_iconst (v := 0) hx hb dX9_reverses_1 (by decide +kernel) ?_
  refine va_put (ci := 9) (v := .int 0) (ty := (.int)) (C := RX9) (T := TX9) (N := 24) hx hb hts hi9 tyX9 tyX9_ok nmX9 hown hK hP hD hS 0 rfl rfl 0 (by decide) fl1 (fun _ h9 => h9) rfl (by decide +kernel) rfl rfl (Nat.le_of_ble_eq_true rfl) dX9_reverses_2 (fun H locs hP hD hS => ?_)
  have hP : va_P D vwCl [(m0, .inr (9, [.int 0, .int 0, .ref a_row, .ref a_tape, .int 0, .int 0, .int 0, .int 0, .ref a_number, .ref a_read, .int 0, .ref a_readBits, .ref a_stands, .ref a_parted, .ref a_bitsWere, .ref a_stood, .ref a_chosen, .ref a_bestChosen, .int 0, .ref a_often, .ref a_sorted, .int 0, .ref a_risen, .ref a_risenWays]))] H := hP
  have hD : va_D A [(m0, .inr (9, [.int 0, .int 0, .ref a_row, .ref a_tape, .int 0, .int 0, .int 0, .int 0, .ref a_number, .ref a_read, .int 0, .ref a_readBits, .ref a_stands, .ref a_parted, .ref a_bitsWere, .ref a_stood, .ref a_chosen, .ref a_bestChosen, .int 0, .ref a_often, .ref a_sorted, .int 0, .ref a_risen, .ref a_risenWays]))] := hD
  refine lv_aload_n hx hb dX9_reverses_5 rfl (lv_at hl 0 rfl) ?_
  refine lv_iload_n hx hb dX9_reverses_6 rfl (lv_at hl 1 rfl) ?_
  refine lv_iload_n hx hb dX9_reverses_7 rfl (lv_at hl 2 rfl) ?_
  refine my_gpI (my_pV (As := [.int l9, .int r9]) (rest := []) (ci := 9) ⟨hx, hb, hml, hown, hts⟩ (cwV 2 hts gX9_reverses_X9_isSpan rfl rfl rfl (by decide +kernel) ⟨Nat.le_of_ble_eq_true rfl, Nat.le_of_ble_eq_true rfl⟩) hN hK hP [0] rfl 0 rfl rfl rfl rfl hl.1 rfl (Nat.le_of_ble_eq_true rfl) dX9_reverses_8 ⟨Nat.le_of_ble_eq_true rfl, Nat.le_of_ble_eq_true rfl⟩  (k0_X9_isSpan l D cI cJ m0 a_row a_tape a_number a_read a_readBits a_stands a_parted a_bitsWere a_stood a_chosen a_bestChosen a_often a_sorted a_risen a_risenWays (0 : Int32) (0 : Int32) (0 : Int32) (0 : Int32) (0 : Int32) (0 : Int32) (0 : Int32) (0 : Int32) l9 r9)) (fun r hp => ?_)
  rcases hp with ⟨rfl, rfl, rfl⟩ | ⟨rfl, ha_1⟩
  ·
    refine lv_if_ne (tgt := 16) hx hb dX9_reverses_11 (by decide) (fun c11 => ?_) (fun c11 => ?_)
    ·
      refine lv_aload_n hx hb dX9_reverses_16 rfl (lv_at hl 0 rfl) ?_
      refine my_goV (wr := []) hP hD hS hA [0] [] rfl rfl (by decide) (by decide) (my_cV (As := []) (rest := []) (ci := 9) (wc := [(m0, .inr (9, [.int 0, .int 0, .ref a_row, .ref a_tape, .int 0, .int 0, .int 0, .int 0, .ref a_number, .ref a_read, .int 0, .ref a_readBits, .ref a_stands, .ref a_parted, .ref a_bitsWere, .ref a_stood, .ref a_chosen, .ref a_bestChosen, .int 0, .ref a_often, .ref a_sorted, .int 0, .ref a_risen, .ref a_risenWays]))]) ⟨hx, hb, hml, hown, hts⟩ (cwV 0 hts gX9_reverses_X9_keepsBits rfl rfl rfl (by decide +kernel) ⟨Nat.le_of_ble_eq_true rfl, Nat.le_of_ble_eq_true rfl⟩) hN hK hP hD [0] rfl (by decide) rfl 0 rfl rfl rfl rfl hl.1 rfl (Nat.le_of_ble_eq_true rfl) dX9_reverses_17 ⟨Nat.le_of_ble_eq_true rfl, Nat.le_of_ble_eq_true rfl⟩  ((k0_X9_keepsBits l D cI cJ m0 a_row a_tape a_number a_read a_readBits a_stands a_parted a_bitsWere a_stood a_chosen a_bestChosen a_often a_sorted a_risen a_risenWays (0 : Int32) (0 : Int32) (0 : Int32) (0 : Int32) (0 : Int32) (0 : Int32) (0 : Int32) (0 : Int32)) _)) (fun u H locs hp hP hD hS => ?_)
      obtain rfl := hp
      have hP : va_P D vwCl [(m0, .inr (9, [.int 0, .int 0, .ref a_row, .ref a_tape, .int 0, .int 0, .int 0, .int 0, .ref a_number, .ref a_read, .int 0, .ref a_readBits, .ref a_stands, .ref a_parted, .ref a_bitsWere, .ref a_stood, .ref a_chosen, .ref a_bestChosen, .int 0, .ref a_often, .ref a_sorted, .int 0, .ref a_risen, .ref a_risenWays]))] H := hP
      have hD : va_D A [(m0, .inr (9, [.int 0, .int 0, .ref a_row, .ref a_tape, .int 0, .int 0, .int 0, .int 0, .ref a_number, .ref a_read, .int 0, .ref a_readBits, .ref a_stands, .ref a_parted, .ref a_bitsWere, .ref a_stood, .ref a_chosen, .ref a_bestChosen, .int 0, .ref a_often, .ref a_sorted, .int 0, .ref a_risen, .ref a_risenWays]))] := hD
      refine lv_iload_n hx hb dX9_reverses_20 rfl (lv_at hl 1 rfl) ?_
      refine lv_istore_n (lv' := [(3, .int 0), (0, .ref m0), (1, .int 0), (2, .int 0)]) hx hb dX9_reverses_21 rfl hl (by decide) rfl (fun ls hl => ?_)
      refine lv_iload_n hx hb dX9_reverses_22 rfl (lv_at hl 3 rfl) ?_
      refine lv_iconst (v := 1) hx hb dX9_reverses_23 (by decide +kernel) ?_
      refine lv_isub hx hb dX9_reverses_24 ?_
      refine my_eqi (y := (-1)) (by decide +kernel) ?_
      refine lv_istore (lv' := [(4, .int (-1)), (3, .int 0), (0, .ref m0), (1, .int 0), (2, .int 0)]) hx hb dX9_reverses_25 hl (by decide) rfl (fun ls hl => ?_)
      refine lv_iload_n hx hb dX9_reverses_27 rfl (lv_at hl 1 rfl) ?_
      refine lv_iload hx hb dX9_reverses_28 (lv_at hl 0 rfl) ?_
      refine lv_icmp_ge (tgt := 49) hx hb dX9_reverses_30 (by decide) (fun c30 => ?_) (fun c30 => ?_)
      ·
        refine lv_aload_n hx hb dX9_reverses_49 rfl (lv_at hl 2 rfl) ?_
        refine my_goI (wr := []) hP hD hS hA [0] [] rfl rfl (by decide) (by decide) (my_cV (As := []) (rest := []) (ci := 9) (wc := [(m0, .inr (9, [.int 0, .int 0, .ref a_row, .ref a_tape, .int 0, .int 0, .int 0, .int 0, .ref a_number, .ref a_read, .int 0, .ref a_readBits, .ref a_stands, .ref a_parted, .ref a_bitsWere, .ref a_stood, .ref a_chosen, .ref a_bestChosen, .int 0, .ref a_often, .ref a_sorted, .int 0, .ref a_risen, .ref a_risenWays]))]) ⟨hx, hb, hml, hown, hts⟩ (cwV 0 hts gX9_reverses_X9_otherBits rfl rfl rfl (by decide +kernel) ⟨Nat.le_of_ble_eq_true rfl, Nat.le_of_ble_eq_true rfl⟩) hN hK hP hD [0] rfl (by decide) rfl 0 rfl rfl rfl rfl hl.1 rfl (Nat.le_of_ble_eq_true rfl) dX9_reverses_50 ⟨Nat.le_of_ble_eq_true rfl, Nat.le_of_ble_eq_true rfl⟩  ((k0_X9_otherBits l D cI cJ m0 a_row a_tape a_number a_read a_readBits a_stands a_parted a_bitsWere a_stood a_chosen a_bestChosen a_often a_sorted a_risen a_risenWays (0 : Int32) (0 : Int32) (0 : Int32) (0 : Int32) (0 : Int32) (0 : Int32) (0 : Int32) (0 : Int32)) _)) (fun r u H locs hp hP hD hS => ?_)
        obtain ⟨rfl, rfl⟩ := hp
        have hP : va_P D vwCl [(m0, .inr (9, [.int 0, .int 0, .ref a_row, .ref a_tape, .int 0, .int 0, .int 0, .int 0, .ref a_number, .ref a_read, .int 0, .ref a_readBits, .ref a_stands, .ref a_parted, .ref a_bitsWere, .ref a_stood, .ref a_chosen, .ref a_bestChosen, .int 0, .ref a_often, .ref a_sorted, .int 0, .ref a_risen, .ref a_risenWays]))] H := hP
        have hD : va_D A [(m0, .inr (9, [.int 0, .int 0, .ref a_row, .ref a_tape, .int 0, .int 0, .int 0, .int 0, .ref a_number, .ref a_read, .int 0, .ref a_readBits, .ref a_stands, .ref a_parted, .ref a_bitsWere, .ref a_stood, .ref a_chosen, .ref a_bestChosen, .int 0, .ref a_often, .ref a_sorted, .int 0, .ref a_risen, .ref a_risenWays]))] := hD
        exact my_retI hx hb hr hlocks hK hS [] (hP.sub [] rfl) (hD.sub [] (by decide) rfl) (Or.inl ⟨rfl, rfl, (by first | omega | assumption | trivial | decide +kernel), (by first | omega | assumption | trivial | decide +kernel)⟩) dX9_reverses_53
      ·
        exact absurd c30 (by decide +kernel)
    ·
      exact absurd c11 (by decide +kernel)
  ·
    refine lv_if_ne (tgt := 16) hx hb dX9_reverses_11 (by decide) (fun c11 => ?_) (fun c11 => ?_)
    ·
      exact absurd c11 (by decide +kernel)
    ·
      refine lv_iconst (v := (-1)) hx hb dX9_reverses_14 (by decide +kernel) ?_
      exact my_retI hx hb hr hlocks hK hS [] (hP.sub [] rfl) (hD.sub [] (by decide) rfl) (Or.inr (⟨rfl, rfl, (by first | omega | assumption | trivial | decide +kernel)⟩)) dX9_reverses_15
set_option maxHeartbeats 4000000 in
set_option maxRecDepth 100000 in
theorem k0_X9_sign (l : Launch) (D : va_G) (cI cJ : ClassId) (m0 : Nat) (a_row : Nat) (a_tape : Nat) (a_number : Nat) (a_read : Nat) (a_readBits : Nat) (a_stands : Nat) (a_parted : Nat) (a_bitsWere : Nat) (a_stood : Nat) (a_chosen : Nat) (a_bestChosen : Nat) (a_often : Nat) (a_sorted : Nat) (a_risen : Nat) (a_risenWays : Nat) (tf : Nat → Int32) (v9 : Int32) : ctI l yX9_sign wsX9_sign ({ frames := 0, cells := 0, slots := 0, locals := 0 } : Room) D (tyIJ cI cJ) [.ref m0, .int v9] [(m0, .inr (9, [.int 0, .int 0, .ref a_row, .ref a_tape, .int 0, .int 0, .int 0, .int 0, .ref a_number, .ref a_read, .int 0, .ref a_readBits, .ref a_stands, .ref a_parted, .ref a_bitsWere, .ref a_stood, .ref a_chosen, .ref a_bestChosen, .int 0, .ref a_often, .ref a_sorted, .int 0, .ref a_risen, .ref a_risenWays])), (a_tape, .inl (cI, 100, .inl tf))] (fun (r : Int32) (u : va_W) => u = [] ∧ r = 4) := by
  refine ctI.of (cc := cX9_sign) (maxL := 3) (ret := (some .int)) (by decide) rfl (Nat.le_of_ble_eq_true rfl) ?_
  intro p e s m below meth c ls A hx hb hr hts hown hml hlocks hname hA hK hN hP hD hS hl
  have hl : lv_has ls 3 [(0, .ref m0), (1, .int v9)] := hl
  have hown : s.vm.findClass RX9 = some m.cls := hown
  have hi9 : ∀ w ∈ u_ws RX9 TX9 24, w ∈ wsX9_sign := by decide +kernel
  have fl1 := hts (.fieldLink RX9 1 "PlaneColumnModel" "thrown" "I") (by decide +kernel)
  have fl14 := hts (.fieldLink RX9 14 "PlaneColumnModel" "taped" "I") (by decide +kernel)
  have fl17 := hts (.fieldLink RX9 17 "PlaneColumnModel" "tape" "[I") (by decide +kernel)
  refine lv_aload_n hx hb dX9_sign_0 rfl (lv_at hl 0 rfl) ?_
  refine lv_iconst (v := 0) hx hb dX9_sign_1 (by decide +kernel) ?_
  refine va_put (ci := 9) (v := .int 0) (ty := (.int)) (C := RX9) (T := TX9) (N := 24) hx hb hts hi9 tyX9 tyX9_ok nmX9 hown hK hP hD hS 0 rfl rfl 0 (by decide) fl1 (fun _ h9 => h9) rfl (by decide +kernel) rfl rfl (Nat.le_of_ble_eq_true rfl) dX9_sign_2 (fun H locs hP hD hS => ?_)
  have hP : va_P D vwCl [(m0, .inr (9, [.int 0, .int 0, .ref a_row, .ref a_tape, .int 0, .int 0, .int 0, .int 0, .ref a_number, .ref a_read, .int 0, .ref a_readBits, .ref a_stands, .ref a_parted, .ref a_bitsWere, .ref a_stood, .ref a_chosen, .ref a_bestChosen, .int 0, .ref a_often, .ref a_sorted, .int 0, .ref a_risen, .ref a_risenWays])), (a_tape, .inl (cI, 100, .inl tf))] H := hP
  have hD : va_D A [(m0, .inr (9, [.int 0, .int 0, .ref a_row, .ref a_tape, .int 0, .int 0, .int 0, .int 0, .ref a_number, .ref a_read, .int 0, .ref a_readBits, .ref a_stands, .ref a_parted, .ref a_bitsWere, .ref a_stood, .ref a_chosen, .ref a_bestChosen, .int 0, .ref a_often, .ref a_sorted, .int 0, .ref a_risen, .ref a_risenWays])), (a_tape, .inl (cI, 100, .inl tf))] := hD
  refine lv_aload_n hx hb dX9_sign_5 rfl (lv_at hl 0 rfl) ?_
  refine va_get (ci := 9) (v := .int 0) (C := RX9) (T := TX9) (N := 24) hx hb hts hi9 hown hK hP 0 rfl rfl 4 (by decide) fl14 (fun _ h9 => h9) rfl dX9_sign_6 ?_
  refine lv_bipush (v := 96) hx hb dX9_sign_9 (by decide +kernel) ?_
  refine lv_icmp_le (tgt := 16) hx hb dX9_sign_11 (by decide) (fun c11 => ?_) (fun c11 => ?_)
  ·
    refine lv_iconst (v := 0) hx hb dX9_sign_16 (by decide +kernel) ?_
    refine lv_istore_n (lv' := [(2, .int 0), (0, .ref m0), (1, .int v9)]) hx hb dX9_sign_17 rfl hl (by decide) rfl (fun ls hl => ?_)
    refine lv_iload_n hx hb dX9_sign_18 rfl (lv_at hl 0 rfl) ?_
    refine lv_iconst (v := 4) hx hb dX9_sign_19 (by decide +kernel) ?_
    refine lv_icmp_ge (tgt := 53) hx hb dX9_sign_20 (by decide) (fun c20 => ?_) (fun c20 => ?_)
    ·
      exact absurd c20 (by decide +kernel)
    ·
      refine lv_aload_n hx hb dX9_sign_23 rfl (lv_at hl 1 rfl) ?_
      refine va_get (ci := 9) (v := .ref a_tape) (C := RX9) (T := TX9) (N := 24) hx hb hts hi9 hown hK hP 0 rfl rfl 3 (by decide) fl17 (fun _ h9 => h9) rfl dX9_sign_24 ?_
      refine lv_aload_n hx hb dX9_sign_27 rfl (lv_at hl 1 rfl) ?_
      refine va_get (ci := 9) (v := .int 0) (C := RX9) (T := TX9) (N := 24) hx hb hts hi9 hown hK hP 0 rfl rfl 4 (by decide) fl14 (fun _ h9 => h9) rfl dX9_sign_28 ?_
      refine lv_iload_n hx hb dX9_sign_31 rfl (lv_at hl 0 rfl) ?_
      refine lv_iadd hx hb dX9_sign_32 ?_
      refine my_eqi (y := 0) (by decide +kernel) ?_
      refine lv_iload_n hx hb dX9_sign_33 rfl (lv_at hl 2 rfl) ?_
      refine lv_bipush (v := 24) hx hb dX9_sign_34 (by decide +kernel) ?_
      refine lv_bipush (v := 8) hx hb dX9_sign_36 (by decide +kernel) ?_
      refine lv_iload_n hx hb dX9_sign_38 rfl (lv_at hl 0 rfl) ?_
      refine lv_imul hx hb dX9_sign_39 ?_
      refine my_eqi (y := 0) (by decide +kernel) ?_
      refine lv_isub hx hb dX9_sign_40 ?_
      refine my_eqi (y := 24) (by decide +kernel) ?_
      refine lv_ishr hx hb dX9_sign_41 ?_
      refine lv_topi (fun z_1 ez_1 => ?_)
      refine lv_sipush (v := 255) hx hb dX9_sign_42 (by decide +kernel) ?_
      refine lv_iand hx hb dX9_sign_45 ?_
      refine lv_topi (fun z_2 ez_2 => ?_)
      refine va_iast hx hb hK hP hD hS 1 0 rfl rfl (vp_in_nI (n := 0) (by omega) (by omega)) dX9_sign_46 (fun H locs hP hD hS => ?_)
      have eU : upd tf (0 : Int32).toNatClampNeg z_2 = upd tf 0 z_2 := by rw [show (0 : Int32).toNatClampNeg = 0 from by decide +kernel]
      rw [eU] at hP hD
      have hP : va_P D vwCl [(m0, .inr (9, [.int 0, .int 0, .ref a_row, .ref a_tape, .int 0, .int 0, .int 0, .int 0, .ref a_number, .ref a_read, .int 0, .ref a_readBits, .ref a_stands, .ref a_parted, .ref a_bitsWere, .ref a_stood, .ref a_chosen, .ref a_bestChosen, .int 0, .ref a_often, .ref a_sorted, .int 0, .ref a_risen, .ref a_risenWays])), (a_tape, .inl (cI, 100, .inl (upd tf 0 z_2)))] H := hP
      have hD : va_D A [(m0, .inr (9, [.int 0, .int 0, .ref a_row, .ref a_tape, .int 0, .int 0, .int 0, .int 0, .ref a_number, .ref a_read, .int 0, .ref a_readBits, .ref a_stands, .ref a_parted, .ref a_bitsWere, .ref a_stood, .ref a_chosen, .ref a_bestChosen, .int 0, .ref a_often, .ref a_sorted, .int 0, .ref a_risen, .ref a_risenWays])), (a_tape, .inl (cI, 100, .inl (upd tf 0 z_2)))] := hD
      refine lv_iinc (v := 1) (lv' := [(2, .int 1), (0, .ref m0), (1, .int v9)]) hx hb dX9_sign_47 hl (k := 0) rfl (by decide +kernel) (by decide) rfl (fun ls hl => ?_)
      refine lv_goto (tgt := 18) hx hb dX9_sign_50 (by decide) ?_
      refine lv_iload_n hx hb dX9_sign_18 rfl (lv_at hl 0 rfl) ?_
      refine lv_iconst (v := 4) hx hb dX9_sign_19 (by decide +kernel) ?_
      refine lv_icmp_ge (tgt := 53) hx hb dX9_sign_20 (by decide) (fun c20 => ?_) (fun c20 => ?_)
      ·
        exact absurd c20 (by decide +kernel)
      ·
        refine lv_aload_n hx hb dX9_sign_23 rfl (lv_at hl 1 rfl) ?_
        refine va_get (ci := 9) (v := .ref a_tape) (C := RX9) (T := TX9) (N := 24) hx hb hts hi9 hown hK hP 0 rfl rfl 3 (by decide) fl17 (fun _ h9 => h9) rfl dX9_sign_24 ?_
        refine lv_aload_n hx hb dX9_sign_27 rfl (lv_at hl 1 rfl) ?_
        refine va_get (ci := 9) (v := .int 0) (C := RX9) (T := TX9) (N := 24) hx hb hts hi9 hown hK hP 0 rfl rfl 4 (by decide) fl14 (fun _ h9 => h9) rfl dX9_sign_28 ?_
        refine lv_iload_n hx hb dX9_sign_31 rfl (lv_at hl 0 rfl) ?_
        refine lv_iadd hx hb dX9_sign_32 ?_
        refine my_eqi (y := 1) (by decide +kernel) ?_
        refine lv_iload_n hx hb dX9_sign_33 rfl (lv_at hl 2 rfl) ?_
        refine lv_bipush (v := 24) hx hb dX9_sign_34 (by decide +kernel) ?_
        refine lv_bipush (v := 8) hx hb dX9_sign_36 (by decide +kernel) ?_
        refine lv_iload_n hx hb dX9_sign_38 rfl (lv_at hl 0 rfl) ?_
        refine lv_imul hx hb dX9_sign_39 ?_
        refine my_eqi (y := 8) (by decide +kernel) ?_
        refine lv_isub hx hb dX9_sign_40 ?_
        refine my_eqi (y := 16) (by decide +kernel) ?_
        refine lv_ishr hx hb dX9_sign_41 ?_
        refine lv_topi (fun z_3 ez_3 => ?_)
        refine lv_sipush (v := 255) hx hb dX9_sign_42 (by decide +kernel) ?_
        refine lv_iand hx hb dX9_sign_45 ?_
        refine lv_topi (fun z_4 ez_4 => ?_)
        refine va_iast hx hb hK hP hD hS 1 0 rfl rfl (vp_in_nI (n := 1) (by omega) (by omega)) dX9_sign_46 (fun H locs hP hD hS => ?_)
        have eU : upd (upd tf 0 z_2) (1 : Int32).toNatClampNeg z_4 = upd (upd tf 0 z_2) 1 z_4 := by rw [show (1 : Int32).toNatClampNeg = 1 from by decide +kernel]
        rw [eU] at hP hD
        have hP : va_P D vwCl [(m0, .inr (9, [.int 0, .int 0, .ref a_row, .ref a_tape, .int 0, .int 0, .int 0, .int 0, .ref a_number, .ref a_read, .int 0, .ref a_readBits, .ref a_stands, .ref a_parted, .ref a_bitsWere, .ref a_stood, .ref a_chosen, .ref a_bestChosen, .int 0, .ref a_often, .ref a_sorted, .int 0, .ref a_risen, .ref a_risenWays])), (a_tape, .inl (cI, 100, .inl (upd (upd tf 0 z_2) 1 z_4)))] H := hP
        have hD : va_D A [(m0, .inr (9, [.int 0, .int 0, .ref a_row, .ref a_tape, .int 0, .int 0, .int 0, .int 0, .ref a_number, .ref a_read, .int 0, .ref a_readBits, .ref a_stands, .ref a_parted, .ref a_bitsWere, .ref a_stood, .ref a_chosen, .ref a_bestChosen, .int 0, .ref a_often, .ref a_sorted, .int 0, .ref a_risen, .ref a_risenWays])), (a_tape, .inl (cI, 100, .inl (upd (upd tf 0 z_2) 1 z_4)))] := hD
        refine lv_iinc (v := 2) (lv' := [(2, .int 2), (0, .ref m0), (1, .int v9)]) hx hb dX9_sign_47 hl (k := 0) rfl (by decide +kernel) (by decide) rfl (fun ls hl => ?_)
        refine lv_goto (tgt := 18) hx hb dX9_sign_50 (by decide) ?_
        refine lv_iload_n hx hb dX9_sign_18 rfl (lv_at hl 0 rfl) ?_
        refine lv_iconst (v := 4) hx hb dX9_sign_19 (by decide +kernel) ?_
        refine lv_icmp_ge (tgt := 53) hx hb dX9_sign_20 (by decide) (fun c20 => ?_) (fun c20 => ?_)
        ·
          exact absurd c20 (by decide +kernel)
        ·
          refine lv_aload_n hx hb dX9_sign_23 rfl (lv_at hl 1 rfl) ?_
          refine va_get (ci := 9) (v := .ref a_tape) (C := RX9) (T := TX9) (N := 24) hx hb hts hi9 hown hK hP 0 rfl rfl 3 (by decide) fl17 (fun _ h9 => h9) rfl dX9_sign_24 ?_
          refine lv_aload_n hx hb dX9_sign_27 rfl (lv_at hl 1 rfl) ?_
          refine va_get (ci := 9) (v := .int 0) (C := RX9) (T := TX9) (N := 24) hx hb hts hi9 hown hK hP 0 rfl rfl 4 (by decide) fl14 (fun _ h9 => h9) rfl dX9_sign_28 ?_
          refine lv_iload_n hx hb dX9_sign_31 rfl (lv_at hl 0 rfl) ?_
          refine lv_iadd hx hb dX9_sign_32 ?_
          refine my_eqi (y := 2) (by decide +kernel) ?_
          refine lv_iload_n hx hb dX9_sign_33 rfl (lv_at hl 2 rfl) ?_
          refine lv_bipush (v := 24) hx hb dX9_sign_34 (by decide +kernel) ?_
          refine lv_bipush (v := 8) hx hb dX9_sign_36 (by decide +kernel) ?_
          refine lv_iload_n hx hb dX9_sign_38 rfl (lv_at hl 0 rfl) ?_
          refine lv_imul hx hb dX9_sign_39 ?_
          refine my_eqi (y := 16) (by decide +kernel) ?_
          refine lv_isub hx hb dX9_sign_40 ?_
          refine my_eqi (y := 8) (by decide +kernel) ?_
          refine lv_ishr hx hb dX9_sign_41 ?_
          refine lv_topi (fun z_5 ez_5 => ?_)
          refine lv_sipush (v := 255) hx hb dX9_sign_42 (by decide +kernel) ?_
          refine lv_iand hx hb dX9_sign_45 ?_
          refine lv_topi (fun z_6 ez_6 => ?_)
          refine va_iast hx hb hK hP hD hS 1 0 rfl rfl (vp_in_nI (n := 2) (by omega) (by omega)) dX9_sign_46 (fun H locs hP hD hS => ?_)
          have eU : upd (upd (upd tf 0 z_2) 1 z_4) (2 : Int32).toNatClampNeg z_6 = upd (upd (upd tf 0 z_2) 1 z_4) 2 z_6 := by rw [show (2 : Int32).toNatClampNeg = 2 from by decide +kernel]
          rw [eU] at hP hD
          have hP : va_P D vwCl [(m0, .inr (9, [.int 0, .int 0, .ref a_row, .ref a_tape, .int 0, .int 0, .int 0, .int 0, .ref a_number, .ref a_read, .int 0, .ref a_readBits, .ref a_stands, .ref a_parted, .ref a_bitsWere, .ref a_stood, .ref a_chosen, .ref a_bestChosen, .int 0, .ref a_often, .ref a_sorted, .int 0, .ref a_risen, .ref a_risenWays])), (a_tape, .inl (cI, 100, .inl (upd (upd (upd tf 0 z_2) 1 z_4) 2 z_6)))] H := hP
          have hD : va_D A [(m0, .inr (9, [.int 0, .int 0, .ref a_row, .ref a_tape, .int 0, .int 0, .int 0, .int 0, .ref a_number, .ref a_read, .int 0, .ref a_readBits, .ref a_stands, .ref a_parted, .ref a_bitsWere, .ref a_stood, .ref a_chosen, .ref a_bestChosen, .int 0, .ref a_often, .ref a_sorted, .int 0, .ref a_risen, .ref a_risenWays])), (a_tape, .inl (cI, 100, .inl (upd (upd (upd tf 0 z_2) 1 z_4) 2 z_6)))] := hD
          refine lv_iinc (v := 3) (lv' := [(2, .int 3), (0, .ref m0), (1, .int v9)]) hx hb dX9_sign_47 hl (k := 0) rfl (by decide +kernel) (by decide) rfl (fun ls hl => ?_)
          refine lv_goto (tgt := 18) hx hb dX9_sign_50 (by decide) ?_
          refine lv_iload_n hx hb dX9_sign_18 rfl (lv_at hl 0 rfl) ?_
          refine lv_iconst (v := 4) hx hb dX9_sign_19 (by decide +kernel) ?_
          refine lv_icmp_ge (tgt := 53) hx hb dX9_sign_20 (by decide) (fun c20 => ?_) (fun c20 => ?_)
          ·
            exact absurd c20 (by decide +kernel)
          ·
            refine lv_aload_n hx hb dX9_sign_23 rfl (lv_at hl 1 rfl) ?_
            refine va_get (ci := 9) (v := .ref a_tape) (C := RX9) (T := TX9) (N := 24) hx hb hts hi9 hown hK hP 0 rfl rfl 3 (by decide) fl17 (fun _ h9 => h9) rfl dX9_sign_24 ?_
            refine lv_aload_n hx hb dX9_sign_27 rfl (lv_at hl 1 rfl) ?_
            refine va_get (ci := 9) (v := .int 0) (C := RX9) (T := TX9) (N := 24) hx hb hts hi9 hown hK hP 0 rfl rfl 4 (by decide) fl14 (fun _ h9 => h9) rfl dX9_sign_28 ?_
            refine lv_iload_n hx hb dX9_sign_31 rfl (lv_at hl 0 rfl) ?_
            refine lv_iadd hx hb dX9_sign_32 ?_
            refine my_eqi (y := 3) (by decide +kernel) ?_
            refine lv_iload_n hx hb dX9_sign_33 rfl (lv_at hl 2 rfl) ?_
            refine lv_bipush (v := 24) hx hb dX9_sign_34 (by decide +kernel) ?_
            refine lv_bipush (v := 8) hx hb dX9_sign_36 (by decide +kernel) ?_
            refine lv_iload_n hx hb dX9_sign_38 rfl (lv_at hl 0 rfl) ?_
            refine lv_imul hx hb dX9_sign_39 ?_
            refine my_eqi (y := 24) (by decide +kernel) ?_
            refine lv_isub hx hb dX9_sign_40 ?_
            refine my_eqi (y := 0) (by decide +kernel) ?_
            refine lv_ishr hx hb dX9_sign_41 ?_
            refine lv_topi (fun z_7 ez_7 => ?_)
            refine lv_sipush (v := 255) hx hb dX9_sign_42 (by decide +kernel) ?_
            refine lv_iand hx hb dX9_sign_45 ?_
            refine lv_topi (fun z_8 ez_8 => ?_)
            refine va_iast hx hb hK hP hD hS 1 0 rfl rfl (vp_in_nI (n := 3) (by omega) (by omega)) dX9_sign_46 (fun H locs hP hD hS => ?_)
            have eU : upd (upd (upd (upd tf 0 z_2) 1 z_4) 2 z_6) (3 : Int32).toNatClampNeg z_8 = upd (upd (upd (upd tf 0 z_2) 1 z_4) 2 z_6) 3 z_8 := by rw [show (3 : Int32).toNatClampNeg = 3 from by decide +kernel]
            rw [eU] at hP hD
            have hP : va_P D vwCl [(m0, .inr (9, [.int 0, .int 0, .ref a_row, .ref a_tape, .int 0, .int 0, .int 0, .int 0, .ref a_number, .ref a_read, .int 0, .ref a_readBits, .ref a_stands, .ref a_parted, .ref a_bitsWere, .ref a_stood, .ref a_chosen, .ref a_bestChosen, .int 0, .ref a_often, .ref a_sorted, .int 0, .ref a_risen, .ref a_risenWays])), (a_tape, .inl (cI, 100, .inl (upd (upd (upd (upd tf 0 z_2) 1 z_4) 2 z_6) 3 z_8)))] H := hP
            have hD : va_D A [(m0, .inr (9, [.int 0, .int 0, .ref a_row, .ref a_tape, .int 0, .int 0, .int 0, .int 0, .ref a_number, .ref a_read, .int 0, .ref a_readBits, .ref a_stands, .ref a_parted, .ref a_bitsWere, .ref a_stood, .ref a_chosen, .ref a_bestChosen, .int 0, .ref a_often, .ref a_sorted, .int 0, .ref a_risen, .ref a_risenWays])), (a_tape, .inl (cI, 100, .inl (upd (upd (upd (upd tf 0 z_2) 1 z_4) 2 z_6) 3 z_8)))] := hD
            refine lv_iinc (v := 4) (lv' := [(2, .int 4), (0, .ref m0), (1, .int v9)]) hx hb dX9_sign_47 hl (k := 0) rfl (by decide +kernel) (by decide) rfl (fun ls hl => ?_)
            refine lv_goto (tgt := 18) hx hb dX9_sign_50 (by decide) ?_
            refine lv_iload_n hx hb dX9_sign_18 rfl (lv_at hl 0 rfl) ?_
            refine lv_iconst (v := 4) hx hb dX9_sign_19 (by decide +kernel) ?_
            refine lv_icmp_ge (tgt := 53) hx hb dX9_sign_20 (by decide) (fun c20 => ?_) (fun c20 => ?_)
            ·
              refine lv_aload_n hx hb dX9_sign_53 rfl (lv_at hl 1 rfl) ?_
              refine lv_dup hx hb dX9_sign_54 rfl ?_
              refine va_get (ci := 9) (v := .int 0) (C := RX9) (T := TX9) (N := 24) hx hb hts hi9 hown hK hP 0 rfl rfl 4 (by decide) fl14 (fun _ h9 => h9) rfl dX9_sign_55 ?_
              refine lv_iconst (v := 4) hx hb dX9_sign_58 (by decide +kernel) ?_
              refine lv_iadd hx hb dX9_sign_59 ?_
              refine my_eqi (y := 4) (by decide +kernel) ?_
              refine va_put (ci := 9) (v := .int 4) (ty := (.int)) (C := RX9) (T := TX9) (N := 24) hx hb hts hi9 tyX9 tyX9_ok nmX9 hown hK hP hD hS 0 rfl rfl 4 (by decide) fl14 (fun _ h9 => h9) rfl (by decide +kernel) rfl rfl (Nat.le_of_ble_eq_true rfl) dX9_sign_60 (fun H locs hP hD hS => ?_)
              have hP : va_P D vwCl [(m0, .inr (9, [.int 0, .int 0, .ref a_row, .ref a_tape, .int 4, .int 0, .int 0, .int 0, .ref a_number, .ref a_read, .int 0, .ref a_readBits, .ref a_stands, .ref a_parted, .ref a_bitsWere, .ref a_stood, .ref a_chosen, .ref a_bestChosen, .int 0, .ref a_often, .ref a_sorted, .int 0, .ref a_risen, .ref a_risenWays])), (a_tape, .inl (cI, 100, .inl (upd (upd (upd (upd tf 0 z_2) 1 z_4) 2 z_6) 3 z_8)))] H := hP
              have hD : va_D A [(m0, .inr (9, [.int 0, .int 0, .ref a_row, .ref a_tape, .int 4, .int 0, .int 0, .int 0, .ref a_number, .ref a_read, .int 0, .ref a_readBits, .ref a_stands, .ref a_parted, .ref a_bitsWere, .ref a_stood, .ref a_chosen, .ref a_bestChosen, .int 0, .ref a_often, .ref a_sorted, .int 0, .ref a_risen, .ref a_risenWays])), (a_tape, .inl (cI, 100, .inl (upd (upd (upd (upd tf 0 z_2) 1 z_4) 2 z_6) 3 z_8)))] := hD
              refine lv_aload_n hx hb dX9_sign_63 rfl (lv_at hl 1 rfl) ?_
              refine va_get (ci := 9) (v := .int 4) (C := RX9) (T := TX9) (N := 24) hx hb hts hi9 hown hK hP 0 rfl rfl 4 (by decide) fl14 (fun _ h9 => h9) rfl dX9_sign_64 ?_
              exact my_retI hx hb hr hlocks hK hS [] (hP.sub [] rfl) (hD.sub [] (by decide) rfl) (⟨rfl, rfl⟩) dX9_sign_67
            ·
              exact absurd c20 (by decide +kernel)
  ·
    exact absurd c11 (by decide +kernel)
set_option maxHeartbeats 4000000 in
set_option maxRecDepth 100000 in
theorem k0_X9_end (l : Launch) (D : va_G) (cI cJ : ClassId) (m0 : Nat) (a_row : Nat) (a_tape : Nat) (a_number : Nat) (a_read : Nat) (a_readBits : Nat) (a_stands : Nat) (a_parted : Nat) (a_bitsWere : Nat) (a_stood : Nat) (a_chosen : Nat) (a_bestChosen : Nat) (a_often : Nat) (a_sorted : Nat) (a_risen : Nat) (a_risenWays : Nat) (n9 : Int32) : ctI l yX9_end wsX9_end ({ frames := 1, cells := 0, slots := 0, locals := 60 } : Room) D (tyIJ cI cJ) [.ref m0, .int n9] [(m0, .inr (9, [.int 0, .int 0, .ref a_row, .ref a_tape, .int 0, .int 0, .int 0, .int 0, .ref a_number, .ref a_read, .int 0, .ref a_readBits, .ref a_stands, .ref a_parted, .ref a_bitsWere, .ref a_stood, .ref a_chosen, .ref a_bestChosen, .int 0, .ref a_often, .ref a_sorted, .int 0, .ref a_risen, .ref a_risenWays]))] (fun (r : Int32) (u : va_W) => (u = [] ∧ r = 1 ∧ n9.toInt = 0) ∨ (u = [] ∧ r = 0 ∧ (n9.toInt < 0 ∨ 0 < n9.toInt))) := by
  refine ctI.of (cc := cX9_end) (maxL := 2) (ret := (some .boolean)) (by decide) rfl (Nat.le_of_ble_eq_true rfl) ?_
  intro p e s m below meth c ls A hx hb hr hts hown hml hlocks hname hA hK hN hP hD hS hl
  have hl : lv_has ls 2 [(0, .ref m0), (1, .int n9)] := hl
  have hown : s.vm.findClass RX9 = some m.cls := hown
  have hi9 : ∀ w ∈ u_ws RX9 TX9 24, w ∈ wsX9_end := by decide +kernel
  have fl1 := hts (.fieldLink RX9 1 "PlaneColumnModel" "thrown" "I") (by decide +kernel)
  have fl14 := hts (.fieldLink RX9 14 "PlaneColumnModel" "taped" "I") (by decide +kernel)
  refine lv_aload_n hx hb dX9_end_0 rfl (lv_at hl 0 rfl) ?_
  refine lv_iconst (v := 0) hx hb dX9_end_1 (by decide +kernel) ?_
  refine va_put (ci := 9) (v := .int 0) (ty := (.int)) (C := RX9) (T := TX9) (N := 24) hx hb hts hi9 tyX9 tyX9_ok nmX9 hown hK hP hD hS 0 rfl rfl 0 (by decide) fl1 (fun _ h9 => h9) rfl (by decide +kernel) rfl rfl (Nat.le_of_ble_eq_true rfl) dX9_end_2 (fun H locs hP hD hS => ?_)
  have hP : va_P D vwCl [(m0, .inr (9, [.int 0, .int 0, .ref a_row, .ref a_tape, .int 0, .int 0, .int 0, .int 0, .ref a_number, .ref a_read, .int 0, .ref a_readBits, .ref a_stands, .ref a_parted, .ref a_bitsWere, .ref a_stood, .ref a_chosen, .ref a_bestChosen, .int 0, .ref a_often, .ref a_sorted, .int 0, .ref a_risen, .ref a_risenWays]))] H := hP
  have hD : va_D A [(m0, .inr (9, [.int 0, .int 0, .ref a_row, .ref a_tape, .int 0, .int 0, .int 0, .int 0, .ref a_number, .ref a_read, .int 0, .ref a_readBits, .ref a_stands, .ref a_parted, .ref a_bitsWere, .ref a_stood, .ref a_chosen, .ref a_bestChosen, .int 0, .ref a_often, .ref a_sorted, .int 0, .ref a_risen, .ref a_risenWays]))] := hD
  refine lv_iload_n hx hb dX9_end_5 rfl (lv_at hl 1 rfl) ?_
  refine lv_i2l (v := n9.toInt64) hx hb dX9_end_6 rfl ?_
  refine lv_lconst (v := 0) hx hb dX9_end_7 (by decide +kernel) ?_
  refine lv_aload_n hx hb dX9_end_8 rfl (lv_at hl 0 rfl) ?_
  refine va_get (ci := 9) (v := .int 0) (C := RX9) (T := TX9) (N := 24) hx hb hts hi9 hown hK hP 0 rfl rfl 4 (by decide) fl14 (fun _ h9 => h9) rfl dX9_end_9 ?_
  refine lv_i2l (v := 0) hx hb dX9_end_12 (by decide +kernel) ?_
  refine my_gpI (my_pS (As := [.long n9.toInt64, .long 0, .long 0]) (rest := []) ⟨hx, hb, hml, hown, hts⟩ (va_cwS 3 hts gX9_end_X9_in rfl rfl rfl (by decide +kernel) ⟨Nat.le_of_ble_eq_true rfl, Nat.le_of_ble_eq_true rfl⟩) hN hK hP [] rfl rfl hl.1 rfl (Nat.le_of_ble_eq_true rfl) dX9_end_13 ⟨Nat.le_of_ble_eq_true rfl, Nat.le_of_ble_eq_true rfl⟩  (k_X9_in l D cI cJ n9.toInt64 (0 : Int64) (0 : Int64) n9.toInt (0 : Int) (0 : Int) (Int32.toInt_toInt64 _) (by decide +kernel) (by decide +kernel))) (fun r hp => ?_)
  rcases hp with ⟨rfl, ha_1, hb_2⟩ | ⟨rfl, ha_3⟩
  ·
    refine lv_if_ne (tgt := 21) hx hb dX9_end_16 (by decide) (fun c16 => ?_) (fun c16 => ?_)
    ·
      refine lv_aload_n hx hb dX9_end_21 rfl (lv_at hl 0 rfl) ?_
      refine lv_iload_n hx hb dX9_end_22 rfl (lv_at hl 1 rfl) ?_
      refine va_put (ci := 9) (v := .int n9) (ty := (.int)) (C := RX9) (T := TX9) (N := 24) hx hb hts hi9 tyX9 tyX9_ok nmX9 hown hK hP hD hS 0 rfl rfl 4 (by decide) fl14 (fun _ h9 => h9) rfl (by decide +kernel) rfl rfl (Nat.le_of_ble_eq_true rfl) dX9_end_23 (fun H locs hP hD hS => ?_)
      have hP : va_P D vwCl [(m0, .inr (9, [.int 0, .int 0, .ref a_row, .ref a_tape, .int n9, .int 0, .int 0, .int 0, .ref a_number, .ref a_read, .int 0, .ref a_readBits, .ref a_stands, .ref a_parted, .ref a_bitsWere, .ref a_stood, .ref a_chosen, .ref a_bestChosen, .int 0, .ref a_often, .ref a_sorted, .int 0, .ref a_risen, .ref a_risenWays]))] H := hP
      have hD : va_D A [(m0, .inr (9, [.int 0, .int 0, .ref a_row, .ref a_tape, .int n9, .int 0, .int 0, .int 0, .ref a_number, .ref a_read, .int 0, .ref a_readBits, .ref a_stands, .ref a_parted, .ref a_bitsWere, .ref a_stood, .ref a_chosen, .ref a_bestChosen, .int 0, .ref a_often, .ref a_sorted, .int 0, .ref a_risen, .ref a_risenWays]))] := hD
      refine lv_iconst (v := 1) hx hb dX9_end_26 (by decide +kernel) ?_
      exact my_retZ hx hb hr hlocks (by decide +kernel) hK hS [] (hP.sub [] rfl) (hD.sub [] (by decide) rfl) (Or.inl ⟨rfl, rfl, (by first | omega | assumption | trivial | decide +kernel)⟩) dX9_end_27
    ·
      exact absurd c16 (by decide +kernel)
  ·
    refine lv_if_ne (tgt := 21) hx hb dX9_end_16 (by decide) (fun c16 => ?_) (fun c16 => ?_)
    ·
      exact absurd c16 (by decide +kernel)
    ·
      refine lv_iconst (v := 0) hx hb dX9_end_19 (by decide +kernel) ?_
      exact my_retZ hx hb hr hlocks (by decide +kernel) hK hS [] (hP.sub [] rfl) (hD.sub [] (by decide) rfl) (Or.inr (⟨rfl, rfl, (by first | omega | assumption | trivial | decide +kernel)⟩)) dX9_end_20
set_option maxHeartbeats 4000000 in
set_option maxRecDepth 100000 in
theorem k0_X9_level (l : Launch) (D : va_G) (cI cJ : ClassId) (m0 : Nat) (a_row : Nat) (a_tape : Nat) (a_number : Nat) (a_read : Nat) (a_readBits : Nat) (a_stands : Nat) (a_parted : Nat) (a_bitsWere : Nat) (a_stood : Nat) (a_chosen : Nat) (a_bestChosen : Nat) (a_often : Nat) (a_sorted : Nat) (a_risen : Nat) (a_risenWays : Nat) (rf : Nat → Int64) (j9 : Int32) : ctI l yX9_level wsX9_level ({ frames := 2, cells := 0, slots := 0, locals := 120 } : Room) D (tyIJ cI cJ) [.ref m0, .int j9] [(m0, .inr (9, [.int 0, .int 0, .ref a_row, .ref a_tape, .int 0, .int 0, .int 0, .int 0, .ref a_number, .ref a_read, .int 0, .ref a_readBits, .ref a_stands, .ref a_parted, .ref a_bitsWere, .ref a_stood, .ref a_chosen, .ref a_bestChosen, .int 0, .ref a_often, .ref a_sorted, .int 0, .ref a_risen, .ref a_risenWays])), (a_row, .inl (cJ, 64, .inr (.inl rf)))] (fun (r : Int32) (u : va_W) => (u = [] ∧ r = 0 ∧ 0 ≤ j9.toInt ∧ j9.toInt ≤ 7) ∨ (u = [] ∧ r = (-1) ∧ (j9.toInt < 0 ∨ 7 < j9.toInt))) := by
  refine ctI.of (cc := cX9_level) (maxL := 8) (ret := (some .int)) (by decide) rfl (Nat.le_of_ble_eq_true rfl) ?_
  intro p e s m below meth c ls A hx hb hr hts hown hml hlocks hname hA hK hN hP hD hS hl
  have hl : lv_has ls 8 [(0, .ref m0), (1, .int j9)] := hl
  have hown : s.vm.findClass RX9 = some m.cls := hown
  have hi9 : ∀ w ∈ u_ws RX9 TX9 24, w ∈ wsX9_level := by decide +kernel
  have fl1 := hts (.fieldLink RX9 1 "PlaneColumnModel" "thrown" "I") (by decide +kernel)
  have fl11 := hts (.fieldLink RX9 11 "PlaneColumnModel" "told" "I") (by decide +kernel)
  have fl88 := hts (.fieldLink RX9 88 "PlaneColumnModel" "many" "I") (by decide +kernel)
  refine lv_aload_n hx hb dX9_level_0 rfl (lv_at hl 0 rfl) ?_
  refine lv_iconst (v := 0) hx hb dX9_level_1 (by decide +kernel) ?_
  refine va_put (ci := 9) (v := .int 0) (ty := (.int)) (C := RX9) (T := TX9) (N := 24) hx hb hts hi9 tyX9 tyX9_ok nmX9 hown hK hP hD hS 0 rfl rfl 0 (by decide) fl1 (fun _ h9 => h9) rfl (by decide +kernel) rfl rfl (Nat.le_of_ble_eq_true rfl) dX9_level_2 (fun H locs hP hD hS => ?_)
  have hP : va_P D vwCl [(m0, .inr (9, [.int 0, .int 0, .ref a_row, .ref a_tape, .int 0, .int 0, .int 0, .int 0, .ref a_number, .ref a_read, .int 0, .ref a_readBits, .ref a_stands, .ref a_parted, .ref a_bitsWere, .ref a_stood, .ref a_chosen, .ref a_bestChosen, .int 0, .ref a_often, .ref a_sorted, .int 0, .ref a_risen, .ref a_risenWays])), (a_row, .inl (cJ, 64, .inr (.inl rf)))] H := hP
  have hD : va_D A [(m0, .inr (9, [.int 0, .int 0, .ref a_row, .ref a_tape, .int 0, .int 0, .int 0, .int 0, .ref a_number, .ref a_read, .int 0, .ref a_readBits, .ref a_stands, .ref a_parted, .ref a_bitsWere, .ref a_stood, .ref a_chosen, .ref a_bestChosen, .int 0, .ref a_often, .ref a_sorted, .int 0, .ref a_risen, .ref a_risenWays])), (a_row, .inl (cJ, 64, .inr (.inl rf)))] := hD
  refine lv_iload_n hx hb dX9_level_5 rfl (lv_at hl 1 rfl) ?_
  refine lv_i2l (v := j9.toInt64) hx hb dX9_level_6 rfl ?_
  refine lv_lconst (v := 0) hx hb dX9_level_7 (by decide +kernel) ?_
  refine lv_ldc2 (v := 7) hx hb hown (hts (.constantLong RX9 154 (7)) (by decide +kernel)) dX9_level_8 ?_
  refine my_gpI (my_pS (As := [.long j9.toInt64, .long 0, .long 7]) (rest := []) ⟨hx, hb, hml, hown, hts⟩ (va_cwS 3 hts gX9_level_X9_in rfl rfl rfl (by decide +kernel) ⟨Nat.le_of_ble_eq_true rfl, Nat.le_of_ble_eq_true rfl⟩) hN hK hP [] rfl rfl hl.1 rfl (Nat.le_of_ble_eq_true rfl) dX9_level_11 ⟨Nat.le_of_ble_eq_true rfl, Nat.le_of_ble_eq_true rfl⟩  (k_X9_in l D cI cJ j9.toInt64 (0 : Int64) (7 : Int64) j9.toInt (0 : Int) (7 : Int) (Int32.toInt_toInt64 _) (by decide +kernel) (by decide +kernel))) (fun r hp => ?_)
  rcases hp with ⟨rfl, ha_1, hb_2⟩ | ⟨rfl, ha_3⟩
  ·
    refine lv_if_ne (tgt := 19) hx hb dX9_level_14 (by decide) (fun c14 => ?_) (fun c14 => ?_)
    ·
      refine lv_aload_n hx hb dX9_level_19 rfl (lv_at hl 0 rfl) ?_
      refine lv_iload_n hx hb dX9_level_20 rfl (lv_at hl 1 rfl) ?_
      refine my_goV (wr := [(a_row, .inl (cJ, 64, .inr (.inl rf)))]) hP hD hS hA [0] [1] rfl rfl (by decide) (by decide) (my_cV (As := [.int j9]) (rest := []) (ci := 9) (wc := [(m0, .inr (9, [.int 0, .int 0, .ref a_row, .ref a_tape, .int 0, .int 0, .int 0, .int 0, .ref a_number, .ref a_read, .int 0, .ref a_readBits, .ref a_stands, .ref a_parted, .ref a_bitsWere, .ref a_stood, .ref a_chosen, .ref a_bestChosen, .int 0, .ref a_often, .ref a_sorted, .int 0, .ref a_risen, .ref a_risenWays]))]) ⟨hx, hb, hml, hown, hts⟩ (cwV 1 hts gX9_level_X9_laysLevel rfl rfl rfl (by decide +kernel) ⟨Nat.le_of_ble_eq_true rfl, Nat.le_of_ble_eq_true rfl⟩) hN hK hP hD [0] rfl (by decide) rfl 0 rfl rfl rfl rfl hl.1 rfl (Nat.le_of_ble_eq_true rfl) dX9_level_21 ⟨Nat.le_of_ble_eq_true rfl, Nat.le_of_ble_eq_true rfl⟩  ((k0_X9_laysLevel l D cI cJ m0 a_row a_tape a_number a_read a_readBits a_stands a_parted a_bitsWere a_stood a_chosen a_bestChosen a_often a_sorted a_risen a_risenWays (0 : Int32) (0 : Int32) (0 : Int32) (0 : Int32) (0 : Int32) (0 : Int32) (0 : Int32) (0 : Int32) j9 (by first | omega | decide +kernel)) _)) (fun u H locs hp hP hD hS => ?_)
      obtain rfl := hp
      have hP : va_P D vwCl [(a_row, .inl (cJ, 64, .inr (.inl rf))), (m0, .inr (9, [.int 0, .int 0, .ref a_row, .ref a_tape, .int 0, .int 0, .int 0, .int 0, .ref a_number, .ref a_read, .int 0, .ref a_readBits, .ref a_stands, .ref a_parted, .ref a_bitsWere, .ref a_stood, .ref a_chosen, .ref a_bestChosen, .int 0, .ref a_often, .ref a_sorted, .int 0, .ref a_risen, .ref a_risenWays]))] H := hP
      have hD : va_D A [(a_row, .inl (cJ, 64, .inr (.inl rf))), (m0, .inr (9, [.int 0, .int 0, .ref a_row, .ref a_tape, .int 0, .int 0, .int 0, .int 0, .ref a_number, .ref a_read, .int 0, .ref a_readBits, .ref a_stands, .ref a_parted, .ref a_bitsWere, .ref a_stood, .ref a_chosen, .ref a_bestChosen, .int 0, .ref a_often, .ref a_sorted, .int 0, .ref a_risen, .ref a_risenWays]))] := hD
      refine lv_iconst (v := 0) hx hb dX9_level_24 (by decide +kernel) ?_
      refine lv_istore_n (lv' := [(2, .int 0), (0, .ref m0), (1, .int j9)]) hx hb dX9_level_25 rfl hl (by decide) rfl (fun ls hl => ?_)
      refine lv_lconst (v := 0) hx hb dX9_level_26 (by decide +kernel) ?_
      refine lv_lstore_n (lv' := [(3, .long 0), (2, .int 0), (0, .ref m0), (1, .int j9)]) hx hb dX9_level_27 rfl hl (by decide) rfl (fun ls hl => ?_)
      refine lv_iconst (v := 0) hx hb dX9_level_28 (by decide +kernel) ?_
      refine lv_istore (lv' := [(5, .int 0), (3, .long 0), (2, .int 0), (0, .ref m0), (1, .int j9)]) hx hb dX9_level_29 hl (by decide) rfl (fun ls hl => ?_)
      refine lv_iload hx hb dX9_level_31 (lv_at hl 0 rfl) ?_
      refine lv_aload_n hx hb dX9_level_33 rfl (lv_at hl 3 rfl) ?_
      refine va_get (ci := 9) (v := .int 0) (C := RX9) (T := TX9) (N := 24) hx hb hts hi9 hown hK hP 1 rfl rfl 7 (by decide) fl88 (fun _ h9 => h9) rfl dX9_level_34 ?_
      refine lv_icmp_ge (tgt := 91) hx hb dX9_level_37 (by decide) (fun c37 => ?_) (fun c37 => ?_)
      ·
        refine lv_aload_n hx hb dX9_level_91 rfl (lv_at hl 3 rfl) ?_
        refine lv_iconst (v := 0) hx hb dX9_level_92 (by decide +kernel) ?_
        refine va_put (ci := 9) (v := .int 0) (ty := (.int)) (C := RX9) (T := TX9) (N := 24) hx hb hts hi9 tyX9 tyX9_ok nmX9 hown hK hP hD hS 1 rfl rfl 1 (by decide) fl11 (fun _ h9 => h9) rfl (by decide +kernel) rfl rfl (Nat.le_of_ble_eq_true rfl) dX9_level_93 (fun H locs hP hD hS => ?_)
        have hP : va_P D vwCl [(a_row, .inl (cJ, 64, .inr (.inl rf))), (m0, .inr (9, [.int 0, .int 0, .ref a_row, .ref a_tape, .int 0, .int 0, .int 0, .int 0, .ref a_number, .ref a_read, .int 0, .ref a_readBits, .ref a_stands, .ref a_parted, .ref a_bitsWere, .ref a_stood, .ref a_chosen, .ref a_bestChosen, .int 0, .ref a_often, .ref a_sorted, .int 0, .ref a_risen, .ref a_risenWays]))] H := hP
        have hD : va_D A [(a_row, .inl (cJ, 64, .inr (.inl rf))), (m0, .inr (9, [.int 0, .int 0, .ref a_row, .ref a_tape, .int 0, .int 0, .int 0, .int 0, .ref a_number, .ref a_read, .int 0, .ref a_readBits, .ref a_stands, .ref a_parted, .ref a_bitsWere, .ref a_stood, .ref a_chosen, .ref a_bestChosen, .int 0, .ref a_often, .ref a_sorted, .int 0, .ref a_risen, .ref a_risenWays]))] := hD
        refine lv_aload_n hx hb dX9_level_96 rfl (lv_at hl 3 rfl) ?_
        refine lv_lload_n hx hb dX9_level_97 rfl (lv_at hl 1 rfl) ?_
        refine my_goV (wr := []) hP hD hS hA [1, 0] [] rfl rfl (by decide) (by decide) (my_cV (As := [.long 0]) (rest := []) (ci := 9) (wc := [(m0, .inr (9, [.int 0, .int 0, .ref a_row, .ref a_tape, .int 0, .int 0, .int 0, .int 0, .ref a_number, .ref a_read, .int 0, .ref a_readBits, .ref a_stands, .ref a_parted, .ref a_bitsWere, .ref a_stood, .ref a_chosen, .ref a_bestChosen, .int 0, .ref a_often, .ref a_sorted, .int 0, .ref a_risen, .ref a_risenWays])), (a_row, .inl (cJ, 64, .inr (.inl rf)))]) ⟨hx, hb, hml, hown, hts⟩ (cwV 1 hts gX9_level_X9_enters rfl rfl rfl (by decide +kernel) ⟨Nat.le_of_ble_eq_true rfl, Nat.le_of_ble_eq_true rfl⟩) hN hK hP hD [1, 0] rfl (by decide) rfl 1 rfl rfl rfl rfl hl.1 rfl (Nat.le_of_ble_eq_true rfl) dX9_level_98 ⟨Nat.le_of_ble_eq_true rfl, Nat.le_of_ble_eq_true rfl⟩  ((k_X9_enters l D cI cJ m0 a_row a_tape a_number a_read a_readBits a_stands a_parted a_bitsWere a_stood a_chosen a_bestChosen a_often a_sorted a_risen a_risenWays (0 : Int32) (0 : Int32) (0 : Int32) (0 : Int32) (0 : Int32) (0 : Int32) (0 : Int32) (0 : Int32) 0 rf (0 : Int64) (by first | omega | decide +kernel)) _)) (fun u H locs hp hP hD hS => ?_)
        obtain ⟨f_4, rfl⟩ := hp
        have hP : va_P D vwCl [(m0, .inr (9, [.int 0, .int 1, .ref a_row, .ref a_tape, .int 0, .int 0, .int 0, .int 0, .ref a_number, .ref a_read, .int 0, .ref a_readBits, .ref a_stands, .ref a_parted, .ref a_bitsWere, .ref a_stood, .ref a_chosen, .ref a_bestChosen, .int 0, .ref a_often, .ref a_sorted, .int 0, .ref a_risen, .ref a_risenWays])), (a_row, .inl (cJ, 64, .inr (.inl f_4)))] H := hP
        have hD : va_D A [(m0, .inr (9, [.int 0, .int 1, .ref a_row, .ref a_tape, .int 0, .int 0, .int 0, .int 0, .ref a_number, .ref a_read, .int 0, .ref a_readBits, .ref a_stands, .ref a_parted, .ref a_bitsWere, .ref a_stood, .ref a_chosen, .ref a_bestChosen, .int 0, .ref a_often, .ref a_sorted, .int 0, .ref a_risen, .ref a_risenWays])), (a_row, .inl (cJ, 64, .inr (.inl f_4)))] := hD
        refine lv_aload_n hx hb dX9_level_101 rfl (lv_at hl 3 rfl) ?_
        refine lv_aload_n hx hb dX9_level_102 rfl (lv_at hl 3 rfl) ?_
        refine lv_bipush (v := 7) hx hb dX9_level_103 (by decide +kernel) ?_
        refine lv_iload_n hx hb dX9_level_105 rfl (lv_at hl 4 rfl) ?_
        refine lv_isub hx hb dX9_level_106 ?_
        refine lv_topi (fun z_5 ez_5 => ?_)
        refine my_gpI (my_pV (As := [.int z_5]) (rest := [.ref m0]) (ci := 9) ⟨hx, hb, hml, hown, hts⟩ (cwV 1 hts gX9_level_X9_runsOf rfl rfl rfl (by decide +kernel) ⟨Nat.le_of_ble_eq_true rfl, Nat.le_of_ble_eq_true rfl⟩) hN hK hP [0] rfl 0 rfl rfl rfl rfl hl.1 rfl (Nat.le_of_ble_eq_true rfl) dX9_level_107 ⟨Nat.le_of_ble_eq_true rfl, Nat.le_of_ble_eq_true rfl⟩  (k0_X9_runsOf l D cI cJ m0 a_row a_tape a_number a_read a_readBits a_stands a_parted a_bitsWere a_stood a_chosen a_bestChosen a_often a_sorted a_risen a_risenWays (0 : Int32) (1 : Int32) (0 : Int32) (0 : Int32) (0 : Int32) (0 : Int32) (0 : Int32) (0 : Int32) z_5)) (fun r hp => ?_)
        obtain rfl := hp
        refine lv_i2l (v := 0) hx hb dX9_level_110 (by decide +kernel) ?_
        refine my_goV (wr := []) hP hD hS hA [0, 1] [] rfl rfl (by decide) (by decide) (my_cV (As := [.long 0]) (rest := []) (ci := 9) (wc := [(m0, .inr (9, [.int 0, .int 1, .ref a_row, .ref a_tape, .int 0, .int 0, .int 0, .int 0, .ref a_number, .ref a_read, .int 0, .ref a_readBits, .ref a_stands, .ref a_parted, .ref a_bitsWere, .ref a_stood, .ref a_chosen, .ref a_bestChosen, .int 0, .ref a_often, .ref a_sorted, .int 0, .ref a_risen, .ref a_risenWays])), (a_row, .inl (cJ, 64, .inr (.inl f_4)))]) ⟨hx, hb, hml, hown, hts⟩ (cwV 1 hts gX9_level_X9_enters rfl rfl rfl (by decide +kernel) ⟨Nat.le_of_ble_eq_true rfl, Nat.le_of_ble_eq_true rfl⟩) hN hK hP hD [0, 1] rfl (by decide) rfl 0 rfl rfl rfl rfl hl.1 rfl (Nat.le_of_ble_eq_true rfl) dX9_level_111 ⟨Nat.le_of_ble_eq_true rfl, Nat.le_of_ble_eq_true rfl⟩  ((k_X9_enters l D cI cJ m0 a_row a_tape a_number a_read a_readBits a_stands a_parted a_bitsWere a_stood a_chosen a_bestChosen a_often a_sorted a_risen a_risenWays (0 : Int32) (0 : Int32) (0 : Int32) (0 : Int32) (0 : Int32) (0 : Int32) (0 : Int32) (0 : Int32) 1 f_4 (0 : Int64) (by first | omega | decide +kernel)) _)) (fun u H locs hp hP hD hS => ?_)
        obtain ⟨f_6, rfl⟩ := hp
        have hP : va_P D vwCl [(m0, .inr (9, [.int 0, .int 2, .ref a_row, .ref a_tape, .int 0, .int 0, .int 0, .int 0, .ref a_number, .ref a_read, .int 0, .ref a_readBits, .ref a_stands, .ref a_parted, .ref a_bitsWere, .ref a_stood, .ref a_chosen, .ref a_bestChosen, .int 0, .ref a_often, .ref a_sorted, .int 0, .ref a_risen, .ref a_risenWays])), (a_row, .inl (cJ, 64, .inr (.inl f_6)))] H := hP
        have hD : va_D A [(m0, .inr (9, [.int 0, .int 2, .ref a_row, .ref a_tape, .int 0, .int 0, .int 0, .int 0, .ref a_number, .ref a_read, .int 0, .ref a_readBits, .ref a_stands, .ref a_parted, .ref a_bitsWere, .ref a_stood, .ref a_chosen, .ref a_bestChosen, .int 0, .ref a_often, .ref a_sorted, .int 0, .ref a_risen, .ref a_risenWays])), (a_row, .inl (cJ, 64, .inr (.inl f_6)))] := hD
        refine lv_iload_n hx hb dX9_level_114 rfl (lv_at hl 2 rfl) ?_
        exact my_retI hx hb hr hlocks hK hS [] (hP.sub [] rfl) (hD.sub [] (by decide) rfl) (Or.inl ⟨rfl, rfl, (by first | omega | assumption | trivial | decide +kernel), (by first | omega | assumption | trivial | decide +kernel)⟩) dX9_level_115
      ·
        exact absurd c37 (by decide +kernel)
    ·
      exact absurd c14 (by decide +kernel)
  ·
    refine lv_if_ne (tgt := 19) hx hb dX9_level_14 (by decide) (fun c14 => ?_) (fun c14 => ?_)
    ·
      exact absurd c14 (by decide +kernel)
    ·
      refine lv_iconst (v := (-1)) hx hb dX9_level_17 (by decide +kernel) ?_
      exact my_retI hx hb hr hlocks hK hS [] (hP.sub [] rfl) (hD.sub [] (by decide) rfl) (Or.inr (⟨rfl, rfl, (by first | omega | assumption | trivial | decide +kernel)⟩)) dX9_level_18
set_option maxHeartbeats 4000000 in
set_option maxRecDepth 100000 in
theorem k0_X9_spot (l : Launch) (D : va_G) (cI cJ : ClassId) (m0 : Nat) (a_row : Nat) (a_tape : Nat) (a_number : Nat) (a_read : Nat) (a_readBits : Nat) (a_stands : Nat) (a_parted : Nat) (a_bitsWere : Nat) (a_stood : Nat) (a_chosen : Nat) (a_bestChosen : Nat) (a_often : Nat) (a_sorted : Nat) (a_risen : Nat) (a_risenWays : Nat) (p9 : Int32) (j9 : Int32) : ctI l yX9_spot wsX9_spot ({ frames := 2, cells := 0, slots := 0, locals := 120 } : Room) D (tyIJ cI cJ) [.ref m0, .int p9, .int j9] [(m0, .inr (9, [.int 0, .int 0, .ref a_row, .ref a_tape, .int 0, .int 0, .int 0, .int 0, .ref a_number, .ref a_read, .int 0, .ref a_readBits, .ref a_stands, .ref a_parted, .ref a_bitsWere, .ref a_stood, .ref a_chosen, .ref a_bestChosen, .int 0, .ref a_often, .ref a_sorted, .int 0, .ref a_risen, .ref a_risenWays]))] (fun (r : Int32) (u : va_W) => (u = [] ∧ r = (-2) ∧ 0 ≤ j9.toInt ∧ j9.toInt ≤ 8) ∨ (u = [] ∧ r = (-1) ∧ (j9.toInt < 0 ∨ 8 < j9.toInt))) := by
  refine ctI.of (cc := cX9_spot) (maxL := 4) (ret := (some .int)) (by decide) rfl (Nat.le_of_ble_eq_true rfl) ?_
  intro p e s m below meth c ls A hx hb hr hts hown hml hlocks hname hA hK hN hP hD hS hl
  have hl : lv_has ls 4 [(0, .ref m0), (1, .int p9), (2, .int j9)] := hl
  have hown : s.vm.findClass RX9 = some m.cls := hown
  have hi9 : ∀ w ∈ u_ws RX9 TX9 24, w ∈ wsX9_spot := by decide +kernel
  have fl1 := hts (.fieldLink RX9 1 "PlaneColumnModel" "thrown" "I") (by decide +kernel)
  refine lv_aload_n hx hb dX9_spot_0 rfl (lv_at hl 0 rfl) ?_
  refine lv_iconst (v := 0) hx hb dX9_spot_1 (by decide +kernel) ?_
  refine va_put (ci := 9) (v := .int 0) (ty := (.int)) (C := RX9) (T := TX9) (N := 24) hx hb hts hi9 tyX9 tyX9_ok nmX9 hown hK hP hD hS 0 rfl rfl 0 (by decide) fl1 (fun _ h9 => h9) rfl (by decide +kernel) rfl rfl (Nat.le_of_ble_eq_true rfl) dX9_spot_2 (fun H locs hP hD hS => ?_)
  have hP : va_P D vwCl [(m0, .inr (9, [.int 0, .int 0, .ref a_row, .ref a_tape, .int 0, .int 0, .int 0, .int 0, .ref a_number, .ref a_read, .int 0, .ref a_readBits, .ref a_stands, .ref a_parted, .ref a_bitsWere, .ref a_stood, .ref a_chosen, .ref a_bestChosen, .int 0, .ref a_often, .ref a_sorted, .int 0, .ref a_risen, .ref a_risenWays]))] H := hP
  have hD : va_D A [(m0, .inr (9, [.int 0, .int 0, .ref a_row, .ref a_tape, .int 0, .int 0, .int 0, .int 0, .ref a_number, .ref a_read, .int 0, .ref a_readBits, .ref a_stands, .ref a_parted, .ref a_bitsWere, .ref a_stood, .ref a_chosen, .ref a_bestChosen, .int 0, .ref a_often, .ref a_sorted, .int 0, .ref a_risen, .ref a_risenWays]))] := hD
  refine lv_iload_n hx hb dX9_spot_5 rfl (lv_at hl 2 rfl) ?_
  refine lv_i2l (v := j9.toInt64) hx hb dX9_spot_6 rfl ?_
  refine lv_lconst (v := 0) hx hb dX9_spot_7 (by decide +kernel) ?_
  refine lv_ldc2 (v := 8) hx hb hown (hts (.constantLong RX9 160 (8)) (by decide +kernel)) dX9_spot_8 ?_
  refine my_gpI (my_pS (As := [.long j9.toInt64, .long 0, .long 8]) (rest := []) ⟨hx, hb, hml, hown, hts⟩ (va_cwS 3 hts gX9_spot_X9_in rfl rfl rfl (by decide +kernel) ⟨Nat.le_of_ble_eq_true rfl, Nat.le_of_ble_eq_true rfl⟩) hN hK hP [] rfl rfl hl.1 rfl (Nat.le_of_ble_eq_true rfl) dX9_spot_11 ⟨Nat.le_of_ble_eq_true rfl, Nat.le_of_ble_eq_true rfl⟩  (k_X9_in l D cI cJ j9.toInt64 (0 : Int64) (8 : Int64) j9.toInt (0 : Int) (8 : Int) (Int32.toInt_toInt64 _) (by decide +kernel) (by decide +kernel))) (fun r hp => ?_)
  rcases hp with ⟨rfl, ha_1, hb_2⟩ | ⟨rfl, ha_3⟩
  ·
    refine lv_if_ne (tgt := 19) hx hb dX9_spot_14 (by decide) (fun c14 => ?_) (fun c14 => ?_)
    ·
      refine lv_aload_n hx hb dX9_spot_19 rfl (lv_at hl 0 rfl) ?_
      refine lv_iload_n hx hb dX9_spot_20 rfl (lv_at hl 1 rfl) ?_
      refine my_gpI (my_pV (As := [.int p9]) (rest := []) (ci := 9) ⟨hx, hb, hml, hown, hts⟩ (cwV 1 hts gX9_spot_X9_isPlace rfl rfl rfl (by decide +kernel) ⟨Nat.le_of_ble_eq_true rfl, Nat.le_of_ble_eq_true rfl⟩) hN hK hP [0] rfl 0 rfl rfl rfl rfl hl.1 rfl (Nat.le_of_ble_eq_true rfl) dX9_spot_21 ⟨Nat.le_of_ble_eq_true rfl, Nat.le_of_ble_eq_true rfl⟩  (k0_X9_isPlace l D cI cJ m0 a_row a_tape a_number a_read a_readBits a_stands a_parted a_bitsWere a_stood a_chosen a_bestChosen a_often a_sorted a_risen a_risenWays (0 : Int32) (0 : Int32) (0 : Int32) (0 : Int32) (0 : Int32) (0 : Int32) (0 : Int32) (0 : Int32) p9)) (fun r hp => ?_)
      obtain rfl := hp
      refine lv_if_ne (tgt := 30) hx hb dX9_spot_24 (by decide) (fun c24 => ?_) (fun c24 => ?_)
      ·
        exact absurd c24 (by decide +kernel)
      ·
        refine lv_bipush (v := (-2)) hx hb dX9_spot_27 (by decide +kernel) ?_
        exact my_retI hx hb hr hlocks hK hS [] (hP.sub [] rfl) (hD.sub [] (by decide) rfl) (Or.inl ⟨rfl, rfl, (by first | omega | assumption | trivial | decide +kernel), (by first | omega | assumption | trivial | decide +kernel)⟩) dX9_spot_29
    ·
      exact absurd c14 (by decide +kernel)
  ·
    refine lv_if_ne (tgt := 19) hx hb dX9_spot_14 (by decide) (fun c14 => ?_) (fun c14 => ?_)
    ·
      exact absurd c14 (by decide +kernel)
    ·
      refine lv_iconst (v := (-1)) hx hb dX9_spot_17 (by decide +kernel) ?_
      exact my_retI hx hb hr hlocks hK hS [] (hP.sub [] rfl) (hD.sub [] (by decide) rfl) (Or.inr (⟨rfl, rfl, (by first | omega | assumption | trivial | decide +kernel)⟩)) dX9_spot_18
set_option maxHeartbeats 4000000 in
set_option maxRecDepth 100000 in
theorem k0_X9_from (l : Launch) (D : va_G) (cI cJ : ClassId) (m0 : Nat) (a_row : Nat) (a_tape : Nat) (a_number : Nat) (a_read : Nat) (a_readBits : Nat) (a_stands : Nat) (a_parted : Nat) (a_bitsWere : Nat) (a_stood : Nat) (a_chosen : Nat) (a_bestChosen : Nat) (a_often : Nat) (a_sorted : Nat) (a_risen : Nat) (a_risenWays : Nat) (j9 : Int32) (p9 : Int32) : ctI l yX9_from wsX9_from ({ frames := 2, cells := 0, slots := 0, locals := 120 } : Room) D (tyIJ cI cJ) [.ref m0, .int j9, .int p9] [(m0, .inr (9, [.int 0, .int 0, .ref a_row, .ref a_tape, .int 0, .int 0, .int 0, .int 0, .ref a_number, .ref a_read, .int 0, .ref a_readBits, .ref a_stands, .ref a_parted, .ref a_bitsWere, .ref a_stood, .ref a_chosen, .ref a_bestChosen, .int 0, .ref a_often, .ref a_sorted, .int 0, .ref a_risen, .ref a_risenWays]))] (fun (r : Int32) (u : va_W) => (u = [] ∧ r = (-2) ∧ 0 ≤ j9.toInt ∧ j9.toInt ≤ 8) ∨ (u = [] ∧ r = (-1) ∧ (j9.toInt < 0 ∨ 8 < j9.toInt))) := by
  refine ctI.of (cc := cX9_from) (maxL := 3) (ret := (some .int)) (by decide) rfl (Nat.le_of_ble_eq_true rfl) ?_
  intro p e s m below meth c ls A hx hb hr hts hown hml hlocks hname hA hK hN hP hD hS hl
  have hl : lv_has ls 3 [(0, .ref m0), (1, .int j9), (2, .int p9)] := hl
  have hown : s.vm.findClass RX9 = some m.cls := hown
  have hi9 : ∀ w ∈ u_ws RX9 TX9 24, w ∈ wsX9_from := by decide +kernel
  have fl1 := hts (.fieldLink RX9 1 "PlaneColumnModel" "thrown" "I") (by decide +kernel)
  refine lv_aload_n hx hb dX9_from_0 rfl (lv_at hl 0 rfl) ?_
  refine lv_iconst (v := 0) hx hb dX9_from_1 (by decide +kernel) ?_
  refine va_put (ci := 9) (v := .int 0) (ty := (.int)) (C := RX9) (T := TX9) (N := 24) hx hb hts hi9 tyX9 tyX9_ok nmX9 hown hK hP hD hS 0 rfl rfl 0 (by decide) fl1 (fun _ h9 => h9) rfl (by decide +kernel) rfl rfl (Nat.le_of_ble_eq_true rfl) dX9_from_2 (fun H locs hP hD hS => ?_)
  have hP : va_P D vwCl [(m0, .inr (9, [.int 0, .int 0, .ref a_row, .ref a_tape, .int 0, .int 0, .int 0, .int 0, .ref a_number, .ref a_read, .int 0, .ref a_readBits, .ref a_stands, .ref a_parted, .ref a_bitsWere, .ref a_stood, .ref a_chosen, .ref a_bestChosen, .int 0, .ref a_often, .ref a_sorted, .int 0, .ref a_risen, .ref a_risenWays]))] H := hP
  have hD : va_D A [(m0, .inr (9, [.int 0, .int 0, .ref a_row, .ref a_tape, .int 0, .int 0, .int 0, .int 0, .ref a_number, .ref a_read, .int 0, .ref a_readBits, .ref a_stands, .ref a_parted, .ref a_bitsWere, .ref a_stood, .ref a_chosen, .ref a_bestChosen, .int 0, .ref a_often, .ref a_sorted, .int 0, .ref a_risen, .ref a_risenWays]))] := hD
  refine lv_iload_n hx hb dX9_from_5 rfl (lv_at hl 1 rfl) ?_
  refine lv_i2l (v := j9.toInt64) hx hb dX9_from_6 rfl ?_
  refine lv_lconst (v := 0) hx hb dX9_from_7 (by decide +kernel) ?_
  refine lv_ldc2 (v := 8) hx hb hown (hts (.constantLong RX9 160 (8)) (by decide +kernel)) dX9_from_8 ?_
  refine my_gpI (my_pS (As := [.long j9.toInt64, .long 0, .long 8]) (rest := []) ⟨hx, hb, hml, hown, hts⟩ (va_cwS 3 hts gX9_from_X9_in rfl rfl rfl (by decide +kernel) ⟨Nat.le_of_ble_eq_true rfl, Nat.le_of_ble_eq_true rfl⟩) hN hK hP [] rfl rfl hl.1 rfl (Nat.le_of_ble_eq_true rfl) dX9_from_11 ⟨Nat.le_of_ble_eq_true rfl, Nat.le_of_ble_eq_true rfl⟩  (k_X9_in l D cI cJ j9.toInt64 (0 : Int64) (8 : Int64) j9.toInt (0 : Int) (8 : Int) (Int32.toInt_toInt64 _) (by decide +kernel) (by decide +kernel))) (fun r hp => ?_)
  rcases hp with ⟨rfl, ha_1, hb_2⟩ | ⟨rfl, ha_3⟩
  ·
    refine lv_if_ne (tgt := 19) hx hb dX9_from_14 (by decide) (fun c14 => ?_) (fun c14 => ?_)
    ·
      refine lv_aload_n hx hb dX9_from_19 rfl (lv_at hl 0 rfl) ?_
      refine lv_iload_n hx hb dX9_from_20 rfl (lv_at hl 2 rfl) ?_
      refine my_gpI (my_pV (As := [.int p9]) (rest := []) (ci := 9) ⟨hx, hb, hml, hown, hts⟩ (cwV 1 hts gX9_from_X9_isPlace rfl rfl rfl (by decide +kernel) ⟨Nat.le_of_ble_eq_true rfl, Nat.le_of_ble_eq_true rfl⟩) hN hK hP [0] rfl 0 rfl rfl rfl rfl hl.1 rfl (Nat.le_of_ble_eq_true rfl) dX9_from_21 ⟨Nat.le_of_ble_eq_true rfl, Nat.le_of_ble_eq_true rfl⟩  (k0_X9_isPlace l D cI cJ m0 a_row a_tape a_number a_read a_readBits a_stands a_parted a_bitsWere a_stood a_chosen a_bestChosen a_often a_sorted a_risen a_risenWays (0 : Int32) (0 : Int32) (0 : Int32) (0 : Int32) (0 : Int32) (0 : Int32) (0 : Int32) (0 : Int32) p9)) (fun r hp => ?_)
      obtain rfl := hp
      refine lv_if_ne (tgt := 30) hx hb dX9_from_24 (by decide) (fun c24 => ?_) (fun c24 => ?_)
      ·
        exact absurd c24 (by decide +kernel)
      ·
        refine lv_bipush (v := (-2)) hx hb dX9_from_27 (by decide +kernel) ?_
        exact my_retI hx hb hr hlocks hK hS [] (hP.sub [] rfl) (hD.sub [] (by decide) rfl) (Or.inl ⟨rfl, rfl, (by first | omega | assumption | trivial | decide +kernel), (by first | omega | assumption | trivial | decide +kernel)⟩) dX9_from_29
    ·
      exact absurd c14 (by decide +kernel)
  ·
    refine lv_if_ne (tgt := 19) hx hb dX9_from_14 (by decide) (fun c14 => ?_) (fun c14 => ?_)
    ·
      exact absurd c14 (by decide +kernel)
    ·
      refine lv_iconst (v := (-1)) hx hb dX9_from_17 (by decide +kernel) ?_
      exact my_retI hx hb hr hlocks hK hS [] (hP.sub [] rfl) (hD.sub [] (by decide) rfl) (Or.inr (⟨rfl, rfl, (by first | omega | assumption | trivial | decide +kernel)⟩)) dX9_from_18
set_option maxHeartbeats 4000000 in
set_option maxRecDepth 100000 in
theorem k0_X9_runs (l : Launch) (D : va_G) (cI cJ : ClassId) (m0 : Nat) (a_row : Nat) (a_tape : Nat) (a_number : Nat) (a_read : Nat) (a_readBits : Nat) (a_stands : Nat) (a_parted : Nat) (a_bitsWere : Nat) (a_stood : Nat) (a_chosen : Nat) (a_bestChosen : Nat) (a_often : Nat) (a_sorted : Nat) (a_risen : Nat) (a_risenWays : Nat) (rf : Nat → Int64) : ctI l yX9_runs wsX9_runs ({ frames := 1, cells := 0, slots := 0, locals := 60 } : Room) D (tyIJ cI cJ) [.ref m0] [(m0, .inr (9, [.int 0, .int 0, .ref a_row, .ref a_tape, .int 0, .int 0, .int 0, .int 0, .ref a_number, .ref a_read, .int 0, .ref a_readBits, .ref a_stands, .ref a_parted, .ref a_bitsWere, .ref a_stood, .ref a_chosen, .ref a_bestChosen, .int 0, .ref a_often, .ref a_sorted, .int 0, .ref a_risen, .ref a_risenWays])), (a_row, .inl (cJ, 64, .inr (.inl rf)))] (fun (r : Int32) (u : va_W) => u = [] ∧ r = 0) := by
  refine ctI.of (cc := cX9_runs) (maxL := 4) (ret := (some .int)) (by decide) rfl (Nat.le_of_ble_eq_true rfl) ?_
  intro p e s m below meth c ls A hx hb hr hts hown hml hlocks hname hA hK hN hP hD hS hl
  have hl : lv_has ls 4 [(0, .ref m0)] := hl
  have hown : s.vm.findClass RX9 = some m.cls := hown
  have hi9 : ∀ w ∈ u_ws RX9 TX9 24, w ∈ wsX9_runs := by decide +kernel
  have fl1 := hts (.fieldLink RX9 1 "PlaneColumnModel" "thrown" "I") (by decide +kernel)
  have fl11 := hts (.fieldLink RX9 11 "PlaneColumnModel" "told" "I") (by decide +kernel)
  refine lv_aload_n hx hb dX9_runs_0 rfl (lv_at hl 0 rfl) ?_
  refine lv_iconst (v := 0) hx hb dX9_runs_1 (by decide +kernel) ?_
  refine va_put (ci := 9) (v := .int 0) (ty := (.int)) (C := RX9) (T := TX9) (N := 24) hx hb hts hi9 tyX9 tyX9_ok nmX9 hown hK hP hD hS 0 rfl rfl 0 (by decide) fl1 (fun _ h9 => h9) rfl (by decide +kernel) rfl rfl (Nat.le_of_ble_eq_true rfl) dX9_runs_2 (fun H locs hP hD hS => ?_)
  have hP : va_P D vwCl [(m0, .inr (9, [.int 0, .int 0, .ref a_row, .ref a_tape, .int 0, .int 0, .int 0, .int 0, .ref a_number, .ref a_read, .int 0, .ref a_readBits, .ref a_stands, .ref a_parted, .ref a_bitsWere, .ref a_stood, .ref a_chosen, .ref a_bestChosen, .int 0, .ref a_often, .ref a_sorted, .int 0, .ref a_risen, .ref a_risenWays])), (a_row, .inl (cJ, 64, .inr (.inl rf)))] H := hP
  have hD : va_D A [(m0, .inr (9, [.int 0, .int 0, .ref a_row, .ref a_tape, .int 0, .int 0, .int 0, .int 0, .ref a_number, .ref a_read, .int 0, .ref a_readBits, .ref a_stands, .ref a_parted, .ref a_bitsWere, .ref a_stood, .ref a_chosen, .ref a_bestChosen, .int 0, .ref a_often, .ref a_sorted, .int 0, .ref a_risen, .ref a_risenWays])), (a_row, .inl (cJ, 64, .inr (.inl rf)))] := hD
  refine lv_aload_n hx hb dX9_runs_5 rfl (lv_at hl 0 rfl) ?_
  refine my_goV (wr := [(a_row, .inl (cJ, 64, .inr (.inl rf)))]) hP hD hS hA [0] [1] rfl rfl (by decide) (by decide) (my_cV (As := []) (rest := []) (ci := 9) (wc := [(m0, .inr (9, [.int 0, .int 0, .ref a_row, .ref a_tape, .int 0, .int 0, .int 0, .int 0, .ref a_number, .ref a_read, .int 0, .ref a_readBits, .ref a_stands, .ref a_parted, .ref a_bitsWere, .ref a_stood, .ref a_chosen, .ref a_bestChosen, .int 0, .ref a_often, .ref a_sorted, .int 0, .ref a_risen, .ref a_risenWays]))]) ⟨hx, hb, hml, hown, hts⟩ (cwV 0 hts gX9_runs_X9_begins rfl rfl rfl (by decide +kernel) ⟨Nat.le_of_ble_eq_true rfl, Nat.le_of_ble_eq_true rfl⟩) hN hK hP hD [0] rfl (by decide) rfl 0 rfl rfl rfl rfl hl.1 rfl (Nat.le_of_ble_eq_true rfl) dX9_runs_6 ⟨Nat.le_of_ble_eq_true rfl, Nat.le_of_ble_eq_true rfl⟩  ((k0_X9_begins l D cI cJ m0 a_row a_tape a_number a_read a_readBits a_stands a_parted a_bitsWere a_stood a_chosen a_bestChosen a_often a_sorted a_risen a_risenWays (0 : Int32) (0 : Int32) (0 : Int32) (0 : Int32) (0 : Int32) (0 : Int32) (0 : Int32) (0 : Int32)) _)) (fun u H locs hp hP hD hS => ?_)
  obtain rfl := hp
  have hP : va_P D vwCl [(a_row, .inl (cJ, 64, .inr (.inl rf))), (m0, .inr (9, [.int 0, .int 0, .ref a_row, .ref a_tape, .int 0, .int 0, .int 0, .int 0, .ref a_number, .ref a_read, .int 0, .ref a_readBits, .ref a_stands, .ref a_parted, .ref a_bitsWere, .ref a_stood, .ref a_chosen, .ref a_bestChosen, .int 0, .ref a_often, .ref a_sorted, .int 0, .ref a_risen, .ref a_risenWays]))] H := hP
  have hD : va_D A [(a_row, .inl (cJ, 64, .inr (.inl rf))), (m0, .inr (9, [.int 0, .int 0, .ref a_row, .ref a_tape, .int 0, .int 0, .int 0, .int 0, .ref a_number, .ref a_read, .int 0, .ref a_readBits, .ref a_stands, .ref a_parted, .ref a_bitsWere, .ref a_stood, .ref a_chosen, .ref a_bestChosen, .int 0, .ref a_often, .ref a_sorted, .int 0, .ref a_risen, .ref a_risenWays]))] := hD
  refine lv_aload_n hx hb dX9_runs_9 rfl (lv_at hl 0 rfl) ?_
  refine lv_iconst (v := 0) hx hb dX9_runs_10 (by decide +kernel) ?_
  refine va_put (ci := 9) (v := .int 0) (ty := (.int)) (C := RX9) (T := TX9) (N := 24) hx hb hts hi9 tyX9 tyX9_ok nmX9 hown hK hP hD hS 1 rfl rfl 1 (by decide) fl11 (fun _ h9 => h9) rfl (by decide +kernel) rfl rfl (Nat.le_of_ble_eq_true rfl) dX9_runs_11 (fun H locs hP hD hS => ?_)
  have hP : va_P D vwCl [(a_row, .inl (cJ, 64, .inr (.inl rf))), (m0, .inr (9, [.int 0, .int 0, .ref a_row, .ref a_tape, .int 0, .int 0, .int 0, .int 0, .ref a_number, .ref a_read, .int 0, .ref a_readBits, .ref a_stands, .ref a_parted, .ref a_bitsWere, .ref a_stood, .ref a_chosen, .ref a_bestChosen, .int 0, .ref a_often, .ref a_sorted, .int 0, .ref a_risen, .ref a_risenWays]))] H := hP
  have hD : va_D A [(a_row, .inl (cJ, 64, .inr (.inl rf))), (m0, .inr (9, [.int 0, .int 0, .ref a_row, .ref a_tape, .int 0, .int 0, .int 0, .int 0, .ref a_number, .ref a_read, .int 0, .ref a_readBits, .ref a_stands, .ref a_parted, .ref a_bitsWere, .ref a_stood, .ref a_chosen, .ref a_bestChosen, .int 0, .ref a_often, .ref a_sorted, .int 0, .ref a_risen, .ref a_risenWays]))] := hD
  refine lv_iconst (v := 0) hx hb dX9_runs_14 (by decide +kernel) ?_
  refine lv_istore_n (lv' := [(1, .int 0), (0, .ref m0)]) hx hb dX9_runs_15 rfl hl (by decide) rfl (fun ls hl => ?_)
  refine lv_bipush (v := 7) hx hb dX9_runs_16 (by decide +kernel) ?_
  refine lv_istore_n (lv' := [(2, .int 7), (1, .int 0), (0, .ref m0)]) hx hb dX9_runs_18 rfl hl (by decide) rfl (fun ls hl => ?_)
  refine lv_iload_n hx hb dX9_runs_19 rfl (lv_at hl 0 rfl) ?_
  refine lv_if_lt (tgt := 50) hx hb dX9_runs_20 (by decide) (fun c20 => ?_) (fun c20 => ?_)
  ·
    exact absurd c20 (by decide +kernel)
  ·
    refine lv_aload_n hx hb dX9_runs_23 rfl (lv_at hl 2 rfl) ?_
    refine lv_iload_n hx hb dX9_runs_24 rfl (lv_at hl 0 rfl) ?_
    refine my_gpI (my_pV (As := [.int 7]) (rest := []) (ci := 9) ⟨hx, hb, hml, hown, hts⟩ (cwV 1 hts gX9_runs_X9_runsOf rfl rfl rfl (by decide +kernel) ⟨Nat.le_of_ble_eq_true rfl, Nat.le_of_ble_eq_true rfl⟩) hN hK hP [1] rfl 1 rfl rfl rfl rfl hl.1 rfl (Nat.le_of_ble_eq_true rfl) dX9_runs_25 ⟨Nat.le_of_ble_eq_true rfl, Nat.le_of_ble_eq_true rfl⟩  (k0_X9_runsOf l D cI cJ m0 a_row a_tape a_number a_read a_readBits a_stands a_parted a_bitsWere a_stood a_chosen a_bestChosen a_often a_sorted a_risen a_risenWays (0 : Int32) (0 : Int32) (0 : Int32) (0 : Int32) (0 : Int32) (0 : Int32) (0 : Int32) (0 : Int32) (7 : Int32))) (fun r hp => ?_)
    obtain rfl := hp
    refine lv_istore_n (lv' := [(3, .int 0), (2, .int 7), (1, .int 0), (0, .ref m0)]) hx hb dX9_runs_28 rfl hl (by decide) rfl (fun ls hl => ?_)
    refine lv_aload_n hx hb dX9_runs_29 rfl (lv_at hl 3 rfl) ?_
    refine lv_iload_n hx hb dX9_runs_30 rfl (lv_at hl 0 rfl) ?_
    refine lv_i2l (v := 0) hx hb dX9_runs_31 (by decide +kernel) ?_
    refine my_goV (wr := []) hP hD hS hA [1, 0] [] rfl rfl (by decide) (by decide) (my_cV (As := [.long 0]) (rest := []) (ci := 9) (wc := [(m0, .inr (9, [.int 0, .int 0, .ref a_row, .ref a_tape, .int 0, .int 0, .int 0, .int 0, .ref a_number, .ref a_read, .int 0, .ref a_readBits, .ref a_stands, .ref a_parted, .ref a_bitsWere, .ref a_stood, .ref a_chosen, .ref a_bestChosen, .int 0, .ref a_often, .ref a_sorted, .int 0, .ref a_risen, .ref a_risenWays])), (a_row, .inl (cJ, 64, .inr (.inl rf)))]) ⟨hx, hb, hml, hown, hts⟩ (cwV 1 hts gX9_runs_X9_enters rfl rfl rfl (by decide +kernel) ⟨Nat.le_of_ble_eq_true rfl, Nat.le_of_ble_eq_true rfl⟩) hN hK hP hD [1, 0] rfl (by decide) rfl 1 rfl rfl rfl rfl hl.1 rfl (Nat.le_of_ble_eq_true rfl) dX9_runs_32 ⟨Nat.le_of_ble_eq_true rfl, Nat.le_of_ble_eq_true rfl⟩  ((k_X9_enters l D cI cJ m0 a_row a_tape a_number a_read a_readBits a_stands a_parted a_bitsWere a_stood a_chosen a_bestChosen a_often a_sorted a_risen a_risenWays (0 : Int32) (0 : Int32) (0 : Int32) (0 : Int32) (0 : Int32) (0 : Int32) (0 : Int32) (0 : Int32) 0 rf (0 : Int64) (by first | omega | decide +kernel)) _)) (fun u H locs hp hP hD hS => ?_)
    obtain ⟨f_1, rfl⟩ := hp
    have hP : va_P D vwCl [(m0, .inr (9, [.int 0, .int 1, .ref a_row, .ref a_tape, .int 0, .int 0, .int 0, .int 0, .ref a_number, .ref a_read, .int 0, .ref a_readBits, .ref a_stands, .ref a_parted, .ref a_bitsWere, .ref a_stood, .ref a_chosen, .ref a_bestChosen, .int 0, .ref a_often, .ref a_sorted, .int 0, .ref a_risen, .ref a_risenWays])), (a_row, .inl (cJ, 64, .inr (.inl f_1)))] H := hP
    have hD : va_D A [(m0, .inr (9, [.int 0, .int 1, .ref a_row, .ref a_tape, .int 0, .int 0, .int 0, .int 0, .ref a_number, .ref a_read, .int 0, .ref a_readBits, .ref a_stands, .ref a_parted, .ref a_bitsWere, .ref a_stood, .ref a_chosen, .ref a_bestChosen, .int 0, .ref a_often, .ref a_sorted, .int 0, .ref a_risen, .ref a_risenWays])), (a_row, .inl (cJ, 64, .inr (.inl f_1)))] := hD
    refine lv_iload_n hx hb dX9_runs_35 rfl (lv_at hl 2 rfl) ?_
    refine lv_iload_n hx hb dX9_runs_36 rfl (lv_at hl 0 rfl) ?_
    refine lv_iadd hx hb dX9_runs_37 ?_
    refine my_eqi (y := 0) (by decide +kernel) ?_
    refine lv_istore_n (lv' := [(1, .int 0), (3, .int 0), (2, .int 7), (0, .ref m0)]) hx hb dX9_runs_38 rfl hl (by decide) rfl (fun ls hl => ?_)
    refine lv_aload_n hx hb dX9_runs_39 rfl (lv_at hl 3 rfl) ?_
    refine lv_iload_n hx hb dX9_runs_40 rfl (lv_at hl 2 rfl) ?_
    refine my_goV (wr := [(a_row, .inl (cJ, 64, .inr (.inl f_1)))]) hP hD hS hA [0] [1] rfl rfl (by decide) (by decide) (my_cV (As := [.int 7]) (rest := []) (ci := 9) (wc := [(m0, .inr (9, [.int 0, .int 1, .ref a_row, .ref a_tape, .int 0, .int 0, .int 0, .int 0, .ref a_number, .ref a_read, .int 0, .ref a_readBits, .ref a_stands, .ref a_parted, .ref a_bitsWere, .ref a_stood, .ref a_chosen, .ref a_bestChosen, .int 0, .ref a_often, .ref a_sorted, .int 0, .ref a_risen, .ref a_risenWays]))]) ⟨hx, hb, hml, hown, hts⟩ (cwV 1 hts gX9_runs_X9_parts rfl rfl rfl (by decide +kernel) ⟨Nat.le_of_ble_eq_true rfl, Nat.le_of_ble_eq_true rfl⟩) hN hK hP hD [0] rfl (by decide) rfl 0 rfl rfl rfl rfl hl.1 rfl (Nat.le_of_ble_eq_true rfl) dX9_runs_41 ⟨Nat.le_of_ble_eq_true rfl, Nat.le_of_ble_eq_true rfl⟩  ((k0_X9_parts l D cI cJ m0 a_row a_tape a_number a_read a_readBits a_stands a_parted a_bitsWere a_stood a_chosen a_bestChosen a_often a_sorted a_risen a_risenWays (0 : Int32) (1 : Int32) (0 : Int32) (0 : Int32) (0 : Int32) (0 : Int32) (0 : Int32) (0 : Int32) (7 : Int32)) _)) (fun u H locs hp hP hD hS => ?_)
    obtain rfl := hp
    have hP : va_P D vwCl [(a_row, .inl (cJ, 64, .inr (.inl f_1))), (m0, .inr (9, [.int 0, .int 1, .ref a_row, .ref a_tape, .int 0, .int 0, .int 0, .int 0, .ref a_number, .ref a_read, .int 0, .ref a_readBits, .ref a_stands, .ref a_parted, .ref a_bitsWere, .ref a_stood, .ref a_chosen, .ref a_bestChosen, .int 0, .ref a_often, .ref a_sorted, .int 0, .ref a_risen, .ref a_risenWays]))] H := hP
    have hD : va_D A [(a_row, .inl (cJ, 64, .inr (.inl f_1))), (m0, .inr (9, [.int 0, .int 1, .ref a_row, .ref a_tape, .int 0, .int 0, .int 0, .int 0, .ref a_number, .ref a_read, .int 0, .ref a_readBits, .ref a_stands, .ref a_parted, .ref a_bitsWere, .ref a_stood, .ref a_chosen, .ref a_bestChosen, .int 0, .ref a_often, .ref a_sorted, .int 0, .ref a_risen, .ref a_risenWays]))] := hD
    refine lv_iinc (v := 6) (lv' := [(2, .int 6), (1, .int 0), (3, .int 0), (0, .ref m0)]) hx hb dX9_runs_44 hl (k := 2) rfl (by decide +kernel) (by decide) rfl (fun ls hl => ?_)
    refine lv_goto (tgt := 19) hx hb dX9_runs_47 (by decide) ?_
    refine lv_iload_n hx hb dX9_runs_19 rfl (lv_at hl 0 rfl) ?_
    refine lv_if_lt (tgt := 50) hx hb dX9_runs_20 (by decide) (fun c20 => ?_) (fun c20 => ?_)
    ·
      exact absurd c20 (by decide +kernel)
    ·
      refine lv_aload_n hx hb dX9_runs_23 rfl (lv_at hl 3 rfl) ?_
      refine lv_iload_n hx hb dX9_runs_24 rfl (lv_at hl 0 rfl) ?_
      refine my_gpI (my_pV (As := [.int 6]) (rest := []) (ci := 9) ⟨hx, hb, hml, hown, hts⟩ (cwV 1 hts gX9_runs_X9_runsOf rfl rfl rfl (by decide +kernel) ⟨Nat.le_of_ble_eq_true rfl, Nat.le_of_ble_eq_true rfl⟩) hN hK hP [1] rfl 1 rfl rfl rfl rfl hl.1 rfl (Nat.le_of_ble_eq_true rfl) dX9_runs_25 ⟨Nat.le_of_ble_eq_true rfl, Nat.le_of_ble_eq_true rfl⟩  (k0_X9_runsOf l D cI cJ m0 a_row a_tape a_number a_read a_readBits a_stands a_parted a_bitsWere a_stood a_chosen a_bestChosen a_often a_sorted a_risen a_risenWays (0 : Int32) (1 : Int32) (0 : Int32) (0 : Int32) (0 : Int32) (0 : Int32) (0 : Int32) (0 : Int32) (6 : Int32))) (fun r hp => ?_)
      obtain rfl := hp
      refine lv_istore_n (lv' := [(3, .int 0), (2, .int 6), (1, .int 0), (0, .ref m0)]) hx hb dX9_runs_28 rfl hl (by decide) rfl (fun ls hl => ?_)
      refine lv_aload_n hx hb dX9_runs_29 rfl (lv_at hl 3 rfl) ?_
      refine lv_iload_n hx hb dX9_runs_30 rfl (lv_at hl 0 rfl) ?_
      refine lv_i2l (v := 0) hx hb dX9_runs_31 (by decide +kernel) ?_
      refine my_goV (wr := []) hP hD hS hA [1, 0] [] rfl rfl (by decide) (by decide) (my_cV (As := [.long 0]) (rest := []) (ci := 9) (wc := [(m0, .inr (9, [.int 0, .int 1, .ref a_row, .ref a_tape, .int 0, .int 0, .int 0, .int 0, .ref a_number, .ref a_read, .int 0, .ref a_readBits, .ref a_stands, .ref a_parted, .ref a_bitsWere, .ref a_stood, .ref a_chosen, .ref a_bestChosen, .int 0, .ref a_often, .ref a_sorted, .int 0, .ref a_risen, .ref a_risenWays])), (a_row, .inl (cJ, 64, .inr (.inl f_1)))]) ⟨hx, hb, hml, hown, hts⟩ (cwV 1 hts gX9_runs_X9_enters rfl rfl rfl (by decide +kernel) ⟨Nat.le_of_ble_eq_true rfl, Nat.le_of_ble_eq_true rfl⟩) hN hK hP hD [1, 0] rfl (by decide) rfl 1 rfl rfl rfl rfl hl.1 rfl (Nat.le_of_ble_eq_true rfl) dX9_runs_32 ⟨Nat.le_of_ble_eq_true rfl, Nat.le_of_ble_eq_true rfl⟩  ((k_X9_enters l D cI cJ m0 a_row a_tape a_number a_read a_readBits a_stands a_parted a_bitsWere a_stood a_chosen a_bestChosen a_often a_sorted a_risen a_risenWays (0 : Int32) (0 : Int32) (0 : Int32) (0 : Int32) (0 : Int32) (0 : Int32) (0 : Int32) (0 : Int32) 1 f_1 (0 : Int64) (by first | omega | decide +kernel)) _)) (fun u H locs hp hP hD hS => ?_)
      obtain ⟨f_2, rfl⟩ := hp
      have hP : va_P D vwCl [(m0, .inr (9, [.int 0, .int 2, .ref a_row, .ref a_tape, .int 0, .int 0, .int 0, .int 0, .ref a_number, .ref a_read, .int 0, .ref a_readBits, .ref a_stands, .ref a_parted, .ref a_bitsWere, .ref a_stood, .ref a_chosen, .ref a_bestChosen, .int 0, .ref a_often, .ref a_sorted, .int 0, .ref a_risen, .ref a_risenWays])), (a_row, .inl (cJ, 64, .inr (.inl f_2)))] H := hP
      have hD : va_D A [(m0, .inr (9, [.int 0, .int 2, .ref a_row, .ref a_tape, .int 0, .int 0, .int 0, .int 0, .ref a_number, .ref a_read, .int 0, .ref a_readBits, .ref a_stands, .ref a_parted, .ref a_bitsWere, .ref a_stood, .ref a_chosen, .ref a_bestChosen, .int 0, .ref a_often, .ref a_sorted, .int 0, .ref a_risen, .ref a_risenWays])), (a_row, .inl (cJ, 64, .inr (.inl f_2)))] := hD
      refine lv_iload_n hx hb dX9_runs_35 rfl (lv_at hl 2 rfl) ?_
      refine lv_iload_n hx hb dX9_runs_36 rfl (lv_at hl 0 rfl) ?_
      refine lv_iadd hx hb dX9_runs_37 ?_
      refine my_eqi (y := 0) (by decide +kernel) ?_
      refine lv_istore_n (lv' := [(1, .int 0), (3, .int 0), (2, .int 6), (0, .ref m0)]) hx hb dX9_runs_38 rfl hl (by decide) rfl (fun ls hl => ?_)
      refine lv_aload_n hx hb dX9_runs_39 rfl (lv_at hl 3 rfl) ?_
      refine lv_iload_n hx hb dX9_runs_40 rfl (lv_at hl 2 rfl) ?_
      refine my_goV (wr := [(a_row, .inl (cJ, 64, .inr (.inl f_2)))]) hP hD hS hA [0] [1] rfl rfl (by decide) (by decide) (my_cV (As := [.int 6]) (rest := []) (ci := 9) (wc := [(m0, .inr (9, [.int 0, .int 2, .ref a_row, .ref a_tape, .int 0, .int 0, .int 0, .int 0, .ref a_number, .ref a_read, .int 0, .ref a_readBits, .ref a_stands, .ref a_parted, .ref a_bitsWere, .ref a_stood, .ref a_chosen, .ref a_bestChosen, .int 0, .ref a_often, .ref a_sorted, .int 0, .ref a_risen, .ref a_risenWays]))]) ⟨hx, hb, hml, hown, hts⟩ (cwV 1 hts gX9_runs_X9_parts rfl rfl rfl (by decide +kernel) ⟨Nat.le_of_ble_eq_true rfl, Nat.le_of_ble_eq_true rfl⟩) hN hK hP hD [0] rfl (by decide) rfl 0 rfl rfl rfl rfl hl.1 rfl (Nat.le_of_ble_eq_true rfl) dX9_runs_41 ⟨Nat.le_of_ble_eq_true rfl, Nat.le_of_ble_eq_true rfl⟩  ((k0_X9_parts l D cI cJ m0 a_row a_tape a_number a_read a_readBits a_stands a_parted a_bitsWere a_stood a_chosen a_bestChosen a_often a_sorted a_risen a_risenWays (0 : Int32) (2 : Int32) (0 : Int32) (0 : Int32) (0 : Int32) (0 : Int32) (0 : Int32) (0 : Int32) (6 : Int32)) _)) (fun u H locs hp hP hD hS => ?_)
      obtain rfl := hp
      have hP : va_P D vwCl [(a_row, .inl (cJ, 64, .inr (.inl f_2))), (m0, .inr (9, [.int 0, .int 2, .ref a_row, .ref a_tape, .int 0, .int 0, .int 0, .int 0, .ref a_number, .ref a_read, .int 0, .ref a_readBits, .ref a_stands, .ref a_parted, .ref a_bitsWere, .ref a_stood, .ref a_chosen, .ref a_bestChosen, .int 0, .ref a_often, .ref a_sorted, .int 0, .ref a_risen, .ref a_risenWays]))] H := hP
      have hD : va_D A [(a_row, .inl (cJ, 64, .inr (.inl f_2))), (m0, .inr (9, [.int 0, .int 2, .ref a_row, .ref a_tape, .int 0, .int 0, .int 0, .int 0, .ref a_number, .ref a_read, .int 0, .ref a_readBits, .ref a_stands, .ref a_parted, .ref a_bitsWere, .ref a_stood, .ref a_chosen, .ref a_bestChosen, .int 0, .ref a_often, .ref a_sorted, .int 0, .ref a_risen, .ref a_risenWays]))] := hD
      refine lv_iinc (v := 5) (lv' := [(2, .int 5), (1, .int 0), (3, .int 0), (0, .ref m0)]) hx hb dX9_runs_44 hl (k := 2) rfl (by decide +kernel) (by decide) rfl (fun ls hl => ?_)
      refine lv_goto (tgt := 19) hx hb dX9_runs_47 (by decide) ?_
      refine lv_iload_n hx hb dX9_runs_19 rfl (lv_at hl 0 rfl) ?_
      refine lv_if_lt (tgt := 50) hx hb dX9_runs_20 (by decide) (fun c20 => ?_) (fun c20 => ?_)
      ·
        exact absurd c20 (by decide +kernel)
      ·
        refine lv_aload_n hx hb dX9_runs_23 rfl (lv_at hl 3 rfl) ?_
        refine lv_iload_n hx hb dX9_runs_24 rfl (lv_at hl 0 rfl) ?_
        refine my_gpI (my_pV (As := [.int 5]) (rest := []) (ci := 9) ⟨hx, hb, hml, hown, hts⟩ (cwV 1 hts gX9_runs_X9_runsOf rfl rfl rfl (by decide +kernel) ⟨Nat.le_of_ble_eq_true rfl, Nat.le_of_ble_eq_true rfl⟩) hN hK hP [1] rfl 1 rfl rfl rfl rfl hl.1 rfl (Nat.le_of_ble_eq_true rfl) dX9_runs_25 ⟨Nat.le_of_ble_eq_true rfl, Nat.le_of_ble_eq_true rfl⟩  (k0_X9_runsOf l D cI cJ m0 a_row a_tape a_number a_read a_readBits a_stands a_parted a_bitsWere a_stood a_chosen a_bestChosen a_often a_sorted a_risen a_risenWays (0 : Int32) (2 : Int32) (0 : Int32) (0 : Int32) (0 : Int32) (0 : Int32) (0 : Int32) (0 : Int32) (5 : Int32))) (fun r hp => ?_)
        obtain rfl := hp
        refine lv_istore_n (lv' := [(3, .int 0), (2, .int 5), (1, .int 0), (0, .ref m0)]) hx hb dX9_runs_28 rfl hl (by decide) rfl (fun ls hl => ?_)
        refine lv_aload_n hx hb dX9_runs_29 rfl (lv_at hl 3 rfl) ?_
        refine lv_iload_n hx hb dX9_runs_30 rfl (lv_at hl 0 rfl) ?_
        refine lv_i2l (v := 0) hx hb dX9_runs_31 (by decide +kernel) ?_
        refine my_goV (wr := []) hP hD hS hA [1, 0] [] rfl rfl (by decide) (by decide) (my_cV (As := [.long 0]) (rest := []) (ci := 9) (wc := [(m0, .inr (9, [.int 0, .int 2, .ref a_row, .ref a_tape, .int 0, .int 0, .int 0, .int 0, .ref a_number, .ref a_read, .int 0, .ref a_readBits, .ref a_stands, .ref a_parted, .ref a_bitsWere, .ref a_stood, .ref a_chosen, .ref a_bestChosen, .int 0, .ref a_often, .ref a_sorted, .int 0, .ref a_risen, .ref a_risenWays])), (a_row, .inl (cJ, 64, .inr (.inl f_2)))]) ⟨hx, hb, hml, hown, hts⟩ (cwV 1 hts gX9_runs_X9_enters rfl rfl rfl (by decide +kernel) ⟨Nat.le_of_ble_eq_true rfl, Nat.le_of_ble_eq_true rfl⟩) hN hK hP hD [1, 0] rfl (by decide) rfl 1 rfl rfl rfl rfl hl.1 rfl (Nat.le_of_ble_eq_true rfl) dX9_runs_32 ⟨Nat.le_of_ble_eq_true rfl, Nat.le_of_ble_eq_true rfl⟩  ((k_X9_enters l D cI cJ m0 a_row a_tape a_number a_read a_readBits a_stands a_parted a_bitsWere a_stood a_chosen a_bestChosen a_often a_sorted a_risen a_risenWays (0 : Int32) (0 : Int32) (0 : Int32) (0 : Int32) (0 : Int32) (0 : Int32) (0 : Int32) (0 : Int32) 2 f_2 (0 : Int64) (by first | omega | decide +kernel)) _)) (fun u H locs hp hP hD hS => ?_)
        obtain ⟨f_3, rfl⟩ := hp
        have hP : va_P D vwCl [(m0, .inr (9, [.int 0, .int 3, .ref a_row, .ref a_tape, .int 0, .int 0, .int 0, .int 0, .ref a_number, .ref a_read, .int 0, .ref a_readBits, .ref a_stands, .ref a_parted, .ref a_bitsWere, .ref a_stood, .ref a_chosen, .ref a_bestChosen, .int 0, .ref a_often, .ref a_sorted, .int 0, .ref a_risen, .ref a_risenWays])), (a_row, .inl (cJ, 64, .inr (.inl f_3)))] H := hP
        have hD : va_D A [(m0, .inr (9, [.int 0, .int 3, .ref a_row, .ref a_tape, .int 0, .int 0, .int 0, .int 0, .ref a_number, .ref a_read, .int 0, .ref a_readBits, .ref a_stands, .ref a_parted, .ref a_bitsWere, .ref a_stood, .ref a_chosen, .ref a_bestChosen, .int 0, .ref a_often, .ref a_sorted, .int 0, .ref a_risen, .ref a_risenWays])), (a_row, .inl (cJ, 64, .inr (.inl f_3)))] := hD
        refine lv_iload_n hx hb dX9_runs_35 rfl (lv_at hl 2 rfl) ?_
        refine lv_iload_n hx hb dX9_runs_36 rfl (lv_at hl 0 rfl) ?_
        refine lv_iadd hx hb dX9_runs_37 ?_
        refine my_eqi (y := 0) (by decide +kernel) ?_
        refine lv_istore_n (lv' := [(1, .int 0), (3, .int 0), (2, .int 5), (0, .ref m0)]) hx hb dX9_runs_38 rfl hl (by decide) rfl (fun ls hl => ?_)
        refine lv_aload_n hx hb dX9_runs_39 rfl (lv_at hl 3 rfl) ?_
        refine lv_iload_n hx hb dX9_runs_40 rfl (lv_at hl 2 rfl) ?_
        refine my_goV (wr := [(a_row, .inl (cJ, 64, .inr (.inl f_3)))]) hP hD hS hA [0] [1] rfl rfl (by decide) (by decide) (my_cV (As := [.int 5]) (rest := []) (ci := 9) (wc := [(m0, .inr (9, [.int 0, .int 3, .ref a_row, .ref a_tape, .int 0, .int 0, .int 0, .int 0, .ref a_number, .ref a_read, .int 0, .ref a_readBits, .ref a_stands, .ref a_parted, .ref a_bitsWere, .ref a_stood, .ref a_chosen, .ref a_bestChosen, .int 0, .ref a_often, .ref a_sorted, .int 0, .ref a_risen, .ref a_risenWays]))]) ⟨hx, hb, hml, hown, hts⟩ (cwV 1 hts gX9_runs_X9_parts rfl rfl rfl (by decide +kernel) ⟨Nat.le_of_ble_eq_true rfl, Nat.le_of_ble_eq_true rfl⟩) hN hK hP hD [0] rfl (by decide) rfl 0 rfl rfl rfl rfl hl.1 rfl (Nat.le_of_ble_eq_true rfl) dX9_runs_41 ⟨Nat.le_of_ble_eq_true rfl, Nat.le_of_ble_eq_true rfl⟩  ((k0_X9_parts l D cI cJ m0 a_row a_tape a_number a_read a_readBits a_stands a_parted a_bitsWere a_stood a_chosen a_bestChosen a_often a_sorted a_risen a_risenWays (0 : Int32) (3 : Int32) (0 : Int32) (0 : Int32) (0 : Int32) (0 : Int32) (0 : Int32) (0 : Int32) (5 : Int32)) _)) (fun u H locs hp hP hD hS => ?_)
        obtain rfl := hp
        have hP : va_P D vwCl [(a_row, .inl (cJ, 64, .inr (.inl f_3))), (m0, .inr (9, [.int 0, .int 3, .ref a_row, .ref a_tape, .int 0, .int 0, .int 0, .int 0, .ref a_number, .ref a_read, .int 0, .ref a_readBits, .ref a_stands, .ref a_parted, .ref a_bitsWere, .ref a_stood, .ref a_chosen, .ref a_bestChosen, .int 0, .ref a_often, .ref a_sorted, .int 0, .ref a_risen, .ref a_risenWays]))] H := hP
        have hD : va_D A [(a_row, .inl (cJ, 64, .inr (.inl f_3))), (m0, .inr (9, [.int 0, .int 3, .ref a_row, .ref a_tape, .int 0, .int 0, .int 0, .int 0, .ref a_number, .ref a_read, .int 0, .ref a_readBits, .ref a_stands, .ref a_parted, .ref a_bitsWere, .ref a_stood, .ref a_chosen, .ref a_bestChosen, .int 0, .ref a_often, .ref a_sorted, .int 0, .ref a_risen, .ref a_risenWays]))] := hD
        refine lv_iinc (v := 4) (lv' := [(2, .int 4), (1, .int 0), (3, .int 0), (0, .ref m0)]) hx hb dX9_runs_44 hl (k := 2) rfl (by decide +kernel) (by decide) rfl (fun ls hl => ?_)
        refine lv_goto (tgt := 19) hx hb dX9_runs_47 (by decide) ?_
        refine lv_iload_n hx hb dX9_runs_19 rfl (lv_at hl 0 rfl) ?_
        refine lv_if_lt (tgt := 50) hx hb dX9_runs_20 (by decide) (fun c20 => ?_) (fun c20 => ?_)
        ·
          exact absurd c20 (by decide +kernel)
        ·
          refine lv_aload_n hx hb dX9_runs_23 rfl (lv_at hl 3 rfl) ?_
          refine lv_iload_n hx hb dX9_runs_24 rfl (lv_at hl 0 rfl) ?_
          refine my_gpI (my_pV (As := [.int 4]) (rest := []) (ci := 9) ⟨hx, hb, hml, hown, hts⟩ (cwV 1 hts gX9_runs_X9_runsOf rfl rfl rfl (by decide +kernel) ⟨Nat.le_of_ble_eq_true rfl, Nat.le_of_ble_eq_true rfl⟩) hN hK hP [1] rfl 1 rfl rfl rfl rfl hl.1 rfl (Nat.le_of_ble_eq_true rfl) dX9_runs_25 ⟨Nat.le_of_ble_eq_true rfl, Nat.le_of_ble_eq_true rfl⟩  (k0_X9_runsOf l D cI cJ m0 a_row a_tape a_number a_read a_readBits a_stands a_parted a_bitsWere a_stood a_chosen a_bestChosen a_often a_sorted a_risen a_risenWays (0 : Int32) (3 : Int32) (0 : Int32) (0 : Int32) (0 : Int32) (0 : Int32) (0 : Int32) (0 : Int32) (4 : Int32))) (fun r hp => ?_)
          obtain rfl := hp
          refine lv_istore_n (lv' := [(3, .int 0), (2, .int 4), (1, .int 0), (0, .ref m0)]) hx hb dX9_runs_28 rfl hl (by decide) rfl (fun ls hl => ?_)
          refine lv_aload_n hx hb dX9_runs_29 rfl (lv_at hl 3 rfl) ?_
          refine lv_iload_n hx hb dX9_runs_30 rfl (lv_at hl 0 rfl) ?_
          refine lv_i2l (v := 0) hx hb dX9_runs_31 (by decide +kernel) ?_
          refine my_goV (wr := []) hP hD hS hA [1, 0] [] rfl rfl (by decide) (by decide) (my_cV (As := [.long 0]) (rest := []) (ci := 9) (wc := [(m0, .inr (9, [.int 0, .int 3, .ref a_row, .ref a_tape, .int 0, .int 0, .int 0, .int 0, .ref a_number, .ref a_read, .int 0, .ref a_readBits, .ref a_stands, .ref a_parted, .ref a_bitsWere, .ref a_stood, .ref a_chosen, .ref a_bestChosen, .int 0, .ref a_often, .ref a_sorted, .int 0, .ref a_risen, .ref a_risenWays])), (a_row, .inl (cJ, 64, .inr (.inl f_3)))]) ⟨hx, hb, hml, hown, hts⟩ (cwV 1 hts gX9_runs_X9_enters rfl rfl rfl (by decide +kernel) ⟨Nat.le_of_ble_eq_true rfl, Nat.le_of_ble_eq_true rfl⟩) hN hK hP hD [1, 0] rfl (by decide) rfl 1 rfl rfl rfl rfl hl.1 rfl (Nat.le_of_ble_eq_true rfl) dX9_runs_32 ⟨Nat.le_of_ble_eq_true rfl, Nat.le_of_ble_eq_true rfl⟩  ((k_X9_enters l D cI cJ m0 a_row a_tape a_number a_read a_readBits a_stands a_parted a_bitsWere a_stood a_chosen a_bestChosen a_often a_sorted a_risen a_risenWays (0 : Int32) (0 : Int32) (0 : Int32) (0 : Int32) (0 : Int32) (0 : Int32) (0 : Int32) (0 : Int32) 3 f_3 (0 : Int64) (by first | omega | decide +kernel)) _)) (fun u H locs hp hP hD hS => ?_)
          obtain ⟨f_4, rfl⟩ := hp
          have hP : va_P D vwCl [(m0, .inr (9, [.int 0, .int 4, .ref a_row, .ref a_tape, .int 0, .int 0, .int 0, .int 0, .ref a_number, .ref a_read, .int 0, .ref a_readBits, .ref a_stands, .ref a_parted, .ref a_bitsWere, .ref a_stood, .ref a_chosen, .ref a_bestChosen, .int 0, .ref a_often, .ref a_sorted, .int 0, .ref a_risen, .ref a_risenWays])), (a_row, .inl (cJ, 64, .inr (.inl f_4)))] H := hP
          have hD : va_D A [(m0, .inr (9, [.int 0, .int 4, .ref a_row, .ref a_tape, .int 0, .int 0, .int 0, .int 0, .ref a_number, .ref a_read, .int 0, .ref a_readBits, .ref a_stands, .ref a_parted, .ref a_bitsWere, .ref a_stood, .ref a_chosen, .ref a_bestChosen, .int 0, .ref a_often, .ref a_sorted, .int 0, .ref a_risen, .ref a_risenWays])), (a_row, .inl (cJ, 64, .inr (.inl f_4)))] := hD
          refine lv_iload_n hx hb dX9_runs_35 rfl (lv_at hl 2 rfl) ?_
          refine lv_iload_n hx hb dX9_runs_36 rfl (lv_at hl 0 rfl) ?_
          refine lv_iadd hx hb dX9_runs_37 ?_
          refine my_eqi (y := 0) (by decide +kernel) ?_
          refine lv_istore_n (lv' := [(1, .int 0), (3, .int 0), (2, .int 4), (0, .ref m0)]) hx hb dX9_runs_38 rfl hl (by decide) rfl (fun ls hl => ?_)
          refine lv_aload_n hx hb dX9_runs_39 rfl (lv_at hl 3 rfl) ?_
          refine lv_iload_n hx hb dX9_runs_40 rfl (lv_at hl 2 rfl) ?_
          refine my_goV (wr := [(a_row, .inl (cJ, 64, .inr (.inl f_4)))]) hP hD hS hA [0] [1] rfl rfl (by decide) (by decide) (my_cV (As := [.int 4]) (rest := []) (ci := 9) (wc := [(m0, .inr (9, [.int 0, .int 4, .ref a_row, .ref a_tape, .int 0, .int 0, .int 0, .int 0, .ref a_number, .ref a_read, .int 0, .ref a_readBits, .ref a_stands, .ref a_parted, .ref a_bitsWere, .ref a_stood, .ref a_chosen, .ref a_bestChosen, .int 0, .ref a_often, .ref a_sorted, .int 0, .ref a_risen, .ref a_risenWays]))]) ⟨hx, hb, hml, hown, hts⟩ (cwV 1 hts gX9_runs_X9_parts rfl rfl rfl (by decide +kernel) ⟨Nat.le_of_ble_eq_true rfl, Nat.le_of_ble_eq_true rfl⟩) hN hK hP hD [0] rfl (by decide) rfl 0 rfl rfl rfl rfl hl.1 rfl (Nat.le_of_ble_eq_true rfl) dX9_runs_41 ⟨Nat.le_of_ble_eq_true rfl, Nat.le_of_ble_eq_true rfl⟩  ((k0_X9_parts l D cI cJ m0 a_row a_tape a_number a_read a_readBits a_stands a_parted a_bitsWere a_stood a_chosen a_bestChosen a_often a_sorted a_risen a_risenWays (0 : Int32) (4 : Int32) (0 : Int32) (0 : Int32) (0 : Int32) (0 : Int32) (0 : Int32) (0 : Int32) (4 : Int32)) _)) (fun u H locs hp hP hD hS => ?_)
          obtain rfl := hp
          have hP : va_P D vwCl [(a_row, .inl (cJ, 64, .inr (.inl f_4))), (m0, .inr (9, [.int 0, .int 4, .ref a_row, .ref a_tape, .int 0, .int 0, .int 0, .int 0, .ref a_number, .ref a_read, .int 0, .ref a_readBits, .ref a_stands, .ref a_parted, .ref a_bitsWere, .ref a_stood, .ref a_chosen, .ref a_bestChosen, .int 0, .ref a_often, .ref a_sorted, .int 0, .ref a_risen, .ref a_risenWays]))] H := hP
          have hD : va_D A [(a_row, .inl (cJ, 64, .inr (.inl f_4))), (m0, .inr (9, [.int 0, .int 4, .ref a_row, .ref a_tape, .int 0, .int 0, .int 0, .int 0, .ref a_number, .ref a_read, .int 0, .ref a_readBits, .ref a_stands, .ref a_parted, .ref a_bitsWere, .ref a_stood, .ref a_chosen, .ref a_bestChosen, .int 0, .ref a_often, .ref a_sorted, .int 0, .ref a_risen, .ref a_risenWays]))] := hD
          refine lv_iinc (v := 3) (lv' := [(2, .int 3), (1, .int 0), (3, .int 0), (0, .ref m0)]) hx hb dX9_runs_44 hl (k := 2) rfl (by decide +kernel) (by decide) rfl (fun ls hl => ?_)
          refine lv_goto (tgt := 19) hx hb dX9_runs_47 (by decide) ?_
          refine lv_iload_n hx hb dX9_runs_19 rfl (lv_at hl 0 rfl) ?_
          refine lv_if_lt (tgt := 50) hx hb dX9_runs_20 (by decide) (fun c20 => ?_) (fun c20 => ?_)
          ·
            exact absurd c20 (by decide +kernel)
          ·
            refine lv_aload_n hx hb dX9_runs_23 rfl (lv_at hl 3 rfl) ?_
            refine lv_iload_n hx hb dX9_runs_24 rfl (lv_at hl 0 rfl) ?_
            refine my_gpI (my_pV (As := [.int 3]) (rest := []) (ci := 9) ⟨hx, hb, hml, hown, hts⟩ (cwV 1 hts gX9_runs_X9_runsOf rfl rfl rfl (by decide +kernel) ⟨Nat.le_of_ble_eq_true rfl, Nat.le_of_ble_eq_true rfl⟩) hN hK hP [1] rfl 1 rfl rfl rfl rfl hl.1 rfl (Nat.le_of_ble_eq_true rfl) dX9_runs_25 ⟨Nat.le_of_ble_eq_true rfl, Nat.le_of_ble_eq_true rfl⟩  (k0_X9_runsOf l D cI cJ m0 a_row a_tape a_number a_read a_readBits a_stands a_parted a_bitsWere a_stood a_chosen a_bestChosen a_often a_sorted a_risen a_risenWays (0 : Int32) (4 : Int32) (0 : Int32) (0 : Int32) (0 : Int32) (0 : Int32) (0 : Int32) (0 : Int32) (3 : Int32))) (fun r hp => ?_)
            obtain rfl := hp
            refine lv_istore_n (lv' := [(3, .int 0), (2, .int 3), (1, .int 0), (0, .ref m0)]) hx hb dX9_runs_28 rfl hl (by decide) rfl (fun ls hl => ?_)
            refine lv_aload_n hx hb dX9_runs_29 rfl (lv_at hl 3 rfl) ?_
            refine lv_iload_n hx hb dX9_runs_30 rfl (lv_at hl 0 rfl) ?_
            refine lv_i2l (v := 0) hx hb dX9_runs_31 (by decide +kernel) ?_
            refine my_goV (wr := []) hP hD hS hA [1, 0] [] rfl rfl (by decide) (by decide) (my_cV (As := [.long 0]) (rest := []) (ci := 9) (wc := [(m0, .inr (9, [.int 0, .int 4, .ref a_row, .ref a_tape, .int 0, .int 0, .int 0, .int 0, .ref a_number, .ref a_read, .int 0, .ref a_readBits, .ref a_stands, .ref a_parted, .ref a_bitsWere, .ref a_stood, .ref a_chosen, .ref a_bestChosen, .int 0, .ref a_often, .ref a_sorted, .int 0, .ref a_risen, .ref a_risenWays])), (a_row, .inl (cJ, 64, .inr (.inl f_4)))]) ⟨hx, hb, hml, hown, hts⟩ (cwV 1 hts gX9_runs_X9_enters rfl rfl rfl (by decide +kernel) ⟨Nat.le_of_ble_eq_true rfl, Nat.le_of_ble_eq_true rfl⟩) hN hK hP hD [1, 0] rfl (by decide) rfl 1 rfl rfl rfl rfl hl.1 rfl (Nat.le_of_ble_eq_true rfl) dX9_runs_32 ⟨Nat.le_of_ble_eq_true rfl, Nat.le_of_ble_eq_true rfl⟩  ((k_X9_enters l D cI cJ m0 a_row a_tape a_number a_read a_readBits a_stands a_parted a_bitsWere a_stood a_chosen a_bestChosen a_often a_sorted a_risen a_risenWays (0 : Int32) (0 : Int32) (0 : Int32) (0 : Int32) (0 : Int32) (0 : Int32) (0 : Int32) (0 : Int32) 4 f_4 (0 : Int64) (by first | omega | decide +kernel)) _)) (fun u H locs hp hP hD hS => ?_)
            obtain ⟨f_5, rfl⟩ := hp
            have hP : va_P D vwCl [(m0, .inr (9, [.int 0, .int 5, .ref a_row, .ref a_tape, .int 0, .int 0, .int 0, .int 0, .ref a_number, .ref a_read, .int 0, .ref a_readBits, .ref a_stands, .ref a_parted, .ref a_bitsWere, .ref a_stood, .ref a_chosen, .ref a_bestChosen, .int 0, .ref a_often, .ref a_sorted, .int 0, .ref a_risen, .ref a_risenWays])), (a_row, .inl (cJ, 64, .inr (.inl f_5)))] H := hP
            have hD : va_D A [(m0, .inr (9, [.int 0, .int 5, .ref a_row, .ref a_tape, .int 0, .int 0, .int 0, .int 0, .ref a_number, .ref a_read, .int 0, .ref a_readBits, .ref a_stands, .ref a_parted, .ref a_bitsWere, .ref a_stood, .ref a_chosen, .ref a_bestChosen, .int 0, .ref a_often, .ref a_sorted, .int 0, .ref a_risen, .ref a_risenWays])), (a_row, .inl (cJ, 64, .inr (.inl f_5)))] := hD
            refine lv_iload_n hx hb dX9_runs_35 rfl (lv_at hl 2 rfl) ?_
            refine lv_iload_n hx hb dX9_runs_36 rfl (lv_at hl 0 rfl) ?_
            refine lv_iadd hx hb dX9_runs_37 ?_
            refine my_eqi (y := 0) (by decide +kernel) ?_
            refine lv_istore_n (lv' := [(1, .int 0), (3, .int 0), (2, .int 3), (0, .ref m0)]) hx hb dX9_runs_38 rfl hl (by decide) rfl (fun ls hl => ?_)
            refine lv_aload_n hx hb dX9_runs_39 rfl (lv_at hl 3 rfl) ?_
            refine lv_iload_n hx hb dX9_runs_40 rfl (lv_at hl 2 rfl) ?_
            refine my_goV (wr := [(a_row, .inl (cJ, 64, .inr (.inl f_5)))]) hP hD hS hA [0] [1] rfl rfl (by decide) (by decide) (my_cV (As := [.int 3]) (rest := []) (ci := 9) (wc := [(m0, .inr (9, [.int 0, .int 5, .ref a_row, .ref a_tape, .int 0, .int 0, .int 0, .int 0, .ref a_number, .ref a_read, .int 0, .ref a_readBits, .ref a_stands, .ref a_parted, .ref a_bitsWere, .ref a_stood, .ref a_chosen, .ref a_bestChosen, .int 0, .ref a_often, .ref a_sorted, .int 0, .ref a_risen, .ref a_risenWays]))]) ⟨hx, hb, hml, hown, hts⟩ (cwV 1 hts gX9_runs_X9_parts rfl rfl rfl (by decide +kernel) ⟨Nat.le_of_ble_eq_true rfl, Nat.le_of_ble_eq_true rfl⟩) hN hK hP hD [0] rfl (by decide) rfl 0 rfl rfl rfl rfl hl.1 rfl (Nat.le_of_ble_eq_true rfl) dX9_runs_41 ⟨Nat.le_of_ble_eq_true rfl, Nat.le_of_ble_eq_true rfl⟩  ((k0_X9_parts l D cI cJ m0 a_row a_tape a_number a_read a_readBits a_stands a_parted a_bitsWere a_stood a_chosen a_bestChosen a_often a_sorted a_risen a_risenWays (0 : Int32) (5 : Int32) (0 : Int32) (0 : Int32) (0 : Int32) (0 : Int32) (0 : Int32) (0 : Int32) (3 : Int32)) _)) (fun u H locs hp hP hD hS => ?_)
            obtain rfl := hp
            have hP : va_P D vwCl [(a_row, .inl (cJ, 64, .inr (.inl f_5))), (m0, .inr (9, [.int 0, .int 5, .ref a_row, .ref a_tape, .int 0, .int 0, .int 0, .int 0, .ref a_number, .ref a_read, .int 0, .ref a_readBits, .ref a_stands, .ref a_parted, .ref a_bitsWere, .ref a_stood, .ref a_chosen, .ref a_bestChosen, .int 0, .ref a_often, .ref a_sorted, .int 0, .ref a_risen, .ref a_risenWays]))] H := hP
            have hD : va_D A [(a_row, .inl (cJ, 64, .inr (.inl f_5))), (m0, .inr (9, [.int 0, .int 5, .ref a_row, .ref a_tape, .int 0, .int 0, .int 0, .int 0, .ref a_number, .ref a_read, .int 0, .ref a_readBits, .ref a_stands, .ref a_parted, .ref a_bitsWere, .ref a_stood, .ref a_chosen, .ref a_bestChosen, .int 0, .ref a_often, .ref a_sorted, .int 0, .ref a_risen, .ref a_risenWays]))] := hD
            refine lv_iinc (v := 2) (lv' := [(2, .int 2), (1, .int 0), (3, .int 0), (0, .ref m0)]) hx hb dX9_runs_44 hl (k := 2) rfl (by decide +kernel) (by decide) rfl (fun ls hl => ?_)
            refine lv_goto (tgt := 19) hx hb dX9_runs_47 (by decide) ?_
            refine lv_iload_n hx hb dX9_runs_19 rfl (lv_at hl 0 rfl) ?_
            refine lv_if_lt (tgt := 50) hx hb dX9_runs_20 (by decide) (fun c20 => ?_) (fun c20 => ?_)
            ·
              exact absurd c20 (by decide +kernel)
            ·
              refine lv_aload_n hx hb dX9_runs_23 rfl (lv_at hl 3 rfl) ?_
              refine lv_iload_n hx hb dX9_runs_24 rfl (lv_at hl 0 rfl) ?_
              refine my_gpI (my_pV (As := [.int 2]) (rest := []) (ci := 9) ⟨hx, hb, hml, hown, hts⟩ (cwV 1 hts gX9_runs_X9_runsOf rfl rfl rfl (by decide +kernel) ⟨Nat.le_of_ble_eq_true rfl, Nat.le_of_ble_eq_true rfl⟩) hN hK hP [1] rfl 1 rfl rfl rfl rfl hl.1 rfl (Nat.le_of_ble_eq_true rfl) dX9_runs_25 ⟨Nat.le_of_ble_eq_true rfl, Nat.le_of_ble_eq_true rfl⟩  (k0_X9_runsOf l D cI cJ m0 a_row a_tape a_number a_read a_readBits a_stands a_parted a_bitsWere a_stood a_chosen a_bestChosen a_often a_sorted a_risen a_risenWays (0 : Int32) (5 : Int32) (0 : Int32) (0 : Int32) (0 : Int32) (0 : Int32) (0 : Int32) (0 : Int32) (2 : Int32))) (fun r hp => ?_)
              obtain rfl := hp
              refine lv_istore_n (lv' := [(3, .int 0), (2, .int 2), (1, .int 0), (0, .ref m0)]) hx hb dX9_runs_28 rfl hl (by decide) rfl (fun ls hl => ?_)
              refine lv_aload_n hx hb dX9_runs_29 rfl (lv_at hl 3 rfl) ?_
              refine lv_iload_n hx hb dX9_runs_30 rfl (lv_at hl 0 rfl) ?_
              refine lv_i2l (v := 0) hx hb dX9_runs_31 (by decide +kernel) ?_
              refine my_goV (wr := []) hP hD hS hA [1, 0] [] rfl rfl (by decide) (by decide) (my_cV (As := [.long 0]) (rest := []) (ci := 9) (wc := [(m0, .inr (9, [.int 0, .int 5, .ref a_row, .ref a_tape, .int 0, .int 0, .int 0, .int 0, .ref a_number, .ref a_read, .int 0, .ref a_readBits, .ref a_stands, .ref a_parted, .ref a_bitsWere, .ref a_stood, .ref a_chosen, .ref a_bestChosen, .int 0, .ref a_often, .ref a_sorted, .int 0, .ref a_risen, .ref a_risenWays])), (a_row, .inl (cJ, 64, .inr (.inl f_5)))]) ⟨hx, hb, hml, hown, hts⟩ (cwV 1 hts gX9_runs_X9_enters rfl rfl rfl (by decide +kernel) ⟨Nat.le_of_ble_eq_true rfl, Nat.le_of_ble_eq_true rfl⟩) hN hK hP hD [1, 0] rfl (by decide) rfl 1 rfl rfl rfl rfl hl.1 rfl (Nat.le_of_ble_eq_true rfl) dX9_runs_32 ⟨Nat.le_of_ble_eq_true rfl, Nat.le_of_ble_eq_true rfl⟩  ((k_X9_enters l D cI cJ m0 a_row a_tape a_number a_read a_readBits a_stands a_parted a_bitsWere a_stood a_chosen a_bestChosen a_often a_sorted a_risen a_risenWays (0 : Int32) (0 : Int32) (0 : Int32) (0 : Int32) (0 : Int32) (0 : Int32) (0 : Int32) (0 : Int32) 5 f_5 (0 : Int64) (by first | omega | decide +kernel)) _)) (fun u H locs hp hP hD hS => ?_)
              obtain ⟨f_6, rfl⟩ := hp
              have hP : va_P D vwCl [(m0, .inr (9, [.int 0, .int 6, .ref a_row, .ref a_tape, .int 0, .int 0, .int 0, .int 0, .ref a_number, .ref a_read, .int 0, .ref a_readBits, .ref a_stands, .ref a_parted, .ref a_bitsWere, .ref a_stood, .ref a_chosen, .ref a_bestChosen, .int 0, .ref a_often, .ref a_sorted, .int 0, .ref a_risen, .ref a_risenWays])), (a_row, .inl (cJ, 64, .inr (.inl f_6)))] H := hP
              have hD : va_D A [(m0, .inr (9, [.int 0, .int 6, .ref a_row, .ref a_tape, .int 0, .int 0, .int 0, .int 0, .ref a_number, .ref a_read, .int 0, .ref a_readBits, .ref a_stands, .ref a_parted, .ref a_bitsWere, .ref a_stood, .ref a_chosen, .ref a_bestChosen, .int 0, .ref a_often, .ref a_sorted, .int 0, .ref a_risen, .ref a_risenWays])), (a_row, .inl (cJ, 64, .inr (.inl f_6)))] := hD
              refine lv_iload_n hx hb dX9_runs_35 rfl (lv_at hl 2 rfl) ?_
              refine lv_iload_n hx hb dX9_runs_36 rfl (lv_at hl 0 rfl) ?_
              refine lv_iadd hx hb dX9_runs_37 ?_
              refine my_eqi (y := 0) (by decide +kernel) ?_
              refine lv_istore_n (lv' := [(1, .int 0), (3, .int 0), (2, .int 2), (0, .ref m0)]) hx hb dX9_runs_38 rfl hl (by decide) rfl (fun ls hl => ?_)
              refine lv_aload_n hx hb dX9_runs_39 rfl (lv_at hl 3 rfl) ?_
              refine lv_iload_n hx hb dX9_runs_40 rfl (lv_at hl 2 rfl) ?_
              refine my_goV (wr := [(a_row, .inl (cJ, 64, .inr (.inl f_6)))]) hP hD hS hA [0] [1] rfl rfl (by decide) (by decide) (my_cV (As := [.int 2]) (rest := []) (ci := 9) (wc := [(m0, .inr (9, [.int 0, .int 6, .ref a_row, .ref a_tape, .int 0, .int 0, .int 0, .int 0, .ref a_number, .ref a_read, .int 0, .ref a_readBits, .ref a_stands, .ref a_parted, .ref a_bitsWere, .ref a_stood, .ref a_chosen, .ref a_bestChosen, .int 0, .ref a_often, .ref a_sorted, .int 0, .ref a_risen, .ref a_risenWays]))]) ⟨hx, hb, hml, hown, hts⟩ (cwV 1 hts gX9_runs_X9_parts rfl rfl rfl (by decide +kernel) ⟨Nat.le_of_ble_eq_true rfl, Nat.le_of_ble_eq_true rfl⟩) hN hK hP hD [0] rfl (by decide) rfl 0 rfl rfl rfl rfl hl.1 rfl (Nat.le_of_ble_eq_true rfl) dX9_runs_41 ⟨Nat.le_of_ble_eq_true rfl, Nat.le_of_ble_eq_true rfl⟩  ((k0_X9_parts l D cI cJ m0 a_row a_tape a_number a_read a_readBits a_stands a_parted a_bitsWere a_stood a_chosen a_bestChosen a_often a_sorted a_risen a_risenWays (0 : Int32) (6 : Int32) (0 : Int32) (0 : Int32) (0 : Int32) (0 : Int32) (0 : Int32) (0 : Int32) (2 : Int32)) _)) (fun u H locs hp hP hD hS => ?_)
              obtain rfl := hp
              have hP : va_P D vwCl [(a_row, .inl (cJ, 64, .inr (.inl f_6))), (m0, .inr (9, [.int 0, .int 6, .ref a_row, .ref a_tape, .int 0, .int 0, .int 0, .int 0, .ref a_number, .ref a_read, .int 0, .ref a_readBits, .ref a_stands, .ref a_parted, .ref a_bitsWere, .ref a_stood, .ref a_chosen, .ref a_bestChosen, .int 0, .ref a_often, .ref a_sorted, .int 0, .ref a_risen, .ref a_risenWays]))] H := hP
              have hD : va_D A [(a_row, .inl (cJ, 64, .inr (.inl f_6))), (m0, .inr (9, [.int 0, .int 6, .ref a_row, .ref a_tape, .int 0, .int 0, .int 0, .int 0, .ref a_number, .ref a_read, .int 0, .ref a_readBits, .ref a_stands, .ref a_parted, .ref a_bitsWere, .ref a_stood, .ref a_chosen, .ref a_bestChosen, .int 0, .ref a_often, .ref a_sorted, .int 0, .ref a_risen, .ref a_risenWays]))] := hD
              refine lv_iinc (v := 1) (lv' := [(2, .int 1), (1, .int 0), (3, .int 0), (0, .ref m0)]) hx hb dX9_runs_44 hl (k := 2) rfl (by decide +kernel) (by decide) rfl (fun ls hl => ?_)
              refine lv_goto (tgt := 19) hx hb dX9_runs_47 (by decide) ?_
              refine lv_iload_n hx hb dX9_runs_19 rfl (lv_at hl 0 rfl) ?_
              refine lv_if_lt (tgt := 50) hx hb dX9_runs_20 (by decide) (fun c20 => ?_) (fun c20 => ?_)
              ·
                exact absurd c20 (by decide +kernel)
              ·
                refine lv_aload_n hx hb dX9_runs_23 rfl (lv_at hl 3 rfl) ?_
                refine lv_iload_n hx hb dX9_runs_24 rfl (lv_at hl 0 rfl) ?_
                refine my_gpI (my_pV (As := [.int 1]) (rest := []) (ci := 9) ⟨hx, hb, hml, hown, hts⟩ (cwV 1 hts gX9_runs_X9_runsOf rfl rfl rfl (by decide +kernel) ⟨Nat.le_of_ble_eq_true rfl, Nat.le_of_ble_eq_true rfl⟩) hN hK hP [1] rfl 1 rfl rfl rfl rfl hl.1 rfl (Nat.le_of_ble_eq_true rfl) dX9_runs_25 ⟨Nat.le_of_ble_eq_true rfl, Nat.le_of_ble_eq_true rfl⟩  (k0_X9_runsOf l D cI cJ m0 a_row a_tape a_number a_read a_readBits a_stands a_parted a_bitsWere a_stood a_chosen a_bestChosen a_often a_sorted a_risen a_risenWays (0 : Int32) (6 : Int32) (0 : Int32) (0 : Int32) (0 : Int32) (0 : Int32) (0 : Int32) (0 : Int32) (1 : Int32))) (fun r hp => ?_)
                obtain rfl := hp
                refine lv_istore_n (lv' := [(3, .int 0), (2, .int 1), (1, .int 0), (0, .ref m0)]) hx hb dX9_runs_28 rfl hl (by decide) rfl (fun ls hl => ?_)
                refine lv_aload_n hx hb dX9_runs_29 rfl (lv_at hl 3 rfl) ?_
                refine lv_iload_n hx hb dX9_runs_30 rfl (lv_at hl 0 rfl) ?_
                refine lv_i2l (v := 0) hx hb dX9_runs_31 (by decide +kernel) ?_
                refine my_goV (wr := []) hP hD hS hA [1, 0] [] rfl rfl (by decide) (by decide) (my_cV (As := [.long 0]) (rest := []) (ci := 9) (wc := [(m0, .inr (9, [.int 0, .int 6, .ref a_row, .ref a_tape, .int 0, .int 0, .int 0, .int 0, .ref a_number, .ref a_read, .int 0, .ref a_readBits, .ref a_stands, .ref a_parted, .ref a_bitsWere, .ref a_stood, .ref a_chosen, .ref a_bestChosen, .int 0, .ref a_often, .ref a_sorted, .int 0, .ref a_risen, .ref a_risenWays])), (a_row, .inl (cJ, 64, .inr (.inl f_6)))]) ⟨hx, hb, hml, hown, hts⟩ (cwV 1 hts gX9_runs_X9_enters rfl rfl rfl (by decide +kernel) ⟨Nat.le_of_ble_eq_true rfl, Nat.le_of_ble_eq_true rfl⟩) hN hK hP hD [1, 0] rfl (by decide) rfl 1 rfl rfl rfl rfl hl.1 rfl (Nat.le_of_ble_eq_true rfl) dX9_runs_32 ⟨Nat.le_of_ble_eq_true rfl, Nat.le_of_ble_eq_true rfl⟩  ((k_X9_enters l D cI cJ m0 a_row a_tape a_number a_read a_readBits a_stands a_parted a_bitsWere a_stood a_chosen a_bestChosen a_often a_sorted a_risen a_risenWays (0 : Int32) (0 : Int32) (0 : Int32) (0 : Int32) (0 : Int32) (0 : Int32) (0 : Int32) (0 : Int32) 6 f_6 (0 : Int64) (by first | omega | decide +kernel)) _)) (fun u H locs hp hP hD hS => ?_)
                obtain ⟨f_7, rfl⟩ := hp
                have hP : va_P D vwCl [(m0, .inr (9, [.int 0, .int 7, .ref a_row, .ref a_tape, .int 0, .int 0, .int 0, .int 0, .ref a_number, .ref a_read, .int 0, .ref a_readBits, .ref a_stands, .ref a_parted, .ref a_bitsWere, .ref a_stood, .ref a_chosen, .ref a_bestChosen, .int 0, .ref a_often, .ref a_sorted, .int 0, .ref a_risen, .ref a_risenWays])), (a_row, .inl (cJ, 64, .inr (.inl f_7)))] H := hP
                have hD : va_D A [(m0, .inr (9, [.int 0, .int 7, .ref a_row, .ref a_tape, .int 0, .int 0, .int 0, .int 0, .ref a_number, .ref a_read, .int 0, .ref a_readBits, .ref a_stands, .ref a_parted, .ref a_bitsWere, .ref a_stood, .ref a_chosen, .ref a_bestChosen, .int 0, .ref a_often, .ref a_sorted, .int 0, .ref a_risen, .ref a_risenWays])), (a_row, .inl (cJ, 64, .inr (.inl f_7)))] := hD
                refine lv_iload_n hx hb dX9_runs_35 rfl (lv_at hl 2 rfl) ?_
                refine lv_iload_n hx hb dX9_runs_36 rfl (lv_at hl 0 rfl) ?_
                refine lv_iadd hx hb dX9_runs_37 ?_
                refine my_eqi (y := 0) (by decide +kernel) ?_
                refine lv_istore_n (lv' := [(1, .int 0), (3, .int 0), (2, .int 1), (0, .ref m0)]) hx hb dX9_runs_38 rfl hl (by decide) rfl (fun ls hl => ?_)
                refine lv_aload_n hx hb dX9_runs_39 rfl (lv_at hl 3 rfl) ?_
                refine lv_iload_n hx hb dX9_runs_40 rfl (lv_at hl 2 rfl) ?_
                refine my_goV (wr := [(a_row, .inl (cJ, 64, .inr (.inl f_7)))]) hP hD hS hA [0] [1] rfl rfl (by decide) (by decide) (my_cV (As := [.int 1]) (rest := []) (ci := 9) (wc := [(m0, .inr (9, [.int 0, .int 7, .ref a_row, .ref a_tape, .int 0, .int 0, .int 0, .int 0, .ref a_number, .ref a_read, .int 0, .ref a_readBits, .ref a_stands, .ref a_parted, .ref a_bitsWere, .ref a_stood, .ref a_chosen, .ref a_bestChosen, .int 0, .ref a_often, .ref a_sorted, .int 0, .ref a_risen, .ref a_risenWays]))]) ⟨hx, hb, hml, hown, hts⟩ (cwV 1 hts gX9_runs_X9_parts rfl rfl rfl (by decide +kernel) ⟨Nat.le_of_ble_eq_true rfl, Nat.le_of_ble_eq_true rfl⟩) hN hK hP hD [0] rfl (by decide) rfl 0 rfl rfl rfl rfl hl.1 rfl (Nat.le_of_ble_eq_true rfl) dX9_runs_41 ⟨Nat.le_of_ble_eq_true rfl, Nat.le_of_ble_eq_true rfl⟩  ((k0_X9_parts l D cI cJ m0 a_row a_tape a_number a_read a_readBits a_stands a_parted a_bitsWere a_stood a_chosen a_bestChosen a_often a_sorted a_risen a_risenWays (0 : Int32) (7 : Int32) (0 : Int32) (0 : Int32) (0 : Int32) (0 : Int32) (0 : Int32) (0 : Int32) (1 : Int32)) _)) (fun u H locs hp hP hD hS => ?_)
                obtain rfl := hp
                have hP : va_P D vwCl [(a_row, .inl (cJ, 64, .inr (.inl f_7))), (m0, .inr (9, [.int 0, .int 7, .ref a_row, .ref a_tape, .int 0, .int 0, .int 0, .int 0, .ref a_number, .ref a_read, .int 0, .ref a_readBits, .ref a_stands, .ref a_parted, .ref a_bitsWere, .ref a_stood, .ref a_chosen, .ref a_bestChosen, .int 0, .ref a_often, .ref a_sorted, .int 0, .ref a_risen, .ref a_risenWays]))] H := hP
                have hD : va_D A [(a_row, .inl (cJ, 64, .inr (.inl f_7))), (m0, .inr (9, [.int 0, .int 7, .ref a_row, .ref a_tape, .int 0, .int 0, .int 0, .int 0, .ref a_number, .ref a_read, .int 0, .ref a_readBits, .ref a_stands, .ref a_parted, .ref a_bitsWere, .ref a_stood, .ref a_chosen, .ref a_bestChosen, .int 0, .ref a_often, .ref a_sorted, .int 0, .ref a_risen, .ref a_risenWays]))] := hD
                refine lv_iinc (v := 0) (lv' := [(2, .int 0), (1, .int 0), (3, .int 0), (0, .ref m0)]) hx hb dX9_runs_44 hl (k := 2) rfl (by decide +kernel) (by decide) rfl (fun ls hl => ?_)
                refine lv_goto (tgt := 19) hx hb dX9_runs_47 (by decide) ?_
                refine lv_iload_n hx hb dX9_runs_19 rfl (lv_at hl 0 rfl) ?_
                refine lv_if_lt (tgt := 50) hx hb dX9_runs_20 (by decide) (fun c20 => ?_) (fun c20 => ?_)
                ·
                  exact absurd c20 (by decide +kernel)
                ·
                  refine lv_aload_n hx hb dX9_runs_23 rfl (lv_at hl 3 rfl) ?_
                  refine lv_iload_n hx hb dX9_runs_24 rfl (lv_at hl 0 rfl) ?_
                  refine my_gpI (my_pV (As := [.int 0]) (rest := []) (ci := 9) ⟨hx, hb, hml, hown, hts⟩ (cwV 1 hts gX9_runs_X9_runsOf rfl rfl rfl (by decide +kernel) ⟨Nat.le_of_ble_eq_true rfl, Nat.le_of_ble_eq_true rfl⟩) hN hK hP [1] rfl 1 rfl rfl rfl rfl hl.1 rfl (Nat.le_of_ble_eq_true rfl) dX9_runs_25 ⟨Nat.le_of_ble_eq_true rfl, Nat.le_of_ble_eq_true rfl⟩  (k0_X9_runsOf l D cI cJ m0 a_row a_tape a_number a_read a_readBits a_stands a_parted a_bitsWere a_stood a_chosen a_bestChosen a_often a_sorted a_risen a_risenWays (0 : Int32) (7 : Int32) (0 : Int32) (0 : Int32) (0 : Int32) (0 : Int32) (0 : Int32) (0 : Int32) (0 : Int32))) (fun r hp => ?_)
                  obtain rfl := hp
                  refine lv_istore_n (lv' := [(3, .int 0), (2, .int 0), (1, .int 0), (0, .ref m0)]) hx hb dX9_runs_28 rfl hl (by decide) rfl (fun ls hl => ?_)
                  refine lv_aload_n hx hb dX9_runs_29 rfl (lv_at hl 3 rfl) ?_
                  refine lv_iload_n hx hb dX9_runs_30 rfl (lv_at hl 0 rfl) ?_
                  refine lv_i2l (v := 0) hx hb dX9_runs_31 (by decide +kernel) ?_
                  refine my_goV (wr := []) hP hD hS hA [1, 0] [] rfl rfl (by decide) (by decide) (my_cV (As := [.long 0]) (rest := []) (ci := 9) (wc := [(m0, .inr (9, [.int 0, .int 7, .ref a_row, .ref a_tape, .int 0, .int 0, .int 0, .int 0, .ref a_number, .ref a_read, .int 0, .ref a_readBits, .ref a_stands, .ref a_parted, .ref a_bitsWere, .ref a_stood, .ref a_chosen, .ref a_bestChosen, .int 0, .ref a_often, .ref a_sorted, .int 0, .ref a_risen, .ref a_risenWays])), (a_row, .inl (cJ, 64, .inr (.inl f_7)))]) ⟨hx, hb, hml, hown, hts⟩ (cwV 1 hts gX9_runs_X9_enters rfl rfl rfl (by decide +kernel) ⟨Nat.le_of_ble_eq_true rfl, Nat.le_of_ble_eq_true rfl⟩) hN hK hP hD [1, 0] rfl (by decide) rfl 1 rfl rfl rfl rfl hl.1 rfl (Nat.le_of_ble_eq_true rfl) dX9_runs_32 ⟨Nat.le_of_ble_eq_true rfl, Nat.le_of_ble_eq_true rfl⟩  ((k_X9_enters l D cI cJ m0 a_row a_tape a_number a_read a_readBits a_stands a_parted a_bitsWere a_stood a_chosen a_bestChosen a_often a_sorted a_risen a_risenWays (0 : Int32) (0 : Int32) (0 : Int32) (0 : Int32) (0 : Int32) (0 : Int32) (0 : Int32) (0 : Int32) 7 f_7 (0 : Int64) (by first | omega | decide +kernel)) _)) (fun u H locs hp hP hD hS => ?_)
                  obtain ⟨f_8, rfl⟩ := hp
                  have hP : va_P D vwCl [(m0, .inr (9, [.int 0, .int 8, .ref a_row, .ref a_tape, .int 0, .int 0, .int 0, .int 0, .ref a_number, .ref a_read, .int 0, .ref a_readBits, .ref a_stands, .ref a_parted, .ref a_bitsWere, .ref a_stood, .ref a_chosen, .ref a_bestChosen, .int 0, .ref a_often, .ref a_sorted, .int 0, .ref a_risen, .ref a_risenWays])), (a_row, .inl (cJ, 64, .inr (.inl f_8)))] H := hP
                  have hD : va_D A [(m0, .inr (9, [.int 0, .int 8, .ref a_row, .ref a_tape, .int 0, .int 0, .int 0, .int 0, .ref a_number, .ref a_read, .int 0, .ref a_readBits, .ref a_stands, .ref a_parted, .ref a_bitsWere, .ref a_stood, .ref a_chosen, .ref a_bestChosen, .int 0, .ref a_often, .ref a_sorted, .int 0, .ref a_risen, .ref a_risenWays])), (a_row, .inl (cJ, 64, .inr (.inl f_8)))] := hD
                  refine lv_iload_n hx hb dX9_runs_35 rfl (lv_at hl 2 rfl) ?_
                  refine lv_iload_n hx hb dX9_runs_36 rfl (lv_at hl 0 rfl) ?_
                  refine lv_iadd hx hb dX9_runs_37 ?_
                  refine my_eqi (y := 0) (by decide +kernel) ?_
                  refine lv_istore_n (lv' := [(1, .int 0), (3, .int 0), (2, .int 0), (0, .ref m0)]) hx hb dX9_runs_38 rfl hl (by decide) rfl (fun ls hl => ?_)
                  refine lv_aload_n hx hb dX9_runs_39 rfl (lv_at hl 3 rfl) ?_
                  refine lv_iload_n hx hb dX9_runs_40 rfl (lv_at hl 2 rfl) ?_
                  refine my_goV (wr := [(a_row, .inl (cJ, 64, .inr (.inl f_8)))]) hP hD hS hA [0] [1] rfl rfl (by decide) (by decide) (my_cV (As := [.int 0]) (rest := []) (ci := 9) (wc := [(m0, .inr (9, [.int 0, .int 8, .ref a_row, .ref a_tape, .int 0, .int 0, .int 0, .int 0, .ref a_number, .ref a_read, .int 0, .ref a_readBits, .ref a_stands, .ref a_parted, .ref a_bitsWere, .ref a_stood, .ref a_chosen, .ref a_bestChosen, .int 0, .ref a_often, .ref a_sorted, .int 0, .ref a_risen, .ref a_risenWays]))]) ⟨hx, hb, hml, hown, hts⟩ (cwV 1 hts gX9_runs_X9_parts rfl rfl rfl (by decide +kernel) ⟨Nat.le_of_ble_eq_true rfl, Nat.le_of_ble_eq_true rfl⟩) hN hK hP hD [0] rfl (by decide) rfl 0 rfl rfl rfl rfl hl.1 rfl (Nat.le_of_ble_eq_true rfl) dX9_runs_41 ⟨Nat.le_of_ble_eq_true rfl, Nat.le_of_ble_eq_true rfl⟩  ((k0_X9_parts l D cI cJ m0 a_row a_tape a_number a_read a_readBits a_stands a_parted a_bitsWere a_stood a_chosen a_bestChosen a_often a_sorted a_risen a_risenWays (0 : Int32) (8 : Int32) (0 : Int32) (0 : Int32) (0 : Int32) (0 : Int32) (0 : Int32) (0 : Int32) (0 : Int32)) _)) (fun u H locs hp hP hD hS => ?_)
                  obtain rfl := hp
                  have hP : va_P D vwCl [(a_row, .inl (cJ, 64, .inr (.inl f_8))), (m0, .inr (9, [.int 0, .int 8, .ref a_row, .ref a_tape, .int 0, .int 0, .int 0, .int 0, .ref a_number, .ref a_read, .int 0, .ref a_readBits, .ref a_stands, .ref a_parted, .ref a_bitsWere, .ref a_stood, .ref a_chosen, .ref a_bestChosen, .int 0, .ref a_often, .ref a_sorted, .int 0, .ref a_risen, .ref a_risenWays]))] H := hP
                  have hD : va_D A [(a_row, .inl (cJ, 64, .inr (.inl f_8))), (m0, .inr (9, [.int 0, .int 8, .ref a_row, .ref a_tape, .int 0, .int 0, .int 0, .int 0, .ref a_number, .ref a_read, .int 0, .ref a_readBits, .ref a_stands, .ref a_parted, .ref a_bitsWere, .ref a_stood, .ref a_chosen, .ref a_bestChosen, .int 0, .ref a_often, .ref a_sorted, .int 0, .ref a_risen, .ref a_risenWays]))] := hD
                  refine lv_iinc (v := (-1)) (lv' := [(2, .int (-1)), (1, .int 0), (3, .int 0), (0, .ref m0)]) hx hb dX9_runs_44 hl (k := 2) rfl (by decide +kernel) (by decide) rfl (fun ls hl => ?_)
                  refine lv_goto (tgt := 19) hx hb dX9_runs_47 (by decide) ?_
                  refine lv_iload_n hx hb dX9_runs_19 rfl (lv_at hl 0 rfl) ?_
                  refine lv_if_lt (tgt := 50) hx hb dX9_runs_20 (by decide) (fun c20 => ?_) (fun c20 => ?_)
                  ·
                    refine lv_iload_n hx hb dX9_runs_50 rfl (lv_at hl 1 rfl) ?_
                    exact my_retI hx hb hr hlocks hK hS [] (hP.sub [] rfl) (hD.sub [] (by decide) rfl) (⟨rfl, rfl⟩) dX9_runs_51
                  ·
                    exact absurd c20 (by decide +kernel)
set_option maxHeartbeats 4000000 in
set_option maxRecDepth 100000 in
theorem k0_X9_thrift (l : Launch) (D : va_G) (cI cJ : ClassId) (m0 : Nat) (a_row : Nat) (a_tape : Nat) (a_number : Nat) (a_read : Nat) (a_readBits : Nat) (a_stands : Nat) (a_parted : Nat) (a_bitsWere : Nat) (a_stood : Nat) (a_chosen : Nat) (a_bestChosen : Nat) (a_often : Nat) (a_sorted : Nat) (a_risen : Nat) (a_risenWays : Nat) (rf : Nat → Int64) (cf : Nat → Int32) (bf : Nat → Int32) : ctI l yX9_thrift wsX9_thrift ({ frames := 9, cells := 0, slots := 0, locals := 540 } : Room) D (tyIJ cI cJ) [.ref m0] [(m0, .inr (9, [.int 0, .int 0, .ref a_row, .ref a_tape, .int 0, .int 0, .int 0, .int 0, .ref a_number, .ref a_read, .int 0, .ref a_readBits, .ref a_stands, .ref a_parted, .ref a_bitsWere, .ref a_stood, .ref a_chosen, .ref a_bestChosen, .int 0, .ref a_often, .ref a_sorted, .int 0, .ref a_risen, .ref a_risenWays])), (a_row, .inl (cJ, 64, .inr (.inl rf))), (a_chosen, .inl (cI, 8, .inl cf)), (a_bestChosen, .inl (cI, 8, .inl bf))] (fun (r : Int32) (u : va_W) => u = [] ∧ r = 0) := by
  refine ctI.of (cc := cX9_thrift) (maxL := 2) (ret := (some .int)) (by decide) rfl (Nat.le_of_ble_eq_true rfl) ?_
  intro p e s m below meth c ls A hx hb hr hts hown hml hlocks hname hA hK hN hP hD hS hl
  have hl : lv_has ls 2 [(0, .ref m0)] := hl
  have hown : s.vm.findClass RX9 = some m.cls := hown
  have hi9 : ∀ w ∈ u_ws RX9 TX9 24, w ∈ wsX9_thrift := by decide +kernel
  have fl1 := hts (.fieldLink RX9 1 "PlaneColumnModel" "thrown" "I") (by decide +kernel)
  have fl11 := hts (.fieldLink RX9 11 "PlaneColumnModel" "told" "I") (by decide +kernel)
  have fl162 := hts (.fieldLink RX9 162 "PlaneColumnModel" "fewest" "I") (by decide +kernel)
  have fl73 := hts (.fieldLink RX9 73 "PlaneColumnModel" "bestChosen" "[I") (by decide +kernel)
  refine lv_aload_n hx hb dX9_thrift_0 rfl (lv_at hl 0 rfl) ?_
  refine lv_iconst (v := 0) hx hb dX9_thrift_1 (by decide +kernel) ?_
  refine va_put (ci := 9) (v := .int 0) (ty := (.int)) (C := RX9) (T := TX9) (N := 24) hx hb hts hi9 tyX9 tyX9_ok nmX9 hown hK hP hD hS 0 rfl rfl 0 (by decide) fl1 (fun _ h9 => h9) rfl (by decide +kernel) rfl rfl (Nat.le_of_ble_eq_true rfl) dX9_thrift_2 (fun H locs hP hD hS => ?_)
  have hP : va_P D vwCl [(m0, .inr (9, [.int 0, .int 0, .ref a_row, .ref a_tape, .int 0, .int 0, .int 0, .int 0, .ref a_number, .ref a_read, .int 0, .ref a_readBits, .ref a_stands, .ref a_parted, .ref a_bitsWere, .ref a_stood, .ref a_chosen, .ref a_bestChosen, .int 0, .ref a_often, .ref a_sorted, .int 0, .ref a_risen, .ref a_risenWays])), (a_row, .inl (cJ, 64, .inr (.inl rf))), (a_chosen, .inl (cI, 8, .inl cf)), (a_bestChosen, .inl (cI, 8, .inl bf))] H := hP
  have hD : va_D A [(m0, .inr (9, [.int 0, .int 0, .ref a_row, .ref a_tape, .int 0, .int 0, .int 0, .int 0, .ref a_number, .ref a_read, .int 0, .ref a_readBits, .ref a_stands, .ref a_parted, .ref a_bitsWere, .ref a_stood, .ref a_chosen, .ref a_bestChosen, .int 0, .ref a_often, .ref a_sorted, .int 0, .ref a_risen, .ref a_risenWays])), (a_row, .inl (cJ, 64, .inr (.inl rf))), (a_chosen, .inl (cI, 8, .inl cf)), (a_bestChosen, .inl (cI, 8, .inl bf))] := hD
  refine lv_aload_n hx hb dX9_thrift_5 rfl (lv_at hl 0 rfl) ?_
  refine my_goV (wr := [(a_row, .inl (cJ, 64, .inr (.inl rf))), (a_chosen, .inl (cI, 8, .inl cf)), (a_bestChosen, .inl (cI, 8, .inl bf))]) hP hD hS hA [0] [1, 2, 3] rfl rfl (by decide) (by decide) (my_cV (As := []) (rest := []) (ci := 9) (wc := [(m0, .inr (9, [.int 0, .int 0, .ref a_row, .ref a_tape, .int 0, .int 0, .int 0, .int 0, .ref a_number, .ref a_read, .int 0, .ref a_readBits, .ref a_stands, .ref a_parted, .ref a_bitsWere, .ref a_stood, .ref a_chosen, .ref a_bestChosen, .int 0, .ref a_often, .ref a_sorted, .int 0, .ref a_risen, .ref a_risenWays]))]) ⟨hx, hb, hml, hown, hts⟩ (cwV 0 hts gX9_thrift_X9_begins rfl rfl rfl (by decide +kernel) ⟨Nat.le_of_ble_eq_true rfl, Nat.le_of_ble_eq_true rfl⟩) hN hK hP hD [0] rfl (by decide) rfl 0 rfl rfl rfl rfl hl.1 rfl (Nat.le_of_ble_eq_true rfl) dX9_thrift_6 ⟨Nat.le_of_ble_eq_true rfl, Nat.le_of_ble_eq_true rfl⟩  ((k0_X9_begins l D cI cJ m0 a_row a_tape a_number a_read a_readBits a_stands a_parted a_bitsWere a_stood a_chosen a_bestChosen a_often a_sorted a_risen a_risenWays (0 : Int32) (0 : Int32) (0 : Int32) (0 : Int32) (0 : Int32) (0 : Int32) (0 : Int32) (0 : Int32)) _)) (fun u H locs hp hP hD hS => ?_)
  obtain rfl := hp
  have hP : va_P D vwCl [(a_row, .inl (cJ, 64, .inr (.inl rf))), (a_chosen, .inl (cI, 8, .inl cf)), (a_bestChosen, .inl (cI, 8, .inl bf)), (m0, .inr (9, [.int 0, .int 0, .ref a_row, .ref a_tape, .int 0, .int 0, .int 0, .int 0, .ref a_number, .ref a_read, .int 0, .ref a_readBits, .ref a_stands, .ref a_parted, .ref a_bitsWere, .ref a_stood, .ref a_chosen, .ref a_bestChosen, .int 0, .ref a_often, .ref a_sorted, .int 0, .ref a_risen, .ref a_risenWays]))] H := hP
  have hD : va_D A [(a_row, .inl (cJ, 64, .inr (.inl rf))), (a_chosen, .inl (cI, 8, .inl cf)), (a_bestChosen, .inl (cI, 8, .inl bf)), (m0, .inr (9, [.int 0, .int 0, .ref a_row, .ref a_tape, .int 0, .int 0, .int 0, .int 0, .ref a_number, .ref a_read, .int 0, .ref a_readBits, .ref a_stands, .ref a_parted, .ref a_bitsWere, .ref a_stood, .ref a_chosen, .ref a_bestChosen, .int 0, .ref a_often, .ref a_sorted, .int 0, .ref a_risen, .ref a_risenWays]))] := hD
  refine lv_aload_n hx hb dX9_thrift_9 rfl (lv_at hl 0 rfl) ?_
  refine lv_iconst (v := (-1)) hx hb dX9_thrift_10 (by decide +kernel) ?_
  refine va_put (ci := 9) (v := .int (-1)) (ty := (.int)) (C := RX9) (T := TX9) (N := 24) hx hb hts hi9 tyX9 tyX9_ok nmX9 hown hK hP hD hS 3 rfl rfl 18 (by decide) fl162 (fun _ h9 => h9) rfl (by decide +kernel) rfl rfl (Nat.le_of_ble_eq_true rfl) dX9_thrift_11 (fun H locs hP hD hS => ?_)
  have hP : va_P D vwCl [(a_row, .inl (cJ, 64, .inr (.inl rf))), (a_chosen, .inl (cI, 8, .inl cf)), (a_bestChosen, .inl (cI, 8, .inl bf)), (m0, .inr (9, [.int 0, .int 0, .ref a_row, .ref a_tape, .int 0, .int 0, .int 0, .int 0, .ref a_number, .ref a_read, .int 0, .ref a_readBits, .ref a_stands, .ref a_parted, .ref a_bitsWere, .ref a_stood, .ref a_chosen, .ref a_bestChosen, .int (-1), .ref a_often, .ref a_sorted, .int 0, .ref a_risen, .ref a_risenWays]))] H := hP
  have hD : va_D A [(a_row, .inl (cJ, 64, .inr (.inl rf))), (a_chosen, .inl (cI, 8, .inl cf)), (a_bestChosen, .inl (cI, 8, .inl bf)), (m0, .inr (9, [.int 0, .int 0, .ref a_row, .ref a_tape, .int 0, .int 0, .int 0, .int 0, .ref a_number, .ref a_read, .int 0, .ref a_readBits, .ref a_stands, .ref a_parted, .ref a_bitsWere, .ref a_stood, .ref a_chosen, .ref a_bestChosen, .int (-1), .ref a_often, .ref a_sorted, .int 0, .ref a_risen, .ref a_risenWays]))] := hD
  refine lv_aload_n hx hb dX9_thrift_14 rfl (lv_at hl 0 rfl) ?_
  refine lv_iconst (v := 0) hx hb dX9_thrift_15 (by decide +kernel) ?_
  refine lv_iconst (v := 0) hx hb dX9_thrift_16 (by decide +kernel) ?_
  refine lv_iconst (v := 0) hx hb dX9_thrift_17 (by decide +kernel) ?_
  refine my_goV (wr := [(a_row, .inl (cJ, 64, .inr (.inl rf)))]) hP hD hS hA [3, 1, 2] [0] rfl rfl (by decide) (by decide) (my_cV (As := [.int 0, .int 0, .int 0]) (rest := []) (ci := 9) (wc := [(m0, .inr (9, [.int 0, .int 0, .ref a_row, .ref a_tape, .int 0, .int 0, .int 0, .int 0, .ref a_number, .ref a_read, .int 0, .ref a_readBits, .ref a_stands, .ref a_parted, .ref a_bitsWere, .ref a_stood, .ref a_chosen, .ref a_bestChosen, .int (-1), .ref a_often, .ref a_sorted, .int 0, .ref a_risen, .ref a_risenWays])), (a_chosen, .inl (cI, 8, .inl cf)), (a_bestChosen, .inl (cI, 8, .inl bf))]) ⟨hx, hb, hml, hown, hts⟩ (cwV 3 hts gX9_thrift_X9_triesBits rfl rfl rfl (by decide +kernel) ⟨Nat.le_of_ble_eq_true rfl, Nat.le_of_ble_eq_true rfl⟩) hN hK hP hD [3, 1, 2] rfl (by decide) rfl 3 rfl rfl rfl rfl hl.1 rfl (Nat.le_of_ble_eq_true rfl) dX9_thrift_18 ⟨Nat.le_of_ble_eq_true rfl, Nat.le_of_ble_eq_true rfl⟩  ((k0_X9_triesBits_0 l D cI cJ m0 a_row a_tape a_number a_read a_readBits a_stands a_parted a_bitsWere a_stood a_chosen a_bestChosen a_often a_sorted a_risen a_risenWays (0 : Int32) (0 : Int32) (0 : Int32) (0 : Int32) (0 : Int32) (0 : Int32) (0 : Int32) cf bf) _)) (fun u H locs hp hP hD hS => ?_)
  obtain ⟨f_1, g_2, rfl⟩ := hp
  have hP : va_P D vwCl [(a_row, .inl (cJ, 64, .inr (.inl rf))), (m0, .inr (9, [.int 0, .int 0, .ref a_row, .ref a_tape, .int 0, .int 0, .int 0, .int 0, .ref a_number, .ref a_read, .int 0, .ref a_readBits, .ref a_stands, .ref a_parted, .ref a_bitsWere, .ref a_stood, .ref a_chosen, .ref a_bestChosen, .int 0, .ref a_often, .ref a_sorted, .int 0, .ref a_risen, .ref a_risenWays])), (a_chosen, .inl (cI, 8, .inl f_1)), (a_bestChosen, .inl (cI, 8, .inl g_2))] H := hP
  have hD : va_D A [(a_row, .inl (cJ, 64, .inr (.inl rf))), (m0, .inr (9, [.int 0, .int 0, .ref a_row, .ref a_tape, .int 0, .int 0, .int 0, .int 0, .ref a_number, .ref a_read, .int 0, .ref a_readBits, .ref a_stands, .ref a_parted, .ref a_bitsWere, .ref a_stood, .ref a_chosen, .ref a_bestChosen, .int 0, .ref a_often, .ref a_sorted, .int 0, .ref a_risen, .ref a_risenWays])), (a_chosen, .inl (cI, 8, .inl f_1)), (a_bestChosen, .inl (cI, 8, .inl g_2))] := hD
  refine lv_aload_n hx hb dX9_thrift_21 rfl (lv_at hl 0 rfl) ?_
  refine lv_iconst (v := 0) hx hb dX9_thrift_22 (by decide +kernel) ?_
  refine va_put (ci := 9) (v := .int 0) (ty := (.int)) (C := RX9) (T := TX9) (N := 24) hx hb hts hi9 tyX9 tyX9_ok nmX9 hown hK hP hD hS 1 rfl rfl 1 (by decide) fl11 (fun _ h9 => h9) rfl (by decide +kernel) rfl rfl (Nat.le_of_ble_eq_true rfl) dX9_thrift_23 (fun H locs hP hD hS => ?_)
  have hP : va_P D vwCl [(a_row, .inl (cJ, 64, .inr (.inl rf))), (m0, .inr (9, [.int 0, .int 0, .ref a_row, .ref a_tape, .int 0, .int 0, .int 0, .int 0, .ref a_number, .ref a_read, .int 0, .ref a_readBits, .ref a_stands, .ref a_parted, .ref a_bitsWere, .ref a_stood, .ref a_chosen, .ref a_bestChosen, .int 0, .ref a_often, .ref a_sorted, .int 0, .ref a_risen, .ref a_risenWays])), (a_chosen, .inl (cI, 8, .inl f_1)), (a_bestChosen, .inl (cI, 8, .inl g_2))] H := hP
  have hD : va_D A [(a_row, .inl (cJ, 64, .inr (.inl rf))), (m0, .inr (9, [.int 0, .int 0, .ref a_row, .ref a_tape, .int 0, .int 0, .int 0, .int 0, .ref a_number, .ref a_read, .int 0, .ref a_readBits, .ref a_stands, .ref a_parted, .ref a_bitsWere, .ref a_stood, .ref a_chosen, .ref a_bestChosen, .int 0, .ref a_often, .ref a_sorted, .int 0, .ref a_risen, .ref a_risenWays])), (a_chosen, .inl (cI, 8, .inl f_1)), (a_bestChosen, .inl (cI, 8, .inl g_2))] := hD
  refine lv_iconst (v := 0) hx hb dX9_thrift_26 (by decide +kernel) ?_
  refine lv_istore_n (lv' := [(1, .int 0), (0, .ref m0)]) hx hb dX9_thrift_27 rfl hl (by decide) rfl (fun ls hl => ?_)
  refine lv_iload_n hx hb dX9_thrift_28 rfl (lv_at hl 0 rfl) ?_
  refine lv_bipush (v := 8) hx hb dX9_thrift_29 (by decide +kernel) ?_
  refine lv_icmp_ge (tgt := 51) hx hb dX9_thrift_31 (by decide) (fun c31 => ?_) (fun c31 => ?_)
  ·
    exact absurd c31 (by decide +kernel)
  ·
    refine lv_aload_n hx hb dX9_thrift_34 rfl (lv_at hl 1 rfl) ?_
    refine lv_aload_n hx hb dX9_thrift_35 rfl (lv_at hl 1 rfl) ?_
    refine va_get (ci := 9) (v := .ref a_bestChosen) (C := RX9) (T := TX9) (N := 24) hx hb hts hi9 hown hK hP 1 rfl rfl 17 (by decide) fl73 (fun _ h9 => h9) rfl dX9_thrift_36 ?_
    refine lv_iload_n hx hb dX9_thrift_39 rfl (lv_at hl 0 rfl) ?_
    refine va_iald hx hb hK hP 3 0 rfl rfl (vp_in_nI (n := 0) (by omega) (by omega)) dX9_thrift_40 ?_
    refine my_eqi (y := g_2 0) (congrArg g_2 (show (0 : Int32).toNatClampNeg = 0 by decide +kernel)) ?_
    refine lv_i2l (v := (g_2 0).toInt64) hx hb dX9_thrift_41 rfl ?_
    refine my_goV (wr := [(a_chosen, .inl (cI, 8, .inl f_1)), (a_bestChosen, .inl (cI, 8, .inl g_2))]) hP hD hS hA [1, 0] [2, 3] rfl rfl (by decide) (by decide) (my_cV (As := [.long ((g_2 0).toInt64)]) (rest := []) (ci := 9) (wc := [(m0, .inr (9, [.int 0, .int 0, .ref a_row, .ref a_tape, .int 0, .int 0, .int 0, .int 0, .ref a_number, .ref a_read, .int 0, .ref a_readBits, .ref a_stands, .ref a_parted, .ref a_bitsWere, .ref a_stood, .ref a_chosen, .ref a_bestChosen, .int 0, .ref a_often, .ref a_sorted, .int 0, .ref a_risen, .ref a_risenWays])), (a_row, .inl (cJ, 64, .inr (.inl rf)))]) ⟨hx, hb, hml, hown, hts⟩ (cwV 1 hts gX9_thrift_X9_enters rfl rfl rfl (by decide +kernel) ⟨Nat.le_of_ble_eq_true rfl, Nat.le_of_ble_eq_true rfl⟩) hN hK hP hD [1, 0] rfl (by decide) rfl 1 rfl rfl rfl rfl hl.1 rfl (Nat.le_of_ble_eq_true rfl) dX9_thrift_42 ⟨Nat.le_of_ble_eq_true rfl, Nat.le_of_ble_eq_true rfl⟩  ((k_X9_enters l D cI cJ m0 a_row a_tape a_number a_read a_readBits a_stands a_parted a_bitsWere a_stood a_chosen a_bestChosen a_often a_sorted a_risen a_risenWays (0 : Int32) (0 : Int32) (0 : Int32) (0 : Int32) (0 : Int32) (0 : Int32) (0 : Int32) (0 : Int32) 0 rf ((g_2 0).toInt64) (by first | omega | decide +kernel)) _)) (fun u H locs hp hP hD hS => ?_)
    obtain ⟨f_3, rfl⟩ := hp
    have hP : va_P D vwCl [(a_chosen, .inl (cI, 8, .inl f_1)), (a_bestChosen, .inl (cI, 8, .inl g_2)), (m0, .inr (9, [.int 0, .int 1, .ref a_row, .ref a_tape, .int 0, .int 0, .int 0, .int 0, .ref a_number, .ref a_read, .int 0, .ref a_readBits, .ref a_stands, .ref a_parted, .ref a_bitsWere, .ref a_stood, .ref a_chosen, .ref a_bestChosen, .int 0, .ref a_often, .ref a_sorted, .int 0, .ref a_risen, .ref a_risenWays])), (a_row, .inl (cJ, 64, .inr (.inl f_3)))] H := hP
    have hD : va_D A [(a_chosen, .inl (cI, 8, .inl f_1)), (a_bestChosen, .inl (cI, 8, .inl g_2)), (m0, .inr (9, [.int 0, .int 1, .ref a_row, .ref a_tape, .int 0, .int 0, .int 0, .int 0, .ref a_number, .ref a_read, .int 0, .ref a_readBits, .ref a_stands, .ref a_parted, .ref a_bitsWere, .ref a_stood, .ref a_chosen, .ref a_bestChosen, .int 0, .ref a_often, .ref a_sorted, .int 0, .ref a_risen, .ref a_risenWays])), (a_row, .inl (cJ, 64, .inr (.inl f_3)))] := hD
    refine lv_iinc (v := 1) (lv' := [(1, .int 1), (0, .ref m0)]) hx hb dX9_thrift_45 hl (k := 0) rfl (by decide +kernel) (by decide) rfl (fun ls hl => ?_)
    refine lv_goto (tgt := 28) hx hb dX9_thrift_48 (by decide) ?_
    refine lv_iload_n hx hb dX9_thrift_28 rfl (lv_at hl 0 rfl) ?_
    refine lv_bipush (v := 8) hx hb dX9_thrift_29 (by decide +kernel) ?_
    refine lv_icmp_ge (tgt := 51) hx hb dX9_thrift_31 (by decide) (fun c31 => ?_) (fun c31 => ?_)
    ·
      exact absurd c31 (by decide +kernel)
    ·
      refine lv_aload_n hx hb dX9_thrift_34 rfl (lv_at hl 1 rfl) ?_
      refine lv_aload_n hx hb dX9_thrift_35 rfl (lv_at hl 1 rfl) ?_
      refine va_get (ci := 9) (v := .ref a_bestChosen) (C := RX9) (T := TX9) (N := 24) hx hb hts hi9 hown hK hP 2 rfl rfl 17 (by decide) fl73 (fun _ h9 => h9) rfl dX9_thrift_36 ?_
      refine lv_iload_n hx hb dX9_thrift_39 rfl (lv_at hl 0 rfl) ?_
      refine va_iald hx hb hK hP 1 0 rfl rfl (vp_in_nI (n := 1) (by omega) (by omega)) dX9_thrift_40 ?_
      refine my_eqi (y := g_2 1) (congrArg g_2 (show (1 : Int32).toNatClampNeg = 1 by decide +kernel)) ?_
      refine lv_i2l (v := (g_2 1).toInt64) hx hb dX9_thrift_41 rfl ?_
      refine my_goV (wr := [(a_chosen, .inl (cI, 8, .inl f_1)), (a_bestChosen, .inl (cI, 8, .inl g_2))]) hP hD hS hA [2, 3] [0, 1] rfl rfl (by decide) (by decide) (my_cV (As := [.long ((g_2 1).toInt64)]) (rest := []) (ci := 9) (wc := [(m0, .inr (9, [.int 0, .int 1, .ref a_row, .ref a_tape, .int 0, .int 0, .int 0, .int 0, .ref a_number, .ref a_read, .int 0, .ref a_readBits, .ref a_stands, .ref a_parted, .ref a_bitsWere, .ref a_stood, .ref a_chosen, .ref a_bestChosen, .int 0, .ref a_often, .ref a_sorted, .int 0, .ref a_risen, .ref a_risenWays])), (a_row, .inl (cJ, 64, .inr (.inl f_3)))]) ⟨hx, hb, hml, hown, hts⟩ (cwV 1 hts gX9_thrift_X9_enters rfl rfl rfl (by decide +kernel) ⟨Nat.le_of_ble_eq_true rfl, Nat.le_of_ble_eq_true rfl⟩) hN hK hP hD [2, 3] rfl (by decide) rfl 2 rfl rfl rfl rfl hl.1 rfl (Nat.le_of_ble_eq_true rfl) dX9_thrift_42 ⟨Nat.le_of_ble_eq_true rfl, Nat.le_of_ble_eq_true rfl⟩  ((k_X9_enters l D cI cJ m0 a_row a_tape a_number a_read a_readBits a_stands a_parted a_bitsWere a_stood a_chosen a_bestChosen a_often a_sorted a_risen a_risenWays (0 : Int32) (0 : Int32) (0 : Int32) (0 : Int32) (0 : Int32) (0 : Int32) (0 : Int32) (0 : Int32) 1 f_3 ((g_2 1).toInt64) (by first | omega | decide +kernel)) _)) (fun u H locs hp hP hD hS => ?_)
      obtain ⟨f_4, rfl⟩ := hp
      have hP : va_P D vwCl [(a_chosen, .inl (cI, 8, .inl f_1)), (a_bestChosen, .inl (cI, 8, .inl g_2)), (m0, .inr (9, [.int 0, .int 2, .ref a_row, .ref a_tape, .int 0, .int 0, .int 0, .int 0, .ref a_number, .ref a_read, .int 0, .ref a_readBits, .ref a_stands, .ref a_parted, .ref a_bitsWere, .ref a_stood, .ref a_chosen, .ref a_bestChosen, .int 0, .ref a_often, .ref a_sorted, .int 0, .ref a_risen, .ref a_risenWays])), (a_row, .inl (cJ, 64, .inr (.inl f_4)))] H := hP
      have hD : va_D A [(a_chosen, .inl (cI, 8, .inl f_1)), (a_bestChosen, .inl (cI, 8, .inl g_2)), (m0, .inr (9, [.int 0, .int 2, .ref a_row, .ref a_tape, .int 0, .int 0, .int 0, .int 0, .ref a_number, .ref a_read, .int 0, .ref a_readBits, .ref a_stands, .ref a_parted, .ref a_bitsWere, .ref a_stood, .ref a_chosen, .ref a_bestChosen, .int 0, .ref a_often, .ref a_sorted, .int 0, .ref a_risen, .ref a_risenWays])), (a_row, .inl (cJ, 64, .inr (.inl f_4)))] := hD
      refine lv_iinc (v := 2) (lv' := [(1, .int 2), (0, .ref m0)]) hx hb dX9_thrift_45 hl (k := 0) rfl (by decide +kernel) (by decide) rfl (fun ls hl => ?_)
      refine lv_goto (tgt := 28) hx hb dX9_thrift_48 (by decide) ?_
      refine lv_iload_n hx hb dX9_thrift_28 rfl (lv_at hl 0 rfl) ?_
      refine lv_bipush (v := 8) hx hb dX9_thrift_29 (by decide +kernel) ?_
      refine lv_icmp_ge (tgt := 51) hx hb dX9_thrift_31 (by decide) (fun c31 => ?_) (fun c31 => ?_)
      ·
        exact absurd c31 (by decide +kernel)
      ·
        refine lv_aload_n hx hb dX9_thrift_34 rfl (lv_at hl 1 rfl) ?_
        refine lv_aload_n hx hb dX9_thrift_35 rfl (lv_at hl 1 rfl) ?_
        refine va_get (ci := 9) (v := .ref a_bestChosen) (C := RX9) (T := TX9) (N := 24) hx hb hts hi9 hown hK hP 2 rfl rfl 17 (by decide) fl73 (fun _ h9 => h9) rfl dX9_thrift_36 ?_
        refine lv_iload_n hx hb dX9_thrift_39 rfl (lv_at hl 0 rfl) ?_
        refine va_iald hx hb hK hP 1 0 rfl rfl (vp_in_nI (n := 2) (by omega) (by omega)) dX9_thrift_40 ?_
        refine my_eqi (y := g_2 2) (congrArg g_2 (show (2 : Int32).toNatClampNeg = 2 by decide +kernel)) ?_
        refine lv_i2l (v := (g_2 2).toInt64) hx hb dX9_thrift_41 rfl ?_
        refine my_goV (wr := [(a_chosen, .inl (cI, 8, .inl f_1)), (a_bestChosen, .inl (cI, 8, .inl g_2))]) hP hD hS hA [2, 3] [0, 1] rfl rfl (by decide) (by decide) (my_cV (As := [.long ((g_2 2).toInt64)]) (rest := []) (ci := 9) (wc := [(m0, .inr (9, [.int 0, .int 2, .ref a_row, .ref a_tape, .int 0, .int 0, .int 0, .int 0, .ref a_number, .ref a_read, .int 0, .ref a_readBits, .ref a_stands, .ref a_parted, .ref a_bitsWere, .ref a_stood, .ref a_chosen, .ref a_bestChosen, .int 0, .ref a_often, .ref a_sorted, .int 0, .ref a_risen, .ref a_risenWays])), (a_row, .inl (cJ, 64, .inr (.inl f_4)))]) ⟨hx, hb, hml, hown, hts⟩ (cwV 1 hts gX9_thrift_X9_enters rfl rfl rfl (by decide +kernel) ⟨Nat.le_of_ble_eq_true rfl, Nat.le_of_ble_eq_true rfl⟩) hN hK hP hD [2, 3] rfl (by decide) rfl 2 rfl rfl rfl rfl hl.1 rfl (Nat.le_of_ble_eq_true rfl) dX9_thrift_42 ⟨Nat.le_of_ble_eq_true rfl, Nat.le_of_ble_eq_true rfl⟩  ((k_X9_enters l D cI cJ m0 a_row a_tape a_number a_read a_readBits a_stands a_parted a_bitsWere a_stood a_chosen a_bestChosen a_often a_sorted a_risen a_risenWays (0 : Int32) (0 : Int32) (0 : Int32) (0 : Int32) (0 : Int32) (0 : Int32) (0 : Int32) (0 : Int32) 2 f_4 ((g_2 2).toInt64) (by first | omega | decide +kernel)) _)) (fun u H locs hp hP hD hS => ?_)
        obtain ⟨f_5, rfl⟩ := hp
        have hP : va_P D vwCl [(a_chosen, .inl (cI, 8, .inl f_1)), (a_bestChosen, .inl (cI, 8, .inl g_2)), (m0, .inr (9, [.int 0, .int 3, .ref a_row, .ref a_tape, .int 0, .int 0, .int 0, .int 0, .ref a_number, .ref a_read, .int 0, .ref a_readBits, .ref a_stands, .ref a_parted, .ref a_bitsWere, .ref a_stood, .ref a_chosen, .ref a_bestChosen, .int 0, .ref a_often, .ref a_sorted, .int 0, .ref a_risen, .ref a_risenWays])), (a_row, .inl (cJ, 64, .inr (.inl f_5)))] H := hP
        have hD : va_D A [(a_chosen, .inl (cI, 8, .inl f_1)), (a_bestChosen, .inl (cI, 8, .inl g_2)), (m0, .inr (9, [.int 0, .int 3, .ref a_row, .ref a_tape, .int 0, .int 0, .int 0, .int 0, .ref a_number, .ref a_read, .int 0, .ref a_readBits, .ref a_stands, .ref a_parted, .ref a_bitsWere, .ref a_stood, .ref a_chosen, .ref a_bestChosen, .int 0, .ref a_often, .ref a_sorted, .int 0, .ref a_risen, .ref a_risenWays])), (a_row, .inl (cJ, 64, .inr (.inl f_5)))] := hD
        refine lv_iinc (v := 3) (lv' := [(1, .int 3), (0, .ref m0)]) hx hb dX9_thrift_45 hl (k := 0) rfl (by decide +kernel) (by decide) rfl (fun ls hl => ?_)
        refine lv_goto (tgt := 28) hx hb dX9_thrift_48 (by decide) ?_
        refine lv_iload_n hx hb dX9_thrift_28 rfl (lv_at hl 0 rfl) ?_
        refine lv_bipush (v := 8) hx hb dX9_thrift_29 (by decide +kernel) ?_
        refine lv_icmp_ge (tgt := 51) hx hb dX9_thrift_31 (by decide) (fun c31 => ?_) (fun c31 => ?_)
        ·
          exact absurd c31 (by decide +kernel)
        ·
          refine lv_aload_n hx hb dX9_thrift_34 rfl (lv_at hl 1 rfl) ?_
          refine lv_aload_n hx hb dX9_thrift_35 rfl (lv_at hl 1 rfl) ?_
          refine va_get (ci := 9) (v := .ref a_bestChosen) (C := RX9) (T := TX9) (N := 24) hx hb hts hi9 hown hK hP 2 rfl rfl 17 (by decide) fl73 (fun _ h9 => h9) rfl dX9_thrift_36 ?_
          refine lv_iload_n hx hb dX9_thrift_39 rfl (lv_at hl 0 rfl) ?_
          refine va_iald hx hb hK hP 1 0 rfl rfl (vp_in_nI (n := 3) (by omega) (by omega)) dX9_thrift_40 ?_
          refine my_eqi (y := g_2 3) (congrArg g_2 (show (3 : Int32).toNatClampNeg = 3 by decide +kernel)) ?_
          refine lv_i2l (v := (g_2 3).toInt64) hx hb dX9_thrift_41 rfl ?_
          refine my_goV (wr := [(a_chosen, .inl (cI, 8, .inl f_1)), (a_bestChosen, .inl (cI, 8, .inl g_2))]) hP hD hS hA [2, 3] [0, 1] rfl rfl (by decide) (by decide) (my_cV (As := [.long ((g_2 3).toInt64)]) (rest := []) (ci := 9) (wc := [(m0, .inr (9, [.int 0, .int 3, .ref a_row, .ref a_tape, .int 0, .int 0, .int 0, .int 0, .ref a_number, .ref a_read, .int 0, .ref a_readBits, .ref a_stands, .ref a_parted, .ref a_bitsWere, .ref a_stood, .ref a_chosen, .ref a_bestChosen, .int 0, .ref a_often, .ref a_sorted, .int 0, .ref a_risen, .ref a_risenWays])), (a_row, .inl (cJ, 64, .inr (.inl f_5)))]) ⟨hx, hb, hml, hown, hts⟩ (cwV 1 hts gX9_thrift_X9_enters rfl rfl rfl (by decide +kernel) ⟨Nat.le_of_ble_eq_true rfl, Nat.le_of_ble_eq_true rfl⟩) hN hK hP hD [2, 3] rfl (by decide) rfl 2 rfl rfl rfl rfl hl.1 rfl (Nat.le_of_ble_eq_true rfl) dX9_thrift_42 ⟨Nat.le_of_ble_eq_true rfl, Nat.le_of_ble_eq_true rfl⟩  ((k_X9_enters l D cI cJ m0 a_row a_tape a_number a_read a_readBits a_stands a_parted a_bitsWere a_stood a_chosen a_bestChosen a_often a_sorted a_risen a_risenWays (0 : Int32) (0 : Int32) (0 : Int32) (0 : Int32) (0 : Int32) (0 : Int32) (0 : Int32) (0 : Int32) 3 f_5 ((g_2 3).toInt64) (by first | omega | decide +kernel)) _)) (fun u H locs hp hP hD hS => ?_)
          obtain ⟨f_6, rfl⟩ := hp
          have hP : va_P D vwCl [(a_chosen, .inl (cI, 8, .inl f_1)), (a_bestChosen, .inl (cI, 8, .inl g_2)), (m0, .inr (9, [.int 0, .int 4, .ref a_row, .ref a_tape, .int 0, .int 0, .int 0, .int 0, .ref a_number, .ref a_read, .int 0, .ref a_readBits, .ref a_stands, .ref a_parted, .ref a_bitsWere, .ref a_stood, .ref a_chosen, .ref a_bestChosen, .int 0, .ref a_often, .ref a_sorted, .int 0, .ref a_risen, .ref a_risenWays])), (a_row, .inl (cJ, 64, .inr (.inl f_6)))] H := hP
          have hD : va_D A [(a_chosen, .inl (cI, 8, .inl f_1)), (a_bestChosen, .inl (cI, 8, .inl g_2)), (m0, .inr (9, [.int 0, .int 4, .ref a_row, .ref a_tape, .int 0, .int 0, .int 0, .int 0, .ref a_number, .ref a_read, .int 0, .ref a_readBits, .ref a_stands, .ref a_parted, .ref a_bitsWere, .ref a_stood, .ref a_chosen, .ref a_bestChosen, .int 0, .ref a_often, .ref a_sorted, .int 0, .ref a_risen, .ref a_risenWays])), (a_row, .inl (cJ, 64, .inr (.inl f_6)))] := hD
          refine lv_iinc (v := 4) (lv' := [(1, .int 4), (0, .ref m0)]) hx hb dX9_thrift_45 hl (k := 0) rfl (by decide +kernel) (by decide) rfl (fun ls hl => ?_)
          refine lv_goto (tgt := 28) hx hb dX9_thrift_48 (by decide) ?_
          refine lv_iload_n hx hb dX9_thrift_28 rfl (lv_at hl 0 rfl) ?_
          refine lv_bipush (v := 8) hx hb dX9_thrift_29 (by decide +kernel) ?_
          refine lv_icmp_ge (tgt := 51) hx hb dX9_thrift_31 (by decide) (fun c31 => ?_) (fun c31 => ?_)
          ·
            exact absurd c31 (by decide +kernel)
          ·
            refine lv_aload_n hx hb dX9_thrift_34 rfl (lv_at hl 1 rfl) ?_
            refine lv_aload_n hx hb dX9_thrift_35 rfl (lv_at hl 1 rfl) ?_
            refine va_get (ci := 9) (v := .ref a_bestChosen) (C := RX9) (T := TX9) (N := 24) hx hb hts hi9 hown hK hP 2 rfl rfl 17 (by decide) fl73 (fun _ h9 => h9) rfl dX9_thrift_36 ?_
            refine lv_iload_n hx hb dX9_thrift_39 rfl (lv_at hl 0 rfl) ?_
            refine va_iald hx hb hK hP 1 0 rfl rfl (vp_in_nI (n := 4) (by omega) (by omega)) dX9_thrift_40 ?_
            refine my_eqi (y := g_2 4) (congrArg g_2 (show (4 : Int32).toNatClampNeg = 4 by decide +kernel)) ?_
            refine lv_i2l (v := (g_2 4).toInt64) hx hb dX9_thrift_41 rfl ?_
            refine my_goV (wr := [(a_chosen, .inl (cI, 8, .inl f_1)), (a_bestChosen, .inl (cI, 8, .inl g_2))]) hP hD hS hA [2, 3] [0, 1] rfl rfl (by decide) (by decide) (my_cV (As := [.long ((g_2 4).toInt64)]) (rest := []) (ci := 9) (wc := [(m0, .inr (9, [.int 0, .int 4, .ref a_row, .ref a_tape, .int 0, .int 0, .int 0, .int 0, .ref a_number, .ref a_read, .int 0, .ref a_readBits, .ref a_stands, .ref a_parted, .ref a_bitsWere, .ref a_stood, .ref a_chosen, .ref a_bestChosen, .int 0, .ref a_often, .ref a_sorted, .int 0, .ref a_risen, .ref a_risenWays])), (a_row, .inl (cJ, 64, .inr (.inl f_6)))]) ⟨hx, hb, hml, hown, hts⟩ (cwV 1 hts gX9_thrift_X9_enters rfl rfl rfl (by decide +kernel) ⟨Nat.le_of_ble_eq_true rfl, Nat.le_of_ble_eq_true rfl⟩) hN hK hP hD [2, 3] rfl (by decide) rfl 2 rfl rfl rfl rfl hl.1 rfl (Nat.le_of_ble_eq_true rfl) dX9_thrift_42 ⟨Nat.le_of_ble_eq_true rfl, Nat.le_of_ble_eq_true rfl⟩  ((k_X9_enters l D cI cJ m0 a_row a_tape a_number a_read a_readBits a_stands a_parted a_bitsWere a_stood a_chosen a_bestChosen a_often a_sorted a_risen a_risenWays (0 : Int32) (0 : Int32) (0 : Int32) (0 : Int32) (0 : Int32) (0 : Int32) (0 : Int32) (0 : Int32) 4 f_6 ((g_2 4).toInt64) (by first | omega | decide +kernel)) _)) (fun u H locs hp hP hD hS => ?_)
            obtain ⟨f_7, rfl⟩ := hp
            have hP : va_P D vwCl [(a_chosen, .inl (cI, 8, .inl f_1)), (a_bestChosen, .inl (cI, 8, .inl g_2)), (m0, .inr (9, [.int 0, .int 5, .ref a_row, .ref a_tape, .int 0, .int 0, .int 0, .int 0, .ref a_number, .ref a_read, .int 0, .ref a_readBits, .ref a_stands, .ref a_parted, .ref a_bitsWere, .ref a_stood, .ref a_chosen, .ref a_bestChosen, .int 0, .ref a_often, .ref a_sorted, .int 0, .ref a_risen, .ref a_risenWays])), (a_row, .inl (cJ, 64, .inr (.inl f_7)))] H := hP
            have hD : va_D A [(a_chosen, .inl (cI, 8, .inl f_1)), (a_bestChosen, .inl (cI, 8, .inl g_2)), (m0, .inr (9, [.int 0, .int 5, .ref a_row, .ref a_tape, .int 0, .int 0, .int 0, .int 0, .ref a_number, .ref a_read, .int 0, .ref a_readBits, .ref a_stands, .ref a_parted, .ref a_bitsWere, .ref a_stood, .ref a_chosen, .ref a_bestChosen, .int 0, .ref a_often, .ref a_sorted, .int 0, .ref a_risen, .ref a_risenWays])), (a_row, .inl (cJ, 64, .inr (.inl f_7)))] := hD
            refine lv_iinc (v := 5) (lv' := [(1, .int 5), (0, .ref m0)]) hx hb dX9_thrift_45 hl (k := 0) rfl (by decide +kernel) (by decide) rfl (fun ls hl => ?_)
            refine lv_goto (tgt := 28) hx hb dX9_thrift_48 (by decide) ?_
            refine lv_iload_n hx hb dX9_thrift_28 rfl (lv_at hl 0 rfl) ?_
            refine lv_bipush (v := 8) hx hb dX9_thrift_29 (by decide +kernel) ?_
            refine lv_icmp_ge (tgt := 51) hx hb dX9_thrift_31 (by decide) (fun c31 => ?_) (fun c31 => ?_)
            ·
              exact absurd c31 (by decide +kernel)
            ·
              refine lv_aload_n hx hb dX9_thrift_34 rfl (lv_at hl 1 rfl) ?_
              refine lv_aload_n hx hb dX9_thrift_35 rfl (lv_at hl 1 rfl) ?_
              refine va_get (ci := 9) (v := .ref a_bestChosen) (C := RX9) (T := TX9) (N := 24) hx hb hts hi9 hown hK hP 2 rfl rfl 17 (by decide) fl73 (fun _ h9 => h9) rfl dX9_thrift_36 ?_
              refine lv_iload_n hx hb dX9_thrift_39 rfl (lv_at hl 0 rfl) ?_
              refine va_iald hx hb hK hP 1 0 rfl rfl (vp_in_nI (n := 5) (by omega) (by omega)) dX9_thrift_40 ?_
              refine my_eqi (y := g_2 5) (congrArg g_2 (show (5 : Int32).toNatClampNeg = 5 by decide +kernel)) ?_
              refine lv_i2l (v := (g_2 5).toInt64) hx hb dX9_thrift_41 rfl ?_
              refine my_goV (wr := [(a_chosen, .inl (cI, 8, .inl f_1)), (a_bestChosen, .inl (cI, 8, .inl g_2))]) hP hD hS hA [2, 3] [0, 1] rfl rfl (by decide) (by decide) (my_cV (As := [.long ((g_2 5).toInt64)]) (rest := []) (ci := 9) (wc := [(m0, .inr (9, [.int 0, .int 5, .ref a_row, .ref a_tape, .int 0, .int 0, .int 0, .int 0, .ref a_number, .ref a_read, .int 0, .ref a_readBits, .ref a_stands, .ref a_parted, .ref a_bitsWere, .ref a_stood, .ref a_chosen, .ref a_bestChosen, .int 0, .ref a_often, .ref a_sorted, .int 0, .ref a_risen, .ref a_risenWays])), (a_row, .inl (cJ, 64, .inr (.inl f_7)))]) ⟨hx, hb, hml, hown, hts⟩ (cwV 1 hts gX9_thrift_X9_enters rfl rfl rfl (by decide +kernel) ⟨Nat.le_of_ble_eq_true rfl, Nat.le_of_ble_eq_true rfl⟩) hN hK hP hD [2, 3] rfl (by decide) rfl 2 rfl rfl rfl rfl hl.1 rfl (Nat.le_of_ble_eq_true rfl) dX9_thrift_42 ⟨Nat.le_of_ble_eq_true rfl, Nat.le_of_ble_eq_true rfl⟩  ((k_X9_enters l D cI cJ m0 a_row a_tape a_number a_read a_readBits a_stands a_parted a_bitsWere a_stood a_chosen a_bestChosen a_often a_sorted a_risen a_risenWays (0 : Int32) (0 : Int32) (0 : Int32) (0 : Int32) (0 : Int32) (0 : Int32) (0 : Int32) (0 : Int32) 5 f_7 ((g_2 5).toInt64) (by first | omega | decide +kernel)) _)) (fun u H locs hp hP hD hS => ?_)
              obtain ⟨f_8, rfl⟩ := hp
              have hP : va_P D vwCl [(a_chosen, .inl (cI, 8, .inl f_1)), (a_bestChosen, .inl (cI, 8, .inl g_2)), (m0, .inr (9, [.int 0, .int 6, .ref a_row, .ref a_tape, .int 0, .int 0, .int 0, .int 0, .ref a_number, .ref a_read, .int 0, .ref a_readBits, .ref a_stands, .ref a_parted, .ref a_bitsWere, .ref a_stood, .ref a_chosen, .ref a_bestChosen, .int 0, .ref a_often, .ref a_sorted, .int 0, .ref a_risen, .ref a_risenWays])), (a_row, .inl (cJ, 64, .inr (.inl f_8)))] H := hP
              have hD : va_D A [(a_chosen, .inl (cI, 8, .inl f_1)), (a_bestChosen, .inl (cI, 8, .inl g_2)), (m0, .inr (9, [.int 0, .int 6, .ref a_row, .ref a_tape, .int 0, .int 0, .int 0, .int 0, .ref a_number, .ref a_read, .int 0, .ref a_readBits, .ref a_stands, .ref a_parted, .ref a_bitsWere, .ref a_stood, .ref a_chosen, .ref a_bestChosen, .int 0, .ref a_often, .ref a_sorted, .int 0, .ref a_risen, .ref a_risenWays])), (a_row, .inl (cJ, 64, .inr (.inl f_8)))] := hD
              refine lv_iinc (v := 6) (lv' := [(1, .int 6), (0, .ref m0)]) hx hb dX9_thrift_45 hl (k := 0) rfl (by decide +kernel) (by decide) rfl (fun ls hl => ?_)
              refine lv_goto (tgt := 28) hx hb dX9_thrift_48 (by decide) ?_
              refine lv_iload_n hx hb dX9_thrift_28 rfl (lv_at hl 0 rfl) ?_
              refine lv_bipush (v := 8) hx hb dX9_thrift_29 (by decide +kernel) ?_
              refine lv_icmp_ge (tgt := 51) hx hb dX9_thrift_31 (by decide) (fun c31 => ?_) (fun c31 => ?_)
              ·
                exact absurd c31 (by decide +kernel)
              ·
                refine lv_aload_n hx hb dX9_thrift_34 rfl (lv_at hl 1 rfl) ?_
                refine lv_aload_n hx hb dX9_thrift_35 rfl (lv_at hl 1 rfl) ?_
                refine va_get (ci := 9) (v := .ref a_bestChosen) (C := RX9) (T := TX9) (N := 24) hx hb hts hi9 hown hK hP 2 rfl rfl 17 (by decide) fl73 (fun _ h9 => h9) rfl dX9_thrift_36 ?_
                refine lv_iload_n hx hb dX9_thrift_39 rfl (lv_at hl 0 rfl) ?_
                refine va_iald hx hb hK hP 1 0 rfl rfl (vp_in_nI (n := 6) (by omega) (by omega)) dX9_thrift_40 ?_
                refine my_eqi (y := g_2 6) (congrArg g_2 (show (6 : Int32).toNatClampNeg = 6 by decide +kernel)) ?_
                refine lv_i2l (v := (g_2 6).toInt64) hx hb dX9_thrift_41 rfl ?_
                refine my_goV (wr := [(a_chosen, .inl (cI, 8, .inl f_1)), (a_bestChosen, .inl (cI, 8, .inl g_2))]) hP hD hS hA [2, 3] [0, 1] rfl rfl (by decide) (by decide) (my_cV (As := [.long ((g_2 6).toInt64)]) (rest := []) (ci := 9) (wc := [(m0, .inr (9, [.int 0, .int 6, .ref a_row, .ref a_tape, .int 0, .int 0, .int 0, .int 0, .ref a_number, .ref a_read, .int 0, .ref a_readBits, .ref a_stands, .ref a_parted, .ref a_bitsWere, .ref a_stood, .ref a_chosen, .ref a_bestChosen, .int 0, .ref a_often, .ref a_sorted, .int 0, .ref a_risen, .ref a_risenWays])), (a_row, .inl (cJ, 64, .inr (.inl f_8)))]) ⟨hx, hb, hml, hown, hts⟩ (cwV 1 hts gX9_thrift_X9_enters rfl rfl rfl (by decide +kernel) ⟨Nat.le_of_ble_eq_true rfl, Nat.le_of_ble_eq_true rfl⟩) hN hK hP hD [2, 3] rfl (by decide) rfl 2 rfl rfl rfl rfl hl.1 rfl (Nat.le_of_ble_eq_true rfl) dX9_thrift_42 ⟨Nat.le_of_ble_eq_true rfl, Nat.le_of_ble_eq_true rfl⟩  ((k_X9_enters l D cI cJ m0 a_row a_tape a_number a_read a_readBits a_stands a_parted a_bitsWere a_stood a_chosen a_bestChosen a_often a_sorted a_risen a_risenWays (0 : Int32) (0 : Int32) (0 : Int32) (0 : Int32) (0 : Int32) (0 : Int32) (0 : Int32) (0 : Int32) 6 f_8 ((g_2 6).toInt64) (by first | omega | decide +kernel)) _)) (fun u H locs hp hP hD hS => ?_)
                obtain ⟨f_9, rfl⟩ := hp
                have hP : va_P D vwCl [(a_chosen, .inl (cI, 8, .inl f_1)), (a_bestChosen, .inl (cI, 8, .inl g_2)), (m0, .inr (9, [.int 0, .int 7, .ref a_row, .ref a_tape, .int 0, .int 0, .int 0, .int 0, .ref a_number, .ref a_read, .int 0, .ref a_readBits, .ref a_stands, .ref a_parted, .ref a_bitsWere, .ref a_stood, .ref a_chosen, .ref a_bestChosen, .int 0, .ref a_often, .ref a_sorted, .int 0, .ref a_risen, .ref a_risenWays])), (a_row, .inl (cJ, 64, .inr (.inl f_9)))] H := hP
                have hD : va_D A [(a_chosen, .inl (cI, 8, .inl f_1)), (a_bestChosen, .inl (cI, 8, .inl g_2)), (m0, .inr (9, [.int 0, .int 7, .ref a_row, .ref a_tape, .int 0, .int 0, .int 0, .int 0, .ref a_number, .ref a_read, .int 0, .ref a_readBits, .ref a_stands, .ref a_parted, .ref a_bitsWere, .ref a_stood, .ref a_chosen, .ref a_bestChosen, .int 0, .ref a_often, .ref a_sorted, .int 0, .ref a_risen, .ref a_risenWays])), (a_row, .inl (cJ, 64, .inr (.inl f_9)))] := hD
                refine lv_iinc (v := 7) (lv' := [(1, .int 7), (0, .ref m0)]) hx hb dX9_thrift_45 hl (k := 0) rfl (by decide +kernel) (by decide) rfl (fun ls hl => ?_)
                refine lv_goto (tgt := 28) hx hb dX9_thrift_48 (by decide) ?_
                refine lv_iload_n hx hb dX9_thrift_28 rfl (lv_at hl 0 rfl) ?_
                refine lv_bipush (v := 8) hx hb dX9_thrift_29 (by decide +kernel) ?_
                refine lv_icmp_ge (tgt := 51) hx hb dX9_thrift_31 (by decide) (fun c31 => ?_) (fun c31 => ?_)
                ·
                  exact absurd c31 (by decide +kernel)
                ·
                  refine lv_aload_n hx hb dX9_thrift_34 rfl (lv_at hl 1 rfl) ?_
                  refine lv_aload_n hx hb dX9_thrift_35 rfl (lv_at hl 1 rfl) ?_
                  refine va_get (ci := 9) (v := .ref a_bestChosen) (C := RX9) (T := TX9) (N := 24) hx hb hts hi9 hown hK hP 2 rfl rfl 17 (by decide) fl73 (fun _ h9 => h9) rfl dX9_thrift_36 ?_
                  refine lv_iload_n hx hb dX9_thrift_39 rfl (lv_at hl 0 rfl) ?_
                  refine va_iald hx hb hK hP 1 0 rfl rfl (vp_in_nI (n := 7) (by omega) (by omega)) dX9_thrift_40 ?_
                  refine my_eqi (y := g_2 7) (congrArg g_2 (show (7 : Int32).toNatClampNeg = 7 by decide +kernel)) ?_
                  refine lv_i2l (v := (g_2 7).toInt64) hx hb dX9_thrift_41 rfl ?_
                  refine my_goV (wr := [(a_chosen, .inl (cI, 8, .inl f_1)), (a_bestChosen, .inl (cI, 8, .inl g_2))]) hP hD hS hA [2, 3] [0, 1] rfl rfl (by decide) (by decide) (my_cV (As := [.long ((g_2 7).toInt64)]) (rest := []) (ci := 9) (wc := [(m0, .inr (9, [.int 0, .int 7, .ref a_row, .ref a_tape, .int 0, .int 0, .int 0, .int 0, .ref a_number, .ref a_read, .int 0, .ref a_readBits, .ref a_stands, .ref a_parted, .ref a_bitsWere, .ref a_stood, .ref a_chosen, .ref a_bestChosen, .int 0, .ref a_often, .ref a_sorted, .int 0, .ref a_risen, .ref a_risenWays])), (a_row, .inl (cJ, 64, .inr (.inl f_9)))]) ⟨hx, hb, hml, hown, hts⟩ (cwV 1 hts gX9_thrift_X9_enters rfl rfl rfl (by decide +kernel) ⟨Nat.le_of_ble_eq_true rfl, Nat.le_of_ble_eq_true rfl⟩) hN hK hP hD [2, 3] rfl (by decide) rfl 2 rfl rfl rfl rfl hl.1 rfl (Nat.le_of_ble_eq_true rfl) dX9_thrift_42 ⟨Nat.le_of_ble_eq_true rfl, Nat.le_of_ble_eq_true rfl⟩  ((k_X9_enters l D cI cJ m0 a_row a_tape a_number a_read a_readBits a_stands a_parted a_bitsWere a_stood a_chosen a_bestChosen a_often a_sorted a_risen a_risenWays (0 : Int32) (0 : Int32) (0 : Int32) (0 : Int32) (0 : Int32) (0 : Int32) (0 : Int32) (0 : Int32) 7 f_9 ((g_2 7).toInt64) (by first | omega | decide +kernel)) _)) (fun u H locs hp hP hD hS => ?_)
                  obtain ⟨f_10, rfl⟩ := hp
                  have hP : va_P D vwCl [(a_chosen, .inl (cI, 8, .inl f_1)), (a_bestChosen, .inl (cI, 8, .inl g_2)), (m0, .inr (9, [.int 0, .int 8, .ref a_row, .ref a_tape, .int 0, .int 0, .int 0, .int 0, .ref a_number, .ref a_read, .int 0, .ref a_readBits, .ref a_stands, .ref a_parted, .ref a_bitsWere, .ref a_stood, .ref a_chosen, .ref a_bestChosen, .int 0, .ref a_often, .ref a_sorted, .int 0, .ref a_risen, .ref a_risenWays])), (a_row, .inl (cJ, 64, .inr (.inl f_10)))] H := hP
                  have hD : va_D A [(a_chosen, .inl (cI, 8, .inl f_1)), (a_bestChosen, .inl (cI, 8, .inl g_2)), (m0, .inr (9, [.int 0, .int 8, .ref a_row, .ref a_tape, .int 0, .int 0, .int 0, .int 0, .ref a_number, .ref a_read, .int 0, .ref a_readBits, .ref a_stands, .ref a_parted, .ref a_bitsWere, .ref a_stood, .ref a_chosen, .ref a_bestChosen, .int 0, .ref a_often, .ref a_sorted, .int 0, .ref a_risen, .ref a_risenWays])), (a_row, .inl (cJ, 64, .inr (.inl f_10)))] := hD
                  refine lv_iinc (v := 8) (lv' := [(1, .int 8), (0, .ref m0)]) hx hb dX9_thrift_45 hl (k := 0) rfl (by decide +kernel) (by decide) rfl (fun ls hl => ?_)
                  refine lv_goto (tgt := 28) hx hb dX9_thrift_48 (by decide) ?_
                  refine lv_iload_n hx hb dX9_thrift_28 rfl (lv_at hl 0 rfl) ?_
                  refine lv_bipush (v := 8) hx hb dX9_thrift_29 (by decide +kernel) ?_
                  refine lv_icmp_ge (tgt := 51) hx hb dX9_thrift_31 (by decide) (fun c31 => ?_) (fun c31 => ?_)
                  ·
                    refine lv_aload_n hx hb dX9_thrift_51 rfl (lv_at hl 1 rfl) ?_
                    refine va_get (ci := 9) (v := .int 0) (C := RX9) (T := TX9) (N := 24) hx hb hts hi9 hown hK hP 2 rfl rfl 18 (by decide) fl162 (fun _ h9 => h9) rfl dX9_thrift_52 ?_
                    exact my_retI hx hb hr hlocks hK hS [] (hP.sub [] rfl) (hD.sub [] (by decide) rfl) (⟨rfl, rfl⟩) dX9_thrift_55
                  ·
                    exact absurd c31 (by decide +kernel)
set_option maxHeartbeats 4000000 in
set_option maxRecDepth 100000 in
theorem k0_X9_kth (l : Launch) (D : va_G) (cI cJ : ClassId) (m0 : Nat) (a_row : Nat) (a_tape : Nat) (a_number : Nat) (a_read : Nat) (a_readBits : Nat) (a_stands : Nat) (a_parted : Nat) (a_bitsWere : Nat) (a_stood : Nat) (a_chosen : Nat) (a_bestChosen : Nat) (a_often : Nat) (a_sorted : Nat) (a_risen : Nat) (a_risenWays : Nat) (l9 : Int32) (r9 : Int32) (k9 : Int32) : ctI l yX9_kth wsX9_kth ({ frames := 1, cells := 0, slots := 0, locals := 60 } : Room) D (tyIJ cI cJ) [.ref m0, .int l9, .int r9, .int k9] [(m0, .inr (9, [.int 0, .int 0, .ref a_row, .ref a_tape, .int 0, .int 0, .int 0, .int 0, .ref a_number, .ref a_read, .int 0, .ref a_readBits, .ref a_stands, .ref a_parted, .ref a_bitsWere, .ref a_stood, .ref a_chosen, .ref a_bestChosen, .int 0, .ref a_often, .ref a_sorted, .int 0, .ref a_risen, .ref a_risenWays]))] (fun (r : Int32) (u : va_W) => (u = [] ∧ r = (-2) ∧ l9.toInt = 0 ∧ r9.toInt = 0 ∧ 0 ≤ k9.toInt) ∨ (u = [] ∧ r = (-1) ∧ (l9.toInt < 0 ∨ r9.toInt < l9.toInt ∨ 0 < r9.toInt ∨ k9.toInt < 0))) := by
  refine ctI.of (cc := cX9_kth) (maxL := 6) (ret := (some .int)) (by decide) rfl (Nat.le_of_ble_eq_true rfl) ?_
  intro p e s m below meth c ls A hx hb hr hts hown hml hlocks hname hA hK hN hP hD hS hl
  have hl : lv_has ls 6 [(0, .ref m0), (1, .int l9), (2, .int r9), (3, .int k9)] := hl
  have hown : s.vm.findClass RX9 = some m.cls := hown
  have hi9 : ∀ w ∈ u_ws RX9 TX9 24, w ∈ wsX9_kth := by decide +kernel
  have fl1 := hts (.fieldLink RX9 1 "PlaneColumnModel" "thrown" "I") (by decide +kernel)
  refine lv_aload_n hx hb dX9_kth_0 rfl (lv_at hl 0 rfl) ?_
  refine lv_iconst (v := 0) hx hb dX9_kth_1 (by decide +kernel) ?_
  refine va_put (ci := 9) (v := .int 0) (ty := (.int)) (C := RX9) (T := TX9) (N := 24) hx hb hts hi9 tyX9 tyX9_ok nmX9 hown hK hP hD hS 0 rfl rfl 0 (by decide) fl1 (fun _ h9 => h9) rfl (by decide +kernel) rfl rfl (Nat.le_of_ble_eq_true rfl) dX9_kth_2 (fun H locs hP hD hS => ?_)
  have hP : va_P D vwCl [(m0, .inr (9, [.int 0, .int 0, .ref a_row, .ref a_tape, .int 0, .int 0, .int 0, .int 0, .ref a_number, .ref a_read, .int 0, .ref a_readBits, .ref a_stands, .ref a_parted, .ref a_bitsWere, .ref a_stood, .ref a_chosen, .ref a_bestChosen, .int 0, .ref a_often, .ref a_sorted, .int 0, .ref a_risen, .ref a_risenWays]))] H := hP
  have hD : va_D A [(m0, .inr (9, [.int 0, .int 0, .ref a_row, .ref a_tape, .int 0, .int 0, .int 0, .int 0, .ref a_number, .ref a_read, .int 0, .ref a_readBits, .ref a_stands, .ref a_parted, .ref a_bitsWere, .ref a_stood, .ref a_chosen, .ref a_bestChosen, .int 0, .ref a_often, .ref a_sorted, .int 0, .ref a_risen, .ref a_risenWays]))] := hD
  refine lv_aload_n hx hb dX9_kth_5 rfl (lv_at hl 0 rfl) ?_
  refine lv_iload_n hx hb dX9_kth_6 rfl (lv_at hl 1 rfl) ?_
  refine lv_iload_n hx hb dX9_kth_7 rfl (lv_at hl 2 rfl) ?_
  refine my_gpI (my_pV (As := [.int l9, .int r9]) (rest := []) (ci := 9) ⟨hx, hb, hml, hown, hts⟩ (cwV 2 hts gX9_kth_X9_isSpan rfl rfl rfl (by decide +kernel) ⟨Nat.le_of_ble_eq_true rfl, Nat.le_of_ble_eq_true rfl⟩) hN hK hP [0] rfl 0 rfl rfl rfl rfl hl.1 rfl (Nat.le_of_ble_eq_true rfl) dX9_kth_8 ⟨Nat.le_of_ble_eq_true rfl, Nat.le_of_ble_eq_true rfl⟩  (k0_X9_isSpan l D cI cJ m0 a_row a_tape a_number a_read a_readBits a_stands a_parted a_bitsWere a_stood a_chosen a_bestChosen a_often a_sorted a_risen a_risenWays (0 : Int32) (0 : Int32) (0 : Int32) (0 : Int32) (0 : Int32) (0 : Int32) (0 : Int32) (0 : Int32) l9 r9)) (fun r hp => ?_)
  rcases hp with ⟨rfl, rfl, rfl⟩ | ⟨rfl, ha_1⟩
  ·
    refine lv_if_eq (tgt := 18) hx hb dX9_kth_11 (by decide) (fun c11 => ?_) (fun c11 => ?_)
    ·
      exact absurd c11 (by decide +kernel)
    ·
      refine lv_iload_n hx hb dX9_kth_14 rfl (lv_at hl 3 rfl) ?_
      refine lv_if_ge (tgt := 20) hx hb dX9_kth_15 (by decide) (fun c15 => ?_) (fun c15 => ?_)
      ·
        have d15 : k9.toInt ≥ (0 : Int) := my_ge c15 rfl (by decide +kernel)
        refine lv_iload_n hx hb dX9_kth_20 rfl (lv_at hl 3 rfl) ?_
        refine lv_iload_n hx hb dX9_kth_21 rfl (lv_at hl 2 rfl) ?_
        refine lv_iload_n hx hb dX9_kth_22 rfl (lv_at hl 1 rfl) ?_
        refine lv_isub hx hb dX9_kth_23 ?_
        refine my_eqi (y := 0) (by decide +kernel) ?_
        refine lv_icmp_lt (tgt := 30) hx hb dX9_kth_24 (by decide) (fun c24 => ?_) (fun c24 => ?_)
        ·
          have d24 : k9.toInt < (0 : Int) := my_lt c24 rfl (by decide +kernel)
          exact absurd d24 (by omega)
        ·
          have d24 : k9.toInt ≥ (0 : Int) := my_nlt c24 rfl (by decide +kernel)
          refine lv_bipush (v := (-2)) hx hb dX9_kth_27 (by decide +kernel) ?_
          exact my_retI hx hb hr hlocks hK hS [] (hP.sub [] rfl) (hD.sub [] (by decide) rfl) (Or.inl ⟨rfl, rfl, (by first | omega | assumption | trivial | decide +kernel), (by first | omega | assumption | trivial | decide +kernel), (by first | omega | assumption | trivial | decide +kernel)⟩) dX9_kth_29
      ·
        have d15 : k9.toInt < (0 : Int) := my_nge c15 rfl (by decide +kernel)
        refine lv_iconst (v := (-1)) hx hb dX9_kth_18 (by decide +kernel) ?_
        exact my_retI hx hb hr hlocks hK hS [] (hP.sub [] rfl) (hD.sub [] (by decide) rfl) (Or.inr (⟨rfl, rfl, (by first | omega | assumption | trivial | decide +kernel)⟩)) dX9_kth_19
  ·
    refine lv_if_eq (tgt := 18) hx hb dX9_kth_11 (by decide) (fun c11 => ?_) (fun c11 => ?_)
    ·
      refine lv_iconst (v := (-1)) hx hb dX9_kth_18 (by decide +kernel) ?_
      exact my_retI hx hb hr hlocks hK hS [] (hP.sub [] rfl) (hD.sub [] (by decide) rfl) (Or.inr (⟨rfl, rfl, (by first | omega | assumption | trivial | decide +kernel)⟩)) dX9_kth_19
    ·
      exact absurd c11 (by decide +kernel)
set_option maxHeartbeats 4000000 in
set_option maxRecDepth 100000 in
theorem k0_X9_rank (l : Launch) (D : va_G) (cI cJ : ClassId) (m0 : Nat) (a_row : Nat) (a_tape : Nat) (a_number : Nat) (a_read : Nat) (a_readBits : Nat) (a_stands : Nat) (a_parted : Nat) (a_bitsWere : Nat) (a_stood : Nat) (a_chosen : Nat) (a_bestChosen : Nat) (a_often : Nat) (a_sorted : Nat) (a_risen : Nat) (a_risenWays : Nat) (v9 : Int32) (i9 : Int32) : ctI l yX9_rank wsX9_rank ({ frames := 2, cells := 0, slots := 0, locals := 120 } : Room) D (tyIJ cI cJ) [.ref m0, .int v9, .int i9] [(m0, .inr (9, [.int 0, .int 0, .ref a_row, .ref a_tape, .int 0, .int 0, .int 0, .int 0, .ref a_number, .ref a_read, .int 0, .ref a_readBits, .ref a_stands, .ref a_parted, .ref a_bitsWere, .ref a_stood, .ref a_chosen, .ref a_bestChosen, .int 0, .ref a_often, .ref a_sorted, .int 0, .ref a_risen, .ref a_risenWays])), (a_often, .inl (cI, 512, .inl (fun _ => (0 : Int32))))] (fun (r : Int32) (u : va_W) => (u = [] ∧ r = 0 ∧ 0 ≤ v9.toInt ∧ v9.toInt ≤ 255 ∧ i9.toInt = 0) ∨ (u = [] ∧ r = (-1) ∧ (v9.toInt < 0 ∨ 255 < v9.toInt ∨ i9.toInt < 0 ∨ 0 < i9.toInt))) := by
  refine ctI.of (cc := cX9_rank) (maxL := 3) (ret := (some .int)) (by decide) rfl (Nat.le_of_ble_eq_true rfl) ?_
  intro p e s m below meth c ls A hx hb hr hts hown hml hlocks hname hA hK hN hP hD hS hl
  have hl : lv_has ls 3 [(0, .ref m0), (1, .int v9), (2, .int i9)] := hl
  have hown : s.vm.findClass RX9 = some m.cls := hown
  have hi9 : ∀ w ∈ u_ws RX9 TX9 24, w ∈ wsX9_rank := by decide +kernel
  have fl1 := hts (.fieldLink RX9 1 "PlaneColumnModel" "thrown" "I") (by decide +kernel)
  have fl88 := hts (.fieldLink RX9 88 "PlaneColumnModel" "many" "I") (by decide +kernel)
  refine lv_aload_n hx hb dX9_rank_0 rfl (lv_at hl 0 rfl) ?_
  refine lv_iconst (v := 0) hx hb dX9_rank_1 (by decide +kernel) ?_
  refine va_put (ci := 9) (v := .int 0) (ty := (.int)) (C := RX9) (T := TX9) (N := 24) hx hb hts hi9 tyX9 tyX9_ok nmX9 hown hK hP hD hS 0 rfl rfl 0 (by decide) fl1 (fun _ h9 => h9) rfl (by decide +kernel) rfl rfl (Nat.le_of_ble_eq_true rfl) dX9_rank_2 (fun H locs hP hD hS => ?_)
  have hP : va_P D vwCl [(m0, .inr (9, [.int 0, .int 0, .ref a_row, .ref a_tape, .int 0, .int 0, .int 0, .int 0, .ref a_number, .ref a_read, .int 0, .ref a_readBits, .ref a_stands, .ref a_parted, .ref a_bitsWere, .ref a_stood, .ref a_chosen, .ref a_bestChosen, .int 0, .ref a_often, .ref a_sorted, .int 0, .ref a_risen, .ref a_risenWays])), (a_often, .inl (cI, 512, .inl (fun _ => (0 : Int32))))] H := hP
  have hD : va_D A [(m0, .inr (9, [.int 0, .int 0, .ref a_row, .ref a_tape, .int 0, .int 0, .int 0, .int 0, .ref a_number, .ref a_read, .int 0, .ref a_readBits, .ref a_stands, .ref a_parted, .ref a_bitsWere, .ref a_stood, .ref a_chosen, .ref a_bestChosen, .int 0, .ref a_often, .ref a_sorted, .int 0, .ref a_risen, .ref a_risenWays])), (a_often, .inl (cI, 512, .inl (fun _ => (0 : Int32))))] := hD
  refine lv_iload_n hx hb dX9_rank_5 rfl (lv_at hl 1 rfl) ?_
  refine my_gpI (my_pS (As := [.int v9]) (rest := []) ⟨hx, hb, hml, hown, hts⟩ (va_cwS 1 hts gX9_rank_X9_isNumber rfl rfl rfl (by decide +kernel) ⟨Nat.le_of_ble_eq_true rfl, Nat.le_of_ble_eq_true rfl⟩) hN hK hP [] rfl rfl hl.1 rfl (Nat.le_of_ble_eq_true rfl) dX9_rank_6 ⟨Nat.le_of_ble_eq_true rfl, Nat.le_of_ble_eq_true rfl⟩  (k_X9_isNumber l D cI cJ v9)) (fun r hp => ?_)
  rcases hp with ⟨rfl, hgv_1, hlv_2⟩ | ⟨rfl, ho_3⟩
  ·
    refine lv_if_eq (tgt := 26) hx hb dX9_rank_9 (by decide) (fun c9 => ?_) (fun c9 => ?_)
    ·
      exact absurd c9 (by decide +kernel)
    ·
      refine lv_iload_n hx hb dX9_rank_12 rfl (lv_at hl 2 rfl) ?_
      refine lv_i2l (v := i9.toInt64) hx hb dX9_rank_13 rfl ?_
      refine lv_lconst (v := 0) hx hb dX9_rank_14 (by decide +kernel) ?_
      refine lv_aload_n hx hb dX9_rank_15 rfl (lv_at hl 0 rfl) ?_
      refine va_get (ci := 9) (v := .int 0) (C := RX9) (T := TX9) (N := 24) hx hb hts hi9 hown hK hP 0 rfl rfl 7 (by decide) fl88 (fun _ h9 => h9) rfl dX9_rank_16 ?_
      refine lv_i2l (v := 0) hx hb dX9_rank_19 (by decide +kernel) ?_
      refine my_gpI (my_pS (As := [.long i9.toInt64, .long 0, .long 0]) (rest := []) ⟨hx, hb, hml, hown, hts⟩ (va_cwS 3 hts gX9_rank_X9_in rfl rfl rfl (by decide +kernel) ⟨Nat.le_of_ble_eq_true rfl, Nat.le_of_ble_eq_true rfl⟩) hN hK hP [] rfl rfl hl.1 rfl (Nat.le_of_ble_eq_true rfl) dX9_rank_20 ⟨Nat.le_of_ble_eq_true rfl, Nat.le_of_ble_eq_true rfl⟩  (k_X9_in l D cI cJ i9.toInt64 (0 : Int64) (0 : Int64) i9.toInt (0 : Int) (0 : Int) (Int32.toInt_toInt64 _) (by decide +kernel) (by decide +kernel))) (fun r hp => ?_)
      rcases hp with ⟨rfl, ha_4, hb_5⟩ | ⟨rfl, ha_6⟩
      ·
        obtain rfl : i9 = 0 := my_eqI (a := 0) (by omega) (by decide +kernel)
        refine lv_if_ne (tgt := 28) hx hb dX9_rank_23 (by decide) (fun c23 => ?_) (fun c23 => ?_)
        ·
          refine lv_aload_n hx hb dX9_rank_28 rfl (lv_at hl 0 rfl) ?_
          refine lv_iconst (v := 0) hx hb dX9_rank_29 (by decide +kernel) ?_
          refine lv_iconst (v := 0) hx hb dX9_rank_30 (by decide +kernel) ?_
          refine lv_iload_n hx hb dX9_rank_31 rfl (lv_at hl 2 rfl) ?_
          refine my_goV (wr := []) hP hD hS hA [0, 1] [] rfl rfl (by decide) (by decide) (my_cV (As := [.int 0, .int 0, .int 0]) (rest := []) (ci := 9) (wc := [(m0, .inr (9, [.int 0, .int 0, .ref a_row, .ref a_tape, .int 0, .int 0, .int 0, .int 0, .ref a_number, .ref a_read, .int 0, .ref a_readBits, .ref a_stands, .ref a_parted, .ref a_bitsWere, .ref a_stood, .ref a_chosen, .ref a_bestChosen, .int 0, .ref a_often, .ref a_sorted, .int 0, .ref a_risen, .ref a_risenWays])), (a_often, .inl (cI, 512, .inl (fun _ => (0 : Int32))))]) ⟨hx, hb, hml, hown, hts⟩ (cwV 3 hts gX9_rank_X9_counts rfl rfl rfl (by decide +kernel) ⟨Nat.le_of_ble_eq_true rfl, Nat.le_of_ble_eq_true rfl⟩) hN hK hP hD [0, 1] rfl (by decide) rfl 0 rfl rfl rfl rfl hl.1 rfl (Nat.le_of_ble_eq_true rfl) dX9_rank_32 ⟨Nat.le_of_ble_eq_true rfl, Nat.le_of_ble_eq_true rfl⟩  ((k0_X9_counts l D cI cJ m0 a_row a_tape a_number a_read a_readBits a_stands a_parted a_bitsWere a_stood a_chosen a_bestChosen a_often a_sorted a_risen a_risenWays (0 : Int32) (0 : Int32) (0 : Int32) (0 : Int32) (0 : Int32) (0 : Int32) (0 : Int32) (0 : Int32) (0 : Int32)) _)) (fun u H locs hp hP hD hS => ?_)
          obtain rfl := hp
          have hP : va_P D vwCl [(m0, .inr (9, [.int 0, .int 0, .ref a_row, .ref a_tape, .int 0, .int 0, .int 0, .int 0, .ref a_number, .ref a_read, .int 0, .ref a_readBits, .ref a_stands, .ref a_parted, .ref a_bitsWere, .ref a_stood, .ref a_chosen, .ref a_bestChosen, .int 0, .ref a_often, .ref a_sorted, .int 0, .ref a_risen, .ref a_risenWays])), (a_often, .inl (cI, 512, .inl (fun _ => (0 : Int32))))] H := hP
          have hD : va_D A [(m0, .inr (9, [.int 0, .int 0, .ref a_row, .ref a_tape, .int 0, .int 0, .int 0, .int 0, .ref a_number, .ref a_read, .int 0, .ref a_readBits, .ref a_stands, .ref a_parted, .ref a_bitsWere, .ref a_stood, .ref a_chosen, .ref a_bestChosen, .int 0, .ref a_often, .ref a_sorted, .int 0, .ref a_risen, .ref a_risenWays])), (a_often, .inl (cI, 512, .inl (fun _ => (0 : Int32))))] := hD
          refine lv_aload_n hx hb dX9_rank_35 rfl (lv_at hl 0 rfl) ?_
          refine lv_iconst (v := 0) hx hb dX9_rank_36 (by decide +kernel) ?_
          refine lv_iload_n hx hb dX9_rank_37 rfl (lv_at hl 1 rfl) ?_
          refine my_gpI (my_pV (As := [.int 0, .int v9]) (rest := []) (ci := 9) ⟨hx, hb, hml, hown, hts⟩ (cwV 2 hts gX9_rank_X9_times rfl rfl rfl (by decide +kernel) ⟨Nat.le_of_ble_eq_true rfl, Nat.le_of_ble_eq_true rfl⟩) hN hK hP [0, 1] rfl 0 rfl rfl rfl rfl hl.1 rfl (Nat.le_of_ble_eq_true rfl) dX9_rank_38 ⟨Nat.le_of_ble_eq_true rfl, Nat.le_of_ble_eq_true rfl⟩  (k0_X9_times l D cI cJ m0 a_row a_tape a_number a_read a_readBits a_stands a_parted a_bitsWere a_stood a_chosen a_bestChosen a_often a_sorted a_risen a_risenWays (0 : Int32) (0 : Int32) (0 : Int32) (0 : Int32) (0 : Int32) (0 : Int32) (0 : Int32) (0 : Int32) (0 : Int32) v9 (by first | omega | decide +kernel) (by first | omega | decide +kernel))) (fun r hp => ?_)
          obtain rfl := hp
          exact my_retI hx hb hr hlocks hK hS [] (hP.sub [] rfl) (hD.sub [] (by decide) rfl) (Or.inl ⟨rfl, rfl, (by first | omega | assumption | trivial | decide +kernel), (by first | omega | assumption | trivial | decide +kernel), (by first | omega | assumption | trivial | decide +kernel)⟩) dX9_rank_41
        ·
          exact absurd c23 (by decide +kernel)
      ·
        refine lv_if_ne (tgt := 28) hx hb dX9_rank_23 (by decide) (fun c23 => ?_) (fun c23 => ?_)
        ·
          exact absurd c23 (by decide +kernel)
        ·
          refine lv_iconst (v := (-1)) hx hb dX9_rank_26 (by decide +kernel) ?_
          exact my_retI hx hb hr hlocks hK hS [] (hP.sub [] rfl) (hD.sub [] (by decide) rfl) (Or.inr (⟨rfl, rfl, (by first | omega | assumption | trivial | decide +kernel)⟩)) dX9_rank_27
  ·
    refine lv_if_eq (tgt := 26) hx hb dX9_rank_9 (by decide) (fun c9 => ?_) (fun c9 => ?_)
    ·
      refine lv_iconst (v := (-1)) hx hb dX9_rank_26 (by decide +kernel) ?_
      exact my_retI hx hb hr hlocks hK hS [] (hP.sub [] rfl) (hD.sub [] (by decide) rfl) (Or.inr (⟨rfl, rfl, (by first | omega | assumption | trivial | decide +kernel)⟩)) dX9_rank_27
    ·
      exact absurd c9 (by decide +kernel)
set_option maxHeartbeats 4000000 in
set_option maxRecDepth 100000 in
theorem k0_X9_select (l : Launch) (D : va_G) (cI cJ : ClassId) (m0 : Nat) (a_row : Nat) (a_tape : Nat) (a_number : Nat) (a_read : Nat) (a_readBits : Nat) (a_stands : Nat) (a_parted : Nat) (a_bitsWere : Nat) (a_stood : Nat) (a_chosen : Nat) (a_bestChosen : Nat) (a_often : Nat) (a_sorted : Nat) (a_risen : Nat) (a_risenWays : Nat) (v9 : Int32) (k9 : Int32) : ctI l yX9_select wsX9_select ({ frames := 2, cells := 0, slots := 0, locals := 120 } : Room) D (tyIJ cI cJ) [.ref m0, .int v9, .int k9] [(m0, .inr (9, [.int 0, .int 0, .ref a_row, .ref a_tape, .int 0, .int 0, .int 0, .int 0, .ref a_number, .ref a_read, .int 0, .ref a_readBits, .ref a_stands, .ref a_parted, .ref a_bitsWere, .ref a_stood, .ref a_chosen, .ref a_bestChosen, .int 0, .ref a_often, .ref a_sorted, .int 0, .ref a_risen, .ref a_risenWays]))] (fun (r : Int32) (u : va_W) => (u = [] ∧ r = (-2) ∧ 0 ≤ v9.toInt ∧ v9.toInt ≤ 255 ∧ 0 ≤ k9.toInt) ∨ (u = [] ∧ r = (-1) ∧ (v9.toInt < 0 ∨ 255 < v9.toInt ∨ k9.toInt < 0))) := by
  refine ctI.of (cc := cX9_select) (maxL := 5) (ret := (some .int)) (by decide) rfl (Nat.le_of_ble_eq_true rfl) ?_
  intro p e s m below meth c ls A hx hb hr hts hown hml hlocks hname hA hK hN hP hD hS hl
  have hl : lv_has ls 5 [(0, .ref m0), (1, .int v9), (2, .int k9)] := hl
  have hown : s.vm.findClass RX9 = some m.cls := hown
  have hi9 : ∀ w ∈ u_ws RX9 TX9 24, w ∈ wsX9_select := by decide +kernel
  have fl1 := hts (.fieldLink RX9 1 "PlaneColumnModel" "thrown" "I") (by decide +kernel)
  have fl88 := hts (.fieldLink RX9 88 "PlaneColumnModel" "many" "I") (by decide +kernel)
  refine lv_aload_n hx hb dX9_select_0 rfl (lv_at hl 0 rfl) ?_
  refine lv_iconst (v := 0) hx hb dX9_select_1 (by decide +kernel) ?_
  refine va_put (ci := 9) (v := .int 0) (ty := (.int)) (C := RX9) (T := TX9) (N := 24) hx hb hts hi9 tyX9 tyX9_ok nmX9 hown hK hP hD hS 0 rfl rfl 0 (by decide) fl1 (fun _ h9 => h9) rfl (by decide +kernel) rfl rfl (Nat.le_of_ble_eq_true rfl) dX9_select_2 (fun H locs hP hD hS => ?_)
  have hP : va_P D vwCl [(m0, .inr (9, [.int 0, .int 0, .ref a_row, .ref a_tape, .int 0, .int 0, .int 0, .int 0, .ref a_number, .ref a_read, .int 0, .ref a_readBits, .ref a_stands, .ref a_parted, .ref a_bitsWere, .ref a_stood, .ref a_chosen, .ref a_bestChosen, .int 0, .ref a_often, .ref a_sorted, .int 0, .ref a_risen, .ref a_risenWays]))] H := hP
  have hD : va_D A [(m0, .inr (9, [.int 0, .int 0, .ref a_row, .ref a_tape, .int 0, .int 0, .int 0, .int 0, .ref a_number, .ref a_read, .int 0, .ref a_readBits, .ref a_stands, .ref a_parted, .ref a_bitsWere, .ref a_stood, .ref a_chosen, .ref a_bestChosen, .int 0, .ref a_often, .ref a_sorted, .int 0, .ref a_risen, .ref a_risenWays]))] := hD
  refine lv_iload_n hx hb dX9_select_5 rfl (lv_at hl 1 rfl) ?_
  refine my_gpI (my_pS (As := [.int v9]) (rest := []) ⟨hx, hb, hml, hown, hts⟩ (va_cwS 1 hts gX9_select_X9_isNumber rfl rfl rfl (by decide +kernel) ⟨Nat.le_of_ble_eq_true rfl, Nat.le_of_ble_eq_true rfl⟩) hN hK hP [] rfl rfl hl.1 rfl (Nat.le_of_ble_eq_true rfl) dX9_select_6 ⟨Nat.le_of_ble_eq_true rfl, Nat.le_of_ble_eq_true rfl⟩  (k_X9_isNumber l D cI cJ v9)) (fun r hp => ?_)
  rcases hp with ⟨rfl, hgv_1, hlv_2⟩ | ⟨rfl, ho_3⟩
  ·
    refine lv_if_eq (tgt := 16) hx hb dX9_select_9 (by decide) (fun c9 => ?_) (fun c9 => ?_)
    ·
      exact absurd c9 (by decide +kernel)
    ·
      refine lv_iload_n hx hb dX9_select_12 rfl (lv_at hl 2 rfl) ?_
      refine lv_if_ge (tgt := 18) hx hb dX9_select_13 (by decide) (fun c13 => ?_) (fun c13 => ?_)
      ·
        have d13 : k9.toInt ≥ (0 : Int) := my_ge c13 rfl (by decide +kernel)
        refine lv_iload_n hx hb dX9_select_18 rfl (lv_at hl 2 rfl) ?_
        refine lv_istore_n (lv' := [(3, .int k9), (0, .ref m0), (1, .int v9), (2, .int k9)]) hx hb dX9_select_19 rfl hl (by decide) rfl (fun ls hl => ?_)
        refine lv_iconst (v := 0) hx hb dX9_select_20 (by decide +kernel) ?_
        refine lv_istore (lv' := [(4, .int 0), (3, .int k9), (0, .ref m0), (1, .int v9), (2, .int k9)]) hx hb dX9_select_21 hl (by decide) rfl (fun ls hl => ?_)
        refine lv_iload hx hb dX9_select_23 (lv_at hl 0 rfl) ?_
        refine lv_aload_n hx hb dX9_select_25 rfl (lv_at hl 2 rfl) ?_
        refine va_get (ci := 9) (v := .int 0) (C := RX9) (T := TX9) (N := 24) hx hb hts hi9 hown hK hP 0 rfl rfl 7 (by decide) fl88 (fun _ h9 => h9) rfl dX9_select_26 ?_
        refine lv_icmp_ge (tgt := 59) hx hb dX9_select_29 (by decide) (fun c29 => ?_) (fun c29 => ?_)
        ·
          refine lv_bipush (v := (-2)) hx hb dX9_select_59 (by decide +kernel) ?_
          exact my_retI hx hb hr hlocks hK hS [] (hP.sub [] rfl) (hD.sub [] (by decide) rfl) (Or.inl ⟨rfl, rfl, (by first | omega | assumption | trivial | decide +kernel), (by first | omega | assumption | trivial | decide +kernel), (by first | omega | assumption | trivial | decide +kernel)⟩) dX9_select_61
        ·
          exact absurd c29 (by decide +kernel)
      ·
        have d13 : k9.toInt < (0 : Int) := my_nge c13 rfl (by decide +kernel)
        refine lv_iconst (v := (-1)) hx hb dX9_select_16 (by decide +kernel) ?_
        exact my_retI hx hb hr hlocks hK hS [] (hP.sub [] rfl) (hD.sub [] (by decide) rfl) (Or.inr (⟨rfl, rfl, (by first | omega | assumption | trivial | decide +kernel)⟩)) dX9_select_17
  ·
    refine lv_if_eq (tgt := 16) hx hb dX9_select_9 (by decide) (fun c9 => ?_) (fun c9 => ?_)
    ·
      refine lv_iconst (v := (-1)) hx hb dX9_select_16 (by decide +kernel) ?_
      exact my_retI hx hb hr hlocks hK hS [] (hP.sub [] rfl) (hD.sub [] (by decide) rfl) (Or.inr (⟨rfl, rfl, (by first | omega | assumption | trivial | decide +kernel)⟩)) dX9_select_17
    ·
      exact absurd c9 (by decide +kernel)
set_option maxHeartbeats 4000000 in
set_option maxRecDepth 100000 in
theorem k0_X9_mode (l : Launch) (D : va_G) (cI cJ : ClassId) (m0 : Nat) (a_row : Nat) (a_tape : Nat) (a_number : Nat) (a_read : Nat) (a_readBits : Nat) (a_stands : Nat) (a_parted : Nat) (a_bitsWere : Nat) (a_stood : Nat) (a_chosen : Nat) (a_bestChosen : Nat) (a_often : Nat) (a_sorted : Nat) (a_risen : Nat) (a_risenWays : Nat) (l9 : Int32) (r9 : Int32) : ctI l yX9_mode wsX9_mode ({ frames := 1, cells := 0, slots := 0, locals := 60 } : Room) D (tyIJ cI cJ) [.ref m0, .int l9, .int r9] [(m0, .inr (9, [.int 0, .int 0, .ref a_row, .ref a_tape, .int 0, .int 0, .int 0, .int 0, .ref a_number, .ref a_read, .int 0, .ref a_readBits, .ref a_stands, .ref a_parted, .ref a_bitsWere, .ref a_stood, .ref a_chosen, .ref a_bestChosen, .int 0, .ref a_often, .ref a_sorted, .int 0, .ref a_risen, .ref a_risenWays]))] (fun (r : Int32) (u : va_W) => (u = [] ∧ r = (-2) ∧ l9.toInt = 0 ∧ r9.toInt = 0) ∨ (u = [] ∧ r = (-1) ∧ (l9.toInt < 0 ∨ r9.toInt < l9.toInt ∨ 0 < r9.toInt))) := by
  refine ctI.of (cc := cX9_mode) (maxL := 5) (ret := (some .int)) (by decide) rfl (Nat.le_of_ble_eq_true rfl) ?_
  intro p e s m below meth c ls A hx hb hr hts hown hml hlocks hname hA hK hN hP hD hS hl
  have hl : lv_has ls 5 [(0, .ref m0), (1, .int l9), (2, .int r9)] := hl
  have hown : s.vm.findClass RX9 = some m.cls := hown
  have hi9 : ∀ w ∈ u_ws RX9 TX9 24, w ∈ wsX9_mode := by decide +kernel
  have fl1 := hts (.fieldLink RX9 1 "PlaneColumnModel" "thrown" "I") (by decide +kernel)
  refine lv_aload_n hx hb dX9_mode_0 rfl (lv_at hl 0 rfl) ?_
  refine lv_iconst (v := 0) hx hb dX9_mode_1 (by decide +kernel) ?_
  refine va_put (ci := 9) (v := .int 0) (ty := (.int)) (C := RX9) (T := TX9) (N := 24) hx hb hts hi9 tyX9 tyX9_ok nmX9 hown hK hP hD hS 0 rfl rfl 0 (by decide) fl1 (fun _ h9 => h9) rfl (by decide +kernel) rfl rfl (Nat.le_of_ble_eq_true rfl) dX9_mode_2 (fun H locs hP hD hS => ?_)
  have hP : va_P D vwCl [(m0, .inr (9, [.int 0, .int 0, .ref a_row, .ref a_tape, .int 0, .int 0, .int 0, .int 0, .ref a_number, .ref a_read, .int 0, .ref a_readBits, .ref a_stands, .ref a_parted, .ref a_bitsWere, .ref a_stood, .ref a_chosen, .ref a_bestChosen, .int 0, .ref a_often, .ref a_sorted, .int 0, .ref a_risen, .ref a_risenWays]))] H := hP
  have hD : va_D A [(m0, .inr (9, [.int 0, .int 0, .ref a_row, .ref a_tape, .int 0, .int 0, .int 0, .int 0, .ref a_number, .ref a_read, .int 0, .ref a_readBits, .ref a_stands, .ref a_parted, .ref a_bitsWere, .ref a_stood, .ref a_chosen, .ref a_bestChosen, .int 0, .ref a_often, .ref a_sorted, .int 0, .ref a_risen, .ref a_risenWays]))] := hD
  refine lv_aload_n hx hb dX9_mode_5 rfl (lv_at hl 0 rfl) ?_
  refine lv_iload_n hx hb dX9_mode_6 rfl (lv_at hl 1 rfl) ?_
  refine lv_iload_n hx hb dX9_mode_7 rfl (lv_at hl 2 rfl) ?_
  refine my_gpI (my_pV (As := [.int l9, .int r9]) (rest := []) (ci := 9) ⟨hx, hb, hml, hown, hts⟩ (cwV 2 hts gX9_mode_X9_isSpan rfl rfl rfl (by decide +kernel) ⟨Nat.le_of_ble_eq_true rfl, Nat.le_of_ble_eq_true rfl⟩) hN hK hP [0] rfl 0 rfl rfl rfl rfl hl.1 rfl (Nat.le_of_ble_eq_true rfl) dX9_mode_8 ⟨Nat.le_of_ble_eq_true rfl, Nat.le_of_ble_eq_true rfl⟩  (k0_X9_isSpan l D cI cJ m0 a_row a_tape a_number a_read a_readBits a_stands a_parted a_bitsWere a_stood a_chosen a_bestChosen a_often a_sorted a_risen a_risenWays (0 : Int32) (0 : Int32) (0 : Int32) (0 : Int32) (0 : Int32) (0 : Int32) (0 : Int32) (0 : Int32) l9 r9)) (fun r hp => ?_)
  rcases hp with ⟨rfl, rfl, rfl⟩ | ⟨rfl, ha_1⟩
  ·
    refine lv_if_ne (tgt := 16) hx hb dX9_mode_11 (by decide) (fun c11 => ?_) (fun c11 => ?_)
    ·
      refine lv_iload_n hx hb dX9_mode_16 rfl (lv_at hl 1 rfl) ?_
      refine lv_iload_n hx hb dX9_mode_17 rfl (lv_at hl 2 rfl) ?_
      refine lv_icmp_ne (tgt := 24) hx hb dX9_mode_18 (by decide) (fun c18 => ?_) (fun c18 => ?_)
      ·
        exact absurd c18 (by decide +kernel)
      ·
        refine lv_bipush (v := (-2)) hx hb dX9_mode_21 (by decide +kernel) ?_
        exact my_retI hx hb hr hlocks hK hS [] (hP.sub [] rfl) (hD.sub [] (by decide) rfl) (Or.inl ⟨rfl, rfl, (by first | omega | assumption | trivial | decide +kernel), (by first | omega | assumption | trivial | decide +kernel)⟩) dX9_mode_23
    ·
      exact absurd c11 (by decide +kernel)
  ·
    refine lv_if_ne (tgt := 16) hx hb dX9_mode_11 (by decide) (fun c11 => ?_) (fun c11 => ?_)
    ·
      exact absurd c11 (by decide +kernel)
    ·
      refine lv_iconst (v := (-1)) hx hb dX9_mode_14 (by decide +kernel) ?_
      exact my_retI hx hb hr hlocks hK hS [] (hP.sub [] rfl) (hD.sub [] (by decide) rfl) (Or.inr (⟨rfl, rfl, (by first | omega | assumption | trivial | decide +kernel)⟩)) dX9_mode_15
set_option maxHeartbeats 4000000 in
set_option maxRecDepth 100000 in
theorem k0_X9_nearest (l : Launch) (D : va_G) (cI cJ : ClassId) (m0 : Nat) (a_row : Nat) (a_tape : Nat) (a_number : Nat) (a_read : Nat) (a_readBits : Nat) (a_stands : Nat) (a_parted : Nat) (a_bitsWere : Nat) (a_stood : Nat) (a_chosen : Nat) (a_bestChosen : Nat) (a_often : Nat) (a_sorted : Nat) (a_risen : Nat) (a_risenWays : Nat) (l9 : Int32) (r9 : Int32) : ctI l yX9_nearest wsX9_nearest ({ frames := 1, cells := 0, slots := 0, locals := 60 } : Room) D (tyIJ cI cJ) [.ref m0, .int l9, .int r9] [(m0, .inr (9, [.int 0, .int 0, .ref a_row, .ref a_tape, .int 0, .int 0, .int 0, .int 0, .ref a_number, .ref a_read, .int 0, .ref a_readBits, .ref a_stands, .ref a_parted, .ref a_bitsWere, .ref a_stood, .ref a_chosen, .ref a_bestChosen, .int 0, .ref a_often, .ref a_sorted, .int 0, .ref a_risen, .ref a_risenWays]))] (fun (r : Int32) (u : va_W) => (u = [] ∧ r = (-2) ∧ l9.toInt = 0 ∧ r9.toInt = 0) ∨ (u = [] ∧ r = (-1) ∧ (l9.toInt < 0 ∨ r9.toInt < l9.toInt ∨ 0 < r9.toInt))) := by
  refine ctI.of (cc := cX9_nearest) (maxL := 9) (ret := (some .int)) (by decide) rfl (Nat.le_of_ble_eq_true rfl) ?_
  intro p e s m below meth c ls A hx hb hr hts hown hml hlocks hname hA hK hN hP hD hS hl
  have hl : lv_has ls 9 [(0, .ref m0), (1, .int l9), (2, .int r9)] := hl
  have hown : s.vm.findClass RX9 = some m.cls := hown
  have hi9 : ∀ w ∈ u_ws RX9 TX9 24, w ∈ wsX9_nearest := by decide +kernel
  have fl1 := hts (.fieldLink RX9 1 "PlaneColumnModel" "thrown" "I") (by decide +kernel)
  refine lv_aload_n hx hb dX9_nearest_0 rfl (lv_at hl 0 rfl) ?_
  refine lv_iconst (v := 0) hx hb dX9_nearest_1 (by decide +kernel) ?_
  refine va_put (ci := 9) (v := .int 0) (ty := (.int)) (C := RX9) (T := TX9) (N := 24) hx hb hts hi9 tyX9 tyX9_ok nmX9 hown hK hP hD hS 0 rfl rfl 0 (by decide) fl1 (fun _ h9 => h9) rfl (by decide +kernel) rfl rfl (Nat.le_of_ble_eq_true rfl) dX9_nearest_2 (fun H locs hP hD hS => ?_)
  have hP : va_P D vwCl [(m0, .inr (9, [.int 0, .int 0, .ref a_row, .ref a_tape, .int 0, .int 0, .int 0, .int 0, .ref a_number, .ref a_read, .int 0, .ref a_readBits, .ref a_stands, .ref a_parted, .ref a_bitsWere, .ref a_stood, .ref a_chosen, .ref a_bestChosen, .int 0, .ref a_often, .ref a_sorted, .int 0, .ref a_risen, .ref a_risenWays]))] H := hP
  have hD : va_D A [(m0, .inr (9, [.int 0, .int 0, .ref a_row, .ref a_tape, .int 0, .int 0, .int 0, .int 0, .ref a_number, .ref a_read, .int 0, .ref a_readBits, .ref a_stands, .ref a_parted, .ref a_bitsWere, .ref a_stood, .ref a_chosen, .ref a_bestChosen, .int 0, .ref a_often, .ref a_sorted, .int 0, .ref a_risen, .ref a_risenWays]))] := hD
  refine lv_aload_n hx hb dX9_nearest_5 rfl (lv_at hl 0 rfl) ?_
  refine lv_iload_n hx hb dX9_nearest_6 rfl (lv_at hl 1 rfl) ?_
  refine lv_iload_n hx hb dX9_nearest_7 rfl (lv_at hl 2 rfl) ?_
  refine my_gpI (my_pV (As := [.int l9, .int r9]) (rest := []) (ci := 9) ⟨hx, hb, hml, hown, hts⟩ (cwV 2 hts gX9_nearest_X9_isSpan rfl rfl rfl (by decide +kernel) ⟨Nat.le_of_ble_eq_true rfl, Nat.le_of_ble_eq_true rfl⟩) hN hK hP [0] rfl 0 rfl rfl rfl rfl hl.1 rfl (Nat.le_of_ble_eq_true rfl) dX9_nearest_8 ⟨Nat.le_of_ble_eq_true rfl, Nat.le_of_ble_eq_true rfl⟩  (k0_X9_isSpan l D cI cJ m0 a_row a_tape a_number a_read a_readBits a_stands a_parted a_bitsWere a_stood a_chosen a_bestChosen a_often a_sorted a_risen a_risenWays (0 : Int32) (0 : Int32) (0 : Int32) (0 : Int32) (0 : Int32) (0 : Int32) (0 : Int32) (0 : Int32) l9 r9)) (fun r hp => ?_)
  rcases hp with ⟨rfl, rfl, rfl⟩ | ⟨rfl, ha_1⟩
  ·
    refine lv_if_ne (tgt := 16) hx hb dX9_nearest_11 (by decide) (fun c11 => ?_) (fun c11 => ?_)
    ·
      refine lv_iload_n hx hb dX9_nearest_16 rfl (lv_at hl 2 rfl) ?_
      refine lv_iload_n hx hb dX9_nearest_17 rfl (lv_at hl 1 rfl) ?_
      refine lv_isub hx hb dX9_nearest_18 ?_
      refine my_eqi (y := 0) (by decide +kernel) ?_
      refine lv_iconst (v := 2) hx hb dX9_nearest_19 (by decide +kernel) ?_
      refine lv_icmp_ge (tgt := 26) hx hb dX9_nearest_20 (by decide) (fun c20 => ?_) (fun c20 => ?_)
      ·
        exact absurd c20 (by decide +kernel)
      ·
        refine lv_bipush (v := (-2)) hx hb dX9_nearest_23 (by decide +kernel) ?_
        exact my_retI hx hb hr hlocks hK hS [] (hP.sub [] rfl) (hD.sub [] (by decide) rfl) (Or.inl ⟨rfl, rfl, (by first | omega | assumption | trivial | decide +kernel), (by first | omega | assumption | trivial | decide +kernel)⟩) dX9_nearest_25
    ·
      exact absurd c11 (by decide +kernel)
  ·
    refine lv_if_ne (tgt := 16) hx hb dX9_nearest_11 (by decide) (fun c11 => ?_) (fun c11 => ?_)
    ·
      exact absurd c11 (by decide +kernel)
    ·
      refine lv_iconst (v := (-1)) hx hb dX9_nearest_14 (by decide +kernel) ?_
      exact my_retI hx hb hr hlocks hK hS [] (hP.sub [] rfl) (hD.sub [] (by decide) rfl) (Or.inr (⟨rfl, rfl, (by first | omega | assumption | trivial | decide +kernel)⟩)) dX9_nearest_15
set_option maxHeartbeats 4000000 in
set_option maxRecDepth 100000 in
theorem k0_X9_gap (l : Launch) (D : va_G) (cI cJ : ClassId) (m0 : Nat) (a_row : Nat) (a_tape : Nat) (a_number : Nat) (a_read : Nat) (a_readBits : Nat) (a_stands : Nat) (a_parted : Nat) (a_bitsWere : Nat) (a_stood : Nat) (a_chosen : Nat) (a_bestChosen : Nat) (a_often : Nat) (a_sorted : Nat) (a_risen : Nat) (a_risenWays : Nat) (l9 : Int32) (r9 : Int32) : ctI l yX9_gap wsX9_gap ({ frames := 1, cells := 0, slots := 0, locals := 60 } : Room) D (tyIJ cI cJ) [.ref m0, .int l9, .int r9] [(m0, .inr (9, [.int 0, .int 0, .ref a_row, .ref a_tape, .int 0, .int 0, .int 0, .int 0, .ref a_number, .ref a_read, .int 0, .ref a_readBits, .ref a_stands, .ref a_parted, .ref a_bitsWere, .ref a_stood, .ref a_chosen, .ref a_bestChosen, .int 0, .ref a_often, .ref a_sorted, .int 0, .ref a_risen, .ref a_risenWays]))] (fun (r : Int32) (u : va_W) => (u = [] ∧ r = (-2) ∧ l9.toInt = 0 ∧ r9.toInt = 0) ∨ (u = [] ∧ r = (-1) ∧ (l9.toInt < 0 ∨ r9.toInt < l9.toInt ∨ 0 < r9.toInt))) := by
  refine ctI.of (cc := cX9_gap) (maxL := 5) (ret := (some .int)) (by decide) rfl (Nat.le_of_ble_eq_true rfl) ?_
  intro p e s m below meth c ls A hx hb hr hts hown hml hlocks hname hA hK hN hP hD hS hl
  have hl : lv_has ls 5 [(0, .ref m0), (1, .int l9), (2, .int r9)] := hl
  have hown : s.vm.findClass RX9 = some m.cls := hown
  have hi9 : ∀ w ∈ u_ws RX9 TX9 24, w ∈ wsX9_gap := by decide +kernel
  have fl1 := hts (.fieldLink RX9 1 "PlaneColumnModel" "thrown" "I") (by decide +kernel)
  refine lv_aload_n hx hb dX9_gap_0 rfl (lv_at hl 0 rfl) ?_
  refine lv_iconst (v := 0) hx hb dX9_gap_1 (by decide +kernel) ?_
  refine va_put (ci := 9) (v := .int 0) (ty := (.int)) (C := RX9) (T := TX9) (N := 24) hx hb hts hi9 tyX9 tyX9_ok nmX9 hown hK hP hD hS 0 rfl rfl 0 (by decide) fl1 (fun _ h9 => h9) rfl (by decide +kernel) rfl rfl (Nat.le_of_ble_eq_true rfl) dX9_gap_2 (fun H locs hP hD hS => ?_)
  have hP : va_P D vwCl [(m0, .inr (9, [.int 0, .int 0, .ref a_row, .ref a_tape, .int 0, .int 0, .int 0, .int 0, .ref a_number, .ref a_read, .int 0, .ref a_readBits, .ref a_stands, .ref a_parted, .ref a_bitsWere, .ref a_stood, .ref a_chosen, .ref a_bestChosen, .int 0, .ref a_often, .ref a_sorted, .int 0, .ref a_risen, .ref a_risenWays]))] H := hP
  have hD : va_D A [(m0, .inr (9, [.int 0, .int 0, .ref a_row, .ref a_tape, .int 0, .int 0, .int 0, .int 0, .ref a_number, .ref a_read, .int 0, .ref a_readBits, .ref a_stands, .ref a_parted, .ref a_bitsWere, .ref a_stood, .ref a_chosen, .ref a_bestChosen, .int 0, .ref a_often, .ref a_sorted, .int 0, .ref a_risen, .ref a_risenWays]))] := hD
  refine lv_aload_n hx hb dX9_gap_5 rfl (lv_at hl 0 rfl) ?_
  refine lv_iload_n hx hb dX9_gap_6 rfl (lv_at hl 1 rfl) ?_
  refine lv_iload_n hx hb dX9_gap_7 rfl (lv_at hl 2 rfl) ?_
  refine my_gpI (my_pV (As := [.int l9, .int r9]) (rest := []) (ci := 9) ⟨hx, hb, hml, hown, hts⟩ (cwV 2 hts gX9_gap_X9_isSpan rfl rfl rfl (by decide +kernel) ⟨Nat.le_of_ble_eq_true rfl, Nat.le_of_ble_eq_true rfl⟩) hN hK hP [0] rfl 0 rfl rfl rfl rfl hl.1 rfl (Nat.le_of_ble_eq_true rfl) dX9_gap_8 ⟨Nat.le_of_ble_eq_true rfl, Nat.le_of_ble_eq_true rfl⟩  (k0_X9_isSpan l D cI cJ m0 a_row a_tape a_number a_read a_readBits a_stands a_parted a_bitsWere a_stood a_chosen a_bestChosen a_often a_sorted a_risen a_risenWays (0 : Int32) (0 : Int32) (0 : Int32) (0 : Int32) (0 : Int32) (0 : Int32) (0 : Int32) (0 : Int32) l9 r9)) (fun r hp => ?_)
  rcases hp with ⟨rfl, rfl, rfl⟩ | ⟨rfl, ha_1⟩
  ·
    refine lv_if_ne (tgt := 16) hx hb dX9_gap_11 (by decide) (fun c11 => ?_) (fun c11 => ?_)
    ·
      refine lv_iload_n hx hb dX9_gap_16 rfl (lv_at hl 2 rfl) ?_
      refine lv_iload_n hx hb dX9_gap_17 rfl (lv_at hl 1 rfl) ?_
      refine lv_isub hx hb dX9_gap_18 ?_
      refine my_eqi (y := 0) (by decide +kernel) ?_
      refine lv_iconst (v := 2) hx hb dX9_gap_19 (by decide +kernel) ?_
      refine lv_icmp_ge (tgt := 26) hx hb dX9_gap_20 (by decide) (fun c20 => ?_) (fun c20 => ?_)
      ·
        exact absurd c20 (by decide +kernel)
      ·
        refine lv_bipush (v := (-2)) hx hb dX9_gap_23 (by decide +kernel) ?_
        exact my_retI hx hb hr hlocks hK hS [] (hP.sub [] rfl) (hD.sub [] (by decide) rfl) (Or.inl ⟨rfl, rfl, (by first | omega | assumption | trivial | decide +kernel), (by first | omega | assumption | trivial | decide +kernel)⟩) dX9_gap_25
    ·
      exact absurd c11 (by decide +kernel)
  ·
    refine lv_if_ne (tgt := 16) hx hb dX9_gap_11 (by decide) (fun c11 => ?_) (fun c11 => ?_)
    ·
      exact absurd c11 (by decide +kernel)
    ·
      refine lv_iconst (v := (-1)) hx hb dX9_gap_14 (by decide +kernel) ?_
      exact my_retI hx hb hr hlocks hK hS [] (hP.sub [] rfl) (hD.sub [] (by decide) rfl) (Or.inr (⟨rfl, rfl, (by first | omega | assumption | trivial | decide +kernel)⟩)) dX9_gap_15
set_option maxHeartbeats 4000000 in
set_option maxRecDepth 100000 in
theorem k0_X9_narrow (l : Launch) (D : va_G) (cI cJ : ClassId) (m0 : Nat) (a_row : Nat) (a_tape : Nat) (a_number : Nat) (a_read : Nat) (a_readBits : Nat) (a_stands : Nat) (a_parted : Nat) (a_bitsWere : Nat) (a_stood : Nat) (a_chosen : Nat) (a_bestChosen : Nat) (a_often : Nat) (a_sorted : Nat) (a_risen : Nat) (a_risenWays : Nat) (v9 : Int32) (m9 : Int32) : ctI l yX9_narrow wsX9_narrow ({ frames := 2, cells := 0, slots := 0, locals := 120 } : Room) D (tyIJ cI cJ) [.ref m0, .int v9, .int m9] [(m0, .inr (9, [.int 0, .int 0, .ref a_row, .ref a_tape, .int 0, .int 0, .int 0, .int 0, .ref a_number, .ref a_read, .int 0, .ref a_readBits, .ref a_stands, .ref a_parted, .ref a_bitsWere, .ref a_stood, .ref a_chosen, .ref a_bestChosen, .int 0, .ref a_often, .ref a_sorted, .int 0, .ref a_risen, .ref a_risenWays]))] (fun (r : Int32) (u : va_W) => (u = [] ∧ r = (-2) ∧ 0 ≤ v9.toInt ∧ v9.toInt ≤ 255 ∧ 1 ≤ m9.toInt ∧ m9.toInt ≤ 64) ∨ (u = [] ∧ r = (-1) ∧ (v9.toInt < 0 ∨ 255 < v9.toInt ∨ m9.toInt < 1 ∨ 64 < m9.toInt))) := by
  refine ctI.of (cc := cX9_narrow) (maxL := 10) (ret := (some .int)) (by decide) rfl (Nat.le_of_ble_eq_true rfl) ?_
  intro p e s m below meth c ls A hx hb hr hts hown hml hlocks hname hA hK hN hP hD hS hl
  have hl : lv_has ls 10 [(0, .ref m0), (1, .int v9), (2, .int m9)] := hl
  have hown : s.vm.findClass RX9 = some m.cls := hown
  have hi9 : ∀ w ∈ u_ws RX9 TX9 24, w ∈ wsX9_narrow := by decide +kernel
  have fl1 := hts (.fieldLink RX9 1 "PlaneColumnModel" "thrown" "I") (by decide +kernel)
  have fl88 := hts (.fieldLink RX9 88 "PlaneColumnModel" "many" "I") (by decide +kernel)
  refine lv_aload_n hx hb dX9_narrow_0 rfl (lv_at hl 0 rfl) ?_
  refine lv_iconst (v := 0) hx hb dX9_narrow_1 (by decide +kernel) ?_
  refine va_put (ci := 9) (v := .int 0) (ty := (.int)) (C := RX9) (T := TX9) (N := 24) hx hb hts hi9 tyX9 tyX9_ok nmX9 hown hK hP hD hS 0 rfl rfl 0 (by decide) fl1 (fun _ h9 => h9) rfl (by decide +kernel) rfl rfl (Nat.le_of_ble_eq_true rfl) dX9_narrow_2 (fun H locs hP hD hS => ?_)
  have hP : va_P D vwCl [(m0, .inr (9, [.int 0, .int 0, .ref a_row, .ref a_tape, .int 0, .int 0, .int 0, .int 0, .ref a_number, .ref a_read, .int 0, .ref a_readBits, .ref a_stands, .ref a_parted, .ref a_bitsWere, .ref a_stood, .ref a_chosen, .ref a_bestChosen, .int 0, .ref a_often, .ref a_sorted, .int 0, .ref a_risen, .ref a_risenWays]))] H := hP
  have hD : va_D A [(m0, .inr (9, [.int 0, .int 0, .ref a_row, .ref a_tape, .int 0, .int 0, .int 0, .int 0, .ref a_number, .ref a_read, .int 0, .ref a_readBits, .ref a_stands, .ref a_parted, .ref a_bitsWere, .ref a_stood, .ref a_chosen, .ref a_bestChosen, .int 0, .ref a_often, .ref a_sorted, .int 0, .ref a_risen, .ref a_risenWays]))] := hD
  refine lv_iload_n hx hb dX9_narrow_5 rfl (lv_at hl 1 rfl) ?_
  refine my_gpI (my_pS (As := [.int v9]) (rest := []) ⟨hx, hb, hml, hown, hts⟩ (va_cwS 1 hts gX9_narrow_X9_isNumber rfl rfl rfl (by decide +kernel) ⟨Nat.le_of_ble_eq_true rfl, Nat.le_of_ble_eq_true rfl⟩) hN hK hP [] rfl rfl hl.1 rfl (Nat.le_of_ble_eq_true rfl) dX9_narrow_6 ⟨Nat.le_of_ble_eq_true rfl, Nat.le_of_ble_eq_true rfl⟩  (k_X9_isNumber l D cI cJ v9)) (fun r hp => ?_)
  rcases hp with ⟨rfl, hgv_1, hlv_2⟩ | ⟨rfl, ho_3⟩
  ·
    refine lv_if_eq (tgt := 24) hx hb dX9_narrow_9 (by decide) (fun c9 => ?_) (fun c9 => ?_)
    ·
      exact absurd c9 (by decide +kernel)
    ·
      refine lv_iload_n hx hb dX9_narrow_12 rfl (lv_at hl 2 rfl) ?_
      refine lv_i2l (v := m9.toInt64) hx hb dX9_narrow_13 rfl ?_
      refine lv_lconst (v := 1) hx hb dX9_narrow_14 (by decide +kernel) ?_
      refine lv_ldc2 (v := 64) hx hb hown (hts (.constantLong RX9 202 (64)) (by decide +kernel)) dX9_narrow_15 ?_
      refine my_gpI (my_pS (As := [.long m9.toInt64, .long 1, .long 64]) (rest := []) ⟨hx, hb, hml, hown, hts⟩ (va_cwS 3 hts gX9_narrow_X9_in rfl rfl rfl (by decide +kernel) ⟨Nat.le_of_ble_eq_true rfl, Nat.le_of_ble_eq_true rfl⟩) hN hK hP [] rfl rfl hl.1 rfl (Nat.le_of_ble_eq_true rfl) dX9_narrow_18 ⟨Nat.le_of_ble_eq_true rfl, Nat.le_of_ble_eq_true rfl⟩  (k_X9_in l D cI cJ m9.toInt64 (1 : Int64) (64 : Int64) m9.toInt (1 : Int) (64 : Int) (Int32.toInt_toInt64 _) (by decide +kernel) (by decide +kernel))) (fun r hp => ?_)
      rcases hp with ⟨rfl, ha_4, hb_5⟩ | ⟨rfl, ha_6⟩
      ·
        refine lv_if_ne (tgt := 26) hx hb dX9_narrow_21 (by decide) (fun c21 => ?_) (fun c21 => ?_)
        ·
          refine lv_iconst (v := (-1)) hx hb dX9_narrow_26 (by decide +kernel) ?_
          refine lv_istore_n (lv' := [(3, .int (-1)), (0, .ref m0), (1, .int v9), (2, .int m9)]) hx hb dX9_narrow_27 rfl hl (by decide) rfl (fun ls hl => ?_)
          refine lv_iconst (v := 0) hx hb dX9_narrow_28 (by decide +kernel) ?_
          refine lv_istore (lv' := [(4, .int 0), (3, .int (-1)), (0, .ref m0), (1, .int v9), (2, .int m9)]) hx hb dX9_narrow_29 hl (by decide) rfl (fun ls hl => ?_)
          refine lv_iconst (v := 0) hx hb dX9_narrow_31 (by decide +kernel) ?_
          refine lv_istore (lv' := [(5, .int 0), (4, .int 0), (3, .int (-1)), (0, .ref m0), (1, .int v9), (2, .int m9)]) hx hb dX9_narrow_32 hl (by decide) rfl (fun ls hl => ?_)
          refine lv_iconst (v := 0) hx hb dX9_narrow_34 (by decide +kernel) ?_
          refine lv_istore (lv' := [(6, .int 0), (5, .int 0), (4, .int 0), (3, .int (-1)), (0, .ref m0), (1, .int v9), (2, .int m9)]) hx hb dX9_narrow_35 hl (by decide) rfl (fun ls hl => ?_)
          refine lv_iload hx hb dX9_narrow_37 (lv_at hl 0 rfl) ?_
          refine lv_aload_n hx hb dX9_narrow_39 rfl (lv_at hl 4 rfl) ?_
          refine va_get (ci := 9) (v := .int 0) (C := RX9) (T := TX9) (N := 24) hx hb hts hi9 hown hK hP 0 rfl rfl 7 (by decide) fl88 (fun _ h9 => h9) rfl dX9_narrow_40 ?_
          refine lv_icmp_ge (tgt := 201) hx hb dX9_narrow_43 (by decide) (fun c43 => ?_) (fun c43 => ?_)
          ·
            refine lv_iload_n hx hb dX9_narrow_201 rfl (lv_at hl 3 rfl) ?_
            refine lv_if_ge (tgt := 208) hx hb dX9_narrow_202 (by decide) (fun c202 => ?_) (fun c202 => ?_)
            ·
              exact absurd c202 (by decide +kernel)
            ·
              refine lv_bipush (v := (-2)) hx hb dX9_narrow_205 (by decide +kernel) ?_
              exact my_retI hx hb hr hlocks hK hS [] (hP.sub [] rfl) (hD.sub [] (by decide) rfl) (Or.inl ⟨rfl, rfl, (by first | omega | assumption | trivial | decide +kernel), (by first | omega | assumption | trivial | decide +kernel), (by first | omega | assumption | trivial | decide +kernel), (by first | omega | assumption | trivial | decide +kernel)⟩) dX9_narrow_207
          ·
            exact absurd c43 (by decide +kernel)
        ·
          exact absurd c21 (by decide +kernel)
      ·
        refine lv_if_ne (tgt := 26) hx hb dX9_narrow_21 (by decide) (fun c21 => ?_) (fun c21 => ?_)
        ·
          exact absurd c21 (by decide +kernel)
        ·
          refine lv_iconst (v := (-1)) hx hb dX9_narrow_24 (by decide +kernel) ?_
          exact my_retI hx hb hr hlocks hK hS [] (hP.sub [] rfl) (hD.sub [] (by decide) rfl) (Or.inr (⟨rfl, rfl, (by first | omega | assumption | trivial | decide +kernel)⟩)) dX9_narrow_25
  ·
    refine lv_if_eq (tgt := 24) hx hb dX9_narrow_9 (by decide) (fun c9 => ?_) (fun c9 => ?_)
    ·
      refine lv_iconst (v := (-1)) hx hb dX9_narrow_24 (by decide +kernel) ?_
      exact my_retI hx hb hr hlocks hK hS [] (hP.sub [] rfl) (hD.sub [] (by decide) rfl) (Or.inr (⟨rfl, rfl, (by first | omega | assumption | trivial | decide +kernel)⟩)) dX9_narrow_25
    ·
      exact absurd c9 (by decide +kernel)
set_option maxHeartbeats 4000000 in
set_option maxRecDepth 100000 in
theorem k0_X9_turned (l : Launch) (D : va_G) (cI cJ : ClassId) (m0 : Nat) (a_row : Nat) (a_tape : Nat) (a_number : Nat) (a_read : Nat) (a_readBits : Nat) (a_stands : Nat) (a_parted : Nat) (a_bitsWere : Nat) (a_stood : Nat) (a_chosen : Nat) (a_bestChosen : Nat) (a_often : Nat) (a_sorted : Nat) (a_risen : Nat) (a_risenWays : Nat) (rf : Nat → Int64) (l9 : Int32) (r9 : Int32) : ctI l yX9_turned wsX9_turned ({ frames := 1, cells := 0, slots := 0, locals := 60 } : Room) D (tyIJ cI cJ) [.ref m0, .int l9, .int r9] [(m0, .inr (9, [.int 0, .int 0, .ref a_row, .ref a_tape, .int 0, .int 0, .int 0, .int 0, .ref a_number, .ref a_read, .int 0, .ref a_readBits, .ref a_stands, .ref a_parted, .ref a_bitsWere, .ref a_stood, .ref a_chosen, .ref a_bestChosen, .int 0, .ref a_often, .ref a_sorted, .int 0, .ref a_risen, .ref a_risenWays])), (a_row, .inl (cJ, 64, .inr (.inl rf)))] (fun (r : Int32) (u : va_W) => (u = [] ∧ r = 0 ∧ l9.toInt = 0 ∧ r9.toInt = 0) ∨ (u = [] ∧ r = (-1) ∧ (l9.toInt < 0 ∨ r9.toInt < l9.toInt ∨ 0 < r9.toInt))) := by
  refine ctI.of (cc := cX9_turned) (maxL := 7) (ret := (some .int)) (by decide) rfl (Nat.le_of_ble_eq_true rfl) ?_
  intro p e s m below meth c ls A hx hb hr hts hown hml hlocks hname hA hK hN hP hD hS hl
  have hl : lv_has ls 7 [(0, .ref m0), (1, .int l9), (2, .int r9)] := hl
  have hown : s.vm.findClass RX9 = some m.cls := hown
  have hi9 : ∀ w ∈ u_ws RX9 TX9 24, w ∈ wsX9_turned := by decide +kernel
  have fl1 := hts (.fieldLink RX9 1 "PlaneColumnModel" "thrown" "I") (by decide +kernel)
  have fl11 := hts (.fieldLink RX9 11 "PlaneColumnModel" "told" "I") (by decide +kernel)
  refine lv_aload_n hx hb dX9_turned_0 rfl (lv_at hl 0 rfl) ?_
  refine lv_iconst (v := 0) hx hb dX9_turned_1 (by decide +kernel) ?_
  refine va_put (ci := 9) (v := .int 0) (ty := (.int)) (C := RX9) (T := TX9) (N := 24) hx hb hts hi9 tyX9 tyX9_ok nmX9 hown hK hP hD hS 0 rfl rfl 0 (by decide) fl1 (fun _ h9 => h9) rfl (by decide +kernel) rfl rfl (Nat.le_of_ble_eq_true rfl) dX9_turned_2 (fun H locs hP hD hS => ?_)
  have hP : va_P D vwCl [(m0, .inr (9, [.int 0, .int 0, .ref a_row, .ref a_tape, .int 0, .int 0, .int 0, .int 0, .ref a_number, .ref a_read, .int 0, .ref a_readBits, .ref a_stands, .ref a_parted, .ref a_bitsWere, .ref a_stood, .ref a_chosen, .ref a_bestChosen, .int 0, .ref a_often, .ref a_sorted, .int 0, .ref a_risen, .ref a_risenWays])), (a_row, .inl (cJ, 64, .inr (.inl rf)))] H := hP
  have hD : va_D A [(m0, .inr (9, [.int 0, .int 0, .ref a_row, .ref a_tape, .int 0, .int 0, .int 0, .int 0, .ref a_number, .ref a_read, .int 0, .ref a_readBits, .ref a_stands, .ref a_parted, .ref a_bitsWere, .ref a_stood, .ref a_chosen, .ref a_bestChosen, .int 0, .ref a_often, .ref a_sorted, .int 0, .ref a_risen, .ref a_risenWays])), (a_row, .inl (cJ, 64, .inr (.inl rf)))] := hD
  refine lv_aload_n hx hb dX9_turned_5 rfl (lv_at hl 0 rfl) ?_
  refine lv_iload_n hx hb dX9_turned_6 rfl (lv_at hl 1 rfl) ?_
  refine lv_iload_n hx hb dX9_turned_7 rfl (lv_at hl 2 rfl) ?_
  refine my_gpI (my_pV (As := [.int l9, .int r9]) (rest := []) (ci := 9) ⟨hx, hb, hml, hown, hts⟩ (cwV 2 hts gX9_turned_X9_isSpan rfl rfl rfl (by decide +kernel) ⟨Nat.le_of_ble_eq_true rfl, Nat.le_of_ble_eq_true rfl⟩) hN hK hP [0] rfl 0 rfl rfl rfl rfl hl.1 rfl (Nat.le_of_ble_eq_true rfl) dX9_turned_8 ⟨Nat.le_of_ble_eq_true rfl, Nat.le_of_ble_eq_true rfl⟩  (k0_X9_isSpan l D cI cJ m0 a_row a_tape a_number a_read a_readBits a_stands a_parted a_bitsWere a_stood a_chosen a_bestChosen a_often a_sorted a_risen a_risenWays (0 : Int32) (0 : Int32) (0 : Int32) (0 : Int32) (0 : Int32) (0 : Int32) (0 : Int32) (0 : Int32) l9 r9)) (fun r hp => ?_)
  rcases hp with ⟨rfl, rfl, rfl⟩ | ⟨rfl, ha_1⟩
  ·
    refine lv_if_ne (tgt := 16) hx hb dX9_turned_11 (by decide) (fun c11 => ?_) (fun c11 => ?_)
    ·
      refine lv_iconst (v := 0) hx hb dX9_turned_16 (by decide +kernel) ?_
      refine lv_istore_n (lv' := [(3, .int 0), (0, .ref m0), (1, .int 0), (2, .int 0)]) hx hb dX9_turned_17 rfl hl (by decide) rfl (fun ls hl => ?_)
      refine lv_iconst (v := 0) hx hb dX9_turned_18 (by decide +kernel) ?_
      refine lv_istore (lv' := [(4, .int 0), (3, .int 0), (0, .ref m0), (1, .int 0), (2, .int 0)]) hx hb dX9_turned_19 hl (by decide) rfl (fun ls hl => ?_)
      refine lv_iload_n hx hb dX9_turned_21 rfl (lv_at hl 3 rfl) ?_
      refine lv_istore (lv' := [(5, .int 0), (4, .int 0), (3, .int 0), (0, .ref m0), (1, .int 0), (2, .int 0)]) hx hb dX9_turned_22 hl (by decide) rfl (fun ls hl => ?_)
      refine lv_iload hx hb dX9_turned_24 (lv_at hl 0 rfl) ?_
      refine lv_iload_n hx hb dX9_turned_26 rfl (lv_at hl 5 rfl) ?_
      refine lv_icmp_ge (tgt := 112) hx hb dX9_turned_27 (by decide) (fun c27 => ?_) (fun c27 => ?_)
      ·
        refine lv_aload_n hx hb dX9_turned_112 rfl (lv_at hl 3 rfl) ?_
        refine lv_iconst (v := 0) hx hb dX9_turned_113 (by decide +kernel) ?_
        refine va_put (ci := 9) (v := .int 0) (ty := (.int)) (C := RX9) (T := TX9) (N := 24) hx hb hts hi9 tyX9 tyX9_ok nmX9 hown hK hP hD hS 0 rfl rfl 1 (by decide) fl11 (fun _ h9 => h9) rfl (by decide +kernel) rfl rfl (Nat.le_of_ble_eq_true rfl) dX9_turned_114 (fun H locs hP hD hS => ?_)
        have hP : va_P D vwCl [(m0, .inr (9, [.int 0, .int 0, .ref a_row, .ref a_tape, .int 0, .int 0, .int 0, .int 0, .ref a_number, .ref a_read, .int 0, .ref a_readBits, .ref a_stands, .ref a_parted, .ref a_bitsWere, .ref a_stood, .ref a_chosen, .ref a_bestChosen, .int 0, .ref a_often, .ref a_sorted, .int 0, .ref a_risen, .ref a_risenWays])), (a_row, .inl (cJ, 64, .inr (.inl rf)))] H := hP
        have hD : va_D A [(m0, .inr (9, [.int 0, .int 0, .ref a_row, .ref a_tape, .int 0, .int 0, .int 0, .int 0, .ref a_number, .ref a_read, .int 0, .ref a_readBits, .ref a_stands, .ref a_parted, .ref a_bitsWere, .ref a_stood, .ref a_chosen, .ref a_bestChosen, .int 0, .ref a_often, .ref a_sorted, .int 0, .ref a_risen, .ref a_risenWays])), (a_row, .inl (cJ, 64, .inr (.inl rf)))] := hD
        refine lv_aload_n hx hb dX9_turned_117 rfl (lv_at hl 3 rfl) ?_
        refine lv_iload hx hb dX9_turned_118 (lv_at hl 1 rfl) ?_
        refine lv_i2l (v := 0) hx hb dX9_turned_120 (by decide +kernel) ?_
        refine my_goV (wr := []) hP hD hS hA [0, 1] [] rfl rfl (by decide) (by decide) (my_cV (As := [.long 0]) (rest := []) (ci := 9) (wc := [(m0, .inr (9, [.int 0, .int 0, .ref a_row, .ref a_tape, .int 0, .int 0, .int 0, .int 0, .ref a_number, .ref a_read, .int 0, .ref a_readBits, .ref a_stands, .ref a_parted, .ref a_bitsWere, .ref a_stood, .ref a_chosen, .ref a_bestChosen, .int 0, .ref a_often, .ref a_sorted, .int 0, .ref a_risen, .ref a_risenWays])), (a_row, .inl (cJ, 64, .inr (.inl rf)))]) ⟨hx, hb, hml, hown, hts⟩ (cwV 1 hts gX9_turned_X9_enters rfl rfl rfl (by decide +kernel) ⟨Nat.le_of_ble_eq_true rfl, Nat.le_of_ble_eq_true rfl⟩) hN hK hP hD [0, 1] rfl (by decide) rfl 0 rfl rfl rfl rfl hl.1 rfl (Nat.le_of_ble_eq_true rfl) dX9_turned_121 ⟨Nat.le_of_ble_eq_true rfl, Nat.le_of_ble_eq_true rfl⟩  ((k_X9_enters l D cI cJ m0 a_row a_tape a_number a_read a_readBits a_stands a_parted a_bitsWere a_stood a_chosen a_bestChosen a_often a_sorted a_risen a_risenWays (0 : Int32) (0 : Int32) (0 : Int32) (0 : Int32) (0 : Int32) (0 : Int32) (0 : Int32) (0 : Int32) 0 rf (0 : Int64) (by first | omega | decide +kernel)) _)) (fun u H locs hp hP hD hS => ?_)
        obtain ⟨f_2, rfl⟩ := hp
        have hP : va_P D vwCl [(m0, .inr (9, [.int 0, .int 1, .ref a_row, .ref a_tape, .int 0, .int 0, .int 0, .int 0, .ref a_number, .ref a_read, .int 0, .ref a_readBits, .ref a_stands, .ref a_parted, .ref a_bitsWere, .ref a_stood, .ref a_chosen, .ref a_bestChosen, .int 0, .ref a_often, .ref a_sorted, .int 0, .ref a_risen, .ref a_risenWays])), (a_row, .inl (cJ, 64, .inr (.inl f_2)))] H := hP
        have hD : va_D A [(m0, .inr (9, [.int 0, .int 1, .ref a_row, .ref a_tape, .int 0, .int 0, .int 0, .int 0, .ref a_number, .ref a_read, .int 0, .ref a_readBits, .ref a_stands, .ref a_parted, .ref a_bitsWere, .ref a_stood, .ref a_chosen, .ref a_bestChosen, .int 0, .ref a_often, .ref a_sorted, .int 0, .ref a_risen, .ref a_risenWays])), (a_row, .inl (cJ, 64, .inr (.inl f_2)))] := hD
        refine lv_iload_n hx hb dX9_turned_124 rfl (lv_at hl 2 rfl) ?_
        exact my_retI hx hb hr hlocks hK hS [] (hP.sub [] rfl) (hD.sub [] (by decide) rfl) (Or.inl ⟨rfl, rfl, (by first | omega | assumption | trivial | decide +kernel), (by first | omega | assumption | trivial | decide +kernel)⟩) dX9_turned_125
      ·
        exact absurd c27 (by decide +kernel)
    ·
      exact absurd c11 (by decide +kernel)
  ·
    refine lv_if_ne (tgt := 16) hx hb dX9_turned_11 (by decide) (fun c11 => ?_) (fun c11 => ?_)
    ·
      exact absurd c11 (by decide +kernel)
    ·
      refine lv_iconst (v := (-1)) hx hb dX9_turned_14 (by decide +kernel) ?_
      exact my_retI hx hb hr hlocks hK hS [] (hP.sub [] rfl) (hD.sub [] (by decide) rfl) (Or.inr (⟨rfl, rfl, (by first | omega | assumption | trivial | decide +kernel)⟩)) dX9_turned_15
set_option maxHeartbeats 4000000 in
set_option maxRecDepth 100000 in
theorem k0_X9_rises (l : Launch) (D : va_G) (cI cJ : ClassId) (m0 : Nat) (a_row : Nat) (a_tape : Nat) (a_number : Nat) (a_read : Nat) (a_readBits : Nat) (a_stands : Nat) (a_parted : Nat) (a_bitsWere : Nat) (a_stood : Nat) (a_chosen : Nat) (a_bestChosen : Nat) (a_often : Nat) (a_sorted : Nat) (a_risen : Nat) (a_risenWays : Nat) (rf : Nat → Int64) (l9 : Int32) (r9 : Int32) : ctI l yX9_rises wsX9_rises ({ frames := 1, cells := 0, slots := 0, locals := 60 } : Room) D (tyIJ cI cJ) [.ref m0, .int l9, .int r9] [(m0, .inr (9, [.int 0, .int 0, .ref a_row, .ref a_tape, .int 0, .int 0, .int 0, .int 0, .ref a_number, .ref a_read, .int 0, .ref a_readBits, .ref a_stands, .ref a_parted, .ref a_bitsWere, .ref a_stood, .ref a_chosen, .ref a_bestChosen, .int 0, .ref a_often, .ref a_sorted, .int 0, .ref a_risen, .ref a_risenWays])), (a_row, .inl (cJ, 64, .inr (.inl rf)))] (fun (r : Int32) (u : va_W) => (u = [] ∧ r = 0 ∧ l9.toInt = 0 ∧ r9.toInt = 0) ∨ (u = [] ∧ r = (-1) ∧ (l9.toInt < 0 ∨ r9.toInt < l9.toInt ∨ 0 < r9.toInt))) := by
  refine ctI.of (cc := cX9_rises) (maxL := 8) (ret := (some .int)) (by decide) rfl (Nat.le_of_ble_eq_true rfl) ?_
  intro p e s m below meth c ls A hx hb hr hts hown hml hlocks hname hA hK hN hP hD hS hl
  have hl : lv_has ls 8 [(0, .ref m0), (1, .int l9), (2, .int r9)] := hl
  have hown : s.vm.findClass RX9 = some m.cls := hown
  have hi9 : ∀ w ∈ u_ws RX9 TX9 24, w ∈ wsX9_rises := by decide +kernel
  have fl1 := hts (.fieldLink RX9 1 "PlaneColumnModel" "thrown" "I") (by decide +kernel)
  have fl11 := hts (.fieldLink RX9 11 "PlaneColumnModel" "told" "I") (by decide +kernel)
  refine lv_aload_n hx hb dX9_rises_0 rfl (lv_at hl 0 rfl) ?_
  refine lv_iconst (v := 0) hx hb dX9_rises_1 (by decide +kernel) ?_
  refine va_put (ci := 9) (v := .int 0) (ty := (.int)) (C := RX9) (T := TX9) (N := 24) hx hb hts hi9 tyX9 tyX9_ok nmX9 hown hK hP hD hS 0 rfl rfl 0 (by decide) fl1 (fun _ h9 => h9) rfl (by decide +kernel) rfl rfl (Nat.le_of_ble_eq_true rfl) dX9_rises_2 (fun H locs hP hD hS => ?_)
  have hP : va_P D vwCl [(m0, .inr (9, [.int 0, .int 0, .ref a_row, .ref a_tape, .int 0, .int 0, .int 0, .int 0, .ref a_number, .ref a_read, .int 0, .ref a_readBits, .ref a_stands, .ref a_parted, .ref a_bitsWere, .ref a_stood, .ref a_chosen, .ref a_bestChosen, .int 0, .ref a_often, .ref a_sorted, .int 0, .ref a_risen, .ref a_risenWays])), (a_row, .inl (cJ, 64, .inr (.inl rf)))] H := hP
  have hD : va_D A [(m0, .inr (9, [.int 0, .int 0, .ref a_row, .ref a_tape, .int 0, .int 0, .int 0, .int 0, .ref a_number, .ref a_read, .int 0, .ref a_readBits, .ref a_stands, .ref a_parted, .ref a_bitsWere, .ref a_stood, .ref a_chosen, .ref a_bestChosen, .int 0, .ref a_often, .ref a_sorted, .int 0, .ref a_risen, .ref a_risenWays])), (a_row, .inl (cJ, 64, .inr (.inl rf)))] := hD
  refine lv_aload_n hx hb dX9_rises_5 rfl (lv_at hl 0 rfl) ?_
  refine lv_iload_n hx hb dX9_rises_6 rfl (lv_at hl 1 rfl) ?_
  refine lv_iload_n hx hb dX9_rises_7 rfl (lv_at hl 2 rfl) ?_
  refine my_gpI (my_pV (As := [.int l9, .int r9]) (rest := []) (ci := 9) ⟨hx, hb, hml, hown, hts⟩ (cwV 2 hts gX9_rises_X9_isSpan rfl rfl rfl (by decide +kernel) ⟨Nat.le_of_ble_eq_true rfl, Nat.le_of_ble_eq_true rfl⟩) hN hK hP [0] rfl 0 rfl rfl rfl rfl hl.1 rfl (Nat.le_of_ble_eq_true rfl) dX9_rises_8 ⟨Nat.le_of_ble_eq_true rfl, Nat.le_of_ble_eq_true rfl⟩  (k0_X9_isSpan l D cI cJ m0 a_row a_tape a_number a_read a_readBits a_stands a_parted a_bitsWere a_stood a_chosen a_bestChosen a_often a_sorted a_risen a_risenWays (0 : Int32) (0 : Int32) (0 : Int32) (0 : Int32) (0 : Int32) (0 : Int32) (0 : Int32) (0 : Int32) l9 r9)) (fun r hp => ?_)
  rcases hp with ⟨rfl, rfl, rfl⟩ | ⟨rfl, ha_1⟩
  ·
    refine lv_if_ne (tgt := 16) hx hb dX9_rises_11 (by decide) (fun c11 => ?_) (fun c11 => ?_)
    ·
      refine lv_iconst (v := 0) hx hb dX9_rises_16 (by decide +kernel) ?_
      refine lv_istore_n (lv' := [(3, .int 0), (0, .ref m0), (1, .int 0), (2, .int 0)]) hx hb dX9_rises_17 rfl hl (by decide) rfl (fun ls hl => ?_)
      refine lv_iload_n hx hb dX9_rises_18 rfl (lv_at hl 2 rfl) ?_
      refine lv_istore (lv' := [(4, .int 0), (3, .int 0), (0, .ref m0), (1, .int 0), (2, .int 0)]) hx hb dX9_rises_19 hl (by decide) rfl (fun ls hl => ?_)
      refine lv_iload hx hb dX9_rises_21 (lv_at hl 0 rfl) ?_
      refine lv_iload_n hx hb dX9_rises_23 rfl (lv_at hl 4 rfl) ?_
      refine lv_icmp_ge (tgt := 191) hx hb dX9_rises_24 (by decide) (fun c24 => ?_) (fun c24 => ?_)
      ·
        refine lv_iconst (v := (-1)) hx hb dX9_rises_191 (by decide +kernel) ?_
        refine lv_istore (lv' := [(4, .int (-1)), (3, .int 0), (0, .ref m0), (1, .int 0), (2, .int 0)]) hx hb dX9_rises_192 hl (by decide) rfl (fun ls hl => ?_)
        refine lv_lconst (v := 0) hx hb dX9_rises_194 (by decide +kernel) ?_
        refine lv_lstore (lv' := [(5, .long 0), (4, .int (-1)), (3, .int 0), (0, .ref m0), (1, .int 0), (2, .int 0)]) hx hb dX9_rises_195 hl (by decide) rfl (fun ls hl => ?_)
        refine lv_iload_n hx hb dX9_rises_197 rfl (lv_at hl 4 rfl) ?_
        refine lv_istore (lv' := [(7, .int 0), (5, .long 0), (4, .int (-1)), (3, .int 0), (0, .ref m0), (1, .int 0), (2, .int 0)]) hx hb dX9_rises_198 hl (by decide) rfl (fun ls hl => ?_)
        refine lv_iload hx hb dX9_rises_200 (lv_at hl 0 rfl) ?_
        refine lv_iload_n hx hb dX9_rises_202 rfl (lv_at hl 6 rfl) ?_
        refine lv_icmp_ge (tgt := 272) hx hb dX9_rises_203 (by decide) (fun c203 => ?_) (fun c203 => ?_)
        ·
          refine lv_aload_n hx hb dX9_rises_272 rfl (lv_at hl 4 rfl) ?_
          refine lv_iconst (v := 0) hx hb dX9_rises_273 (by decide +kernel) ?_
          refine va_put (ci := 9) (v := .int 0) (ty := (.int)) (C := RX9) (T := TX9) (N := 24) hx hb hts hi9 tyX9 tyX9_ok nmX9 hown hK hP hD hS 0 rfl rfl 1 (by decide) fl11 (fun _ h9 => h9) rfl (by decide +kernel) rfl rfl (Nat.le_of_ble_eq_true rfl) dX9_rises_274 (fun H locs hP hD hS => ?_)
          have hP : va_P D vwCl [(m0, .inr (9, [.int 0, .int 0, .ref a_row, .ref a_tape, .int 0, .int 0, .int 0, .int 0, .ref a_number, .ref a_read, .int 0, .ref a_readBits, .ref a_stands, .ref a_parted, .ref a_bitsWere, .ref a_stood, .ref a_chosen, .ref a_bestChosen, .int 0, .ref a_often, .ref a_sorted, .int 0, .ref a_risen, .ref a_risenWays])), (a_row, .inl (cJ, 64, .inr (.inl rf)))] H := hP
          have hD : va_D A [(m0, .inr (9, [.int 0, .int 0, .ref a_row, .ref a_tape, .int 0, .int 0, .int 0, .int 0, .ref a_number, .ref a_read, .int 0, .ref a_readBits, .ref a_stands, .ref a_parted, .ref a_bitsWere, .ref a_stood, .ref a_chosen, .ref a_bestChosen, .int 0, .ref a_often, .ref a_sorted, .int 0, .ref a_risen, .ref a_risenWays])), (a_row, .inl (cJ, 64, .inr (.inl rf)))] := hD
          refine lv_aload_n hx hb dX9_rises_277 rfl (lv_at hl 4 rfl) ?_
          refine lv_iload hx hb dX9_rises_278 (lv_at hl 2 rfl) ?_
          refine lv_i2l (v := (-1)) hx hb dX9_rises_280 (by decide +kernel) ?_
          refine my_goV (wr := []) hP hD hS hA [0, 1] [] rfl rfl (by decide) (by decide) (my_cV (As := [.long (-1)]) (rest := []) (ci := 9) (wc := [(m0, .inr (9, [.int 0, .int 0, .ref a_row, .ref a_tape, .int 0, .int 0, .int 0, .int 0, .ref a_number, .ref a_read, .int 0, .ref a_readBits, .ref a_stands, .ref a_parted, .ref a_bitsWere, .ref a_stood, .ref a_chosen, .ref a_bestChosen, .int 0, .ref a_often, .ref a_sorted, .int 0, .ref a_risen, .ref a_risenWays])), (a_row, .inl (cJ, 64, .inr (.inl rf)))]) ⟨hx, hb, hml, hown, hts⟩ (cwV 1 hts gX9_rises_X9_enters rfl rfl rfl (by decide +kernel) ⟨Nat.le_of_ble_eq_true rfl, Nat.le_of_ble_eq_true rfl⟩) hN hK hP hD [0, 1] rfl (by decide) rfl 0 rfl rfl rfl rfl hl.1 rfl (Nat.le_of_ble_eq_true rfl) dX9_rises_281 ⟨Nat.le_of_ble_eq_true rfl, Nat.le_of_ble_eq_true rfl⟩  ((k_X9_enters l D cI cJ m0 a_row a_tape a_number a_read a_readBits a_stands a_parted a_bitsWere a_stood a_chosen a_bestChosen a_often a_sorted a_risen a_risenWays (0 : Int32) (0 : Int32) (0 : Int32) (0 : Int32) (0 : Int32) (0 : Int32) (0 : Int32) (0 : Int32) 0 rf (-1 : Int64) (by first | omega | decide +kernel)) _)) (fun u H locs hp hP hD hS => ?_)
          obtain ⟨f_2, rfl⟩ := hp
          have hP : va_P D vwCl [(m0, .inr (9, [.int 0, .int 1, .ref a_row, .ref a_tape, .int 0, .int 0, .int 0, .int 0, .ref a_number, .ref a_read, .int 0, .ref a_readBits, .ref a_stands, .ref a_parted, .ref a_bitsWere, .ref a_stood, .ref a_chosen, .ref a_bestChosen, .int 0, .ref a_often, .ref a_sorted, .int 0, .ref a_risen, .ref a_risenWays])), (a_row, .inl (cJ, 64, .inr (.inl f_2)))] H := hP
          have hD : va_D A [(m0, .inr (9, [.int 0, .int 1, .ref a_row, .ref a_tape, .int 0, .int 0, .int 0, .int 0, .ref a_number, .ref a_read, .int 0, .ref a_readBits, .ref a_stands, .ref a_parted, .ref a_bitsWere, .ref a_stood, .ref a_chosen, .ref a_bestChosen, .int 0, .ref a_often, .ref a_sorted, .int 0, .ref a_risen, .ref a_risenWays])), (a_row, .inl (cJ, 64, .inr (.inl f_2)))] := hD
          refine lv_aload_n hx hb dX9_rises_284 rfl (lv_at hl 4 rfl) ?_
          refine lv_lload hx hb dX9_rises_285 (lv_at hl 1 rfl) ?_
          refine my_goV (wr := []) hP hD hS hA [0, 1] [] rfl rfl (by decide) (by decide) (my_cV (As := [.long 0]) (rest := []) (ci := 9) (wc := [(m0, .inr (9, [.int 0, .int 1, .ref a_row, .ref a_tape, .int 0, .int 0, .int 0, .int 0, .ref a_number, .ref a_read, .int 0, .ref a_readBits, .ref a_stands, .ref a_parted, .ref a_bitsWere, .ref a_stood, .ref a_chosen, .ref a_bestChosen, .int 0, .ref a_often, .ref a_sorted, .int 0, .ref a_risen, .ref a_risenWays])), (a_row, .inl (cJ, 64, .inr (.inl f_2)))]) ⟨hx, hb, hml, hown, hts⟩ (cwV 1 hts gX9_rises_X9_enters rfl rfl rfl (by decide +kernel) ⟨Nat.le_of_ble_eq_true rfl, Nat.le_of_ble_eq_true rfl⟩) hN hK hP hD [0, 1] rfl (by decide) rfl 0 rfl rfl rfl rfl hl.1 rfl (Nat.le_of_ble_eq_true rfl) dX9_rises_287 ⟨Nat.le_of_ble_eq_true rfl, Nat.le_of_ble_eq_true rfl⟩  ((k_X9_enters l D cI cJ m0 a_row a_tape a_number a_read a_readBits a_stands a_parted a_bitsWere a_stood a_chosen a_bestChosen a_often a_sorted a_risen a_risenWays (0 : Int32) (0 : Int32) (0 : Int32) (0 : Int32) (0 : Int32) (0 : Int32) (0 : Int32) (0 : Int32) 1 f_2 (0 : Int64) (by first | omega | decide +kernel)) _)) (fun u H locs hp hP hD hS => ?_)
          obtain ⟨f_3, rfl⟩ := hp
          have hP : va_P D vwCl [(m0, .inr (9, [.int 0, .int 2, .ref a_row, .ref a_tape, .int 0, .int 0, .int 0, .int 0, .ref a_number, .ref a_read, .int 0, .ref a_readBits, .ref a_stands, .ref a_parted, .ref a_bitsWere, .ref a_stood, .ref a_chosen, .ref a_bestChosen, .int 0, .ref a_often, .ref a_sorted, .int 0, .ref a_risen, .ref a_risenWays])), (a_row, .inl (cJ, 64, .inr (.inl f_3)))] H := hP
          have hD : va_D A [(m0, .inr (9, [.int 0, .int 2, .ref a_row, .ref a_tape, .int 0, .int 0, .int 0, .int 0, .ref a_number, .ref a_read, .int 0, .ref a_readBits, .ref a_stands, .ref a_parted, .ref a_bitsWere, .ref a_stood, .ref a_chosen, .ref a_bestChosen, .int 0, .ref a_often, .ref a_sorted, .int 0, .ref a_risen, .ref a_risenWays])), (a_row, .inl (cJ, 64, .inr (.inl f_3)))] := hD
          refine lv_iload_n hx hb dX9_rises_290 rfl (lv_at hl 3 rfl) ?_
          exact my_retI hx hb hr hlocks hK hS [] (hP.sub [] rfl) (hD.sub [] (by decide) rfl) (Or.inl ⟨rfl, rfl, (by first | omega | assumption | trivial | decide +kernel), (by first | omega | assumption | trivial | decide +kernel)⟩) dX9_rises_291
        ·
          exact absurd c203 (by decide +kernel)
      ·
        exact absurd c24 (by decide +kernel)
    ·
      exact absurd c11 (by decide +kernel)
  ·
    refine lv_if_ne (tgt := 16) hx hb dX9_rises_11 (by decide) (fun c11 => ?_) (fun c11 => ?_)
    ·
      exact absurd c11 (by decide +kernel)
    ·
      refine lv_iconst (v := (-1)) hx hb dX9_rises_14 (by decide +kernel) ?_
      exact my_retI hx hb hr hlocks hK hS [] (hP.sub [] rfl) (hD.sub [] (by decide) rfl) (Or.inr (⟨rfl, rfl, (by first | omega | assumption | trivial | decide +kernel)⟩)) dX9_rises_15
set_option maxHeartbeats 4000000 in
set_option maxRecDepth 100000 in
theorem k0_X9_marks (l : Launch) (D : va_G) (cI cJ : ClassId) (m0 : Nat) (a_row : Nat) (a_tape : Nat) (a_number : Nat) (a_read : Nat) (a_readBits : Nat) (a_stands : Nat) (a_parted : Nat) (a_bitsWere : Nat) (a_stood : Nat) (a_chosen : Nat) (a_bestChosen : Nat) (a_often : Nat) (a_sorted : Nat) (a_risen : Nat) (a_risenWays : Nat) (rf : Nat → Int64) (l9 : Int32) (r9 : Int32) (v9 : Int32) : ctI l yX9_marks wsX9_marks ({ frames := 2, cells := 0, slots := 0, locals := 120 } : Room) D (tyIJ cI cJ) [.ref m0, .int l9, .int r9, .int v9] [(m0, .inr (9, [.int 0, .int 0, .ref a_row, .ref a_tape, .int 0, .int 0, .int 0, .int 0, .ref a_number, .ref a_read, .int 0, .ref a_readBits, .ref a_stands, .ref a_parted, .ref a_bitsWere, .ref a_stood, .ref a_chosen, .ref a_bestChosen, .int 0, .ref a_often, .ref a_sorted, .int 0, .ref a_risen, .ref a_risenWays])), (a_row, .inl (cJ, 64, .inr (.inl rf)))] (fun (r : Int32) (u : va_W) => (u = [] ∧ r = 0 ∧ l9.toInt = 0 ∧ r9.toInt = 0 ∧ 0 ≤ v9.toInt ∧ v9.toInt ≤ 255) ∨ (u = [] ∧ r = (-1) ∧ (l9.toInt < 0 ∨ r9.toInt < l9.toInt ∨ 0 < r9.toInt ∨ v9.toInt < 0 ∨ 255 < v9.toInt))) := by
  refine ctI.of (cc := cX9_marks) (maxL := 6) (ret := (some .int)) (by decide) rfl (Nat.le_of_ble_eq_true rfl) ?_
  intro p e s m below meth c ls A hx hb hr hts hown hml hlocks hname hA hK hN hP hD hS hl
  have hl : lv_has ls 6 [(0, .ref m0), (1, .int l9), (2, .int r9), (3, .int v9)] := hl
  have hown : s.vm.findClass RX9 = some m.cls := hown
  have hi9 : ∀ w ∈ u_ws RX9 TX9 24, w ∈ wsX9_marks := by decide +kernel
  have fl1 := hts (.fieldLink RX9 1 "PlaneColumnModel" "thrown" "I") (by decide +kernel)
  have fl11 := hts (.fieldLink RX9 11 "PlaneColumnModel" "told" "I") (by decide +kernel)
  refine lv_aload_n hx hb dX9_marks_0 rfl (lv_at hl 0 rfl) ?_
  refine lv_iconst (v := 0) hx hb dX9_marks_1 (by decide +kernel) ?_
  refine va_put (ci := 9) (v := .int 0) (ty := (.int)) (C := RX9) (T := TX9) (N := 24) hx hb hts hi9 tyX9 tyX9_ok nmX9 hown hK hP hD hS 0 rfl rfl 0 (by decide) fl1 (fun _ h9 => h9) rfl (by decide +kernel) rfl rfl (Nat.le_of_ble_eq_true rfl) dX9_marks_2 (fun H locs hP hD hS => ?_)
  have hP : va_P D vwCl [(m0, .inr (9, [.int 0, .int 0, .ref a_row, .ref a_tape, .int 0, .int 0, .int 0, .int 0, .ref a_number, .ref a_read, .int 0, .ref a_readBits, .ref a_stands, .ref a_parted, .ref a_bitsWere, .ref a_stood, .ref a_chosen, .ref a_bestChosen, .int 0, .ref a_often, .ref a_sorted, .int 0, .ref a_risen, .ref a_risenWays])), (a_row, .inl (cJ, 64, .inr (.inl rf)))] H := hP
  have hD : va_D A [(m0, .inr (9, [.int 0, .int 0, .ref a_row, .ref a_tape, .int 0, .int 0, .int 0, .int 0, .ref a_number, .ref a_read, .int 0, .ref a_readBits, .ref a_stands, .ref a_parted, .ref a_bitsWere, .ref a_stood, .ref a_chosen, .ref a_bestChosen, .int 0, .ref a_often, .ref a_sorted, .int 0, .ref a_risen, .ref a_risenWays])), (a_row, .inl (cJ, 64, .inr (.inl rf)))] := hD
  refine lv_aload_n hx hb dX9_marks_5 rfl (lv_at hl 0 rfl) ?_
  refine lv_iload_n hx hb dX9_marks_6 rfl (lv_at hl 1 rfl) ?_
  refine lv_iload_n hx hb dX9_marks_7 rfl (lv_at hl 2 rfl) ?_
  refine my_gpI (my_pV (As := [.int l9, .int r9]) (rest := []) (ci := 9) ⟨hx, hb, hml, hown, hts⟩ (cwV 2 hts gX9_marks_X9_isSpan rfl rfl rfl (by decide +kernel) ⟨Nat.le_of_ble_eq_true rfl, Nat.le_of_ble_eq_true rfl⟩) hN hK hP [0] rfl 0 rfl rfl rfl rfl hl.1 rfl (Nat.le_of_ble_eq_true rfl) dX9_marks_8 ⟨Nat.le_of_ble_eq_true rfl, Nat.le_of_ble_eq_true rfl⟩  (k0_X9_isSpan l D cI cJ m0 a_row a_tape a_number a_read a_readBits a_stands a_parted a_bitsWere a_stood a_chosen a_bestChosen a_often a_sorted a_risen a_risenWays (0 : Int32) (0 : Int32) (0 : Int32) (0 : Int32) (0 : Int32) (0 : Int32) (0 : Int32) (0 : Int32) l9 r9)) (fun r hp => ?_)
  rcases hp with ⟨rfl, rfl, rfl⟩ | ⟨rfl, ha_1⟩
  ·
    refine lv_if_eq (tgt := 21) hx hb dX9_marks_11 (by decide) (fun c11 => ?_) (fun c11 => ?_)
    ·
      exact absurd c11 (by decide +kernel)
    ·
      refine lv_iload_n hx hb dX9_marks_14 rfl (lv_at hl 3 rfl) ?_
      refine my_gpI (my_pS (As := [.int v9]) (rest := []) ⟨hx, hb, hml, hown, hts⟩ (va_cwS 1 hts gX9_marks_X9_isNumber rfl rfl rfl (by decide +kernel) ⟨Nat.le_of_ble_eq_true rfl, Nat.le_of_ble_eq_true rfl⟩) hN hK hP [] rfl rfl hl.1 rfl (Nat.le_of_ble_eq_true rfl) dX9_marks_15 ⟨Nat.le_of_ble_eq_true rfl, Nat.le_of_ble_eq_true rfl⟩  (k_X9_isNumber l D cI cJ v9)) (fun r hp => ?_)
      rcases hp with ⟨rfl, hgv_2, hlv_3⟩ | ⟨rfl, ho_4⟩
      ·
        refine lv_if_ne (tgt := 23) hx hb dX9_marks_18 (by decide) (fun c18 => ?_) (fun c18 => ?_)
        ·
          refine lv_iconst (v := 0) hx hb dX9_marks_23 (by decide +kernel) ?_
          refine lv_istore (lv' := [(4, .int 0), (0, .ref m0), (1, .int 0), (2, .int 0), (3, .int v9)]) hx hb dX9_marks_24 hl (by decide) rfl (fun ls hl => ?_)
          refine lv_aload_n hx hb dX9_marks_26 rfl (lv_at hl 1 rfl) ?_
          refine lv_iconst (v := 0) hx hb dX9_marks_27 (by decide +kernel) ?_
          refine va_put (ci := 9) (v := .int 0) (ty := (.int)) (C := RX9) (T := TX9) (N := 24) hx hb hts hi9 tyX9 tyX9_ok nmX9 hown hK hP hD hS 0 rfl rfl 1 (by decide) fl11 (fun _ h9 => h9) rfl (by decide +kernel) rfl rfl (Nat.le_of_ble_eq_true rfl) dX9_marks_28 (fun H locs hP hD hS => ?_)
          have hP : va_P D vwCl [(m0, .inr (9, [.int 0, .int 0, .ref a_row, .ref a_tape, .int 0, .int 0, .int 0, .int 0, .ref a_number, .ref a_read, .int 0, .ref a_readBits, .ref a_stands, .ref a_parted, .ref a_bitsWere, .ref a_stood, .ref a_chosen, .ref a_bestChosen, .int 0, .ref a_often, .ref a_sorted, .int 0, .ref a_risen, .ref a_risenWays])), (a_row, .inl (cJ, 64, .inr (.inl rf)))] H := hP
          have hD : va_D A [(m0, .inr (9, [.int 0, .int 0, .ref a_row, .ref a_tape, .int 0, .int 0, .int 0, .int 0, .ref a_number, .ref a_read, .int 0, .ref a_readBits, .ref a_stands, .ref a_parted, .ref a_bitsWere, .ref a_stood, .ref a_chosen, .ref a_bestChosen, .int 0, .ref a_often, .ref a_sorted, .int 0, .ref a_risen, .ref a_risenWays])), (a_row, .inl (cJ, 64, .inr (.inl rf)))] := hD
          refine lv_iload_n hx hb dX9_marks_31 rfl (lv_at hl 2 rfl) ?_
          refine lv_istore (lv' := [(5, .int 0), (4, .int 0), (0, .ref m0), (1, .int 0), (2, .int 0), (3, .int v9)]) hx hb dX9_marks_32 hl (by decide) rfl (fun ls hl => ?_)
          refine lv_iload hx hb dX9_marks_34 (lv_at hl 0 rfl) ?_
          refine lv_iload_n hx hb dX9_marks_36 rfl (lv_at hl 4 rfl) ?_
          refine lv_icmp_ge (tgt := 74) hx hb dX9_marks_37 (by decide) (fun c37 => ?_) (fun c37 => ?_)
          ·
            refine lv_iload hx hb dX9_marks_74 (lv_at hl 1 rfl) ?_
            exact my_retI hx hb hr hlocks hK hS [] (hP.sub [] rfl) (hD.sub [] (by decide) rfl) (Or.inl ⟨rfl, rfl, (by first | omega | assumption | trivial | decide +kernel), (by first | omega | assumption | trivial | decide +kernel), (by first | omega | assumption | trivial | decide +kernel), (by first | omega | assumption | trivial | decide +kernel)⟩) dX9_marks_76
          ·
            exact absurd c37 (by decide +kernel)
        ·
          exact absurd c18 (by decide +kernel)
      ·
        refine lv_if_ne (tgt := 23) hx hb dX9_marks_18 (by decide) (fun c18 => ?_) (fun c18 => ?_)
        ·
          exact absurd c18 (by decide +kernel)
        ·
          refine lv_iconst (v := (-1)) hx hb dX9_marks_21 (by decide +kernel) ?_
          exact my_retI hx hb hr hlocks hK hS [] (hP.sub [] rfl) (hD.sub [] (by decide) rfl) (Or.inr (⟨rfl, rfl, (by first | omega | assumption | trivial | decide +kernel)⟩)) dX9_marks_22
  ·
    refine lv_if_eq (tgt := 21) hx hb dX9_marks_11 (by decide) (fun c11 => ?_) (fun c11 => ?_)
    ·
      refine lv_iconst (v := (-1)) hx hb dX9_marks_21 (by decide +kernel) ?_
      exact my_retI hx hb hr hlocks hK hS [] (hP.sub [] rfl) (hD.sub [] (by decide) rfl) (Or.inr (⟨rfl, rfl, (by first | omega | assumption | trivial | decide +kernel)⟩)) dX9_marks_22
    ·
      exact absurd c11 (by decide +kernel)
