set_option maxHeartbeats 4000000 in
set_option maxRecDepth 100000 in
theorem k0_X9_band (l : Launch) (D : va_G) (cI cJ : ClassId) (m0 : Nat) (a_row : Nat) (a_tape : Nat) (a_number : Nat) (a_read : Nat) (a_readBits : Nat) (a_stands : Nat) (a_parted : Nat) (a_bitsWere : Nat) (a_stood : Nat) (a_chosen : Nat) (a_bestChosen : Nat) (a_often : Nat) (a_sorted : Nat) (a_risen : Nat) (a_risenWays : Nat) (rf : Nat → Int64) (l9 : Int32) (r9 : Int32) (a9 : Int32) (b9 : Int32) : ctI l yX9_band wsX9_band ({ frames := 3, cells := 0, slots := 0, locals := 180 } : Room) D (tyIJ cI cJ) [.ref m0, .int l9, .int r9, .int a9, .int b9] [(m0, .inr (9, [.int 0, .int 0, .ref a_row, .ref a_tape, .int 0, .int 0, .int 0, .int 0, .ref a_number, .ref a_read, .int 0, .ref a_readBits, .ref a_stands, .ref a_parted, .ref a_bitsWere, .ref a_stood, .ref a_chosen, .ref a_bestChosen, .int 0, .ref a_often, .ref a_sorted, .int 0, .ref a_risen, .ref a_risenWays])), (a_often, .inl (cI, 512, .inl (fun _ => (0 : Int32)))), (a_row, .inl (cJ, 64, .inr (.inl rf)))] (fun (r : Int32) (u : va_W) => (u = [] ∧ r = 0 ∧ l9.toInt = 0 ∧ r9.toInt = 0 ∧ 0 ≤ a9.toInt ∧ b9.toInt ≤ 255 ∧ a9.toInt ≤ b9.toInt) ∨ (u = [] ∧ r = (-1) ∧ (l9.toInt < 0 ∨ r9.toInt < l9.toInt ∨ 0 < r9.toInt ∨ a9.toInt < 0 ∨ 255 < a9.toInt ∨ b9.toInt < 0 ∨ 255 < b9.toInt ∨ b9.toInt < a9.toInt))) := by
  refine ctI.of (cc := cX9_band) (maxL := 5) (ret := (some .int)) (by decide) rfl (Nat.le_of_ble_eq_true rfl) ?_
  intro p e s m below meth c ls A hx hb hr hts hown hml hlocks hname hA hK hN hP hD hS hl
  have hl : lv_has ls 5 [(0, .ref m0), (1, .int l9), (2, .int r9), (3, .int a9), (4, .int b9)] := hl
  have hown : s.vm.findClass RX9 = some m.cls := hown
  have hi9 : ∀ w ∈ u_ws RX9 TX9 24, w ∈ wsX9_band := by decide +kernel
  have fl1 := hts (.fieldLink RX9 1 "PlaneColumnModel" "thrown" "I") (by decide +kernel)
  have fl11 := hts (.fieldLink RX9 11 "PlaneColumnModel" "told" "I") (by decide +kernel)
  refine lv_aload_n hx hb dX9_band_0 rfl (lv_at hl 0 rfl) ?_
  refine lv_iconst (v := 0) hx hb dX9_band_1 (by decide +kernel) ?_
  refine va_put (ci := 9) (v := .int 0) (ty := (.int)) (C := RX9) (T := TX9) (N := 24) hx hb hts hi9 tyX9 tyX9_ok nmX9 hown hK hP hD hS 0 rfl rfl 0 (by decide) fl1 (fun _ h9 => h9) rfl (by decide +kernel) rfl rfl (Nat.le_of_ble_eq_true rfl) dX9_band_2 (fun H locs hP hD hS => ?_)
  have hP : va_P D vwCl [(m0, .inr (9, [.int 0, .int 0, .ref a_row, .ref a_tape, .int 0, .int 0, .int 0, .int 0, .ref a_number, .ref a_read, .int 0, .ref a_readBits, .ref a_stands, .ref a_parted, .ref a_bitsWere, .ref a_stood, .ref a_chosen, .ref a_bestChosen, .int 0, .ref a_often, .ref a_sorted, .int 0, .ref a_risen, .ref a_risenWays])), (a_often, .inl (cI, 512, .inl (fun _ => (0 : Int32)))), (a_row, .inl (cJ, 64, .inr (.inl rf)))] H := hP
  have hD : va_D A [(m0, .inr (9, [.int 0, .int 0, .ref a_row, .ref a_tape, .int 0, .int 0, .int 0, .int 0, .ref a_number, .ref a_read, .int 0, .ref a_readBits, .ref a_stands, .ref a_parted, .ref a_bitsWere, .ref a_stood, .ref a_chosen, .ref a_bestChosen, .int 0, .ref a_often, .ref a_sorted, .int 0, .ref a_risen, .ref a_risenWays])), (a_often, .inl (cI, 512, .inl (fun _ => (0 : Int32)))), (a_row, .inl (cJ, 64, .inr (.inl rf)))] := hD
  refine lv_aload_n hx hb dX9_band_5 rfl (lv_at hl 0 rfl) ?_
  refine lv_iload_n hx hb dX9_band_6 rfl (lv_at hl 1 rfl) ?_
  refine lv_iload_n hx hb dX9_band_7 rfl (lv_at hl 2 rfl) ?_
  refine my_gpI (my_pV (As := [.int l9, .int r9]) (rest := []) (ci := 9) ⟨hx, hb, hml, hown, hts⟩ (cwV 2 hts gX9_band_X9_isSpan rfl rfl rfl (by decide +kernel) ⟨Nat.le_of_ble_eq_true rfl, Nat.le_of_ble_eq_true rfl⟩) hN hK hP [0] rfl 0 rfl rfl rfl rfl hl.1 rfl (Nat.le_of_ble_eq_true rfl) dX9_band_8 ⟨Nat.le_of_ble_eq_true rfl, Nat.le_of_ble_eq_true rfl⟩  (k0_X9_isSpan l D cI cJ m0 a_row a_tape a_number a_read a_readBits a_stands a_parted a_bitsWere a_stood a_chosen a_bestChosen a_often a_sorted a_risen a_risenWays (0 : Int32) (0 : Int32) (0 : Int32) (0 : Int32) (0 : Int32) (0 : Int32) (0 : Int32) (0 : Int32) l9 r9)) (fun r hp => ?_)
  rcases hp with ⟨rfl, rfl, rfl⟩ | ⟨rfl, ha_1⟩
  ·
    refine lv_if_eq (tgt := 35) hx hb dX9_band_11 (by decide) (fun c11 => ?_) (fun c11 => ?_)
    ·
      exact absurd c11 (by decide +kernel)
    ·
      refine lv_iload_n hx hb dX9_band_14 rfl (lv_at hl 3 rfl) ?_
      refine my_gpI (my_pS (As := [.int a9]) (rest := []) ⟨hx, hb, hml, hown, hts⟩ (va_cwS 1 hts gX9_band_X9_isNumber rfl rfl rfl (by decide +kernel) ⟨Nat.le_of_ble_eq_true rfl, Nat.le_of_ble_eq_true rfl⟩) hN hK hP [] rfl rfl hl.1 rfl (Nat.le_of_ble_eq_true rfl) dX9_band_15 ⟨Nat.le_of_ble_eq_true rfl, Nat.le_of_ble_eq_true rfl⟩  (k_X9_isNumber l D cI cJ a9)) (fun r hp => ?_)
      rcases hp with ⟨rfl, hgv_2, hlv_3⟩ | ⟨rfl, ho_4⟩
      ·
        refine lv_if_eq (tgt := 35) hx hb dX9_band_18 (by decide) (fun c18 => ?_) (fun c18 => ?_)
        ·
          exact absurd c18 (by decide +kernel)
        ·
          refine lv_iload hx hb dX9_band_21 (lv_at hl 4 rfl) ?_
          refine my_gpI (my_pS (As := [.int b9]) (rest := []) ⟨hx, hb, hml, hown, hts⟩ (va_cwS 1 hts gX9_band_X9_isNumber rfl rfl rfl (by decide +kernel) ⟨Nat.le_of_ble_eq_true rfl, Nat.le_of_ble_eq_true rfl⟩) hN hK hP [] rfl rfl hl.1 rfl (Nat.le_of_ble_eq_true rfl) dX9_band_23 ⟨Nat.le_of_ble_eq_true rfl, Nat.le_of_ble_eq_true rfl⟩  (k_X9_isNumber l D cI cJ b9)) (fun r hp => ?_)
          rcases hp with ⟨rfl, hgv_5, hlv_6⟩ | ⟨rfl, ho_7⟩
          ·
            refine lv_if_eq (tgt := 35) hx hb dX9_band_26 (by decide) (fun c26 => ?_) (fun c26 => ?_)
            ·
              exact absurd c26 (by decide +kernel)
            ·
              refine lv_iload_n hx hb dX9_band_29 rfl (lv_at hl 3 rfl) ?_
              refine lv_iload hx hb dX9_band_30 (lv_at hl 4 rfl) ?_
              refine lv_icmp_le (tgt := 37) hx hb dX9_band_32 (by decide) (fun c32 => ?_) (fun c32 => ?_)
              ·
                have d32 : a9.toInt ≤ b9.toInt := my_le c32 rfl rfl
                refine lv_aload_n hx hb dX9_band_37 rfl (lv_at hl 0 rfl) ?_
                refine lv_iconst (v := 0) hx hb dX9_band_38 (by decide +kernel) ?_
                refine lv_iload_n hx hb dX9_band_39 rfl (lv_at hl 1 rfl) ?_
                refine lv_iload_n hx hb dX9_band_40 rfl (lv_at hl 2 rfl) ?_
                refine my_goV (wr := [(a_row, .inl (cJ, 64, .inr (.inl rf)))]) hP hD hS hA [0, 1] [2] rfl rfl (by decide) (by decide) (my_cV (As := [.int 0, .int 0, .int 0]) (rest := []) (ci := 9) (wc := [(m0, .inr (9, [.int 0, .int 0, .ref a_row, .ref a_tape, .int 0, .int 0, .int 0, .int 0, .ref a_number, .ref a_read, .int 0, .ref a_readBits, .ref a_stands, .ref a_parted, .ref a_bitsWere, .ref a_stood, .ref a_chosen, .ref a_bestChosen, .int 0, .ref a_often, .ref a_sorted, .int 0, .ref a_risen, .ref a_risenWays])), (a_often, .inl (cI, 512, .inl (fun _ => (0 : Int32))))]) ⟨hx, hb, hml, hown, hts⟩ (cwV 3 hts gX9_band_X9_counts rfl rfl rfl (by decide +kernel) ⟨Nat.le_of_ble_eq_true rfl, Nat.le_of_ble_eq_true rfl⟩) hN hK hP hD [0, 1] rfl (by decide) rfl 0 rfl rfl rfl rfl hl.1 rfl (Nat.le_of_ble_eq_true rfl) dX9_band_41 ⟨Nat.le_of_ble_eq_true rfl, Nat.le_of_ble_eq_true rfl⟩  ((k0_X9_counts l D cI cJ m0 a_row a_tape a_number a_read a_readBits a_stands a_parted a_bitsWere a_stood a_chosen a_bestChosen a_often a_sorted a_risen a_risenWays (0 : Int32) (0 : Int32) (0 : Int32) (0 : Int32) (0 : Int32) (0 : Int32) (0 : Int32) (0 : Int32) (0 : Int32)) _)) (fun u H locs hp hP hD hS => ?_)
                obtain rfl := hp
                have hP : va_P D vwCl [(a_row, .inl (cJ, 64, .inr (.inl rf))), (m0, .inr (9, [.int 0, .int 0, .ref a_row, .ref a_tape, .int 0, .int 0, .int 0, .int 0, .ref a_number, .ref a_read, .int 0, .ref a_readBits, .ref a_stands, .ref a_parted, .ref a_bitsWere, .ref a_stood, .ref a_chosen, .ref a_bestChosen, .int 0, .ref a_often, .ref a_sorted, .int 0, .ref a_risen, .ref a_risenWays])), (a_often, .inl (cI, 512, .inl (fun _ => (0 : Int32))))] H := hP
                have hD : va_D A [(a_row, .inl (cJ, 64, .inr (.inl rf))), (m0, .inr (9, [.int 0, .int 0, .ref a_row, .ref a_tape, .int 0, .int 0, .int 0, .int 0, .ref a_number, .ref a_read, .int 0, .ref a_readBits, .ref a_stands, .ref a_parted, .ref a_bitsWere, .ref a_stood, .ref a_chosen, .ref a_bestChosen, .int 0, .ref a_often, .ref a_sorted, .int 0, .ref a_risen, .ref a_risenWays])), (a_often, .inl (cI, 512, .inl (fun _ => (0 : Int32))))] := hD
                refine lv_aload_n hx hb dX9_band_44 rfl (lv_at hl 0 rfl) ?_
                refine lv_iconst (v := 0) hx hb dX9_band_45 (by decide +kernel) ?_
                refine va_put (ci := 9) (v := .int 0) (ty := (.int)) (C := RX9) (T := TX9) (N := 24) hx hb hts hi9 tyX9 tyX9_ok nmX9 hown hK hP hD hS 1 rfl rfl 1 (by decide) fl11 (fun _ h9 => h9) rfl (by decide +kernel) rfl rfl (Nat.le_of_ble_eq_true rfl) dX9_band_46 (fun H locs hP hD hS => ?_)
                have hP : va_P D vwCl [(a_row, .inl (cJ, 64, .inr (.inl rf))), (m0, .inr (9, [.int 0, .int 0, .ref a_row, .ref a_tape, .int 0, .int 0, .int 0, .int 0, .ref a_number, .ref a_read, .int 0, .ref a_readBits, .ref a_stands, .ref a_parted, .ref a_bitsWere, .ref a_stood, .ref a_chosen, .ref a_bestChosen, .int 0, .ref a_often, .ref a_sorted, .int 0, .ref a_risen, .ref a_risenWays])), (a_often, .inl (cI, 512, .inl (fun _ => (0 : Int32))))] H := hP
                have hD : va_D A [(a_row, .inl (cJ, 64, .inr (.inl rf))), (m0, .inr (9, [.int 0, .int 0, .ref a_row, .ref a_tape, .int 0, .int 0, .int 0, .int 0, .ref a_number, .ref a_read, .int 0, .ref a_readBits, .ref a_stands, .ref a_parted, .ref a_bitsWere, .ref a_stood, .ref a_chosen, .ref a_bestChosen, .int 0, .ref a_often, .ref a_sorted, .int 0, .ref a_risen, .ref a_risenWays])), (a_often, .inl (cI, 512, .inl (fun _ => (0 : Int32))))] := hD
                refine lv_aload_n hx hb dX9_band_49 rfl (lv_at hl 0 rfl) ?_
                refine lv_aload_n hx hb dX9_band_50 rfl (lv_at hl 0 rfl) ?_
                refine lv_iconst (v := 0) hx hb dX9_band_51 (by decide +kernel) ?_
                refine lv_sipush (v := 256) hx hb dX9_band_52 (by decide +kernel) ?_
                refine lv_iload_n hx hb dX9_band_55 rfl (lv_at hl 3 rfl) ?_
                refine lv_iload hx hb dX9_band_56 (lv_at hl 4 rfl) ?_
                refine my_gpI (my_pV (As := [.int 0, .int 256, .int a9, .int b9]) (rest := [.ref m0]) (ci := 9) ⟨hx, hb, hml, hown, hts⟩ (cwV 4 hts gX9_band_X9_visits rfl rfl rfl (by decide +kernel) ⟨Nat.le_of_ble_eq_true rfl, Nat.le_of_ble_eq_true rfl⟩) hN hK hP [1, 2] rfl 1 rfl rfl rfl rfl hl.1 rfl (Nat.le_of_ble_eq_true rfl) dX9_band_58 ⟨Nat.le_of_ble_eq_true rfl, Nat.le_of_ble_eq_true rfl⟩  (k0_X9_visits l D cI cJ m0 a_row a_tape a_number a_read a_readBits a_stands a_parted a_bitsWere a_stood a_chosen a_bestChosen a_often a_sorted a_risen a_risenWays (0 : Int32) (0 : Int32) (0 : Int32) (0 : Int32) (0 : Int32) (0 : Int32) (0 : Int32) (0 : Int32) (0 : Int32) a9 b9)) (fun r hp => ?_)
                obtain rfl := hp
                refine lv_i2l (v := 0) hx hb dX9_band_61 (by decide +kernel) ?_
                refine my_goV (wr := [(a_often, .inl (cI, 512, .inl (fun _ => (0 : Int32))))]) hP hD hS hA [1, 0] [2] rfl rfl (by decide) (by decide) (my_cV (As := [.long 0]) (rest := []) (ci := 9) (wc := [(m0, .inr (9, [.int 0, .int 0, .ref a_row, .ref a_tape, .int 0, .int 0, .int 0, .int 0, .ref a_number, .ref a_read, .int 0, .ref a_readBits, .ref a_stands, .ref a_parted, .ref a_bitsWere, .ref a_stood, .ref a_chosen, .ref a_bestChosen, .int 0, .ref a_often, .ref a_sorted, .int 0, .ref a_risen, .ref a_risenWays])), (a_row, .inl (cJ, 64, .inr (.inl rf)))]) ⟨hx, hb, hml, hown, hts⟩ (cwV 1 hts gX9_band_X9_enters rfl rfl rfl (by decide +kernel) ⟨Nat.le_of_ble_eq_true rfl, Nat.le_of_ble_eq_true rfl⟩) hN hK hP hD [1, 0] rfl (by decide) rfl 1 rfl rfl rfl rfl hl.1 rfl (Nat.le_of_ble_eq_true rfl) dX9_band_62 ⟨Nat.le_of_ble_eq_true rfl, Nat.le_of_ble_eq_true rfl⟩  ((k_X9_enters l D cI cJ m0 a_row a_tape a_number a_read a_readBits a_stands a_parted a_bitsWere a_stood a_chosen a_bestChosen a_often a_sorted a_risen a_risenWays (0 : Int32) (0 : Int32) (0 : Int32) (0 : Int32) (0 : Int32) (0 : Int32) (0 : Int32) (0 : Int32) 0 rf (0 : Int64) (by first | omega | decide +kernel)) _)) (fun u H locs hp hP hD hS => ?_)
                obtain ⟨f_8, rfl⟩ := hp
                have hP : va_P D vwCl [(a_often, .inl (cI, 512, .inl (fun _ => (0 : Int32)))), (m0, .inr (9, [.int 0, .int 1, .ref a_row, .ref a_tape, .int 0, .int 0, .int 0, .int 0, .ref a_number, .ref a_read, .int 0, .ref a_readBits, .ref a_stands, .ref a_parted, .ref a_bitsWere, .ref a_stood, .ref a_chosen, .ref a_bestChosen, .int 0, .ref a_often, .ref a_sorted, .int 0, .ref a_risen, .ref a_risenWays])), (a_row, .inl (cJ, 64, .inr (.inl f_8)))] H := hP
                have hD : va_D A [(a_often, .inl (cI, 512, .inl (fun _ => (0 : Int32)))), (m0, .inr (9, [.int 0, .int 1, .ref a_row, .ref a_tape, .int 0, .int 0, .int 0, .int 0, .ref a_number, .ref a_read, .int 0, .ref a_readBits, .ref a_stands, .ref a_parted, .ref a_bitsWere, .ref a_stood, .ref a_chosen, .ref a_bestChosen, .int 0, .ref a_often, .ref a_sorted, .int 0, .ref a_risen, .ref a_risenWays])), (a_row, .inl (cJ, 64, .inr (.inl f_8)))] := hD
                refine lv_aload_n hx hb dX9_band_65 rfl (lv_at hl 0 rfl) ?_
                refine lv_iconst (v := 0) hx hb dX9_band_66 (by decide +kernel) ?_
                refine lv_iload_n hx hb dX9_band_67 rfl (lv_at hl 3 rfl) ?_
                refine lv_iload hx hb dX9_band_68 (lv_at hl 4 rfl) ?_
                refine my_gpI (my_pV (As := [.int 0, .int a9, .int b9]) (rest := []) (ci := 9) ⟨hx, hb, hml, hown, hts⟩ (cwV 3 hts gX9_band_X9_within rfl rfl rfl (by decide +kernel) ⟨Nat.le_of_ble_eq_true rfl, Nat.le_of_ble_eq_true rfl⟩) hN hK hP [1, 0] rfl 1 rfl rfl rfl rfl hl.1 rfl (Nat.le_of_ble_eq_true rfl) dX9_band_70 ⟨Nat.le_of_ble_eq_true rfl, Nat.le_of_ble_eq_true rfl⟩  (k0_X9_within l D cI cJ m0 a_row a_tape a_number a_read a_readBits a_stands a_parted a_bitsWere a_stood a_chosen a_bestChosen a_often a_sorted a_risen a_risenWays (0 : Int32) (1 : Int32) (0 : Int32) (0 : Int32) (0 : Int32) (0 : Int32) (0 : Int32) (0 : Int32) (0 : Int32) a9 b9)) (fun r hp => ?_)
                obtain rfl := hp
                exact my_retI hx hb hr hlocks hK hS [] (hP.sub [] rfl) (hD.sub [] (by decide) rfl) (Or.inl ⟨rfl, rfl, (by first | omega | assumption | trivial | decide +kernel), (by first | omega | assumption | trivial | decide +kernel), (by first | omega | assumption | trivial | decide +kernel), (by first | omega | assumption | trivial | decide +kernel), (by first | omega | assumption | trivial | decide +kernel)⟩) dX9_band_73
              ·
                have d32 : a9.toInt > b9.toInt := my_nle c32 rfl rfl
                refine lv_iconst (v := (-1)) hx hb dX9_band_35 (by decide +kernel) ?_
                exact my_retI hx hb hr hlocks hK hS [] (hP.sub [] rfl) (hD.sub [] (by decide) rfl) (Or.inr (⟨rfl, rfl, (by first | omega | assumption | trivial | decide +kernel)⟩)) dX9_band_36
          ·
            refine lv_if_eq (tgt := 35) hx hb dX9_band_26 (by decide) (fun c26 => ?_) (fun c26 => ?_)
            ·
              refine lv_iconst (v := (-1)) hx hb dX9_band_35 (by decide +kernel) ?_
              exact my_retI hx hb hr hlocks hK hS [] (hP.sub [] rfl) (hD.sub [] (by decide) rfl) (Or.inr (⟨rfl, rfl, (by first | omega | assumption | trivial | decide +kernel)⟩)) dX9_band_36
            ·
              exact absurd c26 (by decide +kernel)
      ·
        refine lv_if_eq (tgt := 35) hx hb dX9_band_18 (by decide) (fun c18 => ?_) (fun c18 => ?_)
        ·
          refine lv_iconst (v := (-1)) hx hb dX9_band_35 (by decide +kernel) ?_
          exact my_retI hx hb hr hlocks hK hS [] (hP.sub [] rfl) (hD.sub [] (by decide) rfl) (Or.inr (⟨rfl, rfl, (by first | omega | assumption | trivial | decide +kernel)⟩)) dX9_band_36
        ·
          exact absurd c18 (by decide +kernel)
  ·
    refine lv_if_eq (tgt := 35) hx hb dX9_band_11 (by decide) (fun c11 => ?_) (fun c11 => ?_)
    ·
      refine lv_iconst (v := (-1)) hx hb dX9_band_35 (by decide +kernel) ?_
      exact my_retI hx hb hr hlocks hK hS [] (hP.sub [] rfl) (hD.sub [] (by decide) rfl) (Or.inr (⟨rfl, rfl, (by first | omega | assumption | trivial | decide +kernel)⟩)) dX9_band_36
    ·
      exact absurd c11 (by decide +kernel)
set_option maxHeartbeats 4000000 in
set_option maxRecDepth 100000 in
theorem k0_X9_below (l : Launch) (D : va_G) (cI cJ : ClassId) (m0 : Nat) (a_row : Nat) (a_tape : Nat) (a_number : Nat) (a_read : Nat) (a_readBits : Nat) (a_stands : Nat) (a_parted : Nat) (a_bitsWere : Nat) (a_stood : Nat) (a_chosen : Nat) (a_bestChosen : Nat) (a_often : Nat) (a_sorted : Nat) (a_risen : Nat) (a_risenWays : Nat) (rf : Nat → Int64) (l9 : Int32) (r9 : Int32) (v9 : Int32) : ctI l yX9_below wsX9_below ({ frames := 1, cells := 0, slots := 0, locals := 60 } : Room) D (tyIJ cI cJ) [.ref m0, .int l9, .int r9, .int v9] [(m0, .inr (9, [.int 0, .int 0, .ref a_row, .ref a_tape, .int 0, .int 0, .int 0, .int 0, .ref a_number, .ref a_read, .int 0, .ref a_readBits, .ref a_stands, .ref a_parted, .ref a_bitsWere, .ref a_stood, .ref a_chosen, .ref a_bestChosen, .int 0, .ref a_often, .ref a_sorted, .int 0, .ref a_risen, .ref a_risenWays])), (a_often, .inl (cI, 512, .inl (fun _ => (0 : Int32)))), (a_row, .inl (cJ, 64, .inr (.inl rf)))] (fun (r : Int32) (u : va_W) => (u = [] ∧ r = (-2) ∧ l9.toInt = 0 ∧ r9.toInt = 0 ∧ 1 ≤ v9.toInt ∧ v9.toInt ≤ 256) ∨ (u = [] ∧ r = (-1) ∧ (l9.toInt < 0 ∨ r9.toInt < l9.toInt ∨ 0 < r9.toInt ∨ v9.toInt < 1 ∨ 256 < v9.toInt))) := by
  refine ctI.of (cc := cX9_below) (maxL := 5) (ret := (some .int)) (by decide) rfl (Nat.le_of_ble_eq_true rfl) ?_
  intro p e s m below meth c ls A hx hb hr hts hown hml hlocks hname hA hK hN hP hD hS hl
  have hl : lv_has ls 5 [(0, .ref m0), (1, .int l9), (2, .int r9), (3, .int v9)] := hl
  have hown : s.vm.findClass RX9 = some m.cls := hown
  have hi9 : ∀ w ∈ u_ws RX9 TX9 24, w ∈ wsX9_below := by decide +kernel
  have fl1 := hts (.fieldLink RX9 1 "PlaneColumnModel" "thrown" "I") (by decide +kernel)
  refine lv_aload_n hx hb dX9_below_0 rfl (lv_at hl 0 rfl) ?_
  refine lv_iconst (v := 0) hx hb dX9_below_1 (by decide +kernel) ?_
  refine va_put (ci := 9) (v := .int 0) (ty := (.int)) (C := RX9) (T := TX9) (N := 24) hx hb hts hi9 tyX9 tyX9_ok nmX9 hown hK hP hD hS 0 rfl rfl 0 (by decide) fl1 (fun _ h9 => h9) rfl (by decide +kernel) rfl rfl (Nat.le_of_ble_eq_true rfl) dX9_below_2 (fun H locs hP hD hS => ?_)
  have hP : va_P D vwCl [(m0, .inr (9, [.int 0, .int 0, .ref a_row, .ref a_tape, .int 0, .int 0, .int 0, .int 0, .ref a_number, .ref a_read, .int 0, .ref a_readBits, .ref a_stands, .ref a_parted, .ref a_bitsWere, .ref a_stood, .ref a_chosen, .ref a_bestChosen, .int 0, .ref a_often, .ref a_sorted, .int 0, .ref a_risen, .ref a_risenWays])), (a_often, .inl (cI, 512, .inl (fun _ => (0 : Int32)))), (a_row, .inl (cJ, 64, .inr (.inl rf)))] H := hP
  have hD : va_D A [(m0, .inr (9, [.int 0, .int 0, .ref a_row, .ref a_tape, .int 0, .int 0, .int 0, .int 0, .ref a_number, .ref a_read, .int 0, .ref a_readBits, .ref a_stands, .ref a_parted, .ref a_bitsWere, .ref a_stood, .ref a_chosen, .ref a_bestChosen, .int 0, .ref a_often, .ref a_sorted, .int 0, .ref a_risen, .ref a_risenWays])), (a_often, .inl (cI, 512, .inl (fun _ => (0 : Int32)))), (a_row, .inl (cJ, 64, .inr (.inl rf)))] := hD
  refine lv_aload_n hx hb dX9_below_5 rfl (lv_at hl 0 rfl) ?_
  refine lv_iload_n hx hb dX9_below_6 rfl (lv_at hl 1 rfl) ?_
  refine lv_iload_n hx hb dX9_below_7 rfl (lv_at hl 2 rfl) ?_
  refine my_gpI (my_pV (As := [.int l9, .int r9]) (rest := []) (ci := 9) ⟨hx, hb, hml, hown, hts⟩ (cwV 2 hts gX9_below_X9_isSpan rfl rfl rfl (by decide +kernel) ⟨Nat.le_of_ble_eq_true rfl, Nat.le_of_ble_eq_true rfl⟩) hN hK hP [0] rfl 0 rfl rfl rfl rfl hl.1 rfl (Nat.le_of_ble_eq_true rfl) dX9_below_8 ⟨Nat.le_of_ble_eq_true rfl, Nat.le_of_ble_eq_true rfl⟩  (k0_X9_isSpan l D cI cJ m0 a_row a_tape a_number a_read a_readBits a_stands a_parted a_bitsWere a_stood a_chosen a_bestChosen a_often a_sorted a_risen a_risenWays (0 : Int32) (0 : Int32) (0 : Int32) (0 : Int32) (0 : Int32) (0 : Int32) (0 : Int32) (0 : Int32) l9 r9)) (fun r hp => ?_)
  rcases hp with ⟨rfl, rfl, rfl⟩ | ⟨rfl, ha_1⟩
  ·
    refine lv_if_eq (tgt := 26) hx hb dX9_below_11 (by decide) (fun c11 => ?_) (fun c11 => ?_)
    ·
      exact absurd c11 (by decide +kernel)
    ·
      refine lv_iload_n hx hb dX9_below_14 rfl (lv_at hl 3 rfl) ?_
      refine lv_i2l (v := v9.toInt64) hx hb dX9_below_15 rfl ?_
      refine lv_lconst (v := 1) hx hb dX9_below_16 (by decide +kernel) ?_
      refine lv_ldc2 (v := 256) hx hb hown (hts (.constantLong RX9 196 (256)) (by decide +kernel)) dX9_below_17 ?_
      refine my_gpI (my_pS (As := [.long v9.toInt64, .long 1, .long 256]) (rest := []) ⟨hx, hb, hml, hown, hts⟩ (va_cwS 3 hts gX9_below_X9_in rfl rfl rfl (by decide +kernel) ⟨Nat.le_of_ble_eq_true rfl, Nat.le_of_ble_eq_true rfl⟩) hN hK hP [] rfl rfl hl.1 rfl (Nat.le_of_ble_eq_true rfl) dX9_below_20 ⟨Nat.le_of_ble_eq_true rfl, Nat.le_of_ble_eq_true rfl⟩  (k_X9_in l D cI cJ v9.toInt64 (1 : Int64) (256 : Int64) v9.toInt (1 : Int) (256 : Int) (Int32.toInt_toInt64 _) (by decide +kernel) (by decide +kernel))) (fun r hp => ?_)
      rcases hp with ⟨rfl, ha_2, hb_3⟩ | ⟨rfl, ha_4⟩
      ·
        refine lv_if_ne (tgt := 28) hx hb dX9_below_23 (by decide) (fun c23 => ?_) (fun c23 => ?_)
        ·
          refine lv_aload_n hx hb dX9_below_28 rfl (lv_at hl 0 rfl) ?_
          refine lv_iconst (v := 0) hx hb dX9_below_29 (by decide +kernel) ?_
          refine lv_iload_n hx hb dX9_below_30 rfl (lv_at hl 1 rfl) ?_
          refine lv_iload_n hx hb dX9_below_31 rfl (lv_at hl 2 rfl) ?_
          refine my_goV (wr := [(a_row, .inl (cJ, 64, .inr (.inl rf)))]) hP hD hS hA [0, 1] [2] rfl rfl (by decide) (by decide) (my_cV (As := [.int 0, .int 0, .int 0]) (rest := []) (ci := 9) (wc := [(m0, .inr (9, [.int 0, .int 0, .ref a_row, .ref a_tape, .int 0, .int 0, .int 0, .int 0, .ref a_number, .ref a_read, .int 0, .ref a_readBits, .ref a_stands, .ref a_parted, .ref a_bitsWere, .ref a_stood, .ref a_chosen, .ref a_bestChosen, .int 0, .ref a_often, .ref a_sorted, .int 0, .ref a_risen, .ref a_risenWays])), (a_often, .inl (cI, 512, .inl (fun _ => (0 : Int32))))]) ⟨hx, hb, hml, hown, hts⟩ (cwV 3 hts gX9_below_X9_counts rfl rfl rfl (by decide +kernel) ⟨Nat.le_of_ble_eq_true rfl, Nat.le_of_ble_eq_true rfl⟩) hN hK hP hD [0, 1] rfl (by decide) rfl 0 rfl rfl rfl rfl hl.1 rfl (Nat.le_of_ble_eq_true rfl) dX9_below_32 ⟨Nat.le_of_ble_eq_true rfl, Nat.le_of_ble_eq_true rfl⟩  ((k0_X9_counts l D cI cJ m0 a_row a_tape a_number a_read a_readBits a_stands a_parted a_bitsWere a_stood a_chosen a_bestChosen a_often a_sorted a_risen a_risenWays (0 : Int32) (0 : Int32) (0 : Int32) (0 : Int32) (0 : Int32) (0 : Int32) (0 : Int32) (0 : Int32) (0 : Int32)) _)) (fun u H locs hp hP hD hS => ?_)
          obtain rfl := hp
          have hP : va_P D vwCl [(a_row, .inl (cJ, 64, .inr (.inl rf))), (m0, .inr (9, [.int 0, .int 0, .ref a_row, .ref a_tape, .int 0, .int 0, .int 0, .int 0, .ref a_number, .ref a_read, .int 0, .ref a_readBits, .ref a_stands, .ref a_parted, .ref a_bitsWere, .ref a_stood, .ref a_chosen, .ref a_bestChosen, .int 0, .ref a_often, .ref a_sorted, .int 0, .ref a_risen, .ref a_risenWays])), (a_often, .inl (cI, 512, .inl (fun _ => (0 : Int32))))] H := hP
          have hD : va_D A [(a_row, .inl (cJ, 64, .inr (.inl rf))), (m0, .inr (9, [.int 0, .int 0, .ref a_row, .ref a_tape, .int 0, .int 0, .int 0, .int 0, .ref a_number, .ref a_read, .int 0, .ref a_readBits, .ref a_stands, .ref a_parted, .ref a_bitsWere, .ref a_stood, .ref a_chosen, .ref a_bestChosen, .int 0, .ref a_often, .ref a_sorted, .int 0, .ref a_risen, .ref a_risenWays])), (a_often, .inl (cI, 512, .inl (fun _ => (0 : Int32))))] := hD
          refine lv_iload_n hx hb dX9_below_35 rfl (lv_at hl 3 rfl) ?_
          refine lv_iconst (v := 1) hx hb dX9_below_36 (by decide +kernel) ?_
          refine lv_isub hx hb dX9_below_37 ?_
          refine lv_topi (fun z_5 ez_5 => ?_)
          have tz_5 : z_5.toInt = v9.toInt - (1 : Int) := by rw [ez_5]; exact my_subI rfl (by decide +kernel) (by omega) (by omega)
          refine lv_istore (lv' := [(4, .int z_5), (0, .ref m0), (1, .int 0), (2, .int 0), (3, .int v9)]) hx hb dX9_below_38 hl (by decide) rfl (fun ls hl => ?_)
          have loop40 : ∀ (n9 : Nat) (x : Int32), (x.toInt + 1).toNat < n9 → (-1 ≤ x.toInt) → (x.toInt ≤ 255) → ∀ (H : Heap) (locs : List Loc) (ls : Array Slot), va_P D vwCl [(m0, .inr (9, [.int 0, .int 0, .ref a_row, .ref a_tape, .int 0, .int 0, .int 0, .int 0, .ref a_number, .ref a_read, .int 0, .ref a_readBits, .ref a_stands, .ref a_parted, .ref a_bitsWere, .ref a_stood, .ref a_chosen, .ref a_bestChosen, .int 0, .ref a_often, .ref a_sorted, .int 0, .ref a_risen, .ref a_risenWays])), (a_often, .inl (cI, 512, .inl (fun _ => (0 : Int32))))] H → va_D A [(m0, .inr (9, [.int 0, .int 0, .ref a_row, .ref a_tape, .int 0, .int 0, .int 0, .int 0, .ref a_number, .ref a_read, .int 0, .ref a_readBits, .ref a_stands, .ref a_parted, .ref a_bitsWere, .ref a_stood, .ref a_chosen, .ref a_bestChosen, .int 0, .ref a_often, .ref a_sorted, .int 0, .ref a_risen, .ref a_risenWays])), (a_often, .inl (cI, 512, .inl (fun _ => (0 : Int32))))] → va_S A s.heap H locs → lv_has ls 5 [(4, .int x), (0, .ref m0)] → W p l e ({ frames := 1, cells := 0, slots := 0, locals := 60 } : Room) s m [.ref m0, .int (0 : Int32), .int (0 : Int32), .int v9].toArray below meth c H locs 0 0 (MQ below (va_Qi (fun (r : Int32) (u : va_W) => (u = [] ∧ r = (-2) ∧ (0 : Int32).toInt = 0 ∧ (0 : Int32).toInt = 0 ∧ 1 ≤ v9.toInt ∧ v9.toInt ≤ 256) ∨ (u = [] ∧ r = (-1) ∧ ((0 : Int32).toInt < 0 ∨ (0 : Int32).toInt < (0 : Int32).toInt ∨ 0 < (0 : Int32).toInt ∨ v9.toInt < 1 ∨ 256 < v9.toInt))) (my_B D (tyIJ cI cJ) A) A) [.ref m0, .int (0 : Int32), .int (0 : Int32), .int v9].toArray s 0 0 A) (F0 m 40 ls []) := by
            intro n9
            induction n9 with
            | zero =>
              intro x hn9
              exact absurd hn9 (Nat.not_lt_zero _)
            | succ n9 ih40 =>
              intro x hn9 hx0 hx1 H locs ls hP hD hS hl
              refine lv_iload hx hb dX9_below_40 (lv_at hl 0 rfl) ?_
              refine lv_if_lt (tgt := 81) hx hb dX9_below_42 (by decide) (fun c42 => ?_) (fun c42 => ?_)
              ·
                have d42 : x.toInt < (0 : Int) := my_lt c42 rfl (by decide +kernel)
                refine lv_bipush (v := (-2)) hx hb dX9_below_81 (by decide +kernel) ?_
                exact my_retI hx hb hr hlocks hK hS [] (hP.sub [] rfl) (hD.sub [] (by decide) rfl) (Or.inl ⟨rfl, rfl, (by first | omega | assumption | trivial | decide +kernel), (by first | omega | assumption | trivial | decide +kernel), (by first | omega | assumption | trivial | decide +kernel), (by first | omega | assumption | trivial | decide +kernel)⟩) dX9_below_83
              ·
                have d42 : x.toInt ≥ (0 : Int) := my_nlt c42 rfl (by decide +kernel)
                refine lv_aload_n hx hb dX9_below_45 rfl (lv_at hl 1 rfl) ?_
                refine lv_iconst (v := 0) hx hb dX9_below_46 (by decide +kernel) ?_
                refine lv_iload hx hb dX9_below_47 (lv_at hl 0 rfl) ?_
                refine my_gpI (my_pV (As := [.int 0, .int x]) (rest := []) (ci := 9) ⟨hx, hb, hml, hown, hts⟩ (cwV 2 hts gX9_below_X9_times rfl rfl rfl (by decide +kernel) ⟨Nat.le_of_ble_eq_true rfl, Nat.le_of_ble_eq_true rfl⟩) hN hK hP [0, 1] rfl 0 rfl rfl rfl rfl hl.1 rfl (Nat.le_of_ble_eq_true rfl) dX9_below_49 ⟨Nat.le_of_ble_eq_true rfl, Nat.le_of_ble_eq_true rfl⟩  (k0_X9_times l D cI cJ m0 a_row a_tape a_number a_read a_readBits a_stands a_parted a_bitsWere a_stood a_chosen a_bestChosen a_often a_sorted a_risen a_risenWays (0 : Int32) (0 : Int32) (0 : Int32) (0 : Int32) (0 : Int32) (0 : Int32) (0 : Int32) (0 : Int32) (0 : Int32) x (by first | omega | decide +kernel) (by omega))) (fun r hp => ?_)
                obtain rfl := hp
                refine lv_if_le (tgt := 75) hx hb dX9_below_52 (by decide) (fun c52 => ?_) (fun c52 => ?_)
                ·
                  obtain ⟨z_6, ez_6⟩ : ∃ y : Int32, y = x + (-1) := ⟨_, rfl⟩
                  have tz_6 : z_6.toInt = x.toInt + (-1) := by rw [ez_6]; exact my_addI rfl (by decide +kernel) (by omega) (by omega)
                  refine lv_iinc (v := z_6) (lv' := [(4, .int z_6), (0, .ref m0)]) hx hb dX9_below_75 hl (k := 0) rfl (by rw [ez_6]; rfl) (by decide) rfl (fun ls hl => ?_)
                  refine lv_goto (tgt := 40) hx hb dX9_below_78 (by decide) ?_
                  exact ih40  z_6 (by omega) (by omega) (by omega) _ _ ls (hP.sub [0, 1] rfl) (hD.sub [0, 1] (by decide) rfl) hS (lv_sub hl [0, 1] rfl)
                ·
                  exact absurd c52 (by decide +kernel)
          exact loop40 (((z_5.toInt + 1).toNat) + 1) z_5 (Nat.lt_succ_self _) (by first | omega | decide +kernel) (by first | omega | decide +kernel) _ _ ls (hP.sub [1, 2] rfl) (hD.sub [1, 2] (by decide) rfl) hS (lv_sub hl [0, 1] rfl)
        ·
          exact absurd c23 (by decide +kernel)
      ·
        refine lv_if_ne (tgt := 28) hx hb dX9_below_23 (by decide) (fun c23 => ?_) (fun c23 => ?_)
        ·
          exact absurd c23 (by decide +kernel)
        ·
          refine lv_iconst (v := (-1)) hx hb dX9_below_26 (by decide +kernel) ?_
          exact my_retI hx hb hr hlocks hK hS [] (hP.sub [] rfl) (hD.sub [] (by decide) rfl) (Or.inr (⟨rfl, rfl, (by first | omega | assumption | trivial | decide +kernel)⟩)) dX9_below_27
  ·
    refine lv_if_eq (tgt := 26) hx hb dX9_below_11 (by decide) (fun c11 => ?_) (fun c11 => ?_)
    ·
      refine lv_iconst (v := (-1)) hx hb dX9_below_26 (by decide +kernel) ?_
      exact my_retI hx hb hr hlocks hK hS [] (hP.sub [] rfl) (hD.sub [] (by decide) rfl) (Or.inr (⟨rfl, rfl, (by first | omega | assumption | trivial | decide +kernel)⟩)) dX9_below_27
    ·
      exact absurd c11 (by decide +kernel)
set_option maxHeartbeats 4000000 in
set_option maxRecDepth 100000 in
theorem k0_X9_above (l : Launch) (D : va_G) (cI cJ : ClassId) (m0 : Nat) (a_row : Nat) (a_tape : Nat) (a_number : Nat) (a_read : Nat) (a_readBits : Nat) (a_stands : Nat) (a_parted : Nat) (a_bitsWere : Nat) (a_stood : Nat) (a_chosen : Nat) (a_bestChosen : Nat) (a_often : Nat) (a_sorted : Nat) (a_risen : Nat) (a_risenWays : Nat) (rf : Nat → Int64) (l9 : Int32) (r9 : Int32) (v9 : Int32) : ctI l yX9_above wsX9_above ({ frames := 1, cells := 0, slots := 0, locals := 60 } : Room) D (tyIJ cI cJ) [.ref m0, .int l9, .int r9, .int v9] [(m0, .inr (9, [.int 0, .int 0, .ref a_row, .ref a_tape, .int 0, .int 0, .int 0, .int 0, .ref a_number, .ref a_read, .int 0, .ref a_readBits, .ref a_stands, .ref a_parted, .ref a_bitsWere, .ref a_stood, .ref a_chosen, .ref a_bestChosen, .int 0, .ref a_often, .ref a_sorted, .int 0, .ref a_risen, .ref a_risenWays])), (a_often, .inl (cI, 512, .inl (fun _ => (0 : Int32)))), (a_row, .inl (cJ, 64, .inr (.inl rf)))] (fun (r : Int32) (u : va_W) => (u = [] ∧ r = (-2) ∧ l9.toInt = 0 ∧ r9.toInt = 0 ∧ -1 ≤ v9.toInt ∧ v9.toInt ≤ 254) ∨ (u = [] ∧ r = (-1) ∧ (l9.toInt < 0 ∨ r9.toInt < l9.toInt ∨ 0 < r9.toInt ∨ v9.toInt < -1 ∨ 254 < v9.toInt))) := by
  refine ctI.of (cc := cX9_above) (maxL := 5) (ret := (some .int)) (by decide) rfl (Nat.le_of_ble_eq_true rfl) ?_
  intro p e s m below meth c ls A hx hb hr hts hown hml hlocks hname hA hK hN hP hD hS hl
  have hl : lv_has ls 5 [(0, .ref m0), (1, .int l9), (2, .int r9), (3, .int v9)] := hl
  have hown : s.vm.findClass RX9 = some m.cls := hown
  have hi9 : ∀ w ∈ u_ws RX9 TX9 24, w ∈ wsX9_above := by decide +kernel
  have fl1 := hts (.fieldLink RX9 1 "PlaneColumnModel" "thrown" "I") (by decide +kernel)
  refine lv_aload_n hx hb dX9_above_0 rfl (lv_at hl 0 rfl) ?_
  refine lv_iconst (v := 0) hx hb dX9_above_1 (by decide +kernel) ?_
  refine va_put (ci := 9) (v := .int 0) (ty := (.int)) (C := RX9) (T := TX9) (N := 24) hx hb hts hi9 tyX9 tyX9_ok nmX9 hown hK hP hD hS 0 rfl rfl 0 (by decide) fl1 (fun _ h9 => h9) rfl (by decide +kernel) rfl rfl (Nat.le_of_ble_eq_true rfl) dX9_above_2 (fun H locs hP hD hS => ?_)
  have hP : va_P D vwCl [(m0, .inr (9, [.int 0, .int 0, .ref a_row, .ref a_tape, .int 0, .int 0, .int 0, .int 0, .ref a_number, .ref a_read, .int 0, .ref a_readBits, .ref a_stands, .ref a_parted, .ref a_bitsWere, .ref a_stood, .ref a_chosen, .ref a_bestChosen, .int 0, .ref a_often, .ref a_sorted, .int 0, .ref a_risen, .ref a_risenWays])), (a_often, .inl (cI, 512, .inl (fun _ => (0 : Int32)))), (a_row, .inl (cJ, 64, .inr (.inl rf)))] H := hP
  have hD : va_D A [(m0, .inr (9, [.int 0, .int 0, .ref a_row, .ref a_tape, .int 0, .int 0, .int 0, .int 0, .ref a_number, .ref a_read, .int 0, .ref a_readBits, .ref a_stands, .ref a_parted, .ref a_bitsWere, .ref a_stood, .ref a_chosen, .ref a_bestChosen, .int 0, .ref a_often, .ref a_sorted, .int 0, .ref a_risen, .ref a_risenWays])), (a_often, .inl (cI, 512, .inl (fun _ => (0 : Int32)))), (a_row, .inl (cJ, 64, .inr (.inl rf)))] := hD
  refine lv_aload_n hx hb dX9_above_5 rfl (lv_at hl 0 rfl) ?_
  refine lv_iload_n hx hb dX9_above_6 rfl (lv_at hl 1 rfl) ?_
  refine lv_iload_n hx hb dX9_above_7 rfl (lv_at hl 2 rfl) ?_
  refine my_gpI (my_pV (As := [.int l9, .int r9]) (rest := []) (ci := 9) ⟨hx, hb, hml, hown, hts⟩ (cwV 2 hts gX9_above_X9_isSpan rfl rfl rfl (by decide +kernel) ⟨Nat.le_of_ble_eq_true rfl, Nat.le_of_ble_eq_true rfl⟩) hN hK hP [0] rfl 0 rfl rfl rfl rfl hl.1 rfl (Nat.le_of_ble_eq_true rfl) dX9_above_8 ⟨Nat.le_of_ble_eq_true rfl, Nat.le_of_ble_eq_true rfl⟩  (k0_X9_isSpan l D cI cJ m0 a_row a_tape a_number a_read a_readBits a_stands a_parted a_bitsWere a_stood a_chosen a_bestChosen a_often a_sorted a_risen a_risenWays (0 : Int32) (0 : Int32) (0 : Int32) (0 : Int32) (0 : Int32) (0 : Int32) (0 : Int32) (0 : Int32) l9 r9)) (fun r hp => ?_)
  rcases hp with ⟨rfl, rfl, rfl⟩ | ⟨rfl, ha_1⟩
  ·
    refine lv_if_eq (tgt := 28) hx hb dX9_above_11 (by decide) (fun c11 => ?_) (fun c11 => ?_)
    ·
      exact absurd c11 (by decide +kernel)
    ·
      refine lv_iload_n hx hb dX9_above_14 rfl (lv_at hl 3 rfl) ?_
      refine lv_i2l (v := v9.toInt64) hx hb dX9_above_15 rfl ?_
      refine lv_ldc2 (v := (-1)) hx hb hown (hts (.constantLong RX9 198 (-1)) (by decide +kernel)) dX9_above_16 ?_
      refine lv_ldc2 (v := 254) hx hb hown (hts (.constantLong RX9 200 (254)) (by decide +kernel)) dX9_above_19 ?_
      refine my_gpI (my_pS (As := [.long v9.toInt64, .long (-1), .long 254]) (rest := []) ⟨hx, hb, hml, hown, hts⟩ (va_cwS 3 hts gX9_above_X9_in rfl rfl rfl (by decide +kernel) ⟨Nat.le_of_ble_eq_true rfl, Nat.le_of_ble_eq_true rfl⟩) hN hK hP [] rfl rfl hl.1 rfl (Nat.le_of_ble_eq_true rfl) dX9_above_22 ⟨Nat.le_of_ble_eq_true rfl, Nat.le_of_ble_eq_true rfl⟩  (k_X9_in l D cI cJ v9.toInt64 (-1 : Int64) (254 : Int64) v9.toInt (-1 : Int) (254 : Int) (Int32.toInt_toInt64 _) (by decide +kernel) (by decide +kernel))) (fun r hp => ?_)
      rcases hp with ⟨rfl, ha_2, hb_3⟩ | ⟨rfl, ha_4⟩
      ·
        refine lv_if_ne (tgt := 30) hx hb dX9_above_25 (by decide) (fun c25 => ?_) (fun c25 => ?_)
        ·
          refine lv_aload_n hx hb dX9_above_30 rfl (lv_at hl 0 rfl) ?_
          refine lv_iconst (v := 0) hx hb dX9_above_31 (by decide +kernel) ?_
          refine lv_iload_n hx hb dX9_above_32 rfl (lv_at hl 1 rfl) ?_
          refine lv_iload_n hx hb dX9_above_33 rfl (lv_at hl 2 rfl) ?_
          refine my_goV (wr := [(a_row, .inl (cJ, 64, .inr (.inl rf)))]) hP hD hS hA [0, 1] [2] rfl rfl (by decide) (by decide) (my_cV (As := [.int 0, .int 0, .int 0]) (rest := []) (ci := 9) (wc := [(m0, .inr (9, [.int 0, .int 0, .ref a_row, .ref a_tape, .int 0, .int 0, .int 0, .int 0, .ref a_number, .ref a_read, .int 0, .ref a_readBits, .ref a_stands, .ref a_parted, .ref a_bitsWere, .ref a_stood, .ref a_chosen, .ref a_bestChosen, .int 0, .ref a_often, .ref a_sorted, .int 0, .ref a_risen, .ref a_risenWays])), (a_often, .inl (cI, 512, .inl (fun _ => (0 : Int32))))]) ⟨hx, hb, hml, hown, hts⟩ (cwV 3 hts gX9_above_X9_counts rfl rfl rfl (by decide +kernel) ⟨Nat.le_of_ble_eq_true rfl, Nat.le_of_ble_eq_true rfl⟩) hN hK hP hD [0, 1] rfl (by decide) rfl 0 rfl rfl rfl rfl hl.1 rfl (Nat.le_of_ble_eq_true rfl) dX9_above_34 ⟨Nat.le_of_ble_eq_true rfl, Nat.le_of_ble_eq_true rfl⟩  ((k0_X9_counts l D cI cJ m0 a_row a_tape a_number a_read a_readBits a_stands a_parted a_bitsWere a_stood a_chosen a_bestChosen a_often a_sorted a_risen a_risenWays (0 : Int32) (0 : Int32) (0 : Int32) (0 : Int32) (0 : Int32) (0 : Int32) (0 : Int32) (0 : Int32) (0 : Int32)) _)) (fun u H locs hp hP hD hS => ?_)
          obtain rfl := hp
          have hP : va_P D vwCl [(a_row, .inl (cJ, 64, .inr (.inl rf))), (m0, .inr (9, [.int 0, .int 0, .ref a_row, .ref a_tape, .int 0, .int 0, .int 0, .int 0, .ref a_number, .ref a_read, .int 0, .ref a_readBits, .ref a_stands, .ref a_parted, .ref a_bitsWere, .ref a_stood, .ref a_chosen, .ref a_bestChosen, .int 0, .ref a_often, .ref a_sorted, .int 0, .ref a_risen, .ref a_risenWays])), (a_often, .inl (cI, 512, .inl (fun _ => (0 : Int32))))] H := hP
          have hD : va_D A [(a_row, .inl (cJ, 64, .inr (.inl rf))), (m0, .inr (9, [.int 0, .int 0, .ref a_row, .ref a_tape, .int 0, .int 0, .int 0, .int 0, .ref a_number, .ref a_read, .int 0, .ref a_readBits, .ref a_stands, .ref a_parted, .ref a_bitsWere, .ref a_stood, .ref a_chosen, .ref a_bestChosen, .int 0, .ref a_often, .ref a_sorted, .int 0, .ref a_risen, .ref a_risenWays])), (a_often, .inl (cI, 512, .inl (fun _ => (0 : Int32))))] := hD
          refine lv_iload_n hx hb dX9_above_37 rfl (lv_at hl 3 rfl) ?_
          refine lv_iconst (v := 1) hx hb dX9_above_38 (by decide +kernel) ?_
          refine lv_iadd hx hb dX9_above_39 ?_
          refine lv_topi (fun z_5 ez_5 => ?_)
          have tz_5 : z_5.toInt = v9.toInt + (1 : Int) := by rw [ez_5]; exact my_addI rfl (by decide +kernel) (by omega) (by omega)
          refine lv_istore (lv' := [(4, .int z_5), (0, .ref m0), (1, .int 0), (2, .int 0), (3, .int v9)]) hx hb dX9_above_40 hl (by decide) rfl (fun ls hl => ?_)
          have loop42 : ∀ (n9 : Nat) (x : Int32), (256 - x.toInt).toNat < n9 → (0 ≤ x.toInt) → (x.toInt ≤ 256) → ∀ (H : Heap) (locs : List Loc) (ls : Array Slot), va_P D vwCl [(m0, .inr (9, [.int 0, .int 0, .ref a_row, .ref a_tape, .int 0, .int 0, .int 0, .int 0, .ref a_number, .ref a_read, .int 0, .ref a_readBits, .ref a_stands, .ref a_parted, .ref a_bitsWere, .ref a_stood, .ref a_chosen, .ref a_bestChosen, .int 0, .ref a_often, .ref a_sorted, .int 0, .ref a_risen, .ref a_risenWays])), (a_often, .inl (cI, 512, .inl (fun _ => (0 : Int32))))] H → va_D A [(m0, .inr (9, [.int 0, .int 0, .ref a_row, .ref a_tape, .int 0, .int 0, .int 0, .int 0, .ref a_number, .ref a_read, .int 0, .ref a_readBits, .ref a_stands, .ref a_parted, .ref a_bitsWere, .ref a_stood, .ref a_chosen, .ref a_bestChosen, .int 0, .ref a_often, .ref a_sorted, .int 0, .ref a_risen, .ref a_risenWays])), (a_often, .inl (cI, 512, .inl (fun _ => (0 : Int32))))] → va_S A s.heap H locs → lv_has ls 5 [(4, .int x), (0, .ref m0)] → W p l e ({ frames := 1, cells := 0, slots := 0, locals := 60 } : Room) s m [.ref m0, .int (0 : Int32), .int (0 : Int32), .int v9].toArray below meth c H locs 0 0 (MQ below (va_Qi (fun (r : Int32) (u : va_W) => (u = [] ∧ r = (-2) ∧ (0 : Int32).toInt = 0 ∧ (0 : Int32).toInt = 0 ∧ -1 ≤ v9.toInt ∧ v9.toInt ≤ 254) ∨ (u = [] ∧ r = (-1) ∧ ((0 : Int32).toInt < 0 ∨ (0 : Int32).toInt < (0 : Int32).toInt ∨ 0 < (0 : Int32).toInt ∨ v9.toInt < -1 ∨ 254 < v9.toInt))) (my_B D (tyIJ cI cJ) A) A) [.ref m0, .int (0 : Int32), .int (0 : Int32), .int v9].toArray s 0 0 A) (F0 m 42 ls []) := by
            intro n9
            induction n9 with
            | zero =>
              intro x hn9
              exact absurd hn9 (Nat.not_lt_zero _)
            | succ n9 ih42 =>
              intro x hn9 hx0 hx1 H locs ls hP hD hS hl
              refine lv_iload hx hb dX9_above_42 (lv_at hl 0 rfl) ?_
              refine lv_sipush (v := 256) hx hb dX9_above_44 (by decide +kernel) ?_
              refine lv_icmp_ge (tgt := 86) hx hb dX9_above_47 (by decide) (fun c47 => ?_) (fun c47 => ?_)
              ·
                have d47 : x.toInt ≥ (256 : Int) := my_ge c47 rfl (by decide +kernel)
                refine lv_bipush (v := (-2)) hx hb dX9_above_86 (by decide +kernel) ?_
                exact my_retI hx hb hr hlocks hK hS [] (hP.sub [] rfl) (hD.sub [] (by decide) rfl) (Or.inl ⟨rfl, rfl, (by first | omega | assumption | trivial | decide +kernel), (by first | omega | assumption | trivial | decide +kernel), (by first | omega | assumption | trivial | decide +kernel), (by first | omega | assumption | trivial | decide +kernel)⟩) dX9_above_88
              ·
                have d47 : x.toInt < (256 : Int) := my_nge c47 rfl (by decide +kernel)
                refine lv_aload_n hx hb dX9_above_50 rfl (lv_at hl 1 rfl) ?_
                refine lv_iconst (v := 0) hx hb dX9_above_51 (by decide +kernel) ?_
                refine lv_iload hx hb dX9_above_52 (lv_at hl 0 rfl) ?_
                refine my_gpI (my_pV (As := [.int 0, .int x]) (rest := []) (ci := 9) ⟨hx, hb, hml, hown, hts⟩ (cwV 2 hts gX9_above_X9_times rfl rfl rfl (by decide +kernel) ⟨Nat.le_of_ble_eq_true rfl, Nat.le_of_ble_eq_true rfl⟩) hN hK hP [0, 1] rfl 0 rfl rfl rfl rfl hl.1 rfl (Nat.le_of_ble_eq_true rfl) dX9_above_54 ⟨Nat.le_of_ble_eq_true rfl, Nat.le_of_ble_eq_true rfl⟩  (k0_X9_times l D cI cJ m0 a_row a_tape a_number a_read a_readBits a_stands a_parted a_bitsWere a_stood a_chosen a_bestChosen a_often a_sorted a_risen a_risenWays (0 : Int32) (0 : Int32) (0 : Int32) (0 : Int32) (0 : Int32) (0 : Int32) (0 : Int32) (0 : Int32) (0 : Int32) x (by first | omega | decide +kernel) (by first | omega | decide +kernel))) (fun r hp => ?_)
                obtain rfl := hp
                refine lv_if_le (tgt := 80) hx hb dX9_above_57 (by decide) (fun c57 => ?_) (fun c57 => ?_)
                ·
                  obtain ⟨z_6, ez_6⟩ : ∃ y : Int32, y = x + (1) := ⟨_, rfl⟩
                  have tz_6 : z_6.toInt = x.toInt + (1) := by rw [ez_6]; exact my_addI rfl (by decide +kernel) (by omega) (by omega)
                  refine lv_iinc (v := z_6) (lv' := [(4, .int z_6), (0, .ref m0)]) hx hb dX9_above_80 hl (k := 0) rfl (by rw [ez_6]; rfl) (by decide) rfl (fun ls hl => ?_)
                  refine lv_goto (tgt := 42) hx hb dX9_above_83 (by decide) ?_
                  exact ih42  z_6 (by omega) (by omega) (by omega) _ _ ls (hP.sub [0, 1] rfl) (hD.sub [0, 1] (by decide) rfl) hS (lv_sub hl [0, 1] rfl)
                ·
                  exact absurd c57 (by decide +kernel)
          exact loop42 (((256 - z_5.toInt).toNat) + 1) z_5 (Nat.lt_succ_self _) (by first | omega | decide +kernel) (by first | omega | decide +kernel) _ _ ls (hP.sub [1, 2] rfl) (hD.sub [1, 2] (by decide) rfl) hS (lv_sub hl [0, 1] rfl)
        ·
          exact absurd c25 (by decide +kernel)
      ·
        refine lv_if_ne (tgt := 30) hx hb dX9_above_25 (by decide) (fun c25 => ?_) (fun c25 => ?_)
        ·
          exact absurd c25 (by decide +kernel)
        ·
          refine lv_iconst (v := (-1)) hx hb dX9_above_28 (by decide +kernel) ?_
          exact my_retI hx hb hr hlocks hK hS [] (hP.sub [] rfl) (hD.sub [] (by decide) rfl) (Or.inr (⟨rfl, rfl, (by first | omega | assumption | trivial | decide +kernel)⟩)) dX9_above_29
  ·
    refine lv_if_eq (tgt := 28) hx hb dX9_above_11 (by decide) (fun c11 => ?_) (fun c11 => ?_)
    ·
      refine lv_iconst (v := (-1)) hx hb dX9_above_28 (by decide +kernel) ?_
      exact my_retI hx hb hr hlocks hK hS [] (hP.sub [] rfl) (hD.sub [] (by decide) rfl) (Or.inr (⟨rfl, rfl, (by first | omega | assumption | trivial | decide +kernel)⟩)) dX9_above_29
    ·
      exact absurd c11 (by decide +kernel)
set_option maxHeartbeats 4000000 in
set_option maxRecDepth 100000 in
theorem k0_X9_sums (l : Launch) (D : va_G) (cI cJ : ClassId) (m0 : Nat) (a_row : Nat) (a_tape : Nat) (a_number : Nat) (a_read : Nat) (a_readBits : Nat) (a_stands : Nat) (a_parted : Nat) (a_bitsWere : Nat) (a_stood : Nat) (a_chosen : Nat) (a_bestChosen : Nat) (a_often : Nat) (a_sorted : Nat) (a_risen : Nat) (a_risenWays : Nat) (rf : Nat → Int64) (l9 : Int32) (r9 : Int32) (k9 : Int32) : ctI l yX9_sums wsX9_sums ({ frames := 2, cells := 0, slots := 0, locals := 120 } : Room) D (tyIJ cI cJ) [.ref m0, .int l9, .int r9, .int k9] [(m0, .inr (9, [.int 0, .int 0, .ref a_row, .ref a_tape, .int 0, .int 0, .int 0, .int 0, .ref a_number, .ref a_read, .int 0, .ref a_readBits, .ref a_stands, .ref a_parted, .ref a_bitsWere, .ref a_stood, .ref a_chosen, .ref a_bestChosen, .int 0, .ref a_often, .ref a_sorted, .int 0, .ref a_risen, .ref a_risenWays])), (a_often, .inl (cI, 512, .inl (fun _ => (0 : Int32)))), (a_row, .inl (cJ, 64, .inr (.inl rf)))] (fun (r : Int32) (u : va_W) => (u = [] ∧ r = 0 ∧ l9.toInt = 0 ∧ r9.toInt = 0 ∧ k9.toInt = 0) ∨ (u = [] ∧ r = (-2) ∧ l9.toInt = 0 ∧ r9.toInt = 0 ∧ 1 ≤ k9.toInt) ∨ (u = [] ∧ r = (-1) ∧ (l9.toInt < 0 ∨ r9.toInt < l9.toInt ∨ 0 < r9.toInt ∨ k9.toInt < 0))) := by
  refine ctI.of (cc := cX9_sums) (maxL := 7) (ret := (some .int)) (by decide) rfl (Nat.le_of_ble_eq_true rfl) ?_
  intro p e s m below meth c ls A hx hb hr hts hown hml hlocks hname hA hK hN hP hD hS hl
  have hl : lv_has ls 7 [(0, .ref m0), (1, .int l9), (2, .int r9), (3, .int k9)] := hl
  have hown : s.vm.findClass RX9 = some m.cls := hown
  have hi9 : ∀ w ∈ u_ws RX9 TX9 24, w ∈ wsX9_sums := by decide +kernel
  have fl1 := hts (.fieldLink RX9 1 "PlaneColumnModel" "thrown" "I") (by decide +kernel)
  have fl11 := hts (.fieldLink RX9 11 "PlaneColumnModel" "told" "I") (by decide +kernel)
  refine lv_aload_n hx hb dX9_sums_0 rfl (lv_at hl 0 rfl) ?_
  refine lv_iconst (v := 0) hx hb dX9_sums_1 (by decide +kernel) ?_
  refine va_put (ci := 9) (v := .int 0) (ty := (.int)) (C := RX9) (T := TX9) (N := 24) hx hb hts hi9 tyX9 tyX9_ok nmX9 hown hK hP hD hS 0 rfl rfl 0 (by decide) fl1 (fun _ h9 => h9) rfl (by decide +kernel) rfl rfl (Nat.le_of_ble_eq_true rfl) dX9_sums_2 (fun H locs hP hD hS => ?_)
  have hP : va_P D vwCl [(m0, .inr (9, [.int 0, .int 0, .ref a_row, .ref a_tape, .int 0, .int 0, .int 0, .int 0, .ref a_number, .ref a_read, .int 0, .ref a_readBits, .ref a_stands, .ref a_parted, .ref a_bitsWere, .ref a_stood, .ref a_chosen, .ref a_bestChosen, .int 0, .ref a_often, .ref a_sorted, .int 0, .ref a_risen, .ref a_risenWays])), (a_often, .inl (cI, 512, .inl (fun _ => (0 : Int32)))), (a_row, .inl (cJ, 64, .inr (.inl rf)))] H := hP
  have hD : va_D A [(m0, .inr (9, [.int 0, .int 0, .ref a_row, .ref a_tape, .int 0, .int 0, .int 0, .int 0, .ref a_number, .ref a_read, .int 0, .ref a_readBits, .ref a_stands, .ref a_parted, .ref a_bitsWere, .ref a_stood, .ref a_chosen, .ref a_bestChosen, .int 0, .ref a_often, .ref a_sorted, .int 0, .ref a_risen, .ref a_risenWays])), (a_often, .inl (cI, 512, .inl (fun _ => (0 : Int32)))), (a_row, .inl (cJ, 64, .inr (.inl rf)))] := hD
  refine lv_aload_n hx hb dX9_sums_5 rfl (lv_at hl 0 rfl) ?_
  refine lv_iload_n hx hb dX9_sums_6 rfl (lv_at hl 1 rfl) ?_
  refine lv_iload_n hx hb dX9_sums_7 rfl (lv_at hl 2 rfl) ?_
  refine my_gpI (my_pV (As := [.int l9, .int r9]) (rest := []) (ci := 9) ⟨hx, hb, hml, hown, hts⟩ (cwV 2 hts gX9_sums_X9_isSpan rfl rfl rfl (by decide +kernel) ⟨Nat.le_of_ble_eq_true rfl, Nat.le_of_ble_eq_true rfl⟩) hN hK hP [0] rfl 0 rfl rfl rfl rfl hl.1 rfl (Nat.le_of_ble_eq_true rfl) dX9_sums_8 ⟨Nat.le_of_ble_eq_true rfl, Nat.le_of_ble_eq_true rfl⟩  (k0_X9_isSpan l D cI cJ m0 a_row a_tape a_number a_read a_readBits a_stands a_parted a_bitsWere a_stood a_chosen a_bestChosen a_often a_sorted a_risen a_risenWays (0 : Int32) (0 : Int32) (0 : Int32) (0 : Int32) (0 : Int32) (0 : Int32) (0 : Int32) (0 : Int32) l9 r9)) (fun r hp => ?_)
  rcases hp with ⟨rfl, rfl, rfl⟩ | ⟨rfl, ha_1⟩
  ·
    refine lv_if_eq (tgt := 18) hx hb dX9_sums_11 (by decide) (fun c11 => ?_) (fun c11 => ?_)
    ·
      exact absurd c11 (by decide +kernel)
    ·
      refine lv_iload_n hx hb dX9_sums_14 rfl (lv_at hl 3 rfl) ?_
      refine lv_if_ge (tgt := 20) hx hb dX9_sums_15 (by decide) (fun c15 => ?_) (fun c15 => ?_)
      ·
        have d15 : k9.toInt ≥ (0 : Int) := my_ge c15 rfl (by decide +kernel)
        refine lv_iload_n hx hb dX9_sums_20 rfl (lv_at hl 3 rfl) ?_
        refine lv_iload_n hx hb dX9_sums_21 rfl (lv_at hl 2 rfl) ?_
        refine lv_iload_n hx hb dX9_sums_22 rfl (lv_at hl 1 rfl) ?_
        refine lv_isub hx hb dX9_sums_23 ?_
        refine my_eqi (y := 0) (by decide +kernel) ?_
        refine lv_icmp_le (tgt := 30) hx hb dX9_sums_24 (by decide) (fun c24 => ?_) (fun c24 => ?_)
        ·
          have d24 : k9.toInt ≤ (0 : Int) := my_le c24 rfl (by decide +kernel)
          refine lv_aload_n hx hb dX9_sums_30 rfl (lv_at hl 0 rfl) ?_
          refine lv_iload_n hx hb dX9_sums_31 rfl (lv_at hl 1 rfl) ?_
          refine lv_iload_n hx hb dX9_sums_32 rfl (lv_at hl 2 rfl) ?_
          refine my_goV (wr := [(a_row, .inl (cJ, 64, .inr (.inl rf)))]) hP hD hS hA [0, 1] [2] rfl rfl (by decide) (by decide) (my_cV (As := [.int 0, .int 0]) (rest := []) (ci := 9) (wc := [(m0, .inr (9, [.int 0, .int 0, .ref a_row, .ref a_tape, .int 0, .int 0, .int 0, .int 0, .ref a_number, .ref a_read, .int 0, .ref a_readBits, .ref a_stands, .ref a_parted, .ref a_bitsWere, .ref a_stood, .ref a_chosen, .ref a_bestChosen, .int 0, .ref a_often, .ref a_sorted, .int 0, .ref a_risen, .ref a_risenWays])), (a_often, .inl (cI, 512, .inl (fun _ => (0 : Int32))))]) ⟨hx, hb, hml, hown, hts⟩ (cwV 2 hts gX9_sums_X9_sorts rfl rfl rfl (by decide +kernel) ⟨Nat.le_of_ble_eq_true rfl, Nat.le_of_ble_eq_true rfl⟩) hN hK hP hD [0, 1] rfl (by decide) rfl 0 rfl rfl rfl rfl hl.1 rfl (Nat.le_of_ble_eq_true rfl) dX9_sums_33 ⟨Nat.le_of_ble_eq_true rfl, Nat.le_of_ble_eq_true rfl⟩  ((k0_X9_sorts l D cI cJ m0 a_row a_tape a_number a_read a_readBits a_stands a_parted a_bitsWere a_stood a_chosen a_bestChosen a_often a_sorted a_risen a_risenWays (0 : Int32) (0 : Int32) (0 : Int32) (0 : Int32) (0 : Int32) (0 : Int32) (0 : Int32) (0 : Int32) (0 : Int32)) _)) (fun u H locs hp hP hD hS => ?_)
          obtain rfl := hp
          have hP : va_P D vwCl [(a_row, .inl (cJ, 64, .inr (.inl rf))), (m0, .inr (9, [.int 0, .int 0, .ref a_row, .ref a_tape, .int 0, .int 0, .int 0, .int 0, .ref a_number, .ref a_read, .int 0, .ref a_readBits, .ref a_stands, .ref a_parted, .ref a_bitsWere, .ref a_stood, .ref a_chosen, .ref a_bestChosen, .int 0, .ref a_often, .ref a_sorted, .int 0, .ref a_risen, .ref a_risenWays])), (a_often, .inl (cI, 512, .inl (fun _ => (0 : Int32))))] H := hP
          have hD : va_D A [(a_row, .inl (cJ, 64, .inr (.inl rf))), (m0, .inr (9, [.int 0, .int 0, .ref a_row, .ref a_tape, .int 0, .int 0, .int 0, .int 0, .ref a_number, .ref a_read, .int 0, .ref a_readBits, .ref a_stands, .ref a_parted, .ref a_bitsWere, .ref a_stood, .ref a_chosen, .ref a_bestChosen, .int 0, .ref a_often, .ref a_sorted, .int 0, .ref a_risen, .ref a_risenWays])), (a_often, .inl (cI, 512, .inl (fun _ => (0 : Int32))))] := hD
          refine lv_iconst (v := 0) hx hb dX9_sums_36 (by decide +kernel) ?_
          refine lv_istore (lv' := [(4, .int 0), (0, .ref m0), (1, .int 0), (2, .int 0), (3, .int k9)]) hx hb dX9_sums_37 hl (by decide) rfl (fun ls hl => ?_)
          refine lv_iconst (v := 0) hx hb dX9_sums_39 (by decide +kernel) ?_
          refine lv_istore (lv' := [(5, .int 0), (4, .int 0), (0, .ref m0), (1, .int 0), (2, .int 0), (3, .int k9)]) hx hb dX9_sums_40 hl (by decide) rfl (fun ls hl => ?_)
          refine lv_iconst (v := 0) hx hb dX9_sums_42 (by decide +kernel) ?_
          refine lv_istore (lv' := [(6, .int 0), (5, .int 0), (4, .int 0), (0, .ref m0), (1, .int 0), (2, .int 0), (3, .int k9)]) hx hb dX9_sums_43 hl (by decide) rfl (fun ls hl => ?_)
          refine lv_iload hx hb dX9_sums_45 (lv_at hl 0 rfl) ?_
          refine lv_iload_n hx hb dX9_sums_47 rfl (lv_at hl 6 rfl) ?_
          refine lv_icmp_ge (tgt := 88) hx hb dX9_sums_48 (by decide) (fun c48 => ?_) (fun c48 => ?_)
          ·
            have d48 : (0 : Int) ≥ k9.toInt := my_ge c48 (by decide +kernel) rfl
            refine lv_aload_n hx hb dX9_sums_88 rfl (lv_at hl 3 rfl) ?_
            refine lv_iconst (v := 0) hx hb dX9_sums_89 (by decide +kernel) ?_
            refine va_put (ci := 9) (v := .int 0) (ty := (.int)) (C := RX9) (T := TX9) (N := 24) hx hb hts hi9 tyX9 tyX9_ok nmX9 hown hK hP hD hS 1 rfl rfl 1 (by decide) fl11 (fun _ h9 => h9) rfl (by decide +kernel) rfl rfl (Nat.le_of_ble_eq_true rfl) dX9_sums_90 (fun H locs hP hD hS => ?_)
            have hP : va_P D vwCl [(a_row, .inl (cJ, 64, .inr (.inl rf))), (m0, .inr (9, [.int 0, .int 0, .ref a_row, .ref a_tape, .int 0, .int 0, .int 0, .int 0, .ref a_number, .ref a_read, .int 0, .ref a_readBits, .ref a_stands, .ref a_parted, .ref a_bitsWere, .ref a_stood, .ref a_chosen, .ref a_bestChosen, .int 0, .ref a_often, .ref a_sorted, .int 0, .ref a_risen, .ref a_risenWays])), (a_often, .inl (cI, 512, .inl (fun _ => (0 : Int32))))] H := hP
            have hD : va_D A [(a_row, .inl (cJ, 64, .inr (.inl rf))), (m0, .inr (9, [.int 0, .int 0, .ref a_row, .ref a_tape, .int 0, .int 0, .int 0, .int 0, .ref a_number, .ref a_read, .int 0, .ref a_readBits, .ref a_stands, .ref a_parted, .ref a_bitsWere, .ref a_stood, .ref a_chosen, .ref a_bestChosen, .int 0, .ref a_often, .ref a_sorted, .int 0, .ref a_risen, .ref a_risenWays])), (a_often, .inl (cI, 512, .inl (fun _ => (0 : Int32))))] := hD
            refine lv_aload_n hx hb dX9_sums_93 rfl (lv_at hl 3 rfl) ?_
            refine lv_iload hx hb dX9_sums_94 (lv_at hl 1 rfl) ?_
            refine lv_i2l (v := 0) hx hb dX9_sums_96 (by decide +kernel) ?_
            refine my_goV (wr := [(a_often, .inl (cI, 512, .inl (fun _ => (0 : Int32))))]) hP hD hS hA [1, 0] [2] rfl rfl (by decide) (by decide) (my_cV (As := [.long 0]) (rest := []) (ci := 9) (wc := [(m0, .inr (9, [.int 0, .int 0, .ref a_row, .ref a_tape, .int 0, .int 0, .int 0, .int 0, .ref a_number, .ref a_read, .int 0, .ref a_readBits, .ref a_stands, .ref a_parted, .ref a_bitsWere, .ref a_stood, .ref a_chosen, .ref a_bestChosen, .int 0, .ref a_often, .ref a_sorted, .int 0, .ref a_risen, .ref a_risenWays])), (a_row, .inl (cJ, 64, .inr (.inl rf)))]) ⟨hx, hb, hml, hown, hts⟩ (cwV 1 hts gX9_sums_X9_enters rfl rfl rfl (by decide +kernel) ⟨Nat.le_of_ble_eq_true rfl, Nat.le_of_ble_eq_true rfl⟩) hN hK hP hD [1, 0] rfl (by decide) rfl 1 rfl rfl rfl rfl hl.1 rfl (Nat.le_of_ble_eq_true rfl) dX9_sums_97 ⟨Nat.le_of_ble_eq_true rfl, Nat.le_of_ble_eq_true rfl⟩  ((k_X9_enters l D cI cJ m0 a_row a_tape a_number a_read a_readBits a_stands a_parted a_bitsWere a_stood a_chosen a_bestChosen a_often a_sorted a_risen a_risenWays (0 : Int32) (0 : Int32) (0 : Int32) (0 : Int32) (0 : Int32) (0 : Int32) (0 : Int32) (0 : Int32) 0 rf (0 : Int64) (by first | omega | decide +kernel)) _)) (fun u H locs hp hP hD hS => ?_)
            obtain ⟨f_2, rfl⟩ := hp
            have hP : va_P D vwCl [(a_often, .inl (cI, 512, .inl (fun _ => (0 : Int32)))), (m0, .inr (9, [.int 0, .int 1, .ref a_row, .ref a_tape, .int 0, .int 0, .int 0, .int 0, .ref a_number, .ref a_read, .int 0, .ref a_readBits, .ref a_stands, .ref a_parted, .ref a_bitsWere, .ref a_stood, .ref a_chosen, .ref a_bestChosen, .int 0, .ref a_often, .ref a_sorted, .int 0, .ref a_risen, .ref a_risenWays])), (a_row, .inl (cJ, 64, .inr (.inl f_2)))] H := hP
            have hD : va_D A [(a_often, .inl (cI, 512, .inl (fun _ => (0 : Int32)))), (m0, .inr (9, [.int 0, .int 1, .ref a_row, .ref a_tape, .int 0, .int 0, .int 0, .int 0, .ref a_number, .ref a_read, .int 0, .ref a_readBits, .ref a_stands, .ref a_parted, .ref a_bitsWere, .ref a_stood, .ref a_chosen, .ref a_bestChosen, .int 0, .ref a_often, .ref a_sorted, .int 0, .ref a_risen, .ref a_risenWays])), (a_row, .inl (cJ, 64, .inr (.inl f_2)))] := hD
            refine lv_iload hx hb dX9_sums_100 (lv_at hl 2 rfl) ?_
            exact my_retI hx hb hr hlocks hK hS [] (hP.sub [] rfl) (hD.sub [] (by decide) rfl) (Or.inl ⟨rfl, rfl, (by first | omega | assumption | trivial | decide +kernel), (by first | omega | assumption | trivial | decide +kernel), (by first | omega | assumption | trivial | decide +kernel)⟩) dX9_sums_102
          ·
            have d48 : (0 : Int) < k9.toInt := my_nge c48 (by decide +kernel) rfl
            exact absurd d48 (by omega)
        ·
          have d24 : k9.toInt > (0 : Int) := my_nle c24 rfl (by decide +kernel)
          refine lv_bipush (v := (-2)) hx hb dX9_sums_27 (by decide +kernel) ?_
          exact my_retI hx hb hr hlocks hK hS [] (hP.sub [] rfl) (hD.sub [] (by decide) rfl) (Or.inr (Or.inl ⟨rfl, rfl, (by first | omega | assumption | trivial | decide +kernel), (by first | omega | assumption | trivial | decide +kernel), (by first | omega | assumption | trivial | decide +kernel)⟩)) dX9_sums_29
      ·
        have d15 : k9.toInt < (0 : Int) := my_nge c15 rfl (by decide +kernel)
        refine lv_iconst (v := (-1)) hx hb dX9_sums_18 (by decide +kernel) ?_
        exact my_retI hx hb hr hlocks hK hS [] (hP.sub [] rfl) (hD.sub [] (by decide) rfl) (Or.inr (Or.inr (⟨rfl, rfl, (by first | omega | assumption | trivial | decide +kernel)⟩))) dX9_sums_19
  ·
    refine lv_if_eq (tgt := 18) hx hb dX9_sums_11 (by decide) (fun c11 => ?_) (fun c11 => ?_)
    ·
      refine lv_iconst (v := (-1)) hx hb dX9_sums_18 (by decide +kernel) ?_
      exact my_retI hx hb hr hlocks hK hS [] (hP.sub [] rfl) (hD.sub [] (by decide) rfl) (Or.inr (Or.inr (⟨rfl, rfl, (by first | omega | assumption | trivial | decide +kernel)⟩))) dX9_sums_19
    ·
      exact absurd c11 (by decide +kernel)
set_option maxHeartbeats 4000000 in
set_option maxRecDepth 100000 in
theorem k0_X9_often (l : Launch) (D : va_G) (cI cJ : ClassId) (m0 : Nat) (a_row : Nat) (a_tape : Nat) (a_number : Nat) (a_read : Nat) (a_readBits : Nat) (a_stands : Nat) (a_parted : Nat) (a_bitsWere : Nat) (a_stood : Nat) (a_chosen : Nat) (a_bestChosen : Nat) (a_often : Nat) (a_sorted : Nat) (a_risen : Nat) (a_risenWays : Nat) (rf : Nat → Int64) (l9 : Int32) (r9 : Int32) (m9 : Int32) : ctI l yX9_often wsX9_often ({ frames := 3, cells := 0, slots := 0, locals := 180 } : Room) D (tyIJ cI cJ) [.ref m0, .int l9, .int r9, .int m9] [(m0, .inr (9, [.int 0, .int 0, .ref a_row, .ref a_tape, .int 0, .int 0, .int 0, .int 0, .ref a_number, .ref a_read, .int 0, .ref a_readBits, .ref a_stands, .ref a_parted, .ref a_bitsWere, .ref a_stood, .ref a_chosen, .ref a_bestChosen, .int 0, .ref a_often, .ref a_sorted, .int 0, .ref a_risen, .ref a_risenWays])), (a_often, .inl (cI, 512, .inl (fun _ => (0 : Int32)))), (a_row, .inl (cJ, 64, .inr (.inl rf)))] (fun (r : Int32) (u : va_W) => (u = [] ∧ r = 0 ∧ l9.toInt = 0 ∧ r9.toInt = 0 ∧ 1 ≤ m9.toInt ∧ m9.toInt ≤ 64) ∨ (u = [] ∧ r = (-1) ∧ (l9.toInt < 0 ∨ r9.toInt < l9.toInt ∨ 0 < r9.toInt ∨ m9.toInt < 1 ∨ 64 < m9.toInt))) := by
  refine ctI.of (cc := cX9_often) (maxL := 6) (ret := (some .int)) (by decide) rfl (Nat.le_of_ble_eq_true rfl) ?_
  intro p e s m below meth c ls A hx hb hr hts hown hml hlocks hname hA hK hN hP hD hS hl
  have hl : lv_has ls 6 [(0, .ref m0), (1, .int l9), (2, .int r9), (3, .int m9)] := hl
  have hown : s.vm.findClass RX9 = some m.cls := hown
  have hi9 : ∀ w ∈ u_ws RX9 TX9 24, w ∈ wsX9_often := by decide +kernel
  have fl1 := hts (.fieldLink RX9 1 "PlaneColumnModel" "thrown" "I") (by decide +kernel)
  have fl11 := hts (.fieldLink RX9 11 "PlaneColumnModel" "told" "I") (by decide +kernel)
  refine lv_aload_n hx hb dX9_often_0 rfl (lv_at hl 0 rfl) ?_
  refine lv_iconst (v := 0) hx hb dX9_often_1 (by decide +kernel) ?_
  refine va_put (ci := 9) (v := .int 0) (ty := (.int)) (C := RX9) (T := TX9) (N := 24) hx hb hts hi9 tyX9 tyX9_ok nmX9 hown hK hP hD hS 0 rfl rfl 0 (by decide) fl1 (fun _ h9 => h9) rfl (by decide +kernel) rfl rfl (Nat.le_of_ble_eq_true rfl) dX9_often_2 (fun H locs hP hD hS => ?_)
  have hP : va_P D vwCl [(m0, .inr (9, [.int 0, .int 0, .ref a_row, .ref a_tape, .int 0, .int 0, .int 0, .int 0, .ref a_number, .ref a_read, .int 0, .ref a_readBits, .ref a_stands, .ref a_parted, .ref a_bitsWere, .ref a_stood, .ref a_chosen, .ref a_bestChosen, .int 0, .ref a_often, .ref a_sorted, .int 0, .ref a_risen, .ref a_risenWays])), (a_often, .inl (cI, 512, .inl (fun _ => (0 : Int32)))), (a_row, .inl (cJ, 64, .inr (.inl rf)))] H := hP
  have hD : va_D A [(m0, .inr (9, [.int 0, .int 0, .ref a_row, .ref a_tape, .int 0, .int 0, .int 0, .int 0, .ref a_number, .ref a_read, .int 0, .ref a_readBits, .ref a_stands, .ref a_parted, .ref a_bitsWere, .ref a_stood, .ref a_chosen, .ref a_bestChosen, .int 0, .ref a_often, .ref a_sorted, .int 0, .ref a_risen, .ref a_risenWays])), (a_often, .inl (cI, 512, .inl (fun _ => (0 : Int32)))), (a_row, .inl (cJ, 64, .inr (.inl rf)))] := hD
  refine lv_aload_n hx hb dX9_often_5 rfl (lv_at hl 0 rfl) ?_
  refine lv_iload_n hx hb dX9_often_6 rfl (lv_at hl 1 rfl) ?_
  refine lv_iload_n hx hb dX9_often_7 rfl (lv_at hl 2 rfl) ?_
  refine my_gpI (my_pV (As := [.int l9, .int r9]) (rest := []) (ci := 9) ⟨hx, hb, hml, hown, hts⟩ (cwV 2 hts gX9_often_X9_isSpan rfl rfl rfl (by decide +kernel) ⟨Nat.le_of_ble_eq_true rfl, Nat.le_of_ble_eq_true rfl⟩) hN hK hP [0] rfl 0 rfl rfl rfl rfl hl.1 rfl (Nat.le_of_ble_eq_true rfl) dX9_often_8 ⟨Nat.le_of_ble_eq_true rfl, Nat.le_of_ble_eq_true rfl⟩  (k0_X9_isSpan l D cI cJ m0 a_row a_tape a_number a_read a_readBits a_stands a_parted a_bitsWere a_stood a_chosen a_bestChosen a_often a_sorted a_risen a_risenWays (0 : Int32) (0 : Int32) (0 : Int32) (0 : Int32) (0 : Int32) (0 : Int32) (0 : Int32) (0 : Int32) l9 r9)) (fun r hp => ?_)
  rcases hp with ⟨rfl, rfl, rfl⟩ | ⟨rfl, ha_1⟩
  ·
    refine lv_if_eq (tgt := 26) hx hb dX9_often_11 (by decide) (fun c11 => ?_) (fun c11 => ?_)
    ·
      exact absurd c11 (by decide +kernel)
    ·
      refine lv_iload_n hx hb dX9_often_14 rfl (lv_at hl 3 rfl) ?_
      refine lv_i2l (v := m9.toInt64) hx hb dX9_often_15 rfl ?_
      refine lv_lconst (v := 1) hx hb dX9_often_16 (by decide +kernel) ?_
      refine lv_ldc2 (v := 64) hx hb hown (hts (.constantLong RX9 202 (64)) (by decide +kernel)) dX9_often_17 ?_
      refine my_gpI (my_pS (As := [.long m9.toInt64, .long 1, .long 64]) (rest := []) ⟨hx, hb, hml, hown, hts⟩ (va_cwS 3 hts gX9_often_X9_in rfl rfl rfl (by decide +kernel) ⟨Nat.le_of_ble_eq_true rfl, Nat.le_of_ble_eq_true rfl⟩) hN hK hP [] rfl rfl hl.1 rfl (Nat.le_of_ble_eq_true rfl) dX9_often_20 ⟨Nat.le_of_ble_eq_true rfl, Nat.le_of_ble_eq_true rfl⟩  (k_X9_in l D cI cJ m9.toInt64 (1 : Int64) (64 : Int64) m9.toInt (1 : Int) (64 : Int) (Int32.toInt_toInt64 _) (by decide +kernel) (by decide +kernel))) (fun r hp => ?_)
      rcases hp with ⟨rfl, ha_2, hb_3⟩ | ⟨rfl, ha_4⟩
      ·
        refine lv_if_ne (tgt := 28) hx hb dX9_often_23 (by decide) (fun c23 => ?_) (fun c23 => ?_)
        ·
          refine lv_aload_n hx hb dX9_often_28 rfl (lv_at hl 0 rfl) ?_
          refine lv_iconst (v := 0) hx hb dX9_often_29 (by decide +kernel) ?_
          refine lv_iload_n hx hb dX9_often_30 rfl (lv_at hl 1 rfl) ?_
          refine lv_iload_n hx hb dX9_often_31 rfl (lv_at hl 2 rfl) ?_
          refine my_goV (wr := [(a_row, .inl (cJ, 64, .inr (.inl rf)))]) hP hD hS hA [0, 1] [2] rfl rfl (by decide) (by decide) (my_cV (As := [.int 0, .int 0, .int 0]) (rest := []) (ci := 9) (wc := [(m0, .inr (9, [.int 0, .int 0, .ref a_row, .ref a_tape, .int 0, .int 0, .int 0, .int 0, .ref a_number, .ref a_read, .int 0, .ref a_readBits, .ref a_stands, .ref a_parted, .ref a_bitsWere, .ref a_stood, .ref a_chosen, .ref a_bestChosen, .int 0, .ref a_often, .ref a_sorted, .int 0, .ref a_risen, .ref a_risenWays])), (a_often, .inl (cI, 512, .inl (fun _ => (0 : Int32))))]) ⟨hx, hb, hml, hown, hts⟩ (cwV 3 hts gX9_often_X9_counts rfl rfl rfl (by decide +kernel) ⟨Nat.le_of_ble_eq_true rfl, Nat.le_of_ble_eq_true rfl⟩) hN hK hP hD [0, 1] rfl (by decide) rfl 0 rfl rfl rfl rfl hl.1 rfl (Nat.le_of_ble_eq_true rfl) dX9_often_32 ⟨Nat.le_of_ble_eq_true rfl, Nat.le_of_ble_eq_true rfl⟩  ((k0_X9_counts l D cI cJ m0 a_row a_tape a_number a_read a_readBits a_stands a_parted a_bitsWere a_stood a_chosen a_bestChosen a_often a_sorted a_risen a_risenWays (0 : Int32) (0 : Int32) (0 : Int32) (0 : Int32) (0 : Int32) (0 : Int32) (0 : Int32) (0 : Int32) (0 : Int32)) _)) (fun u H locs hp hP hD hS => ?_)
          obtain rfl := hp
          have hP : va_P D vwCl [(a_row, .inl (cJ, 64, .inr (.inl rf))), (m0, .inr (9, [.int 0, .int 0, .ref a_row, .ref a_tape, .int 0, .int 0, .int 0, .int 0, .ref a_number, .ref a_read, .int 0, .ref a_readBits, .ref a_stands, .ref a_parted, .ref a_bitsWere, .ref a_stood, .ref a_chosen, .ref a_bestChosen, .int 0, .ref a_often, .ref a_sorted, .int 0, .ref a_risen, .ref a_risenWays])), (a_often, .inl (cI, 512, .inl (fun _ => (0 : Int32))))] H := hP
          have hD : va_D A [(a_row, .inl (cJ, 64, .inr (.inl rf))), (m0, .inr (9, [.int 0, .int 0, .ref a_row, .ref a_tape, .int 0, .int 0, .int 0, .int 0, .ref a_number, .ref a_read, .int 0, .ref a_readBits, .ref a_stands, .ref a_parted, .ref a_bitsWere, .ref a_stood, .ref a_chosen, .ref a_bestChosen, .int 0, .ref a_often, .ref a_sorted, .int 0, .ref a_risen, .ref a_risenWays])), (a_often, .inl (cI, 512, .inl (fun _ => (0 : Int32))))] := hD
          refine lv_aload_n hx hb dX9_often_35 rfl (lv_at hl 0 rfl) ?_
          refine lv_iconst (v := 0) hx hb dX9_often_36 (by decide +kernel) ?_
          refine va_put (ci := 9) (v := .int 0) (ty := (.int)) (C := RX9) (T := TX9) (N := 24) hx hb hts hi9 tyX9 tyX9_ok nmX9 hown hK hP hD hS 1 rfl rfl 1 (by decide) fl11 (fun _ h9 => h9) rfl (by decide +kernel) rfl rfl (Nat.le_of_ble_eq_true rfl) dX9_often_37 (fun H locs hP hD hS => ?_)
          have hP : va_P D vwCl [(a_row, .inl (cJ, 64, .inr (.inl rf))), (m0, .inr (9, [.int 0, .int 0, .ref a_row, .ref a_tape, .int 0, .int 0, .int 0, .int 0, .ref a_number, .ref a_read, .int 0, .ref a_readBits, .ref a_stands, .ref a_parted, .ref a_bitsWere, .ref a_stood, .ref a_chosen, .ref a_bestChosen, .int 0, .ref a_often, .ref a_sorted, .int 0, .ref a_risen, .ref a_risenWays])), (a_often, .inl (cI, 512, .inl (fun _ => (0 : Int32))))] H := hP
          have hD : va_D A [(a_row, .inl (cJ, 64, .inr (.inl rf))), (m0, .inr (9, [.int 0, .int 0, .ref a_row, .ref a_tape, .int 0, .int 0, .int 0, .int 0, .ref a_number, .ref a_read, .int 0, .ref a_readBits, .ref a_stands, .ref a_parted, .ref a_bitsWere, .ref a_stood, .ref a_chosen, .ref a_bestChosen, .int 0, .ref a_often, .ref a_sorted, .int 0, .ref a_risen, .ref a_risenWays])), (a_often, .inl (cI, 512, .inl (fun _ => (0 : Int32))))] := hD
          refine lv_aload_n hx hb dX9_often_40 rfl (lv_at hl 0 rfl) ?_
          refine lv_aload_n hx hb dX9_often_41 rfl (lv_at hl 0 rfl) ?_
          refine lv_iload_n hx hb dX9_often_42 rfl (lv_at hl 3 rfl) ?_
          refine lv_iconst (v := 0) hx hb dX9_often_43 (by decide +kernel) ?_
          refine my_gpI (my_pV (As := [.int m9, .int 0]) (rest := [.ref m0]) (ci := 9) ⟨hx, hb, hml, hown, hts⟩ (cwV 2 hts gX9_often_X9_nodes rfl rfl rfl (by decide +kernel) ⟨Nat.le_of_ble_eq_true rfl, Nat.le_of_ble_eq_true rfl⟩) hN hK hP [1, 2] rfl 1 rfl rfl rfl rfl hl.1 rfl (Nat.le_of_ble_eq_true rfl) dX9_often_44 ⟨Nat.le_of_ble_eq_true rfl, Nat.le_of_ble_eq_true rfl⟩  (k0_X9_nodes l D cI cJ m0 a_row a_tape a_number a_read a_readBits a_stands a_parted a_bitsWere a_stood a_chosen a_bestChosen a_often a_sorted a_risen a_risenWays (0 : Int32) (0 : Int32) (0 : Int32) (0 : Int32) (0 : Int32) (0 : Int32) (0 : Int32) (0 : Int32) (0 : Int32) m9 (0 : Int32) (by first | omega | decide +kernel))) (fun r hp => ?_)
          obtain rfl := hp
          refine lv_i2l (v := 0) hx hb dX9_often_47 (by decide +kernel) ?_
          refine my_goV (wr := [(a_often, .inl (cI, 512, .inl (fun _ => (0 : Int32))))]) hP hD hS hA [1, 0] [2] rfl rfl (by decide) (by decide) (my_cV (As := [.long 0]) (rest := []) (ci := 9) (wc := [(m0, .inr (9, [.int 0, .int 0, .ref a_row, .ref a_tape, .int 0, .int 0, .int 0, .int 0, .ref a_number, .ref a_read, .int 0, .ref a_readBits, .ref a_stands, .ref a_parted, .ref a_bitsWere, .ref a_stood, .ref a_chosen, .ref a_bestChosen, .int 0, .ref a_often, .ref a_sorted, .int 0, .ref a_risen, .ref a_risenWays])), (a_row, .inl (cJ, 64, .inr (.inl rf)))]) ⟨hx, hb, hml, hown, hts⟩ (cwV 1 hts gX9_often_X9_enters rfl rfl rfl (by decide +kernel) ⟨Nat.le_of_ble_eq_true rfl, Nat.le_of_ble_eq_true rfl⟩) hN hK hP hD [1, 0] rfl (by decide) rfl 1 rfl rfl rfl rfl hl.1 rfl (Nat.le_of_ble_eq_true rfl) dX9_often_48 ⟨Nat.le_of_ble_eq_true rfl, Nat.le_of_ble_eq_true rfl⟩  ((k_X9_enters l D cI cJ m0 a_row a_tape a_number a_read a_readBits a_stands a_parted a_bitsWere a_stood a_chosen a_bestChosen a_often a_sorted a_risen a_risenWays (0 : Int32) (0 : Int32) (0 : Int32) (0 : Int32) (0 : Int32) (0 : Int32) (0 : Int32) (0 : Int32) 0 rf (0 : Int64) (by first | omega | decide +kernel)) _)) (fun u H locs hp hP hD hS => ?_)
          obtain ⟨f_5, rfl⟩ := hp
          have hP : va_P D vwCl [(a_often, .inl (cI, 512, .inl (fun _ => (0 : Int32)))), (m0, .inr (9, [.int 0, .int 1, .ref a_row, .ref a_tape, .int 0, .int 0, .int 0, .int 0, .ref a_number, .ref a_read, .int 0, .ref a_readBits, .ref a_stands, .ref a_parted, .ref a_bitsWere, .ref a_stood, .ref a_chosen, .ref a_bestChosen, .int 0, .ref a_often, .ref a_sorted, .int 0, .ref a_risen, .ref a_risenWays])), (a_row, .inl (cJ, 64, .inr (.inl f_5)))] H := hP
          have hD : va_D A [(a_often, .inl (cI, 512, .inl (fun _ => (0 : Int32)))), (m0, .inr (9, [.int 0, .int 1, .ref a_row, .ref a_tape, .int 0, .int 0, .int 0, .int 0, .ref a_number, .ref a_read, .int 0, .ref a_readBits, .ref a_stands, .ref a_parted, .ref a_bitsWere, .ref a_stood, .ref a_chosen, .ref a_bestChosen, .int 0, .ref a_often, .ref a_sorted, .int 0, .ref a_risen, .ref a_risenWays])), (a_row, .inl (cJ, 64, .inr (.inl f_5)))] := hD
          refine lv_iconst (v := 0) hx hb dX9_often_51 (by decide +kernel) ?_
          refine lv_istore (lv' := [(4, .int 0), (0, .ref m0), (1, .int 0), (2, .int 0), (3, .int m9)]) hx hb dX9_often_52 hl (by decide) rfl (fun ls hl => ?_)
          refine lv_iconst (v := 0) hx hb dX9_often_54 (by decide +kernel) ?_
          refine lv_istore (lv' := [(5, .int 0), (4, .int 0), (0, .ref m0), (1, .int 0), (2, .int 0), (3, .int m9)]) hx hb dX9_often_55 hl (by decide) rfl (fun ls hl => ?_)
          have loop57 : ∀ (n9 : Nat) (k : Nat), 256 - k < n9 → (k ≤ 256) → ∀ (H : Heap) (locs : List Loc) (ls : Array Slot), va_P D vwCl [(m0, .inr (9, [.int 0, .int 1, .ref a_row, .ref a_tape, .int 0, .int 0, .int 0, .int 0, .ref a_number, .ref a_read, .int 0, .ref a_readBits, .ref a_stands, .ref a_parted, .ref a_bitsWere, .ref a_stood, .ref a_chosen, .ref a_bestChosen, .int 0, .ref a_often, .ref a_sorted, .int 0, .ref a_risen, .ref a_risenWays])), (a_often, .inl (cI, 512, .inl (fun _ => (0 : Int32))))] H → va_D A [(m0, .inr (9, [.int 0, .int 1, .ref a_row, .ref a_tape, .int 0, .int 0, .int 0, .int 0, .ref a_number, .ref a_read, .int 0, .ref a_readBits, .ref a_stands, .ref a_parted, .ref a_bitsWere, .ref a_stood, .ref a_chosen, .ref a_bestChosen, .int 0, .ref a_often, .ref a_sorted, .int 0, .ref a_risen, .ref a_risenWays])), (a_often, .inl (cI, 512, .inl (fun _ => (0 : Int32))))] → va_S A s.heap H locs → lv_has ls 6 [(5, .int (nI k)), (4, .int 0), (3, .int m9), (0, .ref m0)] → W p l e ({ frames := 3, cells := 0, slots := 0, locals := 180 } : Room) s m [.ref m0, .int (0 : Int32), .int (0 : Int32), .int m9].toArray below meth c H locs 0 0 (MQ below (va_Qi (fun (r : Int32) (u : va_W) => (u = [] ∧ r = 0 ∧ (0 : Int32).toInt = 0 ∧ (0 : Int32).toInt = 0 ∧ 1 ≤ m9.toInt ∧ m9.toInt ≤ 64) ∨ (u = [] ∧ r = (-1) ∧ ((0 : Int32).toInt < 0 ∨ (0 : Int32).toInt < (0 : Int32).toInt ∨ 0 < (0 : Int32).toInt ∨ m9.toInt < 1 ∨ 64 < m9.toInt))) (my_B D (tyIJ cI cJ) A) A) [.ref m0, .int (0 : Int32), .int (0 : Int32), .int m9].toArray s 0 0 A) (F0 m 57 ls []) := by
            intro n9
            induction n9 with
            | zero =>
              intro k hn9
              exact absurd hn9 (Nat.not_lt_zero _)
            | succ n9 ih57 =>
              intro k hn9 hk H locs ls hP hD hS hl
              refine lv_iload hx hb dX9_often_57 (lv_at hl 0 rfl) ?_
              refine lv_sipush (v := 256) hx hb dX9_often_59 (by decide +kernel) ?_
              refine lv_icmp_ge (tgt := 111) hx hb dX9_often_62 (by decide) (fun c62 => ?_) (fun c62 => ?_)
              ·
                have d62 : ((k : Nat) : Int) ≥ (256 : Int) := my_ge c62 (nI_toInt (by omega)) (by decide +kernel)
                refine lv_iload hx hb dX9_often_111 (lv_at hl 1 rfl) ?_
                exact my_retI hx hb hr hlocks hK hS [] (hP.sub [] rfl) (hD.sub [] (by decide) rfl) (Or.inl ⟨rfl, rfl, (by first | omega | assumption | trivial | decide +kernel), (by first | omega | assumption | trivial | decide +kernel), (by first | omega | assumption | trivial | decide +kernel), (by first | omega | assumption | trivial | decide +kernel)⟩) dX9_often_113
              ·
                have d62 : ((k : Nat) : Int) < (256 : Int) := my_nge c62 (nI_toInt (by omega)) (by decide +kernel)
                refine lv_aload_n hx hb dX9_often_65 rfl (lv_at hl 3 rfl) ?_
                refine lv_iconst (v := 0) hx hb dX9_often_66 (by decide +kernel) ?_
                refine lv_iload hx hb dX9_often_67 (lv_at hl 0 rfl) ?_
                refine my_gpI (my_pV (As := [.int 0, .int (nI k)]) (rest := []) (ci := 9) ⟨hx, hb, hml, hown, hts⟩ (cwV 2 hts gX9_often_X9_times rfl rfl rfl (by decide +kernel) ⟨Nat.le_of_ble_eq_true rfl, Nat.le_of_ble_eq_true rfl⟩) hN hK hP [0, 1] rfl 0 rfl rfl rfl rfl hl.1 rfl (Nat.le_of_ble_eq_true rfl) dX9_often_69 ⟨Nat.le_of_ble_eq_true rfl, Nat.le_of_ble_eq_true rfl⟩  (k0_X9_times l D cI cJ m0 a_row a_tape a_number a_read a_readBits a_stands a_parted a_bitsWere a_stood a_chosen a_bestChosen a_often a_sorted a_risen a_risenWays (0 : Int32) (1 : Int32) (0 : Int32) (0 : Int32) (0 : Int32) (0 : Int32) (0 : Int32) (0 : Int32) (0 : Int32) (nI k) (by rw [nI_toInt (by omega)]; omega) (by rw [nI_toInt (by omega)]; omega))) (fun r hp => ?_)
                obtain rfl := hp
                refine lv_iload_n hx hb dX9_often_72 rfl (lv_at hl 2 rfl) ?_
                refine lv_icmp_lt (tgt := 105) hx hb dX9_often_73 (by decide) (fun c73 => ?_) (fun c73 => ?_)
                ·
                  have d73 : (0 : Int) < m9.toInt := my_lt c73 (by decide +kernel) rfl
                  refine lv_iinc (v := nI (k + 1)) (lv' := [(5, .int (nI (k + 1))), (4, .int 0), (3, .int m9), (0, .ref m0)]) hx hb dX9_often_105 hl (k := 0) rfl (my_incN k 1 (by decide +kernel)) (by decide) rfl (fun ls hl => ?_)
                  refine lv_goto (tgt := 57) hx hb dX9_often_108 (by decide) ?_
                  exact ih57  (k + 1) (by omega) (by omega) _ _ ls (hP.sub [0, 1] rfl) (hD.sub [0, 1] (by decide) rfl) hS (lv_sub hl [0, 1, 2, 3] rfl)
                ·
                  have d73 : (0 : Int) ≥ m9.toInt := my_nlt c73 (by decide +kernel) rfl
                  exact absurd d73 (by omega)
          exact loop57 ((256 - 0) + 1) 0 (Nat.lt_succ_self _) (by first | omega | decide +kernel) _ _ ls (hP.sub [1, 0] rfl) (hD.sub [1, 0] (by decide) rfl) hS (lv_sub hl [0, 1, 5, 2] rfl)
        ·
          exact absurd c23 (by decide +kernel)
      ·
        refine lv_if_ne (tgt := 28) hx hb dX9_often_23 (by decide) (fun c23 => ?_) (fun c23 => ?_)
        ·
          exact absurd c23 (by decide +kernel)
        ·
          refine lv_iconst (v := (-1)) hx hb dX9_often_26 (by decide +kernel) ?_
          exact my_retI hx hb hr hlocks hK hS [] (hP.sub [] rfl) (hD.sub [] (by decide) rfl) (Or.inr (⟨rfl, rfl, (by first | omega | assumption | trivial | decide +kernel)⟩)) dX9_often_27
  ·
    refine lv_if_eq (tgt := 26) hx hb dX9_often_11 (by decide) (fun c11 => ?_) (fun c11 => ?_)
    ·
      refine lv_iconst (v := (-1)) hx hb dX9_often_26 (by decide +kernel) ?_
      exact my_retI hx hb hr hlocks hK hS [] (hP.sub [] rfl) (hD.sub [] (by decide) rfl) (Or.inr (⟨rfl, rfl, (by first | omega | assumption | trivial | decide +kernel)⟩)) dX9_often_27
    ·
      exact absurd c11 (by decide +kernel)
set_option maxHeartbeats 4000000 in
set_option maxRecDepth 100000 in
theorem k0_X9_across (l : Launch) (D : va_G) (cI cJ : ClassId) (m0 : Nat) (a_row : Nat) (a_tape : Nat) (a_number : Nat) (a_read : Nat) (a_readBits : Nat) (a_stands : Nat) (a_parted : Nat) (a_bitsWere : Nat) (a_stood : Nat) (a_chosen : Nat) (a_bestChosen : Nat) (a_often : Nat) (a_sorted : Nat) (a_risen : Nat) (a_risenWays : Nat) (l9 : Int32) (r9 : Int32) (w9 : Int32) (k9 : Int32) : ctI l yX9_across wsX9_across ({ frames := 2, cells := 0, slots := 0, locals := 120 } : Room) D (tyIJ cI cJ) [.ref m0, .int l9, .int r9, .int w9, .int k9] [(m0, .inr (9, [.int 0, .int 0, .ref a_row, .ref a_tape, .int 0, .int 0, .int 0, .int 0, .ref a_number, .ref a_read, .int 0, .ref a_readBits, .ref a_stands, .ref a_parted, .ref a_bitsWere, .ref a_stood, .ref a_chosen, .ref a_bestChosen, .int 0, .ref a_often, .ref a_sorted, .int 0, .ref a_risen, .ref a_risenWays]))] (fun (r : Int32) (u : va_W) => (u = [] ∧ r = (-2) ∧ l9.toInt = 0 ∧ r9.toInt = 0 ∧ 0 ≤ w9.toInt ∧ w9.toInt ≤ 255 ∧ 0 ≤ k9.toInt) ∨ (u = [] ∧ r = (-1) ∧ (l9.toInt < 0 ∨ r9.toInt < l9.toInt ∨ 0 < r9.toInt ∨ w9.toInt < 0 ∨ 255 < w9.toInt ∨ k9.toInt < 0))) := by
  refine ctI.of (cc := cX9_across) (maxL := 7) (ret := (some .int)) (by decide) rfl (Nat.le_of_ble_eq_true rfl) ?_
  intro p e s m below meth c ls A hx hb hr hts hown hml hlocks hname hA hK hN hP hD hS hl
  have hl : lv_has ls 7 [(0, .ref m0), (1, .int l9), (2, .int r9), (3, .int w9), (4, .int k9)] := hl
  have hown : s.vm.findClass RX9 = some m.cls := hown
  have hi9 : ∀ w ∈ u_ws RX9 TX9 24, w ∈ wsX9_across := by decide +kernel
  have fl1 := hts (.fieldLink RX9 1 "PlaneColumnModel" "thrown" "I") (by decide +kernel)
  refine lv_aload_n hx hb dX9_across_0 rfl (lv_at hl 0 rfl) ?_
  refine lv_iconst (v := 0) hx hb dX9_across_1 (by decide +kernel) ?_
  refine va_put (ci := 9) (v := .int 0) (ty := (.int)) (C := RX9) (T := TX9) (N := 24) hx hb hts hi9 tyX9 tyX9_ok nmX9 hown hK hP hD hS 0 rfl rfl 0 (by decide) fl1 (fun _ h9 => h9) rfl (by decide +kernel) rfl rfl (Nat.le_of_ble_eq_true rfl) dX9_across_2 (fun H locs hP hD hS => ?_)
  have hP : va_P D vwCl [(m0, .inr (9, [.int 0, .int 0, .ref a_row, .ref a_tape, .int 0, .int 0, .int 0, .int 0, .ref a_number, .ref a_read, .int 0, .ref a_readBits, .ref a_stands, .ref a_parted, .ref a_bitsWere, .ref a_stood, .ref a_chosen, .ref a_bestChosen, .int 0, .ref a_often, .ref a_sorted, .int 0, .ref a_risen, .ref a_risenWays]))] H := hP
  have hD : va_D A [(m0, .inr (9, [.int 0, .int 0, .ref a_row, .ref a_tape, .int 0, .int 0, .int 0, .int 0, .ref a_number, .ref a_read, .int 0, .ref a_readBits, .ref a_stands, .ref a_parted, .ref a_bitsWere, .ref a_stood, .ref a_chosen, .ref a_bestChosen, .int 0, .ref a_often, .ref a_sorted, .int 0, .ref a_risen, .ref a_risenWays]))] := hD
  refine lv_aload_n hx hb dX9_across_5 rfl (lv_at hl 0 rfl) ?_
  refine lv_iload_n hx hb dX9_across_6 rfl (lv_at hl 1 rfl) ?_
  refine lv_iload_n hx hb dX9_across_7 rfl (lv_at hl 2 rfl) ?_
  refine my_gpI (my_pV (As := [.int l9, .int r9]) (rest := []) (ci := 9) ⟨hx, hb, hml, hown, hts⟩ (cwV 2 hts gX9_across_X9_isSpan rfl rfl rfl (by decide +kernel) ⟨Nat.le_of_ble_eq_true rfl, Nat.le_of_ble_eq_true rfl⟩) hN hK hP [0] rfl 0 rfl rfl rfl rfl hl.1 rfl (Nat.le_of_ble_eq_true rfl) dX9_across_8 ⟨Nat.le_of_ble_eq_true rfl, Nat.le_of_ble_eq_true rfl⟩  (k0_X9_isSpan l D cI cJ m0 a_row a_tape a_number a_read a_readBits a_stands a_parted a_bitsWere a_stood a_chosen a_bestChosen a_often a_sorted a_risen a_risenWays (0 : Int32) (0 : Int32) (0 : Int32) (0 : Int32) (0 : Int32) (0 : Int32) (0 : Int32) (0 : Int32) l9 r9)) (fun r hp => ?_)
  rcases hp with ⟨rfl, rfl, rfl⟩ | ⟨rfl, ha_1⟩
  ·
    refine lv_if_eq (tgt := 26) hx hb dX9_across_11 (by decide) (fun c11 => ?_) (fun c11 => ?_)
    ·
      exact absurd c11 (by decide +kernel)
    ·
      refine lv_iload_n hx hb dX9_across_14 rfl (lv_at hl 3 rfl) ?_
      refine my_gpI (my_pS (As := [.int w9]) (rest := []) ⟨hx, hb, hml, hown, hts⟩ (va_cwS 1 hts gX9_across_X9_isNumber rfl rfl rfl (by decide +kernel) ⟨Nat.le_of_ble_eq_true rfl, Nat.le_of_ble_eq_true rfl⟩) hN hK hP [] rfl rfl hl.1 rfl (Nat.le_of_ble_eq_true rfl) dX9_across_15 ⟨Nat.le_of_ble_eq_true rfl, Nat.le_of_ble_eq_true rfl⟩  (k_X9_isNumber l D cI cJ w9)) (fun r hp => ?_)
      rcases hp with ⟨rfl, hgv_2, hlv_3⟩ | ⟨rfl, ho_4⟩
      ·
        refine lv_if_eq (tgt := 26) hx hb dX9_across_18 (by decide) (fun c18 => ?_) (fun c18 => ?_)
        ·
          exact absurd c18 (by decide +kernel)
        ·
          refine lv_iload hx hb dX9_across_21 (lv_at hl 4 rfl) ?_
          refine lv_if_ge (tgt := 28) hx hb dX9_across_23 (by decide) (fun c23 => ?_) (fun c23 => ?_)
          ·
            have d23 : k9.toInt ≥ (0 : Int) := my_ge c23 rfl (by decide +kernel)
            refine lv_iload hx hb dX9_across_28 (lv_at hl 4 rfl) ?_
            refine lv_iload_n hx hb dX9_across_30 rfl (lv_at hl 2 rfl) ?_
            refine lv_iload_n hx hb dX9_across_31 rfl (lv_at hl 1 rfl) ?_
            refine lv_isub hx hb dX9_across_32 ?_
            refine my_eqi (y := 0) (by decide +kernel) ?_
            refine lv_icmp_lt (tgt := 39) hx hb dX9_across_33 (by decide) (fun c33 => ?_) (fun c33 => ?_)
            ·
              have d33 : k9.toInt < (0 : Int) := my_lt c33 rfl (by decide +kernel)
              exact absurd d33 (by omega)
            ·
              have d33 : k9.toInt ≥ (0 : Int) := my_nlt c33 rfl (by decide +kernel)
              refine lv_bipush (v := (-2)) hx hb dX9_across_36 (by decide +kernel) ?_
              exact my_retI hx hb hr hlocks hK hS [] (hP.sub [] rfl) (hD.sub [] (by decide) rfl) (Or.inl ⟨rfl, rfl, (by first | omega | assumption | trivial | decide +kernel), (by first | omega | assumption | trivial | decide +kernel), (by first | omega | assumption | trivial | decide +kernel), (by first | omega | assumption | trivial | decide +kernel), (by first | omega | assumption | trivial | decide +kernel)⟩) dX9_across_38
          ·
            have d23 : k9.toInt < (0 : Int) := my_nge c23 rfl (by decide +kernel)
            refine lv_iconst (v := (-1)) hx hb dX9_across_26 (by decide +kernel) ?_
            exact my_retI hx hb hr hlocks hK hS [] (hP.sub [] rfl) (hD.sub [] (by decide) rfl) (Or.inr (⟨rfl, rfl, (by first | omega | assumption | trivial | decide +kernel)⟩)) dX9_across_27
      ·
        refine lv_if_eq (tgt := 26) hx hb dX9_across_18 (by decide) (fun c18 => ?_) (fun c18 => ?_)
        ·
          refine lv_iconst (v := (-1)) hx hb dX9_across_26 (by decide +kernel) ?_
          exact my_retI hx hb hr hlocks hK hS [] (hP.sub [] rfl) (hD.sub [] (by decide) rfl) (Or.inr (⟨rfl, rfl, (by first | omega | assumption | trivial | decide +kernel)⟩)) dX9_across_27
        ·
          exact absurd c18 (by decide +kernel)
  ·
    refine lv_if_eq (tgt := 26) hx hb dX9_across_11 (by decide) (fun c11 => ?_) (fun c11 => ?_)
    ·
      refine lv_iconst (v := (-1)) hx hb dX9_across_26 (by decide +kernel) ?_
      exact my_retI hx hb hr hlocks hK hS [] (hP.sub [] rfl) (hD.sub [] (by decide) rfl) (Or.inr (⟨rfl, rfl, (by first | omega | assumption | trivial | decide +kernel)⟩)) dX9_across_27
    ·
      exact absurd c11 (by decide +kernel)
set_option maxHeartbeats 4000000 in
set_option maxRecDepth 100000 in
theorem k0_X9_spread (l : Launch) (D : va_G) (cI cJ : ClassId) (m0 : Nat) (a_row : Nat) (a_tape : Nat) (a_number : Nat) (a_read : Nat) (a_readBits : Nat) (a_stands : Nat) (a_parted : Nat) (a_bitsWere : Nat) (a_stood : Nat) (a_chosen : Nat) (a_bestChosen : Nat) (a_often : Nat) (a_sorted : Nat) (a_risen : Nat) (a_risenWays : Nat) (rf : Nat → Int64) (l9 : Int32) (r9 : Int32) (p9 : Int32) : ctI l yX9_spread wsX9_spread ({ frames := 2, cells := 0, slots := 0, locals := 120 } : Room) D (tyIJ cI cJ) [.ref m0, .int l9, .int r9, .int p9] [(m0, .inr (9, [.int 0, .int 0, .ref a_row, .ref a_tape, .int 0, .int 0, .int 0, .int 0, .ref a_number, .ref a_read, .int 0, .ref a_readBits, .ref a_stands, .ref a_parted, .ref a_bitsWere, .ref a_stood, .ref a_chosen, .ref a_bestChosen, .int 0, .ref a_often, .ref a_sorted, .int 0, .ref a_risen, .ref a_risenWays])), (a_often, .inl (cI, 512, .inl (fun _ => (0 : Int32)))), (a_row, .inl (cJ, 64, .inr (.inl rf)))] (fun (r : Int32) (u : va_W) => (u = [] ∧ r = 0 ∧ l9.toInt = 0 ∧ r9.toInt = 0 ∧ 1 ≤ p9.toInt ∧ p9.toInt ≤ 4) ∨ (u = [] ∧ r = (-1) ∧ (l9.toInt < 0 ∨ r9.toInt < l9.toInt ∨ 0 < r9.toInt ∨ p9.toInt < 1 ∨ 4 < p9.toInt))) := by
  refine ctI.of (cc := cX9_spread) (maxL := 8) (ret := (some .int)) (by decide) rfl (Nat.le_of_ble_eq_true rfl) ?_
  intro p e s m below meth c ls A hx hb hr hts hown hml hlocks hname hA hK hN hP hD hS hl
  have hl : lv_has ls 8 [(0, .ref m0), (1, .int l9), (2, .int r9), (3, .int p9)] := hl
  have hown : s.vm.findClass RX9 = some m.cls := hown
  have hi9 : ∀ w ∈ u_ws RX9 TX9 24, w ∈ wsX9_spread := by decide +kernel
  have fl1 := hts (.fieldLink RX9 1 "PlaneColumnModel" "thrown" "I") (by decide +kernel)
  have fl11 := hts (.fieldLink RX9 11 "PlaneColumnModel" "told" "I") (by decide +kernel)
  refine lv_aload_n hx hb dX9_spread_0 rfl (lv_at hl 0 rfl) ?_
  refine lv_iconst (v := 0) hx hb dX9_spread_1 (by decide +kernel) ?_
  refine va_put (ci := 9) (v := .int 0) (ty := (.int)) (C := RX9) (T := TX9) (N := 24) hx hb hts hi9 tyX9 tyX9_ok nmX9 hown hK hP hD hS 0 rfl rfl 0 (by decide) fl1 (fun _ h9 => h9) rfl (by decide +kernel) rfl rfl (Nat.le_of_ble_eq_true rfl) dX9_spread_2 (fun H locs hP hD hS => ?_)
  have hP : va_P D vwCl [(m0, .inr (9, [.int 0, .int 0, .ref a_row, .ref a_tape, .int 0, .int 0, .int 0, .int 0, .ref a_number, .ref a_read, .int 0, .ref a_readBits, .ref a_stands, .ref a_parted, .ref a_bitsWere, .ref a_stood, .ref a_chosen, .ref a_bestChosen, .int 0, .ref a_often, .ref a_sorted, .int 0, .ref a_risen, .ref a_risenWays])), (a_often, .inl (cI, 512, .inl (fun _ => (0 : Int32)))), (a_row, .inl (cJ, 64, .inr (.inl rf)))] H := hP
  have hD : va_D A [(m0, .inr (9, [.int 0, .int 0, .ref a_row, .ref a_tape, .int 0, .int 0, .int 0, .int 0, .ref a_number, .ref a_read, .int 0, .ref a_readBits, .ref a_stands, .ref a_parted, .ref a_bitsWere, .ref a_stood, .ref a_chosen, .ref a_bestChosen, .int 0, .ref a_often, .ref a_sorted, .int 0, .ref a_risen, .ref a_risenWays])), (a_often, .inl (cI, 512, .inl (fun _ => (0 : Int32)))), (a_row, .inl (cJ, 64, .inr (.inl rf)))] := hD
  refine lv_aload_n hx hb dX9_spread_5 rfl (lv_at hl 0 rfl) ?_
  refine lv_iload_n hx hb dX9_spread_6 rfl (lv_at hl 1 rfl) ?_
  refine lv_iload_n hx hb dX9_spread_7 rfl (lv_at hl 2 rfl) ?_
  refine my_gpI (my_pV (As := [.int l9, .int r9]) (rest := []) (ci := 9) ⟨hx, hb, hml, hown, hts⟩ (cwV 2 hts gX9_spread_X9_isSpan rfl rfl rfl (by decide +kernel) ⟨Nat.le_of_ble_eq_true rfl, Nat.le_of_ble_eq_true rfl⟩) hN hK hP [0] rfl 0 rfl rfl rfl rfl hl.1 rfl (Nat.le_of_ble_eq_true rfl) dX9_spread_8 ⟨Nat.le_of_ble_eq_true rfl, Nat.le_of_ble_eq_true rfl⟩  (k0_X9_isSpan l D cI cJ m0 a_row a_tape a_number a_read a_readBits a_stands a_parted a_bitsWere a_stood a_chosen a_bestChosen a_often a_sorted a_risen a_risenWays (0 : Int32) (0 : Int32) (0 : Int32) (0 : Int32) (0 : Int32) (0 : Int32) (0 : Int32) (0 : Int32) l9 r9)) (fun r hp => ?_)
  rcases hp with ⟨rfl, rfl, rfl⟩ | ⟨rfl, ha_1⟩
  ·
    refine lv_if_eq (tgt := 26) hx hb dX9_spread_11 (by decide) (fun c11 => ?_) (fun c11 => ?_)
    ·
      exact absurd c11 (by decide +kernel)
    ·
      refine lv_iload_n hx hb dX9_spread_14 rfl (lv_at hl 3 rfl) ?_
      refine lv_i2l (v := p9.toInt64) hx hb dX9_spread_15 rfl ?_
      refine lv_lconst (v := 1) hx hb dX9_spread_16 (by decide +kernel) ?_
      refine lv_ldc2 (v := 4) hx hb hown (hts (.constantLong RX9 208 (4)) (by decide +kernel)) dX9_spread_17 ?_
      refine my_gpI (my_pS (As := [.long p9.toInt64, .long 1, .long 4]) (rest := []) ⟨hx, hb, hml, hown, hts⟩ (va_cwS 3 hts gX9_spread_X9_in rfl rfl rfl (by decide +kernel) ⟨Nat.le_of_ble_eq_true rfl, Nat.le_of_ble_eq_true rfl⟩) hN hK hP [] rfl rfl hl.1 rfl (Nat.le_of_ble_eq_true rfl) dX9_spread_20 ⟨Nat.le_of_ble_eq_true rfl, Nat.le_of_ble_eq_true rfl⟩  (k_X9_in l D cI cJ p9.toInt64 (1 : Int64) (4 : Int64) p9.toInt (1 : Int) (4 : Int) (Int32.toInt_toInt64 _) (by decide +kernel) (by decide +kernel))) (fun r hp => ?_)
      rcases hp with ⟨rfl, ha_2, hb_3⟩ | ⟨rfl, ha_4⟩
      ·
        refine lv_if_ne (tgt := 28) hx hb dX9_spread_23 (by decide) (fun c23 => ?_) (fun c23 => ?_)
        ·
          rcases (show p9 = 1 ∨ p9 = 2 ∨ p9 = 3 ∨ p9 = 4 from by
            rcases (show p9.toInt = 1 ∨ p9.toInt = 2 ∨ p9.toInt = 3 ∨ p9.toInt = 4 from by omega) with h | h | h | h
            · exact Or.inl (my_eqI h (by decide +kernel))
            · exact Or.inr (Or.inl (my_eqI h (by decide +kernel)))
            · exact Or.inr (Or.inr (Or.inl (my_eqI h (by decide +kernel))))
            · exact Or.inr (Or.inr (Or.inr (my_eqI h (by decide +kernel))))
            ) with rfl | rfl | rfl | rfl
          ·
            refine lv_aload_n hx hb dX9_spread_28 rfl (lv_at hl 0 rfl) ?_
            refine lv_iconst (v := 0) hx hb dX9_spread_29 (by decide +kernel) ?_
            refine lv_iload_n hx hb dX9_spread_30 rfl (lv_at hl 1 rfl) ?_
            refine lv_iload_n hx hb dX9_spread_31 rfl (lv_at hl 2 rfl) ?_
            refine my_goV (wr := [(a_row, .inl (cJ, 64, .inr (.inl rf)))]) hP hD hS hA [0, 1] [2] rfl rfl (by decide) (by decide) (my_cV (As := [.int 0, .int 0, .int 0]) (rest := []) (ci := 9) (wc := [(m0, .inr (9, [.int 0, .int 0, .ref a_row, .ref a_tape, .int 0, .int 0, .int 0, .int 0, .ref a_number, .ref a_read, .int 0, .ref a_readBits, .ref a_stands, .ref a_parted, .ref a_bitsWere, .ref a_stood, .ref a_chosen, .ref a_bestChosen, .int 0, .ref a_often, .ref a_sorted, .int 0, .ref a_risen, .ref a_risenWays])), (a_often, .inl (cI, 512, .inl (fun _ => (0 : Int32))))]) ⟨hx, hb, hml, hown, hts⟩ (cwV 3 hts gX9_spread_X9_counts rfl rfl rfl (by decide +kernel) ⟨Nat.le_of_ble_eq_true rfl, Nat.le_of_ble_eq_true rfl⟩) hN hK hP hD [0, 1] rfl (by decide) rfl 0 rfl rfl rfl rfl hl.1 rfl (Nat.le_of_ble_eq_true rfl) dX9_spread_32 ⟨Nat.le_of_ble_eq_true rfl, Nat.le_of_ble_eq_true rfl⟩  ((k0_X9_counts l D cI cJ m0 a_row a_tape a_number a_read a_readBits a_stands a_parted a_bitsWere a_stood a_chosen a_bestChosen a_often a_sorted a_risen a_risenWays (0 : Int32) (0 : Int32) (0 : Int32) (0 : Int32) (0 : Int32) (0 : Int32) (0 : Int32) (0 : Int32) (0 : Int32)) _)) (fun u H locs hp hP hD hS => ?_)
            obtain rfl := hp
            have hP : va_P D vwCl [(a_row, .inl (cJ, 64, .inr (.inl rf))), (m0, .inr (9, [.int 0, .int 0, .ref a_row, .ref a_tape, .int 0, .int 0, .int 0, .int 0, .ref a_number, .ref a_read, .int 0, .ref a_readBits, .ref a_stands, .ref a_parted, .ref a_bitsWere, .ref a_stood, .ref a_chosen, .ref a_bestChosen, .int 0, .ref a_often, .ref a_sorted, .int 0, .ref a_risen, .ref a_risenWays])), (a_often, .inl (cI, 512, .inl (fun _ => (0 : Int32))))] H := hP
            have hD : va_D A [(a_row, .inl (cJ, 64, .inr (.inl rf))), (m0, .inr (9, [.int 0, .int 0, .ref a_row, .ref a_tape, .int 0, .int 0, .int 0, .int 0, .ref a_number, .ref a_read, .int 0, .ref a_readBits, .ref a_stands, .ref a_parted, .ref a_bitsWere, .ref a_stood, .ref a_chosen, .ref a_bestChosen, .int 0, .ref a_often, .ref a_sorted, .int 0, .ref a_risen, .ref a_risenWays])), (a_often, .inl (cI, 512, .inl (fun _ => (0 : Int32))))] := hD
            refine lv_sipush (v := 256) hx hb dX9_spread_35 (by decide +kernel) ?_
            refine lv_iload_n hx hb dX9_spread_38 rfl (lv_at hl 3 rfl) ?_
            refine lv_ishr hx hb dX9_spread_39 ?_
            refine my_eqi (y := 128) (by decide +kernel) ?_
            refine lv_istore (lv' := [(4, .int 128), (0, .ref m0), (1, .int 0), (2, .int 0), (3, .int 1)]) hx hb dX9_spread_40 hl (by decide) rfl (fun ls hl => ?_)
            refine lv_iconst (v := 0) hx hb dX9_spread_42 (by decide +kernel) ?_
            refine lv_istore (lv' := [(5, .int 0), (4, .int 128), (0, .ref m0), (1, .int 0), (2, .int 0), (3, .int 1)]) hx hb dX9_spread_43 hl (by decide) rfl (fun ls hl => ?_)
            refine lv_aload_n hx hb dX9_spread_45 rfl (lv_at hl 2 rfl) ?_
            refine lv_iconst (v := 0) hx hb dX9_spread_46 (by decide +kernel) ?_
            refine va_put (ci := 9) (v := .int 0) (ty := (.int)) (C := RX9) (T := TX9) (N := 24) hx hb hts hi9 tyX9 tyX9_ok nmX9 hown hK hP hD hS 1 rfl rfl 1 (by decide) fl11 (fun _ h9 => h9) rfl (by decide +kernel) rfl rfl (Nat.le_of_ble_eq_true rfl) dX9_spread_47 (fun H locs hP hD hS => ?_)
            have hP : va_P D vwCl [(a_row, .inl (cJ, 64, .inr (.inl rf))), (m0, .inr (9, [.int 0, .int 0, .ref a_row, .ref a_tape, .int 0, .int 0, .int 0, .int 0, .ref a_number, .ref a_read, .int 0, .ref a_readBits, .ref a_stands, .ref a_parted, .ref a_bitsWere, .ref a_stood, .ref a_chosen, .ref a_bestChosen, .int 0, .ref a_often, .ref a_sorted, .int 0, .ref a_risen, .ref a_risenWays])), (a_often, .inl (cI, 512, .inl (fun _ => (0 : Int32))))] H := hP
            have hD : va_D A [(a_row, .inl (cJ, 64, .inr (.inl rf))), (m0, .inr (9, [.int 0, .int 0, .ref a_row, .ref a_tape, .int 0, .int 0, .int 0, .int 0, .ref a_number, .ref a_read, .int 0, .ref a_readBits, .ref a_stands, .ref a_parted, .ref a_bitsWere, .ref a_stood, .ref a_chosen, .ref a_bestChosen, .int 0, .ref a_often, .ref a_sorted, .int 0, .ref a_risen, .ref a_risenWays])), (a_often, .inl (cI, 512, .inl (fun _ => (0 : Int32))))] := hD
            refine lv_iconst (v := 0) hx hb dX9_spread_50 (by decide +kernel) ?_
            refine lv_istore (lv' := [(6, .int 0), (5, .int 0), (4, .int 128), (0, .ref m0), (1, .int 0), (2, .int 0), (3, .int 1)]) hx hb dX9_spread_51 hl (by decide) rfl (fun ls hl => ?_)
            refine lv_iload hx hb dX9_spread_53 (lv_at hl 0 rfl) ?_
            refine lv_sipush (v := 256) hx hb dX9_spread_55 (by decide +kernel) ?_
            refine lv_icmp_ge (tgt := 112) hx hb dX9_spread_58 (by decide) (fun c58 => ?_) (fun c58 => ?_)
            ·
              exact absurd c58 (by decide +kernel)
            ·
              refine lv_aload_n hx hb dX9_spread_61 rfl (lv_at hl 3 rfl) ?_
              refine lv_iconst (v := 0) hx hb dX9_spread_62 (by decide +kernel) ?_
              refine lv_iload hx hb dX9_spread_63 (lv_at hl 0 rfl) ?_
              refine lv_iload hx hb dX9_spread_65 (lv_at hl 0 rfl) ?_
              refine lv_iload hx hb dX9_spread_67 (lv_at hl 2 rfl) ?_
              refine lv_iadd hx hb dX9_spread_69 ?_
              refine my_eqi (y := 128) (by decide +kernel) ?_
              refine lv_iconst (v := 1) hx hb dX9_spread_70 (by decide +kernel) ?_
              refine lv_isub hx hb dX9_spread_71 ?_
              refine my_eqi (y := 127) (by decide +kernel) ?_
              refine my_gpI (my_pV (As := [.int 0, .int 0, .int 127]) (rest := []) (ci := 9) ⟨hx, hb, hml, hown, hts⟩ (cwV 3 hts gX9_spread_X9_within rfl rfl rfl (by decide +kernel) ⟨Nat.le_of_ble_eq_true rfl, Nat.le_of_ble_eq_true rfl⟩) hN hK hP [1, 2] rfl 1 rfl rfl rfl rfl hl.1 rfl (Nat.le_of_ble_eq_true rfl) dX9_spread_72 ⟨Nat.le_of_ble_eq_true rfl, Nat.le_of_ble_eq_true rfl⟩  (k0_X9_within l D cI cJ m0 a_row a_tape a_number a_read a_readBits a_stands a_parted a_bitsWere a_stood a_chosen a_bestChosen a_often a_sorted a_risen a_risenWays (0 : Int32) (0 : Int32) (0 : Int32) (0 : Int32) (0 : Int32) (0 : Int32) (0 : Int32) (0 : Int32) (0 : Int32) (0 : Int32) (127 : Int32))) (fun r hp => ?_)
              obtain rfl := hp
              refine lv_istore (lv' := [(7, .int 0), (6, .int 0), (5, .int 0), (4, .int 128), (0, .ref m0), (1, .int 0), (2, .int 0), (3, .int 1)]) hx hb dX9_spread_75 hl (by decide) rfl (fun ls hl => ?_)
              refine lv_iload hx hb dX9_spread_77 (lv_at hl 2 rfl) ?_
              refine lv_iload hx hb dX9_spread_79 (lv_at hl 0 rfl) ?_
              refine lv_if_le (tgt := 88) hx hb dX9_spread_81 (by decide) (fun c81 => ?_) (fun c81 => ?_)
              ·
                refine lv_iconst (v := 0) hx hb dX9_spread_88 (by decide +kernel) ?_
                refine my_gpI (my_pS (As := [.int 0]) (rest := [.int 0]) ⟨hx, hb, hml, hown, hts⟩ (va_cwS 1 hts gX9_spread_X9_flag rfl rfl rfl (by decide +kernel) ⟨Nat.le_of_ble_eq_true rfl, Nat.le_of_ble_eq_true rfl⟩) hN hK hP [] rfl rfl hl.1 rfl (Nat.le_of_ble_eq_true rfl) dX9_spread_89 ⟨Nat.le_of_ble_eq_true rfl, Nat.le_of_ble_eq_true rfl⟩  (k0_X9_flag l D cI cJ )) (fun r hp => ?_)
                obtain rfl := hp
                refine lv_iadd hx hb dX9_spread_92 ?_
                refine my_eqi (y := 0) (by decide +kernel) ?_
                refine lv_istore (lv' := [(5, .int 0), (7, .int 0), (6, .int 0), (4, .int 128), (0, .ref m0), (1, .int 0), (2, .int 0), (3, .int 1)]) hx hb dX9_spread_93 hl (by decide) rfl (fun ls hl => ?_)
                refine lv_aload_n hx hb dX9_spread_95 rfl (lv_at hl 4 rfl) ?_
                refine lv_iload hx hb dX9_spread_96 (lv_at hl 1 rfl) ?_
                refine lv_i2l (v := 0) hx hb dX9_spread_98 (by decide +kernel) ?_
                refine my_goV (wr := [(a_often, .inl (cI, 512, .inl (fun _ => (0 : Int32))))]) hP hD hS hA [1, 0] [2] rfl rfl (by decide) (by decide) (my_cV (As := [.long 0]) (rest := []) (ci := 9) (wc := [(m0, .inr (9, [.int 0, .int 0, .ref a_row, .ref a_tape, .int 0, .int 0, .int 0, .int 0, .ref a_number, .ref a_read, .int 0, .ref a_readBits, .ref a_stands, .ref a_parted, .ref a_bitsWere, .ref a_stood, .ref a_chosen, .ref a_bestChosen, .int 0, .ref a_often, .ref a_sorted, .int 0, .ref a_risen, .ref a_risenWays])), (a_row, .inl (cJ, 64, .inr (.inl rf)))]) ⟨hx, hb, hml, hown, hts⟩ (cwV 1 hts gX9_spread_X9_enters rfl rfl rfl (by decide +kernel) ⟨Nat.le_of_ble_eq_true rfl, Nat.le_of_ble_eq_true rfl⟩) hN hK hP hD [1, 0] rfl (by decide) rfl 1 rfl rfl rfl rfl hl.1 rfl (Nat.le_of_ble_eq_true rfl) dX9_spread_99 ⟨Nat.le_of_ble_eq_true rfl, Nat.le_of_ble_eq_true rfl⟩  ((k_X9_enters l D cI cJ m0 a_row a_tape a_number a_read a_readBits a_stands a_parted a_bitsWere a_stood a_chosen a_bestChosen a_often a_sorted a_risen a_risenWays (0 : Int32) (0 : Int32) (0 : Int32) (0 : Int32) (0 : Int32) (0 : Int32) (0 : Int32) (0 : Int32) 0 rf (0 : Int64) (by first | omega | decide +kernel)) _)) (fun u H locs hp hP hD hS => ?_)
                obtain ⟨f_5, rfl⟩ := hp
                have hP : va_P D vwCl [(a_often, .inl (cI, 512, .inl (fun _ => (0 : Int32)))), (m0, .inr (9, [.int 0, .int 1, .ref a_row, .ref a_tape, .int 0, .int 0, .int 0, .int 0, .ref a_number, .ref a_read, .int 0, .ref a_readBits, .ref a_stands, .ref a_parted, .ref a_bitsWere, .ref a_stood, .ref a_chosen, .ref a_bestChosen, .int 0, .ref a_often, .ref a_sorted, .int 0, .ref a_risen, .ref a_risenWays])), (a_row, .inl (cJ, 64, .inr (.inl f_5)))] H := hP
                have hD : va_D A [(a_often, .inl (cI, 512, .inl (fun _ => (0 : Int32)))), (m0, .inr (9, [.int 0, .int 1, .ref a_row, .ref a_tape, .int 0, .int 0, .int 0, .int 0, .ref a_number, .ref a_read, .int 0, .ref a_readBits, .ref a_stands, .ref a_parted, .ref a_bitsWere, .ref a_stood, .ref a_chosen, .ref a_bestChosen, .int 0, .ref a_often, .ref a_sorted, .int 0, .ref a_risen, .ref a_risenWays])), (a_row, .inl (cJ, 64, .inr (.inl f_5)))] := hD
                refine lv_iload hx hb dX9_spread_102 (lv_at hl 2 rfl) ?_
                refine lv_iload hx hb dX9_spread_104 (lv_at hl 3 rfl) ?_
                refine lv_iadd hx hb dX9_spread_106 ?_
                refine my_eqi (y := 128) (by decide +kernel) ?_
                refine lv_istore (lv' := [(6, .int 128), (5, .int 0), (7, .int 0), (4, .int 128), (0, .ref m0), (1, .int 0), (2, .int 0), (3, .int 1)]) hx hb dX9_spread_107 hl (by decide) rfl (fun ls hl => ?_)
                refine lv_goto (tgt := 53) hx hb dX9_spread_109 (by decide) ?_
                refine lv_iload hx hb dX9_spread_53 (lv_at hl 0 rfl) ?_
                refine lv_sipush (v := 256) hx hb dX9_spread_55 (by decide +kernel) ?_
                refine lv_icmp_ge (tgt := 112) hx hb dX9_spread_58 (by decide) (fun c58 => ?_) (fun c58 => ?_)
                ·
                  exact absurd c58 (by decide +kernel)
                ·
                  refine lv_aload_n hx hb dX9_spread_61 rfl (lv_at hl 4 rfl) ?_
                  refine lv_iconst (v := 0) hx hb dX9_spread_62 (by decide +kernel) ?_
                  refine lv_iload hx hb dX9_spread_63 (lv_at hl 0 rfl) ?_
                  refine lv_iload hx hb dX9_spread_65 (lv_at hl 0 rfl) ?_
                  refine lv_iload hx hb dX9_spread_67 (lv_at hl 3 rfl) ?_
                  refine lv_iadd hx hb dX9_spread_69 ?_
                  refine my_eqi (y := 256) (by decide +kernel) ?_
                  refine lv_iconst (v := 1) hx hb dX9_spread_70 (by decide +kernel) ?_
                  refine lv_isub hx hb dX9_spread_71 ?_
                  refine my_eqi (y := 255) (by decide +kernel) ?_
                  refine my_gpI (my_pV (As := [.int 0, .int 128, .int 255]) (rest := []) (ci := 9) ⟨hx, hb, hml, hown, hts⟩ (cwV 3 hts gX9_spread_X9_within rfl rfl rfl (by decide +kernel) ⟨Nat.le_of_ble_eq_true rfl, Nat.le_of_ble_eq_true rfl⟩) hN hK hP [1, 0] rfl 1 rfl rfl rfl rfl hl.1 rfl (Nat.le_of_ble_eq_true rfl) dX9_spread_72 ⟨Nat.le_of_ble_eq_true rfl, Nat.le_of_ble_eq_true rfl⟩  (k0_X9_within l D cI cJ m0 a_row a_tape a_number a_read a_readBits a_stands a_parted a_bitsWere a_stood a_chosen a_bestChosen a_often a_sorted a_risen a_risenWays (0 : Int32) (1 : Int32) (0 : Int32) (0 : Int32) (0 : Int32) (0 : Int32) (0 : Int32) (0 : Int32) (0 : Int32) (128 : Int32) (255 : Int32))) (fun r hp => ?_)
                  obtain rfl := hp
                  refine lv_istore (lv' := [(7, .int 0), (6, .int 128), (5, .int 0), (4, .int 128), (0, .ref m0), (1, .int 0), (2, .int 0), (3, .int 1)]) hx hb dX9_spread_75 hl (by decide) rfl (fun ls hl => ?_)
                  refine lv_iload hx hb dX9_spread_77 (lv_at hl 2 rfl) ?_
                  refine lv_iload hx hb dX9_spread_79 (lv_at hl 0 rfl) ?_
                  refine lv_if_le (tgt := 88) hx hb dX9_spread_81 (by decide) (fun c81 => ?_) (fun c81 => ?_)
                  ·
                    refine lv_iconst (v := 0) hx hb dX9_spread_88 (by decide +kernel) ?_
                    refine my_gpI (my_pS (As := [.int 0]) (rest := [.int 0]) ⟨hx, hb, hml, hown, hts⟩ (va_cwS 1 hts gX9_spread_X9_flag rfl rfl rfl (by decide +kernel) ⟨Nat.le_of_ble_eq_true rfl, Nat.le_of_ble_eq_true rfl⟩) hN hK hP [] rfl rfl hl.1 rfl (Nat.le_of_ble_eq_true rfl) dX9_spread_89 ⟨Nat.le_of_ble_eq_true rfl, Nat.le_of_ble_eq_true rfl⟩  (k0_X9_flag l D cI cJ )) (fun r hp => ?_)
                    obtain rfl := hp
                    refine lv_iadd hx hb dX9_spread_92 ?_
                    refine my_eqi (y := 0) (by decide +kernel) ?_
                    refine lv_istore (lv' := [(5, .int 0), (7, .int 0), (6, .int 128), (4, .int 128), (0, .ref m0), (1, .int 0), (2, .int 0), (3, .int 1)]) hx hb dX9_spread_93 hl (by decide) rfl (fun ls hl => ?_)
                    refine lv_aload_n hx hb dX9_spread_95 rfl (lv_at hl 4 rfl) ?_
                    refine lv_iload hx hb dX9_spread_96 (lv_at hl 1 rfl) ?_
                    refine lv_i2l (v := 0) hx hb dX9_spread_98 (by decide +kernel) ?_
                    refine my_goV (wr := [(a_often, .inl (cI, 512, .inl (fun _ => (0 : Int32))))]) hP hD hS hA [1, 2] [0] rfl rfl (by decide) (by decide) (my_cV (As := [.long 0]) (rest := []) (ci := 9) (wc := [(m0, .inr (9, [.int 0, .int 1, .ref a_row, .ref a_tape, .int 0, .int 0, .int 0, .int 0, .ref a_number, .ref a_read, .int 0, .ref a_readBits, .ref a_stands, .ref a_parted, .ref a_bitsWere, .ref a_stood, .ref a_chosen, .ref a_bestChosen, .int 0, .ref a_often, .ref a_sorted, .int 0, .ref a_risen, .ref a_risenWays])), (a_row, .inl (cJ, 64, .inr (.inl f_5)))]) ⟨hx, hb, hml, hown, hts⟩ (cwV 1 hts gX9_spread_X9_enters rfl rfl rfl (by decide +kernel) ⟨Nat.le_of_ble_eq_true rfl, Nat.le_of_ble_eq_true rfl⟩) hN hK hP hD [1, 2] rfl (by decide) rfl 1 rfl rfl rfl rfl hl.1 rfl (Nat.le_of_ble_eq_true rfl) dX9_spread_99 ⟨Nat.le_of_ble_eq_true rfl, Nat.le_of_ble_eq_true rfl⟩  ((k_X9_enters l D cI cJ m0 a_row a_tape a_number a_read a_readBits a_stands a_parted a_bitsWere a_stood a_chosen a_bestChosen a_often a_sorted a_risen a_risenWays (0 : Int32) (0 : Int32) (0 : Int32) (0 : Int32) (0 : Int32) (0 : Int32) (0 : Int32) (0 : Int32) 1 f_5 (0 : Int64) (by first | omega | decide +kernel)) _)) (fun u H locs hp hP hD hS => ?_)
                    obtain ⟨f_6, rfl⟩ := hp
                    have hP : va_P D vwCl [(a_often, .inl (cI, 512, .inl (fun _ => (0 : Int32)))), (m0, .inr (9, [.int 0, .int 2, .ref a_row, .ref a_tape, .int 0, .int 0, .int 0, .int 0, .ref a_number, .ref a_read, .int 0, .ref a_readBits, .ref a_stands, .ref a_parted, .ref a_bitsWere, .ref a_stood, .ref a_chosen, .ref a_bestChosen, .int 0, .ref a_often, .ref a_sorted, .int 0, .ref a_risen, .ref a_risenWays])), (a_row, .inl (cJ, 64, .inr (.inl f_6)))] H := hP
                    have hD : va_D A [(a_often, .inl (cI, 512, .inl (fun _ => (0 : Int32)))), (m0, .inr (9, [.int 0, .int 2, .ref a_row, .ref a_tape, .int 0, .int 0, .int 0, .int 0, .ref a_number, .ref a_read, .int 0, .ref a_readBits, .ref a_stands, .ref a_parted, .ref a_bitsWere, .ref a_stood, .ref a_chosen, .ref a_bestChosen, .int 0, .ref a_often, .ref a_sorted, .int 0, .ref a_risen, .ref a_risenWays])), (a_row, .inl (cJ, 64, .inr (.inl f_6)))] := hD
                    refine lv_iload hx hb dX9_spread_102 (lv_at hl 2 rfl) ?_
                    refine lv_iload hx hb dX9_spread_104 (lv_at hl 3 rfl) ?_
                    refine lv_iadd hx hb dX9_spread_106 ?_
                    refine my_eqi (y := 256) (by decide +kernel) ?_
                    refine lv_istore (lv' := [(6, .int 256), (5, .int 0), (7, .int 0), (4, .int 128), (0, .ref m0), (1, .int 0), (2, .int 0), (3, .int 1)]) hx hb dX9_spread_107 hl (by decide) rfl (fun ls hl => ?_)
                    refine lv_goto (tgt := 53) hx hb dX9_spread_109 (by decide) ?_
                    refine lv_iload hx hb dX9_spread_53 (lv_at hl 0 rfl) ?_
                    refine lv_sipush (v := 256) hx hb dX9_spread_55 (by decide +kernel) ?_
                    refine lv_icmp_ge (tgt := 112) hx hb dX9_spread_58 (by decide) (fun c58 => ?_) (fun c58 => ?_)
                    ·
                      refine lv_iload hx hb dX9_spread_112 (lv_at hl 1 rfl) ?_
                      exact my_retI hx hb hr hlocks hK hS [] (hP.sub [] rfl) (hD.sub [] (by decide) rfl) (Or.inl ⟨rfl, rfl, (by first | omega | assumption | trivial | decide +kernel), (by first | omega | assumption | trivial | decide +kernel), (by first | omega | assumption | trivial | decide +kernel), (by first | omega | assumption | trivial | decide +kernel)⟩) dX9_spread_114
                    ·
                      exact absurd c58 (by decide +kernel)
                  ·
                    exact absurd c81 (by decide +kernel)
              ·
                exact absurd c81 (by decide +kernel)
          ·
            refine lv_aload_n hx hb dX9_spread_28 rfl (lv_at hl 0 rfl) ?_
            refine lv_iconst (v := 0) hx hb dX9_spread_29 (by decide +kernel) ?_
            refine lv_iload_n hx hb dX9_spread_30 rfl (lv_at hl 1 rfl) ?_
            refine lv_iload_n hx hb dX9_spread_31 rfl (lv_at hl 2 rfl) ?_
            refine my_goV (wr := [(a_row, .inl (cJ, 64, .inr (.inl rf)))]) hP hD hS hA [0, 1] [2] rfl rfl (by decide) (by decide) (my_cV (As := [.int 0, .int 0, .int 0]) (rest := []) (ci := 9) (wc := [(m0, .inr (9, [.int 0, .int 0, .ref a_row, .ref a_tape, .int 0, .int 0, .int 0, .int 0, .ref a_number, .ref a_read, .int 0, .ref a_readBits, .ref a_stands, .ref a_parted, .ref a_bitsWere, .ref a_stood, .ref a_chosen, .ref a_bestChosen, .int 0, .ref a_often, .ref a_sorted, .int 0, .ref a_risen, .ref a_risenWays])), (a_often, .inl (cI, 512, .inl (fun _ => (0 : Int32))))]) ⟨hx, hb, hml, hown, hts⟩ (cwV 3 hts gX9_spread_X9_counts rfl rfl rfl (by decide +kernel) ⟨Nat.le_of_ble_eq_true rfl, Nat.le_of_ble_eq_true rfl⟩) hN hK hP hD [0, 1] rfl (by decide) rfl 0 rfl rfl rfl rfl hl.1 rfl (Nat.le_of_ble_eq_true rfl) dX9_spread_32 ⟨Nat.le_of_ble_eq_true rfl, Nat.le_of_ble_eq_true rfl⟩  ((k0_X9_counts l D cI cJ m0 a_row a_tape a_number a_read a_readBits a_stands a_parted a_bitsWere a_stood a_chosen a_bestChosen a_often a_sorted a_risen a_risenWays (0 : Int32) (0 : Int32) (0 : Int32) (0 : Int32) (0 : Int32) (0 : Int32) (0 : Int32) (0 : Int32) (0 : Int32)) _)) (fun u H locs hp hP hD hS => ?_)
            obtain rfl := hp
            have hP : va_P D vwCl [(a_row, .inl (cJ, 64, .inr (.inl rf))), (m0, .inr (9, [.int 0, .int 0, .ref a_row, .ref a_tape, .int 0, .int 0, .int 0, .int 0, .ref a_number, .ref a_read, .int 0, .ref a_readBits, .ref a_stands, .ref a_parted, .ref a_bitsWere, .ref a_stood, .ref a_chosen, .ref a_bestChosen, .int 0, .ref a_often, .ref a_sorted, .int 0, .ref a_risen, .ref a_risenWays])), (a_often, .inl (cI, 512, .inl (fun _ => (0 : Int32))))] H := hP
            have hD : va_D A [(a_row, .inl (cJ, 64, .inr (.inl rf))), (m0, .inr (9, [.int 0, .int 0, .ref a_row, .ref a_tape, .int 0, .int 0, .int 0, .int 0, .ref a_number, .ref a_read, .int 0, .ref a_readBits, .ref a_stands, .ref a_parted, .ref a_bitsWere, .ref a_stood, .ref a_chosen, .ref a_bestChosen, .int 0, .ref a_often, .ref a_sorted, .int 0, .ref a_risen, .ref a_risenWays])), (a_often, .inl (cI, 512, .inl (fun _ => (0 : Int32))))] := hD
            refine lv_sipush (v := 256) hx hb dX9_spread_35 (by decide +kernel) ?_
            refine lv_iload_n hx hb dX9_spread_38 rfl (lv_at hl 3 rfl) ?_
            refine lv_ishr hx hb dX9_spread_39 ?_
            refine my_eqi (y := 64) (by decide +kernel) ?_
            refine lv_istore (lv' := [(4, .int 64), (0, .ref m0), (1, .int 0), (2, .int 0), (3, .int 2)]) hx hb dX9_spread_40 hl (by decide) rfl (fun ls hl => ?_)
            refine lv_iconst (v := 0) hx hb dX9_spread_42 (by decide +kernel) ?_
            refine lv_istore (lv' := [(5, .int 0), (4, .int 64), (0, .ref m0), (1, .int 0), (2, .int 0), (3, .int 2)]) hx hb dX9_spread_43 hl (by decide) rfl (fun ls hl => ?_)
            refine lv_aload_n hx hb dX9_spread_45 rfl (lv_at hl 2 rfl) ?_
            refine lv_iconst (v := 0) hx hb dX9_spread_46 (by decide +kernel) ?_
            refine va_put (ci := 9) (v := .int 0) (ty := (.int)) (C := RX9) (T := TX9) (N := 24) hx hb hts hi9 tyX9 tyX9_ok nmX9 hown hK hP hD hS 1 rfl rfl 1 (by decide) fl11 (fun _ h9 => h9) rfl (by decide +kernel) rfl rfl (Nat.le_of_ble_eq_true rfl) dX9_spread_47 (fun H locs hP hD hS => ?_)
            have hP : va_P D vwCl [(a_row, .inl (cJ, 64, .inr (.inl rf))), (m0, .inr (9, [.int 0, .int 0, .ref a_row, .ref a_tape, .int 0, .int 0, .int 0, .int 0, .ref a_number, .ref a_read, .int 0, .ref a_readBits, .ref a_stands, .ref a_parted, .ref a_bitsWere, .ref a_stood, .ref a_chosen, .ref a_bestChosen, .int 0, .ref a_often, .ref a_sorted, .int 0, .ref a_risen, .ref a_risenWays])), (a_often, .inl (cI, 512, .inl (fun _ => (0 : Int32))))] H := hP
            have hD : va_D A [(a_row, .inl (cJ, 64, .inr (.inl rf))), (m0, .inr (9, [.int 0, .int 0, .ref a_row, .ref a_tape, .int 0, .int 0, .int 0, .int 0, .ref a_number, .ref a_read, .int 0, .ref a_readBits, .ref a_stands, .ref a_parted, .ref a_bitsWere, .ref a_stood, .ref a_chosen, .ref a_bestChosen, .int 0, .ref a_often, .ref a_sorted, .int 0, .ref a_risen, .ref a_risenWays])), (a_often, .inl (cI, 512, .inl (fun _ => (0 : Int32))))] := hD
            refine lv_iconst (v := 0) hx hb dX9_spread_50 (by decide +kernel) ?_
            refine lv_istore (lv' := [(6, .int 0), (5, .int 0), (4, .int 64), (0, .ref m0), (1, .int 0), (2, .int 0), (3, .int 2)]) hx hb dX9_spread_51 hl (by decide) rfl (fun ls hl => ?_)
            refine lv_iload hx hb dX9_spread_53 (lv_at hl 0 rfl) ?_
            refine lv_sipush (v := 256) hx hb dX9_spread_55 (by decide +kernel) ?_
            refine lv_icmp_ge (tgt := 112) hx hb dX9_spread_58 (by decide) (fun c58 => ?_) (fun c58 => ?_)
            ·
              exact absurd c58 (by decide +kernel)
            ·
              refine lv_aload_n hx hb dX9_spread_61 rfl (lv_at hl 3 rfl) ?_
              refine lv_iconst (v := 0) hx hb dX9_spread_62 (by decide +kernel) ?_
              refine lv_iload hx hb dX9_spread_63 (lv_at hl 0 rfl) ?_
              refine lv_iload hx hb dX9_spread_65 (lv_at hl 0 rfl) ?_
              refine lv_iload hx hb dX9_spread_67 (lv_at hl 2 rfl) ?_
              refine lv_iadd hx hb dX9_spread_69 ?_
              refine my_eqi (y := 64) (by decide +kernel) ?_
              refine lv_iconst (v := 1) hx hb dX9_spread_70 (by decide +kernel) ?_
              refine lv_isub hx hb dX9_spread_71 ?_
              refine my_eqi (y := 63) (by decide +kernel) ?_
              refine my_gpI (my_pV (As := [.int 0, .int 0, .int 63]) (rest := []) (ci := 9) ⟨hx, hb, hml, hown, hts⟩ (cwV 3 hts gX9_spread_X9_within rfl rfl rfl (by decide +kernel) ⟨Nat.le_of_ble_eq_true rfl, Nat.le_of_ble_eq_true rfl⟩) hN hK hP [1, 2] rfl 1 rfl rfl rfl rfl hl.1 rfl (Nat.le_of_ble_eq_true rfl) dX9_spread_72 ⟨Nat.le_of_ble_eq_true rfl, Nat.le_of_ble_eq_true rfl⟩  (k0_X9_within l D cI cJ m0 a_row a_tape a_number a_read a_readBits a_stands a_parted a_bitsWere a_stood a_chosen a_bestChosen a_often a_sorted a_risen a_risenWays (0 : Int32) (0 : Int32) (0 : Int32) (0 : Int32) (0 : Int32) (0 : Int32) (0 : Int32) (0 : Int32) (0 : Int32) (0 : Int32) (63 : Int32))) (fun r hp => ?_)
              obtain rfl := hp
              refine lv_istore (lv' := [(7, .int 0), (6, .int 0), (5, .int 0), (4, .int 64), (0, .ref m0), (1, .int 0), (2, .int 0), (3, .int 2)]) hx hb dX9_spread_75 hl (by decide) rfl (fun ls hl => ?_)
              refine lv_iload hx hb dX9_spread_77 (lv_at hl 2 rfl) ?_
              refine lv_iload hx hb dX9_spread_79 (lv_at hl 0 rfl) ?_
              refine lv_if_le (tgt := 88) hx hb dX9_spread_81 (by decide) (fun c81 => ?_) (fun c81 => ?_)
              ·
                refine lv_iconst (v := 0) hx hb dX9_spread_88 (by decide +kernel) ?_
                refine my_gpI (my_pS (As := [.int 0]) (rest := [.int 0]) ⟨hx, hb, hml, hown, hts⟩ (va_cwS 1 hts gX9_spread_X9_flag rfl rfl rfl (by decide +kernel) ⟨Nat.le_of_ble_eq_true rfl, Nat.le_of_ble_eq_true rfl⟩) hN hK hP [] rfl rfl hl.1 rfl (Nat.le_of_ble_eq_true rfl) dX9_spread_89 ⟨Nat.le_of_ble_eq_true rfl, Nat.le_of_ble_eq_true rfl⟩  (k0_X9_flag l D cI cJ )) (fun r hp => ?_)
                obtain rfl := hp
                refine lv_iadd hx hb dX9_spread_92 ?_
                refine my_eqi (y := 0) (by decide +kernel) ?_
                refine lv_istore (lv' := [(5, .int 0), (7, .int 0), (6, .int 0), (4, .int 64), (0, .ref m0), (1, .int 0), (2, .int 0), (3, .int 2)]) hx hb dX9_spread_93 hl (by decide) rfl (fun ls hl => ?_)
                refine lv_aload_n hx hb dX9_spread_95 rfl (lv_at hl 4 rfl) ?_
                refine lv_iload hx hb dX9_spread_96 (lv_at hl 1 rfl) ?_
                refine lv_i2l (v := 0) hx hb dX9_spread_98 (by decide +kernel) ?_
                refine my_goV (wr := [(a_often, .inl (cI, 512, .inl (fun _ => (0 : Int32))))]) hP hD hS hA [1, 0] [2] rfl rfl (by decide) (by decide) (my_cV (As := [.long 0]) (rest := []) (ci := 9) (wc := [(m0, .inr (9, [.int 0, .int 0, .ref a_row, .ref a_tape, .int 0, .int 0, .int 0, .int 0, .ref a_number, .ref a_read, .int 0, .ref a_readBits, .ref a_stands, .ref a_parted, .ref a_bitsWere, .ref a_stood, .ref a_chosen, .ref a_bestChosen, .int 0, .ref a_often, .ref a_sorted, .int 0, .ref a_risen, .ref a_risenWays])), (a_row, .inl (cJ, 64, .inr (.inl rf)))]) ⟨hx, hb, hml, hown, hts⟩ (cwV 1 hts gX9_spread_X9_enters rfl rfl rfl (by decide +kernel) ⟨Nat.le_of_ble_eq_true rfl, Nat.le_of_ble_eq_true rfl⟩) hN hK hP hD [1, 0] rfl (by decide) rfl 1 rfl rfl rfl rfl hl.1 rfl (Nat.le_of_ble_eq_true rfl) dX9_spread_99 ⟨Nat.le_of_ble_eq_true rfl, Nat.le_of_ble_eq_true rfl⟩  ((k_X9_enters l D cI cJ m0 a_row a_tape a_number a_read a_readBits a_stands a_parted a_bitsWere a_stood a_chosen a_bestChosen a_often a_sorted a_risen a_risenWays (0 : Int32) (0 : Int32) (0 : Int32) (0 : Int32) (0 : Int32) (0 : Int32) (0 : Int32) (0 : Int32) 0 rf (0 : Int64) (by first | omega | decide +kernel)) _)) (fun u H locs hp hP hD hS => ?_)
                obtain ⟨f_7, rfl⟩ := hp
                have hP : va_P D vwCl [(a_often, .inl (cI, 512, .inl (fun _ => (0 : Int32)))), (m0, .inr (9, [.int 0, .int 1, .ref a_row, .ref a_tape, .int 0, .int 0, .int 0, .int 0, .ref a_number, .ref a_read, .int 0, .ref a_readBits, .ref a_stands, .ref a_parted, .ref a_bitsWere, .ref a_stood, .ref a_chosen, .ref a_bestChosen, .int 0, .ref a_often, .ref a_sorted, .int 0, .ref a_risen, .ref a_risenWays])), (a_row, .inl (cJ, 64, .inr (.inl f_7)))] H := hP
                have hD : va_D A [(a_often, .inl (cI, 512, .inl (fun _ => (0 : Int32)))), (m0, .inr (9, [.int 0, .int 1, .ref a_row, .ref a_tape, .int 0, .int 0, .int 0, .int 0, .ref a_number, .ref a_read, .int 0, .ref a_readBits, .ref a_stands, .ref a_parted, .ref a_bitsWere, .ref a_stood, .ref a_chosen, .ref a_bestChosen, .int 0, .ref a_often, .ref a_sorted, .int 0, .ref a_risen, .ref a_risenWays])), (a_row, .inl (cJ, 64, .inr (.inl f_7)))] := hD
                refine lv_iload hx hb dX9_spread_102 (lv_at hl 2 rfl) ?_
                refine lv_iload hx hb dX9_spread_104 (lv_at hl 3 rfl) ?_
                refine lv_iadd hx hb dX9_spread_106 ?_
                refine my_eqi (y := 64) (by decide +kernel) ?_
                refine lv_istore (lv' := [(6, .int 64), (5, .int 0), (7, .int 0), (4, .int 64), (0, .ref m0), (1, .int 0), (2, .int 0), (3, .int 2)]) hx hb dX9_spread_107 hl (by decide) rfl (fun ls hl => ?_)
                refine lv_goto (tgt := 53) hx hb dX9_spread_109 (by decide) ?_
                refine lv_iload hx hb dX9_spread_53 (lv_at hl 0 rfl) ?_
                refine lv_sipush (v := 256) hx hb dX9_spread_55 (by decide +kernel) ?_
                refine lv_icmp_ge (tgt := 112) hx hb dX9_spread_58 (by decide) (fun c58 => ?_) (fun c58 => ?_)
                ·
                  exact absurd c58 (by decide +kernel)
                ·
                  refine lv_aload_n hx hb dX9_spread_61 rfl (lv_at hl 4 rfl) ?_
                  refine lv_iconst (v := 0) hx hb dX9_spread_62 (by decide +kernel) ?_
                  refine lv_iload hx hb dX9_spread_63 (lv_at hl 0 rfl) ?_
                  refine lv_iload hx hb dX9_spread_65 (lv_at hl 0 rfl) ?_
                  refine lv_iload hx hb dX9_spread_67 (lv_at hl 3 rfl) ?_
                  refine lv_iadd hx hb dX9_spread_69 ?_
                  refine my_eqi (y := 128) (by decide +kernel) ?_
                  refine lv_iconst (v := 1) hx hb dX9_spread_70 (by decide +kernel) ?_
                  refine lv_isub hx hb dX9_spread_71 ?_
                  refine my_eqi (y := 127) (by decide +kernel) ?_
                  refine my_gpI (my_pV (As := [.int 0, .int 64, .int 127]) (rest := []) (ci := 9) ⟨hx, hb, hml, hown, hts⟩ (cwV 3 hts gX9_spread_X9_within rfl rfl rfl (by decide +kernel) ⟨Nat.le_of_ble_eq_true rfl, Nat.le_of_ble_eq_true rfl⟩) hN hK hP [1, 0] rfl 1 rfl rfl rfl rfl hl.1 rfl (Nat.le_of_ble_eq_true rfl) dX9_spread_72 ⟨Nat.le_of_ble_eq_true rfl, Nat.le_of_ble_eq_true rfl⟩  (k0_X9_within l D cI cJ m0 a_row a_tape a_number a_read a_readBits a_stands a_parted a_bitsWere a_stood a_chosen a_bestChosen a_often a_sorted a_risen a_risenWays (0 : Int32) (1 : Int32) (0 : Int32) (0 : Int32) (0 : Int32) (0 : Int32) (0 : Int32) (0 : Int32) (0 : Int32) (64 : Int32) (127 : Int32))) (fun r hp => ?_)
                  obtain rfl := hp
                  refine lv_istore (lv' := [(7, .int 0), (6, .int 64), (5, .int 0), (4, .int 64), (0, .ref m0), (1, .int 0), (2, .int 0), (3, .int 2)]) hx hb dX9_spread_75 hl (by decide) rfl (fun ls hl => ?_)
                  refine lv_iload hx hb dX9_spread_77 (lv_at hl 2 rfl) ?_
                  refine lv_iload hx hb dX9_spread_79 (lv_at hl 0 rfl) ?_
                  refine lv_if_le (tgt := 88) hx hb dX9_spread_81 (by decide) (fun c81 => ?_) (fun c81 => ?_)
                  ·
                    refine lv_iconst (v := 0) hx hb dX9_spread_88 (by decide +kernel) ?_
                    refine my_gpI (my_pS (As := [.int 0]) (rest := [.int 0]) ⟨hx, hb, hml, hown, hts⟩ (va_cwS 1 hts gX9_spread_X9_flag rfl rfl rfl (by decide +kernel) ⟨Nat.le_of_ble_eq_true rfl, Nat.le_of_ble_eq_true rfl⟩) hN hK hP [] rfl rfl hl.1 rfl (Nat.le_of_ble_eq_true rfl) dX9_spread_89 ⟨Nat.le_of_ble_eq_true rfl, Nat.le_of_ble_eq_true rfl⟩  (k0_X9_flag l D cI cJ )) (fun r hp => ?_)
                    obtain rfl := hp
                    refine lv_iadd hx hb dX9_spread_92 ?_
                    refine my_eqi (y := 0) (by decide +kernel) ?_
                    refine lv_istore (lv' := [(5, .int 0), (7, .int 0), (6, .int 64), (4, .int 64), (0, .ref m0), (1, .int 0), (2, .int 0), (3, .int 2)]) hx hb dX9_spread_93 hl (by decide) rfl (fun ls hl => ?_)
                    refine lv_aload_n hx hb dX9_spread_95 rfl (lv_at hl 4 rfl) ?_
                    refine lv_iload hx hb dX9_spread_96 (lv_at hl 1 rfl) ?_
                    refine lv_i2l (v := 0) hx hb dX9_spread_98 (by decide +kernel) ?_
                    refine my_goV (wr := [(a_often, .inl (cI, 512, .inl (fun _ => (0 : Int32))))]) hP hD hS hA [1, 2] [0] rfl rfl (by decide) (by decide) (my_cV (As := [.long 0]) (rest := []) (ci := 9) (wc := [(m0, .inr (9, [.int 0, .int 1, .ref a_row, .ref a_tape, .int 0, .int 0, .int 0, .int 0, .ref a_number, .ref a_read, .int 0, .ref a_readBits, .ref a_stands, .ref a_parted, .ref a_bitsWere, .ref a_stood, .ref a_chosen, .ref a_bestChosen, .int 0, .ref a_often, .ref a_sorted, .int 0, .ref a_risen, .ref a_risenWays])), (a_row, .inl (cJ, 64, .inr (.inl f_7)))]) ⟨hx, hb, hml, hown, hts⟩ (cwV 1 hts gX9_spread_X9_enters rfl rfl rfl (by decide +kernel) ⟨Nat.le_of_ble_eq_true rfl, Nat.le_of_ble_eq_true rfl⟩) hN hK hP hD [1, 2] rfl (by decide) rfl 1 rfl rfl rfl rfl hl.1 rfl (Nat.le_of_ble_eq_true rfl) dX9_spread_99 ⟨Nat.le_of_ble_eq_true rfl, Nat.le_of_ble_eq_true rfl⟩  ((k_X9_enters l D cI cJ m0 a_row a_tape a_number a_read a_readBits a_stands a_parted a_bitsWere a_stood a_chosen a_bestChosen a_often a_sorted a_risen a_risenWays (0 : Int32) (0 : Int32) (0 : Int32) (0 : Int32) (0 : Int32) (0 : Int32) (0 : Int32) (0 : Int32) 1 f_7 (0 : Int64) (by first | omega | decide +kernel)) _)) (fun u H locs hp hP hD hS => ?_)
                    obtain ⟨f_8, rfl⟩ := hp
                    have hP : va_P D vwCl [(a_often, .inl (cI, 512, .inl (fun _ => (0 : Int32)))), (m0, .inr (9, [.int 0, .int 2, .ref a_row, .ref a_tape, .int 0, .int 0, .int 0, .int 0, .ref a_number, .ref a_read, .int 0, .ref a_readBits, .ref a_stands, .ref a_parted, .ref a_bitsWere, .ref a_stood, .ref a_chosen, .ref a_bestChosen, .int 0, .ref a_often, .ref a_sorted, .int 0, .ref a_risen, .ref a_risenWays])), (a_row, .inl (cJ, 64, .inr (.inl f_8)))] H := hP
                    have hD : va_D A [(a_often, .inl (cI, 512, .inl (fun _ => (0 : Int32)))), (m0, .inr (9, [.int 0, .int 2, .ref a_row, .ref a_tape, .int 0, .int 0, .int 0, .int 0, .ref a_number, .ref a_read, .int 0, .ref a_readBits, .ref a_stands, .ref a_parted, .ref a_bitsWere, .ref a_stood, .ref a_chosen, .ref a_bestChosen, .int 0, .ref a_often, .ref a_sorted, .int 0, .ref a_risen, .ref a_risenWays])), (a_row, .inl (cJ, 64, .inr (.inl f_8)))] := hD
                    refine lv_iload hx hb dX9_spread_102 (lv_at hl 2 rfl) ?_
                    refine lv_iload hx hb dX9_spread_104 (lv_at hl 3 rfl) ?_
                    refine lv_iadd hx hb dX9_spread_106 ?_
                    refine my_eqi (y := 128) (by decide +kernel) ?_
                    refine lv_istore (lv' := [(6, .int 128), (5, .int 0), (7, .int 0), (4, .int 64), (0, .ref m0), (1, .int 0), (2, .int 0), (3, .int 2)]) hx hb dX9_spread_107 hl (by decide) rfl (fun ls hl => ?_)
                    refine lv_goto (tgt := 53) hx hb dX9_spread_109 (by decide) ?_
                    refine lv_iload hx hb dX9_spread_53 (lv_at hl 0 rfl) ?_
                    refine lv_sipush (v := 256) hx hb dX9_spread_55 (by decide +kernel) ?_
                    refine lv_icmp_ge (tgt := 112) hx hb dX9_spread_58 (by decide) (fun c58 => ?_) (fun c58 => ?_)
                    ·
                      exact absurd c58 (by decide +kernel)
                    ·
                      refine lv_aload_n hx hb dX9_spread_61 rfl (lv_at hl 4 rfl) ?_
                      refine lv_iconst (v := 0) hx hb dX9_spread_62 (by decide +kernel) ?_
                      refine lv_iload hx hb dX9_spread_63 (lv_at hl 0 rfl) ?_
                      refine lv_iload hx hb dX9_spread_65 (lv_at hl 0 rfl) ?_
                      refine lv_iload hx hb dX9_spread_67 (lv_at hl 3 rfl) ?_
                      refine lv_iadd hx hb dX9_spread_69 ?_
                      refine my_eqi (y := 192) (by decide +kernel) ?_
                      refine lv_iconst (v := 1) hx hb dX9_spread_70 (by decide +kernel) ?_
                      refine lv_isub hx hb dX9_spread_71 ?_
                      refine my_eqi (y := 191) (by decide +kernel) ?_
                      refine my_gpI (my_pV (As := [.int 0, .int 128, .int 191]) (rest := []) (ci := 9) ⟨hx, hb, hml, hown, hts⟩ (cwV 3 hts gX9_spread_X9_within rfl rfl rfl (by decide +kernel) ⟨Nat.le_of_ble_eq_true rfl, Nat.le_of_ble_eq_true rfl⟩) hN hK hP [1, 0] rfl 1 rfl rfl rfl rfl hl.1 rfl (Nat.le_of_ble_eq_true rfl) dX9_spread_72 ⟨Nat.le_of_ble_eq_true rfl, Nat.le_of_ble_eq_true rfl⟩  (k0_X9_within l D cI cJ m0 a_row a_tape a_number a_read a_readBits a_stands a_parted a_bitsWere a_stood a_chosen a_bestChosen a_often a_sorted a_risen a_risenWays (0 : Int32) (2 : Int32) (0 : Int32) (0 : Int32) (0 : Int32) (0 : Int32) (0 : Int32) (0 : Int32) (0 : Int32) (128 : Int32) (191 : Int32))) (fun r hp => ?_)
                      obtain rfl := hp
                      refine lv_istore (lv' := [(7, .int 0), (6, .int 128), (5, .int 0), (4, .int 64), (0, .ref m0), (1, .int 0), (2, .int 0), (3, .int 2)]) hx hb dX9_spread_75 hl (by decide) rfl (fun ls hl => ?_)
                      refine lv_iload hx hb dX9_spread_77 (lv_at hl 2 rfl) ?_
                      refine lv_iload hx hb dX9_spread_79 (lv_at hl 0 rfl) ?_
                      refine lv_if_le (tgt := 88) hx hb dX9_spread_81 (by decide) (fun c81 => ?_) (fun c81 => ?_)
                      ·
                        refine lv_iconst (v := 0) hx hb dX9_spread_88 (by decide +kernel) ?_
                        refine my_gpI (my_pS (As := [.int 0]) (rest := [.int 0]) ⟨hx, hb, hml, hown, hts⟩ (va_cwS 1 hts gX9_spread_X9_flag rfl rfl rfl (by decide +kernel) ⟨Nat.le_of_ble_eq_true rfl, Nat.le_of_ble_eq_true rfl⟩) hN hK hP [] rfl rfl hl.1 rfl (Nat.le_of_ble_eq_true rfl) dX9_spread_89 ⟨Nat.le_of_ble_eq_true rfl, Nat.le_of_ble_eq_true rfl⟩  (k0_X9_flag l D cI cJ )) (fun r hp => ?_)
                        obtain rfl := hp
                        refine lv_iadd hx hb dX9_spread_92 ?_
                        refine my_eqi (y := 0) (by decide +kernel) ?_
                        refine lv_istore (lv' := [(5, .int 0), (7, .int 0), (6, .int 128), (4, .int 64), (0, .ref m0), (1, .int 0), (2, .int 0), (3, .int 2)]) hx hb dX9_spread_93 hl (by decide) rfl (fun ls hl => ?_)
                        refine lv_aload_n hx hb dX9_spread_95 rfl (lv_at hl 4 rfl) ?_
                        refine lv_iload hx hb dX9_spread_96 (lv_at hl 1 rfl) ?_
                        refine lv_i2l (v := 0) hx hb dX9_spread_98 (by decide +kernel) ?_
                        refine my_goV (wr := [(a_often, .inl (cI, 512, .inl (fun _ => (0 : Int32))))]) hP hD hS hA [1, 2] [0] rfl rfl (by decide) (by decide) (my_cV (As := [.long 0]) (rest := []) (ci := 9) (wc := [(m0, .inr (9, [.int 0, .int 2, .ref a_row, .ref a_tape, .int 0, .int 0, .int 0, .int 0, .ref a_number, .ref a_read, .int 0, .ref a_readBits, .ref a_stands, .ref a_parted, .ref a_bitsWere, .ref a_stood, .ref a_chosen, .ref a_bestChosen, .int 0, .ref a_often, .ref a_sorted, .int 0, .ref a_risen, .ref a_risenWays])), (a_row, .inl (cJ, 64, .inr (.inl f_8)))]) ⟨hx, hb, hml, hown, hts⟩ (cwV 1 hts gX9_spread_X9_enters rfl rfl rfl (by decide +kernel) ⟨Nat.le_of_ble_eq_true rfl, Nat.le_of_ble_eq_true rfl⟩) hN hK hP hD [1, 2] rfl (by decide) rfl 1 rfl rfl rfl rfl hl.1 rfl (Nat.le_of_ble_eq_true rfl) dX9_spread_99 ⟨Nat.le_of_ble_eq_true rfl, Nat.le_of_ble_eq_true rfl⟩  ((k_X9_enters l D cI cJ m0 a_row a_tape a_number a_read a_readBits a_stands a_parted a_bitsWere a_stood a_chosen a_bestChosen a_often a_sorted a_risen a_risenWays (0 : Int32) (0 : Int32) (0 : Int32) (0 : Int32) (0 : Int32) (0 : Int32) (0 : Int32) (0 : Int32) 2 f_8 (0 : Int64) (by first | omega | decide +kernel)) _)) (fun u H locs hp hP hD hS => ?_)
                        obtain ⟨f_9, rfl⟩ := hp
                        have hP : va_P D vwCl [(a_often, .inl (cI, 512, .inl (fun _ => (0 : Int32)))), (m0, .inr (9, [.int 0, .int 3, .ref a_row, .ref a_tape, .int 0, .int 0, .int 0, .int 0, .ref a_number, .ref a_read, .int 0, .ref a_readBits, .ref a_stands, .ref a_parted, .ref a_bitsWere, .ref a_stood, .ref a_chosen, .ref a_bestChosen, .int 0, .ref a_often, .ref a_sorted, .int 0, .ref a_risen, .ref a_risenWays])), (a_row, .inl (cJ, 64, .inr (.inl f_9)))] H := hP
                        have hD : va_D A [(a_often, .inl (cI, 512, .inl (fun _ => (0 : Int32)))), (m0, .inr (9, [.int 0, .int 3, .ref a_row, .ref a_tape, .int 0, .int 0, .int 0, .int 0, .ref a_number, .ref a_read, .int 0, .ref a_readBits, .ref a_stands, .ref a_parted, .ref a_bitsWere, .ref a_stood, .ref a_chosen, .ref a_bestChosen, .int 0, .ref a_often, .ref a_sorted, .int 0, .ref a_risen, .ref a_risenWays])), (a_row, .inl (cJ, 64, .inr (.inl f_9)))] := hD
                        refine lv_iload hx hb dX9_spread_102 (lv_at hl 2 rfl) ?_
                        refine lv_iload hx hb dX9_spread_104 (lv_at hl 3 rfl) ?_
                        refine lv_iadd hx hb dX9_spread_106 ?_
                        refine my_eqi (y := 192) (by decide +kernel) ?_
                        refine lv_istore (lv' := [(6, .int 192), (5, .int 0), (7, .int 0), (4, .int 64), (0, .ref m0), (1, .int 0), (2, .int 0), (3, .int 2)]) hx hb dX9_spread_107 hl (by decide) rfl (fun ls hl => ?_)
                        refine lv_goto (tgt := 53) hx hb dX9_spread_109 (by decide) ?_
                        refine lv_iload hx hb dX9_spread_53 (lv_at hl 0 rfl) ?_
                        refine lv_sipush (v := 256) hx hb dX9_spread_55 (by decide +kernel) ?_
                        refine lv_icmp_ge (tgt := 112) hx hb dX9_spread_58 (by decide) (fun c58 => ?_) (fun c58 => ?_)
                        ·
                          exact absurd c58 (by decide +kernel)
                        ·
                          refine lv_aload_n hx hb dX9_spread_61 rfl (lv_at hl 4 rfl) ?_
                          refine lv_iconst (v := 0) hx hb dX9_spread_62 (by decide +kernel) ?_
                          refine lv_iload hx hb dX9_spread_63 (lv_at hl 0 rfl) ?_
                          refine lv_iload hx hb dX9_spread_65 (lv_at hl 0 rfl) ?_
                          refine lv_iload hx hb dX9_spread_67 (lv_at hl 3 rfl) ?_
                          refine lv_iadd hx hb dX9_spread_69 ?_
                          refine my_eqi (y := 256) (by decide +kernel) ?_
                          refine lv_iconst (v := 1) hx hb dX9_spread_70 (by decide +kernel) ?_
                          refine lv_isub hx hb dX9_spread_71 ?_
                          refine my_eqi (y := 255) (by decide +kernel) ?_
                          refine my_gpI (my_pV (As := [.int 0, .int 192, .int 255]) (rest := []) (ci := 9) ⟨hx, hb, hml, hown, hts⟩ (cwV 3 hts gX9_spread_X9_within rfl rfl rfl (by decide +kernel) ⟨Nat.le_of_ble_eq_true rfl, Nat.le_of_ble_eq_true rfl⟩) hN hK hP [1, 0] rfl 1 rfl rfl rfl rfl hl.1 rfl (Nat.le_of_ble_eq_true rfl) dX9_spread_72 ⟨Nat.le_of_ble_eq_true rfl, Nat.le_of_ble_eq_true rfl⟩  (k0_X9_within l D cI cJ m0 a_row a_tape a_number a_read a_readBits a_stands a_parted a_bitsWere a_stood a_chosen a_bestChosen a_often a_sorted a_risen a_risenWays (0 : Int32) (3 : Int32) (0 : Int32) (0 : Int32) (0 : Int32) (0 : Int32) (0 : Int32) (0 : Int32) (0 : Int32) (192 : Int32) (255 : Int32))) (fun r hp => ?_)
                          obtain rfl := hp
                          refine lv_istore (lv' := [(7, .int 0), (6, .int 192), (5, .int 0), (4, .int 64), (0, .ref m0), (1, .int 0), (2, .int 0), (3, .int 2)]) hx hb dX9_spread_75 hl (by decide) rfl (fun ls hl => ?_)
                          refine lv_iload hx hb dX9_spread_77 (lv_at hl 2 rfl) ?_
                          refine lv_iload hx hb dX9_spread_79 (lv_at hl 0 rfl) ?_
                          refine lv_if_le (tgt := 88) hx hb dX9_spread_81 (by decide) (fun c81 => ?_) (fun c81 => ?_)
                          ·
                            refine lv_iconst (v := 0) hx hb dX9_spread_88 (by decide +kernel) ?_
                            refine my_gpI (my_pS (As := [.int 0]) (rest := [.int 0]) ⟨hx, hb, hml, hown, hts⟩ (va_cwS 1 hts gX9_spread_X9_flag rfl rfl rfl (by decide +kernel) ⟨Nat.le_of_ble_eq_true rfl, Nat.le_of_ble_eq_true rfl⟩) hN hK hP [] rfl rfl hl.1 rfl (Nat.le_of_ble_eq_true rfl) dX9_spread_89 ⟨Nat.le_of_ble_eq_true rfl, Nat.le_of_ble_eq_true rfl⟩  (k0_X9_flag l D cI cJ )) (fun r hp => ?_)
                            obtain rfl := hp
                            refine lv_iadd hx hb dX9_spread_92 ?_
                            refine my_eqi (y := 0) (by decide +kernel) ?_
                            refine lv_istore (lv' := [(5, .int 0), (7, .int 0), (6, .int 192), (4, .int 64), (0, .ref m0), (1, .int 0), (2, .int 0), (3, .int 2)]) hx hb dX9_spread_93 hl (by decide) rfl (fun ls hl => ?_)
                            refine lv_aload_n hx hb dX9_spread_95 rfl (lv_at hl 4 rfl) ?_
                            refine lv_iload hx hb dX9_spread_96 (lv_at hl 1 rfl) ?_
                            refine lv_i2l (v := 0) hx hb dX9_spread_98 (by decide +kernel) ?_
                            refine my_goV (wr := [(a_often, .inl (cI, 512, .inl (fun _ => (0 : Int32))))]) hP hD hS hA [1, 2] [0] rfl rfl (by decide) (by decide) (my_cV (As := [.long 0]) (rest := []) (ci := 9) (wc := [(m0, .inr (9, [.int 0, .int 3, .ref a_row, .ref a_tape, .int 0, .int 0, .int 0, .int 0, .ref a_number, .ref a_read, .int 0, .ref a_readBits, .ref a_stands, .ref a_parted, .ref a_bitsWere, .ref a_stood, .ref a_chosen, .ref a_bestChosen, .int 0, .ref a_often, .ref a_sorted, .int 0, .ref a_risen, .ref a_risenWays])), (a_row, .inl (cJ, 64, .inr (.inl f_9)))]) ⟨hx, hb, hml, hown, hts⟩ (cwV 1 hts gX9_spread_X9_enters rfl rfl rfl (by decide +kernel) ⟨Nat.le_of_ble_eq_true rfl, Nat.le_of_ble_eq_true rfl⟩) hN hK hP hD [1, 2] rfl (by decide) rfl 1 rfl rfl rfl rfl hl.1 rfl (Nat.le_of_ble_eq_true rfl) dX9_spread_99 ⟨Nat.le_of_ble_eq_true rfl, Nat.le_of_ble_eq_true rfl⟩  ((k_X9_enters l D cI cJ m0 a_row a_tape a_number a_read a_readBits a_stands a_parted a_bitsWere a_stood a_chosen a_bestChosen a_often a_sorted a_risen a_risenWays (0 : Int32) (0 : Int32) (0 : Int32) (0 : Int32) (0 : Int32) (0 : Int32) (0 : Int32) (0 : Int32) 3 f_9 (0 : Int64) (by first | omega | decide +kernel)) _)) (fun u H locs hp hP hD hS => ?_)
                            obtain ⟨f_10, rfl⟩ := hp
                            have hP : va_P D vwCl [(a_often, .inl (cI, 512, .inl (fun _ => (0 : Int32)))), (m0, .inr (9, [.int 0, .int 4, .ref a_row, .ref a_tape, .int 0, .int 0, .int 0, .int 0, .ref a_number, .ref a_read, .int 0, .ref a_readBits, .ref a_stands, .ref a_parted, .ref a_bitsWere, .ref a_stood, .ref a_chosen, .ref a_bestChosen, .int 0, .ref a_often, .ref a_sorted, .int 0, .ref a_risen, .ref a_risenWays])), (a_row, .inl (cJ, 64, .inr (.inl f_10)))] H := hP
                            have hD : va_D A [(a_often, .inl (cI, 512, .inl (fun _ => (0 : Int32)))), (m0, .inr (9, [.int 0, .int 4, .ref a_row, .ref a_tape, .int 0, .int 0, .int 0, .int 0, .ref a_number, .ref a_read, .int 0, .ref a_readBits, .ref a_stands, .ref a_parted, .ref a_bitsWere, .ref a_stood, .ref a_chosen, .ref a_bestChosen, .int 0, .ref a_often, .ref a_sorted, .int 0, .ref a_risen, .ref a_risenWays])), (a_row, .inl (cJ, 64, .inr (.inl f_10)))] := hD
                            refine lv_iload hx hb dX9_spread_102 (lv_at hl 2 rfl) ?_
                            refine lv_iload hx hb dX9_spread_104 (lv_at hl 3 rfl) ?_
                            refine lv_iadd hx hb dX9_spread_106 ?_
                            refine my_eqi (y := 256) (by decide +kernel) ?_
                            refine lv_istore (lv' := [(6, .int 256), (5, .int 0), (7, .int 0), (4, .int 64), (0, .ref m0), (1, .int 0), (2, .int 0), (3, .int 2)]) hx hb dX9_spread_107 hl (by decide) rfl (fun ls hl => ?_)
                            refine lv_goto (tgt := 53) hx hb dX9_spread_109 (by decide) ?_
                            refine lv_iload hx hb dX9_spread_53 (lv_at hl 0 rfl) ?_
                            refine lv_sipush (v := 256) hx hb dX9_spread_55 (by decide +kernel) ?_
                            refine lv_icmp_ge (tgt := 112) hx hb dX9_spread_58 (by decide) (fun c58 => ?_) (fun c58 => ?_)
                            ·
                              refine lv_iload hx hb dX9_spread_112 (lv_at hl 1 rfl) ?_
                              exact my_retI hx hb hr hlocks hK hS [] (hP.sub [] rfl) (hD.sub [] (by decide) rfl) (Or.inl ⟨rfl, rfl, (by first | omega | assumption | trivial | decide +kernel), (by first | omega | assumption | trivial | decide +kernel), (by first | omega | assumption | trivial | decide +kernel), (by first | omega | assumption | trivial | decide +kernel)⟩) dX9_spread_114
                            ·
                              exact absurd c58 (by decide +kernel)
                          ·
                            exact absurd c81 (by decide +kernel)
                      ·
                        exact absurd c81 (by decide +kernel)
                  ·
                    exact absurd c81 (by decide +kernel)
              ·
                exact absurd c81 (by decide +kernel)
          ·
            refine lv_aload_n hx hb dX9_spread_28 rfl (lv_at hl 0 rfl) ?_
            refine lv_iconst (v := 0) hx hb dX9_spread_29 (by decide +kernel) ?_
            refine lv_iload_n hx hb dX9_spread_30 rfl (lv_at hl 1 rfl) ?_
            refine lv_iload_n hx hb dX9_spread_31 rfl (lv_at hl 2 rfl) ?_
            refine my_goV (wr := [(a_row, .inl (cJ, 64, .inr (.inl rf)))]) hP hD hS hA [0, 1] [2] rfl rfl (by decide) (by decide) (my_cV (As := [.int 0, .int 0, .int 0]) (rest := []) (ci := 9) (wc := [(m0, .inr (9, [.int 0, .int 0, .ref a_row, .ref a_tape, .int 0, .int 0, .int 0, .int 0, .ref a_number, .ref a_read, .int 0, .ref a_readBits, .ref a_stands, .ref a_parted, .ref a_bitsWere, .ref a_stood, .ref a_chosen, .ref a_bestChosen, .int 0, .ref a_often, .ref a_sorted, .int 0, .ref a_risen, .ref a_risenWays])), (a_often, .inl (cI, 512, .inl (fun _ => (0 : Int32))))]) ⟨hx, hb, hml, hown, hts⟩ (cwV 3 hts gX9_spread_X9_counts rfl rfl rfl (by decide +kernel) ⟨Nat.le_of_ble_eq_true rfl, Nat.le_of_ble_eq_true rfl⟩) hN hK hP hD [0, 1] rfl (by decide) rfl 0 rfl rfl rfl rfl hl.1 rfl (Nat.le_of_ble_eq_true rfl) dX9_spread_32 ⟨Nat.le_of_ble_eq_true rfl, Nat.le_of_ble_eq_true rfl⟩  ((k0_X9_counts l D cI cJ m0 a_row a_tape a_number a_read a_readBits a_stands a_parted a_bitsWere a_stood a_chosen a_bestChosen a_often a_sorted a_risen a_risenWays (0 : Int32) (0 : Int32) (0 : Int32) (0 : Int32) (0 : Int32) (0 : Int32) (0 : Int32) (0 : Int32) (0 : Int32)) _)) (fun u H locs hp hP hD hS => ?_)
            obtain rfl := hp
            have hP : va_P D vwCl [(a_row, .inl (cJ, 64, .inr (.inl rf))), (m0, .inr (9, [.int 0, .int 0, .ref a_row, .ref a_tape, .int 0, .int 0, .int 0, .int 0, .ref a_number, .ref a_read, .int 0, .ref a_readBits, .ref a_stands, .ref a_parted, .ref a_bitsWere, .ref a_stood, .ref a_chosen, .ref a_bestChosen, .int 0, .ref a_often, .ref a_sorted, .int 0, .ref a_risen, .ref a_risenWays])), (a_often, .inl (cI, 512, .inl (fun _ => (0 : Int32))))] H := hP
            have hD : va_D A [(a_row, .inl (cJ, 64, .inr (.inl rf))), (m0, .inr (9, [.int 0, .int 0, .ref a_row, .ref a_tape, .int 0, .int 0, .int 0, .int 0, .ref a_number, .ref a_read, .int 0, .ref a_readBits, .ref a_stands, .ref a_parted, .ref a_bitsWere, .ref a_stood, .ref a_chosen, .ref a_bestChosen, .int 0, .ref a_often, .ref a_sorted, .int 0, .ref a_risen, .ref a_risenWays])), (a_often, .inl (cI, 512, .inl (fun _ => (0 : Int32))))] := hD
            refine lv_sipush (v := 256) hx hb dX9_spread_35 (by decide +kernel) ?_
            refine lv_iload_n hx hb dX9_spread_38 rfl (lv_at hl 3 rfl) ?_
            refine lv_ishr hx hb dX9_spread_39 ?_
            refine my_eqi (y := 32) (by decide +kernel) ?_
            refine lv_istore (lv' := [(4, .int 32), (0, .ref m0), (1, .int 0), (2, .int 0), (3, .int 3)]) hx hb dX9_spread_40 hl (by decide) rfl (fun ls hl => ?_)
            refine lv_iconst (v := 0) hx hb dX9_spread_42 (by decide +kernel) ?_
            refine lv_istore (lv' := [(5, .int 0), (4, .int 32), (0, .ref m0), (1, .int 0), (2, .int 0), (3, .int 3)]) hx hb dX9_spread_43 hl (by decide) rfl (fun ls hl => ?_)
            refine lv_aload_n hx hb dX9_spread_45 rfl (lv_at hl 2 rfl) ?_
            refine lv_iconst (v := 0) hx hb dX9_spread_46 (by decide +kernel) ?_
            refine va_put (ci := 9) (v := .int 0) (ty := (.int)) (C := RX9) (T := TX9) (N := 24) hx hb hts hi9 tyX9 tyX9_ok nmX9 hown hK hP hD hS 1 rfl rfl 1 (by decide) fl11 (fun _ h9 => h9) rfl (by decide +kernel) rfl rfl (Nat.le_of_ble_eq_true rfl) dX9_spread_47 (fun H locs hP hD hS => ?_)
            have hP : va_P D vwCl [(a_row, .inl (cJ, 64, .inr (.inl rf))), (m0, .inr (9, [.int 0, .int 0, .ref a_row, .ref a_tape, .int 0, .int 0, .int 0, .int 0, .ref a_number, .ref a_read, .int 0, .ref a_readBits, .ref a_stands, .ref a_parted, .ref a_bitsWere, .ref a_stood, .ref a_chosen, .ref a_bestChosen, .int 0, .ref a_often, .ref a_sorted, .int 0, .ref a_risen, .ref a_risenWays])), (a_often, .inl (cI, 512, .inl (fun _ => (0 : Int32))))] H := hP
            have hD : va_D A [(a_row, .inl (cJ, 64, .inr (.inl rf))), (m0, .inr (9, [.int 0, .int 0, .ref a_row, .ref a_tape, .int 0, .int 0, .int 0, .int 0, .ref a_number, .ref a_read, .int 0, .ref a_readBits, .ref a_stands, .ref a_parted, .ref a_bitsWere, .ref a_stood, .ref a_chosen, .ref a_bestChosen, .int 0, .ref a_often, .ref a_sorted, .int 0, .ref a_risen, .ref a_risenWays])), (a_often, .inl (cI, 512, .inl (fun _ => (0 : Int32))))] := hD
            refine lv_iconst (v := 0) hx hb dX9_spread_50 (by decide +kernel) ?_
            refine lv_istore (lv' := [(6, .int 0), (5, .int 0), (4, .int 32), (0, .ref m0), (1, .int 0), (2, .int 0), (3, .int 3)]) hx hb dX9_spread_51 hl (by decide) rfl (fun ls hl => ?_)
            refine lv_iload hx hb dX9_spread_53 (lv_at hl 0 rfl) ?_
            refine lv_sipush (v := 256) hx hb dX9_spread_55 (by decide +kernel) ?_
            refine lv_icmp_ge (tgt := 112) hx hb dX9_spread_58 (by decide) (fun c58 => ?_) (fun c58 => ?_)
            ·
              exact absurd c58 (by decide +kernel)
            ·
              refine lv_aload_n hx hb dX9_spread_61 rfl (lv_at hl 3 rfl) ?_
              refine lv_iconst (v := 0) hx hb dX9_spread_62 (by decide +kernel) ?_
              refine lv_iload hx hb dX9_spread_63 (lv_at hl 0 rfl) ?_
              refine lv_iload hx hb dX9_spread_65 (lv_at hl 0 rfl) ?_
              refine lv_iload hx hb dX9_spread_67 (lv_at hl 2 rfl) ?_
              refine lv_iadd hx hb dX9_spread_69 ?_
              refine my_eqi (y := 32) (by decide +kernel) ?_
              refine lv_iconst (v := 1) hx hb dX9_spread_70 (by decide +kernel) ?_
              refine lv_isub hx hb dX9_spread_71 ?_
              refine my_eqi (y := 31) (by decide +kernel) ?_
              refine my_gpI (my_pV (As := [.int 0, .int 0, .int 31]) (rest := []) (ci := 9) ⟨hx, hb, hml, hown, hts⟩ (cwV 3 hts gX9_spread_X9_within rfl rfl rfl (by decide +kernel) ⟨Nat.le_of_ble_eq_true rfl, Nat.le_of_ble_eq_true rfl⟩) hN hK hP [1, 2] rfl 1 rfl rfl rfl rfl hl.1 rfl (Nat.le_of_ble_eq_true rfl) dX9_spread_72 ⟨Nat.le_of_ble_eq_true rfl, Nat.le_of_ble_eq_true rfl⟩  (k0_X9_within l D cI cJ m0 a_row a_tape a_number a_read a_readBits a_stands a_parted a_bitsWere a_stood a_chosen a_bestChosen a_often a_sorted a_risen a_risenWays (0 : Int32) (0 : Int32) (0 : Int32) (0 : Int32) (0 : Int32) (0 : Int32) (0 : Int32) (0 : Int32) (0 : Int32) (0 : Int32) (31 : Int32))) (fun r hp => ?_)
              obtain rfl := hp
              refine lv_istore (lv' := [(7, .int 0), (6, .int 0), (5, .int 0), (4, .int 32), (0, .ref m0), (1, .int 0), (2, .int 0), (3, .int 3)]) hx hb dX9_spread_75 hl (by decide) rfl (fun ls hl => ?_)
              refine lv_iload hx hb dX9_spread_77 (lv_at hl 2 rfl) ?_
              refine lv_iload hx hb dX9_spread_79 (lv_at hl 0 rfl) ?_
              refine lv_if_le (tgt := 88) hx hb dX9_spread_81 (by decide) (fun c81 => ?_) (fun c81 => ?_)
              ·
                refine lv_iconst (v := 0) hx hb dX9_spread_88 (by decide +kernel) ?_
                refine my_gpI (my_pS (As := [.int 0]) (rest := [.int 0]) ⟨hx, hb, hml, hown, hts⟩ (va_cwS 1 hts gX9_spread_X9_flag rfl rfl rfl (by decide +kernel) ⟨Nat.le_of_ble_eq_true rfl, Nat.le_of_ble_eq_true rfl⟩) hN hK hP [] rfl rfl hl.1 rfl (Nat.le_of_ble_eq_true rfl) dX9_spread_89 ⟨Nat.le_of_ble_eq_true rfl, Nat.le_of_ble_eq_true rfl⟩  (k0_X9_flag l D cI cJ )) (fun r hp => ?_)
                obtain rfl := hp
                refine lv_iadd hx hb dX9_spread_92 ?_
                refine my_eqi (y := 0) (by decide +kernel) ?_
                refine lv_istore (lv' := [(5, .int 0), (7, .int 0), (6, .int 0), (4, .int 32), (0, .ref m0), (1, .int 0), (2, .int 0), (3, .int 3)]) hx hb dX9_spread_93 hl (by decide) rfl (fun ls hl => ?_)
                refine lv_aload_n hx hb dX9_spread_95 rfl (lv_at hl 4 rfl) ?_
                refine lv_iload hx hb dX9_spread_96 (lv_at hl 1 rfl) ?_
                refine lv_i2l (v := 0) hx hb dX9_spread_98 (by decide +kernel) ?_
                refine my_goV (wr := [(a_often, .inl (cI, 512, .inl (fun _ => (0 : Int32))))]) hP hD hS hA [1, 0] [2] rfl rfl (by decide) (by decide) (my_cV (As := [.long 0]) (rest := []) (ci := 9) (wc := [(m0, .inr (9, [.int 0, .int 0, .ref a_row, .ref a_tape, .int 0, .int 0, .int 0, .int 0, .ref a_number, .ref a_read, .int 0, .ref a_readBits, .ref a_stands, .ref a_parted, .ref a_bitsWere, .ref a_stood, .ref a_chosen, .ref a_bestChosen, .int 0, .ref a_often, .ref a_sorted, .int 0, .ref a_risen, .ref a_risenWays])), (a_row, .inl (cJ, 64, .inr (.inl rf)))]) ⟨hx, hb, hml, hown, hts⟩ (cwV 1 hts gX9_spread_X9_enters rfl rfl rfl (by decide +kernel) ⟨Nat.le_of_ble_eq_true rfl, Nat.le_of_ble_eq_true rfl⟩) hN hK hP hD [1, 0] rfl (by decide) rfl 1 rfl rfl rfl rfl hl.1 rfl (Nat.le_of_ble_eq_true rfl) dX9_spread_99 ⟨Nat.le_of_ble_eq_true rfl, Nat.le_of_ble_eq_true rfl⟩  ((k_X9_enters l D cI cJ m0 a_row a_tape a_number a_read a_readBits a_stands a_parted a_bitsWere a_stood a_chosen a_bestChosen a_often a_sorted a_risen a_risenWays (0 : Int32) (0 : Int32) (0 : Int32) (0 : Int32) (0 : Int32) (0 : Int32) (0 : Int32) (0 : Int32) 0 rf (0 : Int64) (by first | omega | decide +kernel)) _)) (fun u H locs hp hP hD hS => ?_)
                obtain ⟨f_11, rfl⟩ := hp
                have hP : va_P D vwCl [(a_often, .inl (cI, 512, .inl (fun _ => (0 : Int32)))), (m0, .inr (9, [.int 0, .int 1, .ref a_row, .ref a_tape, .int 0, .int 0, .int 0, .int 0, .ref a_number, .ref a_read, .int 0, .ref a_readBits, .ref a_stands, .ref a_parted, .ref a_bitsWere, .ref a_stood, .ref a_chosen, .ref a_bestChosen, .int 0, .ref a_often, .ref a_sorted, .int 0, .ref a_risen, .ref a_risenWays])), (a_row, .inl (cJ, 64, .inr (.inl f_11)))] H := hP
                have hD : va_D A [(a_often, .inl (cI, 512, .inl (fun _ => (0 : Int32)))), (m0, .inr (9, [.int 0, .int 1, .ref a_row, .ref a_tape, .int 0, .int 0, .int 0, .int 0, .ref a_number, .ref a_read, .int 0, .ref a_readBits, .ref a_stands, .ref a_parted, .ref a_bitsWere, .ref a_stood, .ref a_chosen, .ref a_bestChosen, .int 0, .ref a_often, .ref a_sorted, .int 0, .ref a_risen, .ref a_risenWays])), (a_row, .inl (cJ, 64, .inr (.inl f_11)))] := hD
                refine lv_iload hx hb dX9_spread_102 (lv_at hl 2 rfl) ?_
                refine lv_iload hx hb dX9_spread_104 (lv_at hl 3 rfl) ?_
                refine lv_iadd hx hb dX9_spread_106 ?_
                refine my_eqi (y := 32) (by decide +kernel) ?_
                refine lv_istore (lv' := [(6, .int 32), (5, .int 0), (7, .int 0), (4, .int 32), (0, .ref m0), (1, .int 0), (2, .int 0), (3, .int 3)]) hx hb dX9_spread_107 hl (by decide) rfl (fun ls hl => ?_)
                refine lv_goto (tgt := 53) hx hb dX9_spread_109 (by decide) ?_
                refine lv_iload hx hb dX9_spread_53 (lv_at hl 0 rfl) ?_
                refine lv_sipush (v := 256) hx hb dX9_spread_55 (by decide +kernel) ?_
                refine lv_icmp_ge (tgt := 112) hx hb dX9_spread_58 (by decide) (fun c58 => ?_) (fun c58 => ?_)
                ·
                  exact absurd c58 (by decide +kernel)
                ·
                  refine lv_aload_n hx hb dX9_spread_61 rfl (lv_at hl 4 rfl) ?_
                  refine lv_iconst (v := 0) hx hb dX9_spread_62 (by decide +kernel) ?_
                  refine lv_iload hx hb dX9_spread_63 (lv_at hl 0 rfl) ?_
                  refine lv_iload hx hb dX9_spread_65 (lv_at hl 0 rfl) ?_
                  refine lv_iload hx hb dX9_spread_67 (lv_at hl 3 rfl) ?_
                  refine lv_iadd hx hb dX9_spread_69 ?_
                  refine my_eqi (y := 64) (by decide +kernel) ?_
                  refine lv_iconst (v := 1) hx hb dX9_spread_70 (by decide +kernel) ?_
                  refine lv_isub hx hb dX9_spread_71 ?_
                  refine my_eqi (y := 63) (by decide +kernel) ?_
                  refine my_gpI (my_pV (As := [.int 0, .int 32, .int 63]) (rest := []) (ci := 9) ⟨hx, hb, hml, hown, hts⟩ (cwV 3 hts gX9_spread_X9_within rfl rfl rfl (by decide +kernel) ⟨Nat.le_of_ble_eq_true rfl, Nat.le_of_ble_eq_true rfl⟩) hN hK hP [1, 0] rfl 1 rfl rfl rfl rfl hl.1 rfl (Nat.le_of_ble_eq_true rfl) dX9_spread_72 ⟨Nat.le_of_ble_eq_true rfl, Nat.le_of_ble_eq_true rfl⟩  (k0_X9_within l D cI cJ m0 a_row a_tape a_number a_read a_readBits a_stands a_parted a_bitsWere a_stood a_chosen a_bestChosen a_often a_sorted a_risen a_risenWays (0 : Int32) (1 : Int32) (0 : Int32) (0 : Int32) (0 : Int32) (0 : Int32) (0 : Int32) (0 : Int32) (0 : Int32) (32 : Int32) (63 : Int32))) (fun r hp => ?_)
                  obtain rfl := hp
                  refine lv_istore (lv' := [(7, .int 0), (6, .int 32), (5, .int 0), (4, .int 32), (0, .ref m0), (1, .int 0), (2, .int 0), (3, .int 3)]) hx hb dX9_spread_75 hl (by decide) rfl (fun ls hl => ?_)
                  refine lv_iload hx hb dX9_spread_77 (lv_at hl 2 rfl) ?_
                  refine lv_iload hx hb dX9_spread_79 (lv_at hl 0 rfl) ?_
                  refine lv_if_le (tgt := 88) hx hb dX9_spread_81 (by decide) (fun c81 => ?_) (fun c81 => ?_)
                  ·
                    refine lv_iconst (v := 0) hx hb dX9_spread_88 (by decide +kernel) ?_
                    refine my_gpI (my_pS (As := [.int 0]) (rest := [.int 0]) ⟨hx, hb, hml, hown, hts⟩ (va_cwS 1 hts gX9_spread_X9_flag rfl rfl rfl (by decide +kernel) ⟨Nat.le_of_ble_eq_true rfl, Nat.le_of_ble_eq_true rfl⟩) hN hK hP [] rfl rfl hl.1 rfl (Nat.le_of_ble_eq_true rfl) dX9_spread_89 ⟨Nat.le_of_ble_eq_true rfl, Nat.le_of_ble_eq_true rfl⟩  (k0_X9_flag l D cI cJ )) (fun r hp => ?_)
                    obtain rfl := hp
                    refine lv_iadd hx hb dX9_spread_92 ?_
                    refine my_eqi (y := 0) (by decide +kernel) ?_
                    refine lv_istore (lv' := [(5, .int 0), (7, .int 0), (6, .int 32), (4, .int 32), (0, .ref m0), (1, .int 0), (2, .int 0), (3, .int 3)]) hx hb dX9_spread_93 hl (by decide) rfl (fun ls hl => ?_)
                    refine lv_aload_n hx hb dX9_spread_95 rfl (lv_at hl 4 rfl) ?_
                    refine lv_iload hx hb dX9_spread_96 (lv_at hl 1 rfl) ?_
                    refine lv_i2l (v := 0) hx hb dX9_spread_98 (by decide +kernel) ?_
                    refine my_goV (wr := [(a_often, .inl (cI, 512, .inl (fun _ => (0 : Int32))))]) hP hD hS hA [1, 2] [0] rfl rfl (by decide) (by decide) (my_cV (As := [.long 0]) (rest := []) (ci := 9) (wc := [(m0, .inr (9, [.int 0, .int 1, .ref a_row, .ref a_tape, .int 0, .int 0, .int 0, .int 0, .ref a_number, .ref a_read, .int 0, .ref a_readBits, .ref a_stands, .ref a_parted, .ref a_bitsWere, .ref a_stood, .ref a_chosen, .ref a_bestChosen, .int 0, .ref a_often, .ref a_sorted, .int 0, .ref a_risen, .ref a_risenWays])), (a_row, .inl (cJ, 64, .inr (.inl f_11)))]) ⟨hx, hb, hml, hown, hts⟩ (cwV 1 hts gX9_spread_X9_enters rfl rfl rfl (by decide +kernel) ⟨Nat.le_of_ble_eq_true rfl, Nat.le_of_ble_eq_true rfl⟩) hN hK hP hD [1, 2] rfl (by decide) rfl 1 rfl rfl rfl rfl hl.1 rfl (Nat.le_of_ble_eq_true rfl) dX9_spread_99 ⟨Nat.le_of_ble_eq_true rfl, Nat.le_of_ble_eq_true rfl⟩  ((k_X9_enters l D cI cJ m0 a_row a_tape a_number a_read a_readBits a_stands a_parted a_bitsWere a_stood a_chosen a_bestChosen a_often a_sorted a_risen a_risenWays (0 : Int32) (0 : Int32) (0 : Int32) (0 : Int32) (0 : Int32) (0 : Int32) (0 : Int32) (0 : Int32) 1 f_11 (0 : Int64) (by first | omega | decide +kernel)) _)) (fun u H locs hp hP hD hS => ?_)
                    obtain ⟨f_12, rfl⟩ := hp
                    have hP : va_P D vwCl [(a_often, .inl (cI, 512, .inl (fun _ => (0 : Int32)))), (m0, .inr (9, [.int 0, .int 2, .ref a_row, .ref a_tape, .int 0, .int 0, .int 0, .int 0, .ref a_number, .ref a_read, .int 0, .ref a_readBits, .ref a_stands, .ref a_parted, .ref a_bitsWere, .ref a_stood, .ref a_chosen, .ref a_bestChosen, .int 0, .ref a_often, .ref a_sorted, .int 0, .ref a_risen, .ref a_risenWays])), (a_row, .inl (cJ, 64, .inr (.inl f_12)))] H := hP
                    have hD : va_D A [(a_often, .inl (cI, 512, .inl (fun _ => (0 : Int32)))), (m0, .inr (9, [.int 0, .int 2, .ref a_row, .ref a_tape, .int 0, .int 0, .int 0, .int 0, .ref a_number, .ref a_read, .int 0, .ref a_readBits, .ref a_stands, .ref a_parted, .ref a_bitsWere, .ref a_stood, .ref a_chosen, .ref a_bestChosen, .int 0, .ref a_often, .ref a_sorted, .int 0, .ref a_risen, .ref a_risenWays])), (a_row, .inl (cJ, 64, .inr (.inl f_12)))] := hD
                    refine lv_iload hx hb dX9_spread_102 (lv_at hl 2 rfl) ?_
                    refine lv_iload hx hb dX9_spread_104 (lv_at hl 3 rfl) ?_
                    refine lv_iadd hx hb dX9_spread_106 ?_
                    refine my_eqi (y := 64) (by decide +kernel) ?_
                    refine lv_istore (lv' := [(6, .int 64), (5, .int 0), (7, .int 0), (4, .int 32), (0, .ref m0), (1, .int 0), (2, .int 0), (3, .int 3)]) hx hb dX9_spread_107 hl (by decide) rfl (fun ls hl => ?_)
                    refine lv_goto (tgt := 53) hx hb dX9_spread_109 (by decide) ?_
                    refine lv_iload hx hb dX9_spread_53 (lv_at hl 0 rfl) ?_
                    refine lv_sipush (v := 256) hx hb dX9_spread_55 (by decide +kernel) ?_
                    refine lv_icmp_ge (tgt := 112) hx hb dX9_spread_58 (by decide) (fun c58 => ?_) (fun c58 => ?_)
                    ·
                      exact absurd c58 (by decide +kernel)
                    ·
                      refine lv_aload_n hx hb dX9_spread_61 rfl (lv_at hl 4 rfl) ?_
                      refine lv_iconst (v := 0) hx hb dX9_spread_62 (by decide +kernel) ?_
                      refine lv_iload hx hb dX9_spread_63 (lv_at hl 0 rfl) ?_
                      refine lv_iload hx hb dX9_spread_65 (lv_at hl 0 rfl) ?_
                      refine lv_iload hx hb dX9_spread_67 (lv_at hl 3 rfl) ?_
                      refine lv_iadd hx hb dX9_spread_69 ?_
                      refine my_eqi (y := 96) (by decide +kernel) ?_
                      refine lv_iconst (v := 1) hx hb dX9_spread_70 (by decide +kernel) ?_
                      refine lv_isub hx hb dX9_spread_71 ?_
                      refine my_eqi (y := 95) (by decide +kernel) ?_
                      refine my_gpI (my_pV (As := [.int 0, .int 64, .int 95]) (rest := []) (ci := 9) ⟨hx, hb, hml, hown, hts⟩ (cwV 3 hts gX9_spread_X9_within rfl rfl rfl (by decide +kernel) ⟨Nat.le_of_ble_eq_true rfl, Nat.le_of_ble_eq_true rfl⟩) hN hK hP [1, 0] rfl 1 rfl rfl rfl rfl hl.1 rfl (Nat.le_of_ble_eq_true rfl) dX9_spread_72 ⟨Nat.le_of_ble_eq_true rfl, Nat.le_of_ble_eq_true rfl⟩  (k0_X9_within l D cI cJ m0 a_row a_tape a_number a_read a_readBits a_stands a_parted a_bitsWere a_stood a_chosen a_bestChosen a_often a_sorted a_risen a_risenWays (0 : Int32) (2 : Int32) (0 : Int32) (0 : Int32) (0 : Int32) (0 : Int32) (0 : Int32) (0 : Int32) (0 : Int32) (64 : Int32) (95 : Int32))) (fun r hp => ?_)
                      obtain rfl := hp
                      refine lv_istore (lv' := [(7, .int 0), (6, .int 64), (5, .int 0), (4, .int 32), (0, .ref m0), (1, .int 0), (2, .int 0), (3, .int 3)]) hx hb dX9_spread_75 hl (by decide) rfl (fun ls hl => ?_)
                      refine lv_iload hx hb dX9_spread_77 (lv_at hl 2 rfl) ?_
                      refine lv_iload hx hb dX9_spread_79 (lv_at hl 0 rfl) ?_
                      refine lv_if_le (tgt := 88) hx hb dX9_spread_81 (by decide) (fun c81 => ?_) (fun c81 => ?_)
                      ·
                        refine lv_iconst (v := 0) hx hb dX9_spread_88 (by decide +kernel) ?_
                        refine my_gpI (my_pS (As := [.int 0]) (rest := [.int 0]) ⟨hx, hb, hml, hown, hts⟩ (va_cwS 1 hts gX9_spread_X9_flag rfl rfl rfl (by decide +kernel) ⟨Nat.le_of_ble_eq_true rfl, Nat.le_of_ble_eq_true rfl⟩) hN hK hP [] rfl rfl hl.1 rfl (Nat.le_of_ble_eq_true rfl) dX9_spread_89 ⟨Nat.le_of_ble_eq_true rfl, Nat.le_of_ble_eq_true rfl⟩  (k0_X9_flag l D cI cJ )) (fun r hp => ?_)
                        obtain rfl := hp
                        refine lv_iadd hx hb dX9_spread_92 ?_
                        refine my_eqi (y := 0) (by decide +kernel) ?_
                        refine lv_istore (lv' := [(5, .int 0), (7, .int 0), (6, .int 64), (4, .int 32), (0, .ref m0), (1, .int 0), (2, .int 0), (3, .int 3)]) hx hb dX9_spread_93 hl (by decide) rfl (fun ls hl => ?_)
                        refine lv_aload_n hx hb dX9_spread_95 rfl (lv_at hl 4 rfl) ?_
                        refine lv_iload hx hb dX9_spread_96 (lv_at hl 1 rfl) ?_
                        refine lv_i2l (v := 0) hx hb dX9_spread_98 (by decide +kernel) ?_
                        refine my_goV (wr := [(a_often, .inl (cI, 512, .inl (fun _ => (0 : Int32))))]) hP hD hS hA [1, 2] [0] rfl rfl (by decide) (by decide) (my_cV (As := [.long 0]) (rest := []) (ci := 9) (wc := [(m0, .inr (9, [.int 0, .int 2, .ref a_row, .ref a_tape, .int 0, .int 0, .int 0, .int 0, .ref a_number, .ref a_read, .int 0, .ref a_readBits, .ref a_stands, .ref a_parted, .ref a_bitsWere, .ref a_stood, .ref a_chosen, .ref a_bestChosen, .int 0, .ref a_often, .ref a_sorted, .int 0, .ref a_risen, .ref a_risenWays])), (a_row, .inl (cJ, 64, .inr (.inl f_12)))]) ⟨hx, hb, hml, hown, hts⟩ (cwV 1 hts gX9_spread_X9_enters rfl rfl rfl (by decide +kernel) ⟨Nat.le_of_ble_eq_true rfl, Nat.le_of_ble_eq_true rfl⟩) hN hK hP hD [1, 2] rfl (by decide) rfl 1 rfl rfl rfl rfl hl.1 rfl (Nat.le_of_ble_eq_true rfl) dX9_spread_99 ⟨Nat.le_of_ble_eq_true rfl, Nat.le_of_ble_eq_true rfl⟩  ((k_X9_enters l D cI cJ m0 a_row a_tape a_number a_read a_readBits a_stands a_parted a_bitsWere a_stood a_chosen a_bestChosen a_often a_sorted a_risen a_risenWays (0 : Int32) (0 : Int32) (0 : Int32) (0 : Int32) (0 : Int32) (0 : Int32) (0 : Int32) (0 : Int32) 2 f_12 (0 : Int64) (by first | omega | decide +kernel)) _)) (fun u H locs hp hP hD hS => ?_)
                        obtain ⟨f_13, rfl⟩ := hp
                        have hP : va_P D vwCl [(a_often, .inl (cI, 512, .inl (fun _ => (0 : Int32)))), (m0, .inr (9, [.int 0, .int 3, .ref a_row, .ref a_tape, .int 0, .int 0, .int 0, .int 0, .ref a_number, .ref a_read, .int 0, .ref a_readBits, .ref a_stands, .ref a_parted, .ref a_bitsWere, .ref a_stood, .ref a_chosen, .ref a_bestChosen, .int 0, .ref a_often, .ref a_sorted, .int 0, .ref a_risen, .ref a_risenWays])), (a_row, .inl (cJ, 64, .inr (.inl f_13)))] H := hP
                        have hD : va_D A [(a_often, .inl (cI, 512, .inl (fun _ => (0 : Int32)))), (m0, .inr (9, [.int 0, .int 3, .ref a_row, .ref a_tape, .int 0, .int 0, .int 0, .int 0, .ref a_number, .ref a_read, .int 0, .ref a_readBits, .ref a_stands, .ref a_parted, .ref a_bitsWere, .ref a_stood, .ref a_chosen, .ref a_bestChosen, .int 0, .ref a_often, .ref a_sorted, .int 0, .ref a_risen, .ref a_risenWays])), (a_row, .inl (cJ, 64, .inr (.inl f_13)))] := hD
                        refine lv_iload hx hb dX9_spread_102 (lv_at hl 2 rfl) ?_
                        refine lv_iload hx hb dX9_spread_104 (lv_at hl 3 rfl) ?_
                        refine lv_iadd hx hb dX9_spread_106 ?_
                        refine my_eqi (y := 96) (by decide +kernel) ?_
                        refine lv_istore (lv' := [(6, .int 96), (5, .int 0), (7, .int 0), (4, .int 32), (0, .ref m0), (1, .int 0), (2, .int 0), (3, .int 3)]) hx hb dX9_spread_107 hl (by decide) rfl (fun ls hl => ?_)
                        refine lv_goto (tgt := 53) hx hb dX9_spread_109 (by decide) ?_
                        refine lv_iload hx hb dX9_spread_53 (lv_at hl 0 rfl) ?_
                        refine lv_sipush (v := 256) hx hb dX9_spread_55 (by decide +kernel) ?_
                        refine lv_icmp_ge (tgt := 112) hx hb dX9_spread_58 (by decide) (fun c58 => ?_) (fun c58 => ?_)
                        ·
                          exact absurd c58 (by decide +kernel)
                        ·
                          refine lv_aload_n hx hb dX9_spread_61 rfl (lv_at hl 4 rfl) ?_
                          refine lv_iconst (v := 0) hx hb dX9_spread_62 (by decide +kernel) ?_
                          refine lv_iload hx hb dX9_spread_63 (lv_at hl 0 rfl) ?_
                          refine lv_iload hx hb dX9_spread_65 (lv_at hl 0 rfl) ?_
                          refine lv_iload hx hb dX9_spread_67 (lv_at hl 3 rfl) ?_
                          refine lv_iadd hx hb dX9_spread_69 ?_
                          refine my_eqi (y := 128) (by decide +kernel) ?_
                          refine lv_iconst (v := 1) hx hb dX9_spread_70 (by decide +kernel) ?_
                          refine lv_isub hx hb dX9_spread_71 ?_
                          refine my_eqi (y := 127) (by decide +kernel) ?_
                          refine my_gpI (my_pV (As := [.int 0, .int 96, .int 127]) (rest := []) (ci := 9) ⟨hx, hb, hml, hown, hts⟩ (cwV 3 hts gX9_spread_X9_within rfl rfl rfl (by decide +kernel) ⟨Nat.le_of_ble_eq_true rfl, Nat.le_of_ble_eq_true rfl⟩) hN hK hP [1, 0] rfl 1 rfl rfl rfl rfl hl.1 rfl (Nat.le_of_ble_eq_true rfl) dX9_spread_72 ⟨Nat.le_of_ble_eq_true rfl, Nat.le_of_ble_eq_true rfl⟩  (k0_X9_within l D cI cJ m0 a_row a_tape a_number a_read a_readBits a_stands a_parted a_bitsWere a_stood a_chosen a_bestChosen a_often a_sorted a_risen a_risenWays (0 : Int32) (3 : Int32) (0 : Int32) (0 : Int32) (0 : Int32) (0 : Int32) (0 : Int32) (0 : Int32) (0 : Int32) (96 : Int32) (127 : Int32))) (fun r hp => ?_)
                          obtain rfl := hp
                          refine lv_istore (lv' := [(7, .int 0), (6, .int 96), (5, .int 0), (4, .int 32), (0, .ref m0), (1, .int 0), (2, .int 0), (3, .int 3)]) hx hb dX9_spread_75 hl (by decide) rfl (fun ls hl => ?_)
                          refine lv_iload hx hb dX9_spread_77 (lv_at hl 2 rfl) ?_
                          refine lv_iload hx hb dX9_spread_79 (lv_at hl 0 rfl) ?_
                          refine lv_if_le (tgt := 88) hx hb dX9_spread_81 (by decide) (fun c81 => ?_) (fun c81 => ?_)
                          ·
                            refine lv_iconst (v := 0) hx hb dX9_spread_88 (by decide +kernel) ?_
                            refine my_gpI (my_pS (As := [.int 0]) (rest := [.int 0]) ⟨hx, hb, hml, hown, hts⟩ (va_cwS 1 hts gX9_spread_X9_flag rfl rfl rfl (by decide +kernel) ⟨Nat.le_of_ble_eq_true rfl, Nat.le_of_ble_eq_true rfl⟩) hN hK hP [] rfl rfl hl.1 rfl (Nat.le_of_ble_eq_true rfl) dX9_spread_89 ⟨Nat.le_of_ble_eq_true rfl, Nat.le_of_ble_eq_true rfl⟩  (k0_X9_flag l D cI cJ )) (fun r hp => ?_)
                            obtain rfl := hp
                            refine lv_iadd hx hb dX9_spread_92 ?_
                            refine my_eqi (y := 0) (by decide +kernel) ?_
                            refine lv_istore (lv' := [(5, .int 0), (7, .int 0), (6, .int 96), (4, .int 32), (0, .ref m0), (1, .int 0), (2, .int 0), (3, .int 3)]) hx hb dX9_spread_93 hl (by decide) rfl (fun ls hl => ?_)
                            refine lv_aload_n hx hb dX9_spread_95 rfl (lv_at hl 4 rfl) ?_
                            refine lv_iload hx hb dX9_spread_96 (lv_at hl 1 rfl) ?_
                            refine lv_i2l (v := 0) hx hb dX9_spread_98 (by decide +kernel) ?_
                            refine my_goV (wr := [(a_often, .inl (cI, 512, .inl (fun _ => (0 : Int32))))]) hP hD hS hA [1, 2] [0] rfl rfl (by decide) (by decide) (my_cV (As := [.long 0]) (rest := []) (ci := 9) (wc := [(m0, .inr (9, [.int 0, .int 3, .ref a_row, .ref a_tape, .int 0, .int 0, .int 0, .int 0, .ref a_number, .ref a_read, .int 0, .ref a_readBits, .ref a_stands, .ref a_parted, .ref a_bitsWere, .ref a_stood, .ref a_chosen, .ref a_bestChosen, .int 0, .ref a_often, .ref a_sorted, .int 0, .ref a_risen, .ref a_risenWays])), (a_row, .inl (cJ, 64, .inr (.inl f_13)))]) ⟨hx, hb, hml, hown, hts⟩ (cwV 1 hts gX9_spread_X9_enters rfl rfl rfl (by decide +kernel) ⟨Nat.le_of_ble_eq_true rfl, Nat.le_of_ble_eq_true rfl⟩) hN hK hP hD [1, 2] rfl (by decide) rfl 1 rfl rfl rfl rfl hl.1 rfl (Nat.le_of_ble_eq_true rfl) dX9_spread_99 ⟨Nat.le_of_ble_eq_true rfl, Nat.le_of_ble_eq_true rfl⟩  ((k_X9_enters l D cI cJ m0 a_row a_tape a_number a_read a_readBits a_stands a_parted a_bitsWere a_stood a_chosen a_bestChosen a_often a_sorted a_risen a_risenWays (0 : Int32) (0 : Int32) (0 : Int32) (0 : Int32) (0 : Int32) (0 : Int32) (0 : Int32) (0 : Int32) 3 f_13 (0 : Int64) (by first | omega | decide +kernel)) _)) (fun u H locs hp hP hD hS => ?_)
                            obtain ⟨f_14, rfl⟩ := hp
                            have hP : va_P D vwCl [(a_often, .inl (cI, 512, .inl (fun _ => (0 : Int32)))), (m0, .inr (9, [.int 0, .int 4, .ref a_row, .ref a_tape, .int 0, .int 0, .int 0, .int 0, .ref a_number, .ref a_read, .int 0, .ref a_readBits, .ref a_stands, .ref a_parted, .ref a_bitsWere, .ref a_stood, .ref a_chosen, .ref a_bestChosen, .int 0, .ref a_often, .ref a_sorted, .int 0, .ref a_risen, .ref a_risenWays])), (a_row, .inl (cJ, 64, .inr (.inl f_14)))] H := hP
                            have hD : va_D A [(a_often, .inl (cI, 512, .inl (fun _ => (0 : Int32)))), (m0, .inr (9, [.int 0, .int 4, .ref a_row, .ref a_tape, .int 0, .int 0, .int 0, .int 0, .ref a_number, .ref a_read, .int 0, .ref a_readBits, .ref a_stands, .ref a_parted, .ref a_bitsWere, .ref a_stood, .ref a_chosen, .ref a_bestChosen, .int 0, .ref a_often, .ref a_sorted, .int 0, .ref a_risen, .ref a_risenWays])), (a_row, .inl (cJ, 64, .inr (.inl f_14)))] := hD
                            refine lv_iload hx hb dX9_spread_102 (lv_at hl 2 rfl) ?_
                            refine lv_iload hx hb dX9_spread_104 (lv_at hl 3 rfl) ?_
                            refine lv_iadd hx hb dX9_spread_106 ?_
                            refine my_eqi (y := 128) (by decide +kernel) ?_
                            refine lv_istore (lv' := [(6, .int 128), (5, .int 0), (7, .int 0), (4, .int 32), (0, .ref m0), (1, .int 0), (2, .int 0), (3, .int 3)]) hx hb dX9_spread_107 hl (by decide) rfl (fun ls hl => ?_)
                            refine lv_goto (tgt := 53) hx hb dX9_spread_109 (by decide) ?_
                            refine lv_iload hx hb dX9_spread_53 (lv_at hl 0 rfl) ?_
                            refine lv_sipush (v := 256) hx hb dX9_spread_55 (by decide +kernel) ?_
                            refine lv_icmp_ge (tgt := 112) hx hb dX9_spread_58 (by decide) (fun c58 => ?_) (fun c58 => ?_)
                            ·
                              exact absurd c58 (by decide +kernel)
                            ·
                              refine lv_aload_n hx hb dX9_spread_61 rfl (lv_at hl 4 rfl) ?_
                              refine lv_iconst (v := 0) hx hb dX9_spread_62 (by decide +kernel) ?_
                              refine lv_iload hx hb dX9_spread_63 (lv_at hl 0 rfl) ?_
                              refine lv_iload hx hb dX9_spread_65 (lv_at hl 0 rfl) ?_
                              refine lv_iload hx hb dX9_spread_67 (lv_at hl 3 rfl) ?_
                              refine lv_iadd hx hb dX9_spread_69 ?_
                              refine my_eqi (y := 160) (by decide +kernel) ?_
                              refine lv_iconst (v := 1) hx hb dX9_spread_70 (by decide +kernel) ?_
                              refine lv_isub hx hb dX9_spread_71 ?_
                              refine my_eqi (y := 159) (by decide +kernel) ?_
                              refine my_gpI (my_pV (As := [.int 0, .int 128, .int 159]) (rest := []) (ci := 9) ⟨hx, hb, hml, hown, hts⟩ (cwV 3 hts gX9_spread_X9_within rfl rfl rfl (by decide +kernel) ⟨Nat.le_of_ble_eq_true rfl, Nat.le_of_ble_eq_true rfl⟩) hN hK hP [1, 0] rfl 1 rfl rfl rfl rfl hl.1 rfl (Nat.le_of_ble_eq_true rfl) dX9_spread_72 ⟨Nat.le_of_ble_eq_true rfl, Nat.le_of_ble_eq_true rfl⟩  (k0_X9_within l D cI cJ m0 a_row a_tape a_number a_read a_readBits a_stands a_parted a_bitsWere a_stood a_chosen a_bestChosen a_often a_sorted a_risen a_risenWays (0 : Int32) (4 : Int32) (0 : Int32) (0 : Int32) (0 : Int32) (0 : Int32) (0 : Int32) (0 : Int32) (0 : Int32) (128 : Int32) (159 : Int32))) (fun r hp => ?_)
                              obtain rfl := hp
                              refine lv_istore (lv' := [(7, .int 0), (6, .int 128), (5, .int 0), (4, .int 32), (0, .ref m0), (1, .int 0), (2, .int 0), (3, .int 3)]) hx hb dX9_spread_75 hl (by decide) rfl (fun ls hl => ?_)
                              refine lv_iload hx hb dX9_spread_77 (lv_at hl 2 rfl) ?_
                              refine lv_iload hx hb dX9_spread_79 (lv_at hl 0 rfl) ?_
                              refine lv_if_le (tgt := 88) hx hb dX9_spread_81 (by decide) (fun c81 => ?_) (fun c81 => ?_)
                              ·
                                refine lv_iconst (v := 0) hx hb dX9_spread_88 (by decide +kernel) ?_
                                refine my_gpI (my_pS (As := [.int 0]) (rest := [.int 0]) ⟨hx, hb, hml, hown, hts⟩ (va_cwS 1 hts gX9_spread_X9_flag rfl rfl rfl (by decide +kernel) ⟨Nat.le_of_ble_eq_true rfl, Nat.le_of_ble_eq_true rfl⟩) hN hK hP [] rfl rfl hl.1 rfl (Nat.le_of_ble_eq_true rfl) dX9_spread_89 ⟨Nat.le_of_ble_eq_true rfl, Nat.le_of_ble_eq_true rfl⟩  (k0_X9_flag l D cI cJ )) (fun r hp => ?_)
                                obtain rfl := hp
                                refine lv_iadd hx hb dX9_spread_92 ?_
                                refine my_eqi (y := 0) (by decide +kernel) ?_
                                refine lv_istore (lv' := [(5, .int 0), (7, .int 0), (6, .int 128), (4, .int 32), (0, .ref m0), (1, .int 0), (2, .int 0), (3, .int 3)]) hx hb dX9_spread_93 hl (by decide) rfl (fun ls hl => ?_)
                                refine lv_aload_n hx hb dX9_spread_95 rfl (lv_at hl 4 rfl) ?_
                                refine lv_iload hx hb dX9_spread_96 (lv_at hl 1 rfl) ?_
                                refine lv_i2l (v := 0) hx hb dX9_spread_98 (by decide +kernel) ?_
                                refine my_goV (wr := [(a_often, .inl (cI, 512, .inl (fun _ => (0 : Int32))))]) hP hD hS hA [1, 2] [0] rfl rfl (by decide) (by decide) (my_cV (As := [.long 0]) (rest := []) (ci := 9) (wc := [(m0, .inr (9, [.int 0, .int 4, .ref a_row, .ref a_tape, .int 0, .int 0, .int 0, .int 0, .ref a_number, .ref a_read, .int 0, .ref a_readBits, .ref a_stands, .ref a_parted, .ref a_bitsWere, .ref a_stood, .ref a_chosen, .ref a_bestChosen, .int 0, .ref a_often, .ref a_sorted, .int 0, .ref a_risen, .ref a_risenWays])), (a_row, .inl (cJ, 64, .inr (.inl f_14)))]) ⟨hx, hb, hml, hown, hts⟩ (cwV 1 hts gX9_spread_X9_enters rfl rfl rfl (by decide +kernel) ⟨Nat.le_of_ble_eq_true rfl, Nat.le_of_ble_eq_true rfl⟩) hN hK hP hD [1, 2] rfl (by decide) rfl 1 rfl rfl rfl rfl hl.1 rfl (Nat.le_of_ble_eq_true rfl) dX9_spread_99 ⟨Nat.le_of_ble_eq_true rfl, Nat.le_of_ble_eq_true rfl⟩  ((k_X9_enters l D cI cJ m0 a_row a_tape a_number a_read a_readBits a_stands a_parted a_bitsWere a_stood a_chosen a_bestChosen a_often a_sorted a_risen a_risenWays (0 : Int32) (0 : Int32) (0 : Int32) (0 : Int32) (0 : Int32) (0 : Int32) (0 : Int32) (0 : Int32) 4 f_14 (0 : Int64) (by first | omega | decide +kernel)) _)) (fun u H locs hp hP hD hS => ?_)
                                obtain ⟨f_15, rfl⟩ := hp
                                have hP : va_P D vwCl [(a_often, .inl (cI, 512, .inl (fun _ => (0 : Int32)))), (m0, .inr (9, [.int 0, .int 5, .ref a_row, .ref a_tape, .int 0, .int 0, .int 0, .int 0, .ref a_number, .ref a_read, .int 0, .ref a_readBits, .ref a_stands, .ref a_parted, .ref a_bitsWere, .ref a_stood, .ref a_chosen, .ref a_bestChosen, .int 0, .ref a_often, .ref a_sorted, .int 0, .ref a_risen, .ref a_risenWays])), (a_row, .inl (cJ, 64, .inr (.inl f_15)))] H := hP
                                have hD : va_D A [(a_often, .inl (cI, 512, .inl (fun _ => (0 : Int32)))), (m0, .inr (9, [.int 0, .int 5, .ref a_row, .ref a_tape, .int 0, .int 0, .int 0, .int 0, .ref a_number, .ref a_read, .int 0, .ref a_readBits, .ref a_stands, .ref a_parted, .ref a_bitsWere, .ref a_stood, .ref a_chosen, .ref a_bestChosen, .int 0, .ref a_often, .ref a_sorted, .int 0, .ref a_risen, .ref a_risenWays])), (a_row, .inl (cJ, 64, .inr (.inl f_15)))] := hD
                                refine lv_iload hx hb dX9_spread_102 (lv_at hl 2 rfl) ?_
                                refine lv_iload hx hb dX9_spread_104 (lv_at hl 3 rfl) ?_
                                refine lv_iadd hx hb dX9_spread_106 ?_
                                refine my_eqi (y := 160) (by decide +kernel) ?_
                                refine lv_istore (lv' := [(6, .int 160), (5, .int 0), (7, .int 0), (4, .int 32), (0, .ref m0), (1, .int 0), (2, .int 0), (3, .int 3)]) hx hb dX9_spread_107 hl (by decide) rfl (fun ls hl => ?_)
                                refine lv_goto (tgt := 53) hx hb dX9_spread_109 (by decide) ?_
                                refine lv_iload hx hb dX9_spread_53 (lv_at hl 0 rfl) ?_
                                refine lv_sipush (v := 256) hx hb dX9_spread_55 (by decide +kernel) ?_
                                refine lv_icmp_ge (tgt := 112) hx hb dX9_spread_58 (by decide) (fun c58 => ?_) (fun c58 => ?_)
                                ·
                                  exact absurd c58 (by decide +kernel)
                                ·
                                  refine lv_aload_n hx hb dX9_spread_61 rfl (lv_at hl 4 rfl) ?_
                                  refine lv_iconst (v := 0) hx hb dX9_spread_62 (by decide +kernel) ?_
                                  refine lv_iload hx hb dX9_spread_63 (lv_at hl 0 rfl) ?_
                                  refine lv_iload hx hb dX9_spread_65 (lv_at hl 0 rfl) ?_
                                  refine lv_iload hx hb dX9_spread_67 (lv_at hl 3 rfl) ?_
                                  refine lv_iadd hx hb dX9_spread_69 ?_
                                  refine my_eqi (y := 192) (by decide +kernel) ?_
                                  refine lv_iconst (v := 1) hx hb dX9_spread_70 (by decide +kernel) ?_
                                  refine lv_isub hx hb dX9_spread_71 ?_
                                  refine my_eqi (y := 191) (by decide +kernel) ?_
                                  refine my_gpI (my_pV (As := [.int 0, .int 160, .int 191]) (rest := []) (ci := 9) ⟨hx, hb, hml, hown, hts⟩ (cwV 3 hts gX9_spread_X9_within rfl rfl rfl (by decide +kernel) ⟨Nat.le_of_ble_eq_true rfl, Nat.le_of_ble_eq_true rfl⟩) hN hK hP [1, 0] rfl 1 rfl rfl rfl rfl hl.1 rfl (Nat.le_of_ble_eq_true rfl) dX9_spread_72 ⟨Nat.le_of_ble_eq_true rfl, Nat.le_of_ble_eq_true rfl⟩  (k0_X9_within l D cI cJ m0 a_row a_tape a_number a_read a_readBits a_stands a_parted a_bitsWere a_stood a_chosen a_bestChosen a_often a_sorted a_risen a_risenWays (0 : Int32) (5 : Int32) (0 : Int32) (0 : Int32) (0 : Int32) (0 : Int32) (0 : Int32) (0 : Int32) (0 : Int32) (160 : Int32) (191 : Int32))) (fun r hp => ?_)
                                  obtain rfl := hp
                                  refine lv_istore (lv' := [(7, .int 0), (6, .int 160), (5, .int 0), (4, .int 32), (0, .ref m0), (1, .int 0), (2, .int 0), (3, .int 3)]) hx hb dX9_spread_75 hl (by decide) rfl (fun ls hl => ?_)
                                  refine lv_iload hx hb dX9_spread_77 (lv_at hl 2 rfl) ?_
                                  refine lv_iload hx hb dX9_spread_79 (lv_at hl 0 rfl) ?_
                                  refine lv_if_le (tgt := 88) hx hb dX9_spread_81 (by decide) (fun c81 => ?_) (fun c81 => ?_)
                                  ·
                                    refine lv_iconst (v := 0) hx hb dX9_spread_88 (by decide +kernel) ?_
                                    refine my_gpI (my_pS (As := [.int 0]) (rest := [.int 0]) ⟨hx, hb, hml, hown, hts⟩ (va_cwS 1 hts gX9_spread_X9_flag rfl rfl rfl (by decide +kernel) ⟨Nat.le_of_ble_eq_true rfl, Nat.le_of_ble_eq_true rfl⟩) hN hK hP [] rfl rfl hl.1 rfl (Nat.le_of_ble_eq_true rfl) dX9_spread_89 ⟨Nat.le_of_ble_eq_true rfl, Nat.le_of_ble_eq_true rfl⟩  (k0_X9_flag l D cI cJ )) (fun r hp => ?_)
                                    obtain rfl := hp
                                    refine lv_iadd hx hb dX9_spread_92 ?_
                                    refine my_eqi (y := 0) (by decide +kernel) ?_
                                    refine lv_istore (lv' := [(5, .int 0), (7, .int 0), (6, .int 160), (4, .int 32), (0, .ref m0), (1, .int 0), (2, .int 0), (3, .int 3)]) hx hb dX9_spread_93 hl (by decide) rfl (fun ls hl => ?_)
                                    refine lv_aload_n hx hb dX9_spread_95 rfl (lv_at hl 4 rfl) ?_
                                    refine lv_iload hx hb dX9_spread_96 (lv_at hl 1 rfl) ?_
                                    refine lv_i2l (v := 0) hx hb dX9_spread_98 (by decide +kernel) ?_
                                    refine my_goV (wr := [(a_often, .inl (cI, 512, .inl (fun _ => (0 : Int32))))]) hP hD hS hA [1, 2] [0] rfl rfl (by decide) (by decide) (my_cV (As := [.long 0]) (rest := []) (ci := 9) (wc := [(m0, .inr (9, [.int 0, .int 5, .ref a_row, .ref a_tape, .int 0, .int 0, .int 0, .int 0, .ref a_number, .ref a_read, .int 0, .ref a_readBits, .ref a_stands, .ref a_parted, .ref a_bitsWere, .ref a_stood, .ref a_chosen, .ref a_bestChosen, .int 0, .ref a_often, .ref a_sorted, .int 0, .ref a_risen, .ref a_risenWays])), (a_row, .inl (cJ, 64, .inr (.inl f_15)))]) ⟨hx, hb, hml, hown, hts⟩ (cwV 1 hts gX9_spread_X9_enters rfl rfl rfl (by decide +kernel) ⟨Nat.le_of_ble_eq_true rfl, Nat.le_of_ble_eq_true rfl⟩) hN hK hP hD [1, 2] rfl (by decide) rfl 1 rfl rfl rfl rfl hl.1 rfl (Nat.le_of_ble_eq_true rfl) dX9_spread_99 ⟨Nat.le_of_ble_eq_true rfl, Nat.le_of_ble_eq_true rfl⟩  ((k_X9_enters l D cI cJ m0 a_row a_tape a_number a_read a_readBits a_stands a_parted a_bitsWere a_stood a_chosen a_bestChosen a_often a_sorted a_risen a_risenWays (0 : Int32) (0 : Int32) (0 : Int32) (0 : Int32) (0 : Int32) (0 : Int32) (0 : Int32) (0 : Int32) 5 f_15 (0 : Int64) (by first | omega | decide +kernel)) _)) (fun u H locs hp hP hD hS => ?_)
                                    obtain ⟨f_16, rfl⟩ := hp
                                    have hP : va_P D vwCl [(a_often, .inl (cI, 512, .inl (fun _ => (0 : Int32)))), (m0, .inr (9, [.int 0, .int 6, .ref a_row, .ref a_tape, .int 0, .int 0, .int 0, .int 0, .ref a_number, .ref a_read, .int 0, .ref a_readBits, .ref a_stands, .ref a_parted, .ref a_bitsWere, .ref a_stood, .ref a_chosen, .ref a_bestChosen, .int 0, .ref a_often, .ref a_sorted, .int 0, .ref a_risen, .ref a_risenWays])), (a_row, .inl (cJ, 64, .inr (.inl f_16)))] H := hP
                                    have hD : va_D A [(a_often, .inl (cI, 512, .inl (fun _ => (0 : Int32)))), (m0, .inr (9, [.int 0, .int 6, .ref a_row, .ref a_tape, .int 0, .int 0, .int 0, .int 0, .ref a_number, .ref a_read, .int 0, .ref a_readBits, .ref a_stands, .ref a_parted, .ref a_bitsWere, .ref a_stood, .ref a_chosen, .ref a_bestChosen, .int 0, .ref a_often, .ref a_sorted, .int 0, .ref a_risen, .ref a_risenWays])), (a_row, .inl (cJ, 64, .inr (.inl f_16)))] := hD
                                    refine lv_iload hx hb dX9_spread_102 (lv_at hl 2 rfl) ?_
                                    refine lv_iload hx hb dX9_spread_104 (lv_at hl 3 rfl) ?_
                                    refine lv_iadd hx hb dX9_spread_106 ?_
                                    refine my_eqi (y := 192) (by decide +kernel) ?_
                                    refine lv_istore (lv' := [(6, .int 192), (5, .int 0), (7, .int 0), (4, .int 32), (0, .ref m0), (1, .int 0), (2, .int 0), (3, .int 3)]) hx hb dX9_spread_107 hl (by decide) rfl (fun ls hl => ?_)
                                    refine lv_goto (tgt := 53) hx hb dX9_spread_109 (by decide) ?_
                                    refine lv_iload hx hb dX9_spread_53 (lv_at hl 0 rfl) ?_
                                    refine lv_sipush (v := 256) hx hb dX9_spread_55 (by decide +kernel) ?_
                                    refine lv_icmp_ge (tgt := 112) hx hb dX9_spread_58 (by decide) (fun c58 => ?_) (fun c58 => ?_)
                                    ·
                                      exact absurd c58 (by decide +kernel)
                                    ·
                                      refine lv_aload_n hx hb dX9_spread_61 rfl (lv_at hl 4 rfl) ?_
                                      refine lv_iconst (v := 0) hx hb dX9_spread_62 (by decide +kernel) ?_
                                      refine lv_iload hx hb dX9_spread_63 (lv_at hl 0 rfl) ?_
                                      refine lv_iload hx hb dX9_spread_65 (lv_at hl 0 rfl) ?_
                                      refine lv_iload hx hb dX9_spread_67 (lv_at hl 3 rfl) ?_
                                      refine lv_iadd hx hb dX9_spread_69 ?_
                                      refine my_eqi (y := 224) (by decide +kernel) ?_
                                      refine lv_iconst (v := 1) hx hb dX9_spread_70 (by decide +kernel) ?_
                                      refine lv_isub hx hb dX9_spread_71 ?_
                                      refine my_eqi (y := 223) (by decide +kernel) ?_
                                      refine my_gpI (my_pV (As := [.int 0, .int 192, .int 223]) (rest := []) (ci := 9) ⟨hx, hb, hml, hown, hts⟩ (cwV 3 hts gX9_spread_X9_within rfl rfl rfl (by decide +kernel) ⟨Nat.le_of_ble_eq_true rfl, Nat.le_of_ble_eq_true rfl⟩) hN hK hP [1, 0] rfl 1 rfl rfl rfl rfl hl.1 rfl (Nat.le_of_ble_eq_true rfl) dX9_spread_72 ⟨Nat.le_of_ble_eq_true rfl, Nat.le_of_ble_eq_true rfl⟩  (k0_X9_within l D cI cJ m0 a_row a_tape a_number a_read a_readBits a_stands a_parted a_bitsWere a_stood a_chosen a_bestChosen a_often a_sorted a_risen a_risenWays (0 : Int32) (6 : Int32) (0 : Int32) (0 : Int32) (0 : Int32) (0 : Int32) (0 : Int32) (0 : Int32) (0 : Int32) (192 : Int32) (223 : Int32))) (fun r hp => ?_)
                                      obtain rfl := hp
                                      refine lv_istore (lv' := [(7, .int 0), (6, .int 192), (5, .int 0), (4, .int 32), (0, .ref m0), (1, .int 0), (2, .int 0), (3, .int 3)]) hx hb dX9_spread_75 hl (by decide) rfl (fun ls hl => ?_)
                                      refine lv_iload hx hb dX9_spread_77 (lv_at hl 2 rfl) ?_
                                      refine lv_iload hx hb dX9_spread_79 (lv_at hl 0 rfl) ?_
                                      refine lv_if_le (tgt := 88) hx hb dX9_spread_81 (by decide) (fun c81 => ?_) (fun c81 => ?_)
                                      ·
                                        refine lv_iconst (v := 0) hx hb dX9_spread_88 (by decide +kernel) ?_
                                        refine my_gpI (my_pS (As := [.int 0]) (rest := [.int 0]) ⟨hx, hb, hml, hown, hts⟩ (va_cwS 1 hts gX9_spread_X9_flag rfl rfl rfl (by decide +kernel) ⟨Nat.le_of_ble_eq_true rfl, Nat.le_of_ble_eq_true rfl⟩) hN hK hP [] rfl rfl hl.1 rfl (Nat.le_of_ble_eq_true rfl) dX9_spread_89 ⟨Nat.le_of_ble_eq_true rfl, Nat.le_of_ble_eq_true rfl⟩  (k0_X9_flag l D cI cJ )) (fun r hp => ?_)
                                        obtain rfl := hp
                                        refine lv_iadd hx hb dX9_spread_92 ?_
                                        refine my_eqi (y := 0) (by decide +kernel) ?_
                                        refine lv_istore (lv' := [(5, .int 0), (7, .int 0), (6, .int 192), (4, .int 32), (0, .ref m0), (1, .int 0), (2, .int 0), (3, .int 3)]) hx hb dX9_spread_93 hl (by decide) rfl (fun ls hl => ?_)
                                        refine lv_aload_n hx hb dX9_spread_95 rfl (lv_at hl 4 rfl) ?_
                                        refine lv_iload hx hb dX9_spread_96 (lv_at hl 1 rfl) ?_
                                        refine lv_i2l (v := 0) hx hb dX9_spread_98 (by decide +kernel) ?_
                                        refine my_goV (wr := [(a_often, .inl (cI, 512, .inl (fun _ => (0 : Int32))))]) hP hD hS hA [1, 2] [0] rfl rfl (by decide) (by decide) (my_cV (As := [.long 0]) (rest := []) (ci := 9) (wc := [(m0, .inr (9, [.int 0, .int 6, .ref a_row, .ref a_tape, .int 0, .int 0, .int 0, .int 0, .ref a_number, .ref a_read, .int 0, .ref a_readBits, .ref a_stands, .ref a_parted, .ref a_bitsWere, .ref a_stood, .ref a_chosen, .ref a_bestChosen, .int 0, .ref a_often, .ref a_sorted, .int 0, .ref a_risen, .ref a_risenWays])), (a_row, .inl (cJ, 64, .inr (.inl f_16)))]) ⟨hx, hb, hml, hown, hts⟩ (cwV 1 hts gX9_spread_X9_enters rfl rfl rfl (by decide +kernel) ⟨Nat.le_of_ble_eq_true rfl, Nat.le_of_ble_eq_true rfl⟩) hN hK hP hD [1, 2] rfl (by decide) rfl 1 rfl rfl rfl rfl hl.1 rfl (Nat.le_of_ble_eq_true rfl) dX9_spread_99 ⟨Nat.le_of_ble_eq_true rfl, Nat.le_of_ble_eq_true rfl⟩  ((k_X9_enters l D cI cJ m0 a_row a_tape a_number a_read a_readBits a_stands a_parted a_bitsWere a_stood a_chosen a_bestChosen a_often a_sorted a_risen a_risenWays (0 : Int32) (0 : Int32) (0 : Int32) (0 : Int32) (0 : Int32) (0 : Int32) (0 : Int32) (0 : Int32) 6 f_16 (0 : Int64) (by first | omega | decide +kernel)) _)) (fun u H locs hp hP hD hS => ?_)
                                        obtain ⟨f_17, rfl⟩ := hp
                                        have hP : va_P D vwCl [(a_often, .inl (cI, 512, .inl (fun _ => (0 : Int32)))), (m0, .inr (9, [.int 0, .int 7, .ref a_row, .ref a_tape, .int 0, .int 0, .int 0, .int 0, .ref a_number, .ref a_read, .int 0, .ref a_readBits, .ref a_stands, .ref a_parted, .ref a_bitsWere, .ref a_stood, .ref a_chosen, .ref a_bestChosen, .int 0, .ref a_often, .ref a_sorted, .int 0, .ref a_risen, .ref a_risenWays])), (a_row, .inl (cJ, 64, .inr (.inl f_17)))] H := hP
                                        have hD : va_D A [(a_often, .inl (cI, 512, .inl (fun _ => (0 : Int32)))), (m0, .inr (9, [.int 0, .int 7, .ref a_row, .ref a_tape, .int 0, .int 0, .int 0, .int 0, .ref a_number, .ref a_read, .int 0, .ref a_readBits, .ref a_stands, .ref a_parted, .ref a_bitsWere, .ref a_stood, .ref a_chosen, .ref a_bestChosen, .int 0, .ref a_often, .ref a_sorted, .int 0, .ref a_risen, .ref a_risenWays])), (a_row, .inl (cJ, 64, .inr (.inl f_17)))] := hD
                                        refine lv_iload hx hb dX9_spread_102 (lv_at hl 2 rfl) ?_
                                        refine lv_iload hx hb dX9_spread_104 (lv_at hl 3 rfl) ?_
                                        refine lv_iadd hx hb dX9_spread_106 ?_
                                        refine my_eqi (y := 224) (by decide +kernel) ?_
                                        refine lv_istore (lv' := [(6, .int 224), (5, .int 0), (7, .int 0), (4, .int 32), (0, .ref m0), (1, .int 0), (2, .int 0), (3, .int 3)]) hx hb dX9_spread_107 hl (by decide) rfl (fun ls hl => ?_)
                                        refine lv_goto (tgt := 53) hx hb dX9_spread_109 (by decide) ?_
                                        refine lv_iload hx hb dX9_spread_53 (lv_at hl 0 rfl) ?_
                                        refine lv_sipush (v := 256) hx hb dX9_spread_55 (by decide +kernel) ?_
                                        refine lv_icmp_ge (tgt := 112) hx hb dX9_spread_58 (by decide) (fun c58 => ?_) (fun c58 => ?_)
                                        ·
                                          exact absurd c58 (by decide +kernel)
                                        ·
                                          refine lv_aload_n hx hb dX9_spread_61 rfl (lv_at hl 4 rfl) ?_
                                          refine lv_iconst (v := 0) hx hb dX9_spread_62 (by decide +kernel) ?_
                                          refine lv_iload hx hb dX9_spread_63 (lv_at hl 0 rfl) ?_
                                          refine lv_iload hx hb dX9_spread_65 (lv_at hl 0 rfl) ?_
                                          refine lv_iload hx hb dX9_spread_67 (lv_at hl 3 rfl) ?_
                                          refine lv_iadd hx hb dX9_spread_69 ?_
                                          refine my_eqi (y := 256) (by decide +kernel) ?_
                                          refine lv_iconst (v := 1) hx hb dX9_spread_70 (by decide +kernel) ?_
                                          refine lv_isub hx hb dX9_spread_71 ?_
                                          refine my_eqi (y := 255) (by decide +kernel) ?_
                                          refine my_gpI (my_pV (As := [.int 0, .int 224, .int 255]) (rest := []) (ci := 9) ⟨hx, hb, hml, hown, hts⟩ (cwV 3 hts gX9_spread_X9_within rfl rfl rfl (by decide +kernel) ⟨Nat.le_of_ble_eq_true rfl, Nat.le_of_ble_eq_true rfl⟩) hN hK hP [1, 0] rfl 1 rfl rfl rfl rfl hl.1 rfl (Nat.le_of_ble_eq_true rfl) dX9_spread_72 ⟨Nat.le_of_ble_eq_true rfl, Nat.le_of_ble_eq_true rfl⟩  (k0_X9_within l D cI cJ m0 a_row a_tape a_number a_read a_readBits a_stands a_parted a_bitsWere a_stood a_chosen a_bestChosen a_often a_sorted a_risen a_risenWays (0 : Int32) (7 : Int32) (0 : Int32) (0 : Int32) (0 : Int32) (0 : Int32) (0 : Int32) (0 : Int32) (0 : Int32) (224 : Int32) (255 : Int32))) (fun r hp => ?_)
                                          obtain rfl := hp
                                          refine lv_istore (lv' := [(7, .int 0), (6, .int 224), (5, .int 0), (4, .int 32), (0, .ref m0), (1, .int 0), (2, .int 0), (3, .int 3)]) hx hb dX9_spread_75 hl (by decide) rfl (fun ls hl => ?_)
                                          refine lv_iload hx hb dX9_spread_77 (lv_at hl 2 rfl) ?_
                                          refine lv_iload hx hb dX9_spread_79 (lv_at hl 0 rfl) ?_
                                          refine lv_if_le (tgt := 88) hx hb dX9_spread_81 (by decide) (fun c81 => ?_) (fun c81 => ?_)
                                          ·
                                            refine lv_iconst (v := 0) hx hb dX9_spread_88 (by decide +kernel) ?_
                                            refine my_gpI (my_pS (As := [.int 0]) (rest := [.int 0]) ⟨hx, hb, hml, hown, hts⟩ (va_cwS 1 hts gX9_spread_X9_flag rfl rfl rfl (by decide +kernel) ⟨Nat.le_of_ble_eq_true rfl, Nat.le_of_ble_eq_true rfl⟩) hN hK hP [] rfl rfl hl.1 rfl (Nat.le_of_ble_eq_true rfl) dX9_spread_89 ⟨Nat.le_of_ble_eq_true rfl, Nat.le_of_ble_eq_true rfl⟩  (k0_X9_flag l D cI cJ )) (fun r hp => ?_)
                                            obtain rfl := hp
                                            refine lv_iadd hx hb dX9_spread_92 ?_
                                            refine my_eqi (y := 0) (by decide +kernel) ?_
                                            refine lv_istore (lv' := [(5, .int 0), (7, .int 0), (6, .int 224), (4, .int 32), (0, .ref m0), (1, .int 0), (2, .int 0), (3, .int 3)]) hx hb dX9_spread_93 hl (by decide) rfl (fun ls hl => ?_)
                                            refine lv_aload_n hx hb dX9_spread_95 rfl (lv_at hl 4 rfl) ?_
                                            refine lv_iload hx hb dX9_spread_96 (lv_at hl 1 rfl) ?_
                                            refine lv_i2l (v := 0) hx hb dX9_spread_98 (by decide +kernel) ?_
                                            refine my_goV (wr := [(a_often, .inl (cI, 512, .inl (fun _ => (0 : Int32))))]) hP hD hS hA [1, 2] [0] rfl rfl (by decide) (by decide) (my_cV (As := [.long 0]) (rest := []) (ci := 9) (wc := [(m0, .inr (9, [.int 0, .int 7, .ref a_row, .ref a_tape, .int 0, .int 0, .int 0, .int 0, .ref a_number, .ref a_read, .int 0, .ref a_readBits, .ref a_stands, .ref a_parted, .ref a_bitsWere, .ref a_stood, .ref a_chosen, .ref a_bestChosen, .int 0, .ref a_often, .ref a_sorted, .int 0, .ref a_risen, .ref a_risenWays])), (a_row, .inl (cJ, 64, .inr (.inl f_17)))]) ⟨hx, hb, hml, hown, hts⟩ (cwV 1 hts gX9_spread_X9_enters rfl rfl rfl (by decide +kernel) ⟨Nat.le_of_ble_eq_true rfl, Nat.le_of_ble_eq_true rfl⟩) hN hK hP hD [1, 2] rfl (by decide) rfl 1 rfl rfl rfl rfl hl.1 rfl (Nat.le_of_ble_eq_true rfl) dX9_spread_99 ⟨Nat.le_of_ble_eq_true rfl, Nat.le_of_ble_eq_true rfl⟩  ((k_X9_enters l D cI cJ m0 a_row a_tape a_number a_read a_readBits a_stands a_parted a_bitsWere a_stood a_chosen a_bestChosen a_often a_sorted a_risen a_risenWays (0 : Int32) (0 : Int32) (0 : Int32) (0 : Int32) (0 : Int32) (0 : Int32) (0 : Int32) (0 : Int32) 7 f_17 (0 : Int64) (by first | omega | decide +kernel)) _)) (fun u H locs hp hP hD hS => ?_)
                                            obtain ⟨f_18, rfl⟩ := hp
                                            have hP : va_P D vwCl [(a_often, .inl (cI, 512, .inl (fun _ => (0 : Int32)))), (m0, .inr (9, [.int 0, .int 8, .ref a_row, .ref a_tape, .int 0, .int 0, .int 0, .int 0, .ref a_number, .ref a_read, .int 0, .ref a_readBits, .ref a_stands, .ref a_parted, .ref a_bitsWere, .ref a_stood, .ref a_chosen, .ref a_bestChosen, .int 0, .ref a_often, .ref a_sorted, .int 0, .ref a_risen, .ref a_risenWays])), (a_row, .inl (cJ, 64, .inr (.inl f_18)))] H := hP
                                            have hD : va_D A [(a_often, .inl (cI, 512, .inl (fun _ => (0 : Int32)))), (m0, .inr (9, [.int 0, .int 8, .ref a_row, .ref a_tape, .int 0, .int 0, .int 0, .int 0, .ref a_number, .ref a_read, .int 0, .ref a_readBits, .ref a_stands, .ref a_parted, .ref a_bitsWere, .ref a_stood, .ref a_chosen, .ref a_bestChosen, .int 0, .ref a_often, .ref a_sorted, .int 0, .ref a_risen, .ref a_risenWays])), (a_row, .inl (cJ, 64, .inr (.inl f_18)))] := hD
                                            refine lv_iload hx hb dX9_spread_102 (lv_at hl 2 rfl) ?_
                                            refine lv_iload hx hb dX9_spread_104 (lv_at hl 3 rfl) ?_
                                            refine lv_iadd hx hb dX9_spread_106 ?_
                                            refine my_eqi (y := 256) (by decide +kernel) ?_
                                            refine lv_istore (lv' := [(6, .int 256), (5, .int 0), (7, .int 0), (4, .int 32), (0, .ref m0), (1, .int 0), (2, .int 0), (3, .int 3)]) hx hb dX9_spread_107 hl (by decide) rfl (fun ls hl => ?_)
                                            refine lv_goto (tgt := 53) hx hb dX9_spread_109 (by decide) ?_
                                            refine lv_iload hx hb dX9_spread_53 (lv_at hl 0 rfl) ?_
                                            refine lv_sipush (v := 256) hx hb dX9_spread_55 (by decide +kernel) ?_
                                            refine lv_icmp_ge (tgt := 112) hx hb dX9_spread_58 (by decide) (fun c58 => ?_) (fun c58 => ?_)
                                            ·
                                              refine lv_iload hx hb dX9_spread_112 (lv_at hl 1 rfl) ?_
                                              exact my_retI hx hb hr hlocks hK hS [] (hP.sub [] rfl) (hD.sub [] (by decide) rfl) (Or.inl ⟨rfl, rfl, (by first | omega | assumption | trivial | decide +kernel), (by first | omega | assumption | trivial | decide +kernel), (by first | omega | assumption | trivial | decide +kernel), (by first | omega | assumption | trivial | decide +kernel)⟩) dX9_spread_114
                                            ·
                                              exact absurd c58 (by decide +kernel)
                                          ·
                                            exact absurd c81 (by decide +kernel)
                                      ·
                                        exact absurd c81 (by decide +kernel)
                                  ·
                                    exact absurd c81 (by decide +kernel)
                              ·
                                exact absurd c81 (by decide +kernel)
                          ·
                            exact absurd c81 (by decide +kernel)
                      ·
                        exact absurd c81 (by decide +kernel)
                  ·
                    exact absurd c81 (by decide +kernel)
              ·
                exact absurd c81 (by decide +kernel)
          ·
            refine lv_aload_n hx hb dX9_spread_28 rfl (lv_at hl 0 rfl) ?_
            refine lv_iconst (v := 0) hx hb dX9_spread_29 (by decide +kernel) ?_
            refine lv_iload_n hx hb dX9_spread_30 rfl (lv_at hl 1 rfl) ?_
            refine lv_iload_n hx hb dX9_spread_31 rfl (lv_at hl 2 rfl) ?_
            refine my_goV (wr := [(a_row, .inl (cJ, 64, .inr (.inl rf)))]) hP hD hS hA [0, 1] [2] rfl rfl (by decide) (by decide) (my_cV (As := [.int 0, .int 0, .int 0]) (rest := []) (ci := 9) (wc := [(m0, .inr (9, [.int 0, .int 0, .ref a_row, .ref a_tape, .int 0, .int 0, .int 0, .int 0, .ref a_number, .ref a_read, .int 0, .ref a_readBits, .ref a_stands, .ref a_parted, .ref a_bitsWere, .ref a_stood, .ref a_chosen, .ref a_bestChosen, .int 0, .ref a_often, .ref a_sorted, .int 0, .ref a_risen, .ref a_risenWays])), (a_often, .inl (cI, 512, .inl (fun _ => (0 : Int32))))]) ⟨hx, hb, hml, hown, hts⟩ (cwV 3 hts gX9_spread_X9_counts rfl rfl rfl (by decide +kernel) ⟨Nat.le_of_ble_eq_true rfl, Nat.le_of_ble_eq_true rfl⟩) hN hK hP hD [0, 1] rfl (by decide) rfl 0 rfl rfl rfl rfl hl.1 rfl (Nat.le_of_ble_eq_true rfl) dX9_spread_32 ⟨Nat.le_of_ble_eq_true rfl, Nat.le_of_ble_eq_true rfl⟩  ((k0_X9_counts l D cI cJ m0 a_row a_tape a_number a_read a_readBits a_stands a_parted a_bitsWere a_stood a_chosen a_bestChosen a_often a_sorted a_risen a_risenWays (0 : Int32) (0 : Int32) (0 : Int32) (0 : Int32) (0 : Int32) (0 : Int32) (0 : Int32) (0 : Int32) (0 : Int32)) _)) (fun u H locs hp hP hD hS => ?_)
            obtain rfl := hp
            have hP : va_P D vwCl [(a_row, .inl (cJ, 64, .inr (.inl rf))), (m0, .inr (9, [.int 0, .int 0, .ref a_row, .ref a_tape, .int 0, .int 0, .int 0, .int 0, .ref a_number, .ref a_read, .int 0, .ref a_readBits, .ref a_stands, .ref a_parted, .ref a_bitsWere, .ref a_stood, .ref a_chosen, .ref a_bestChosen, .int 0, .ref a_often, .ref a_sorted, .int 0, .ref a_risen, .ref a_risenWays])), (a_often, .inl (cI, 512, .inl (fun _ => (0 : Int32))))] H := hP
            have hD : va_D A [(a_row, .inl (cJ, 64, .inr (.inl rf))), (m0, .inr (9, [.int 0, .int 0, .ref a_row, .ref a_tape, .int 0, .int 0, .int 0, .int 0, .ref a_number, .ref a_read, .int 0, .ref a_readBits, .ref a_stands, .ref a_parted, .ref a_bitsWere, .ref a_stood, .ref a_chosen, .ref a_bestChosen, .int 0, .ref a_often, .ref a_sorted, .int 0, .ref a_risen, .ref a_risenWays])), (a_often, .inl (cI, 512, .inl (fun _ => (0 : Int32))))] := hD
            refine lv_sipush (v := 256) hx hb dX9_spread_35 (by decide +kernel) ?_
            refine lv_iload_n hx hb dX9_spread_38 rfl (lv_at hl 3 rfl) ?_
            refine lv_ishr hx hb dX9_spread_39 ?_
            refine my_eqi (y := 16) (by decide +kernel) ?_
            refine lv_istore (lv' := [(4, .int 16), (0, .ref m0), (1, .int 0), (2, .int 0), (3, .int 4)]) hx hb dX9_spread_40 hl (by decide) rfl (fun ls hl => ?_)
            refine lv_iconst (v := 0) hx hb dX9_spread_42 (by decide +kernel) ?_
            refine lv_istore (lv' := [(5, .int 0), (4, .int 16), (0, .ref m0), (1, .int 0), (2, .int 0), (3, .int 4)]) hx hb dX9_spread_43 hl (by decide) rfl (fun ls hl => ?_)
            refine lv_aload_n hx hb dX9_spread_45 rfl (lv_at hl 2 rfl) ?_
            refine lv_iconst (v := 0) hx hb dX9_spread_46 (by decide +kernel) ?_
            refine va_put (ci := 9) (v := .int 0) (ty := (.int)) (C := RX9) (T := TX9) (N := 24) hx hb hts hi9 tyX9 tyX9_ok nmX9 hown hK hP hD hS 1 rfl rfl 1 (by decide) fl11 (fun _ h9 => h9) rfl (by decide +kernel) rfl rfl (Nat.le_of_ble_eq_true rfl) dX9_spread_47 (fun H locs hP hD hS => ?_)
            have hP : va_P D vwCl [(a_row, .inl (cJ, 64, .inr (.inl rf))), (m0, .inr (9, [.int 0, .int 0, .ref a_row, .ref a_tape, .int 0, .int 0, .int 0, .int 0, .ref a_number, .ref a_read, .int 0, .ref a_readBits, .ref a_stands, .ref a_parted, .ref a_bitsWere, .ref a_stood, .ref a_chosen, .ref a_bestChosen, .int 0, .ref a_often, .ref a_sorted, .int 0, .ref a_risen, .ref a_risenWays])), (a_often, .inl (cI, 512, .inl (fun _ => (0 : Int32))))] H := hP
            have hD : va_D A [(a_row, .inl (cJ, 64, .inr (.inl rf))), (m0, .inr (9, [.int 0, .int 0, .ref a_row, .ref a_tape, .int 0, .int 0, .int 0, .int 0, .ref a_number, .ref a_read, .int 0, .ref a_readBits, .ref a_stands, .ref a_parted, .ref a_bitsWere, .ref a_stood, .ref a_chosen, .ref a_bestChosen, .int 0, .ref a_often, .ref a_sorted, .int 0, .ref a_risen, .ref a_risenWays])), (a_often, .inl (cI, 512, .inl (fun _ => (0 : Int32))))] := hD
            refine lv_iconst (v := 0) hx hb dX9_spread_50 (by decide +kernel) ?_
            refine lv_istore (lv' := [(6, .int 0), (5, .int 0), (4, .int 16), (0, .ref m0), (1, .int 0), (2, .int 0), (3, .int 4)]) hx hb dX9_spread_51 hl (by decide) rfl (fun ls hl => ?_)
            refine lv_iload hx hb dX9_spread_53 (lv_at hl 0 rfl) ?_
            refine lv_sipush (v := 256) hx hb dX9_spread_55 (by decide +kernel) ?_
            refine lv_icmp_ge (tgt := 112) hx hb dX9_spread_58 (by decide) (fun c58 => ?_) (fun c58 => ?_)
            ·
              exact absurd c58 (by decide +kernel)
            ·
              refine lv_aload_n hx hb dX9_spread_61 rfl (lv_at hl 3 rfl) ?_
              refine lv_iconst (v := 0) hx hb dX9_spread_62 (by decide +kernel) ?_
              refine lv_iload hx hb dX9_spread_63 (lv_at hl 0 rfl) ?_
              refine lv_iload hx hb dX9_spread_65 (lv_at hl 0 rfl) ?_
              refine lv_iload hx hb dX9_spread_67 (lv_at hl 2 rfl) ?_
              refine lv_iadd hx hb dX9_spread_69 ?_
              refine my_eqi (y := 16) (by decide +kernel) ?_
              refine lv_iconst (v := 1) hx hb dX9_spread_70 (by decide +kernel) ?_
              refine lv_isub hx hb dX9_spread_71 ?_
              refine my_eqi (y := 15) (by decide +kernel) ?_
              refine my_gpI (my_pV (As := [.int 0, .int 0, .int 15]) (rest := []) (ci := 9) ⟨hx, hb, hml, hown, hts⟩ (cwV 3 hts gX9_spread_X9_within rfl rfl rfl (by decide +kernel) ⟨Nat.le_of_ble_eq_true rfl, Nat.le_of_ble_eq_true rfl⟩) hN hK hP [1, 2] rfl 1 rfl rfl rfl rfl hl.1 rfl (Nat.le_of_ble_eq_true rfl) dX9_spread_72 ⟨Nat.le_of_ble_eq_true rfl, Nat.le_of_ble_eq_true rfl⟩  (k0_X9_within l D cI cJ m0 a_row a_tape a_number a_read a_readBits a_stands a_parted a_bitsWere a_stood a_chosen a_bestChosen a_often a_sorted a_risen a_risenWays (0 : Int32) (0 : Int32) (0 : Int32) (0 : Int32) (0 : Int32) (0 : Int32) (0 : Int32) (0 : Int32) (0 : Int32) (0 : Int32) (15 : Int32))) (fun r hp => ?_)
              obtain rfl := hp
              refine lv_istore (lv' := [(7, .int 0), (6, .int 0), (5, .int 0), (4, .int 16), (0, .ref m0), (1, .int 0), (2, .int 0), (3, .int 4)]) hx hb dX9_spread_75 hl (by decide) rfl (fun ls hl => ?_)
              refine lv_iload hx hb dX9_spread_77 (lv_at hl 2 rfl) ?_
              refine lv_iload hx hb dX9_spread_79 (lv_at hl 0 rfl) ?_
              refine lv_if_le (tgt := 88) hx hb dX9_spread_81 (by decide) (fun c81 => ?_) (fun c81 => ?_)
              ·
                refine lv_iconst (v := 0) hx hb dX9_spread_88 (by decide +kernel) ?_
                refine my_gpI (my_pS (As := [.int 0]) (rest := [.int 0]) ⟨hx, hb, hml, hown, hts⟩ (va_cwS 1 hts gX9_spread_X9_flag rfl rfl rfl (by decide +kernel) ⟨Nat.le_of_ble_eq_true rfl, Nat.le_of_ble_eq_true rfl⟩) hN hK hP [] rfl rfl hl.1 rfl (Nat.le_of_ble_eq_true rfl) dX9_spread_89 ⟨Nat.le_of_ble_eq_true rfl, Nat.le_of_ble_eq_true rfl⟩  (k0_X9_flag l D cI cJ )) (fun r hp => ?_)
                obtain rfl := hp
                refine lv_iadd hx hb dX9_spread_92 ?_
                refine my_eqi (y := 0) (by decide +kernel) ?_
                refine lv_istore (lv' := [(5, .int 0), (7, .int 0), (6, .int 0), (4, .int 16), (0, .ref m0), (1, .int 0), (2, .int 0), (3, .int 4)]) hx hb dX9_spread_93 hl (by decide) rfl (fun ls hl => ?_)
                refine lv_aload_n hx hb dX9_spread_95 rfl (lv_at hl 4 rfl) ?_
                refine lv_iload hx hb dX9_spread_96 (lv_at hl 1 rfl) ?_
                refine lv_i2l (v := 0) hx hb dX9_spread_98 (by decide +kernel) ?_
                refine my_goV (wr := [(a_often, .inl (cI, 512, .inl (fun _ => (0 : Int32))))]) hP hD hS hA [1, 0] [2] rfl rfl (by decide) (by decide) (my_cV (As := [.long 0]) (rest := []) (ci := 9) (wc := [(m0, .inr (9, [.int 0, .int 0, .ref a_row, .ref a_tape, .int 0, .int 0, .int 0, .int 0, .ref a_number, .ref a_read, .int 0, .ref a_readBits, .ref a_stands, .ref a_parted, .ref a_bitsWere, .ref a_stood, .ref a_chosen, .ref a_bestChosen, .int 0, .ref a_often, .ref a_sorted, .int 0, .ref a_risen, .ref a_risenWays])), (a_row, .inl (cJ, 64, .inr (.inl rf)))]) ⟨hx, hb, hml, hown, hts⟩ (cwV 1 hts gX9_spread_X9_enters rfl rfl rfl (by decide +kernel) ⟨Nat.le_of_ble_eq_true rfl, Nat.le_of_ble_eq_true rfl⟩) hN hK hP hD [1, 0] rfl (by decide) rfl 1 rfl rfl rfl rfl hl.1 rfl (Nat.le_of_ble_eq_true rfl) dX9_spread_99 ⟨Nat.le_of_ble_eq_true rfl, Nat.le_of_ble_eq_true rfl⟩  ((k_X9_enters l D cI cJ m0 a_row a_tape a_number a_read a_readBits a_stands a_parted a_bitsWere a_stood a_chosen a_bestChosen a_often a_sorted a_risen a_risenWays (0 : Int32) (0 : Int32) (0 : Int32) (0 : Int32) (0 : Int32) (0 : Int32) (0 : Int32) (0 : Int32) 0 rf (0 : Int64) (by first | omega | decide +kernel)) _)) (fun u H locs hp hP hD hS => ?_)
                obtain ⟨f_19, rfl⟩ := hp
                have hP : va_P D vwCl [(a_often, .inl (cI, 512, .inl (fun _ => (0 : Int32)))), (m0, .inr (9, [.int 0, .int 1, .ref a_row, .ref a_tape, .int 0, .int 0, .int 0, .int 0, .ref a_number, .ref a_read, .int 0, .ref a_readBits, .ref a_stands, .ref a_parted, .ref a_bitsWere, .ref a_stood, .ref a_chosen, .ref a_bestChosen, .int 0, .ref a_often, .ref a_sorted, .int 0, .ref a_risen, .ref a_risenWays])), (a_row, .inl (cJ, 64, .inr (.inl f_19)))] H := hP
                have hD : va_D A [(a_often, .inl (cI, 512, .inl (fun _ => (0 : Int32)))), (m0, .inr (9, [.int 0, .int 1, .ref a_row, .ref a_tape, .int 0, .int 0, .int 0, .int 0, .ref a_number, .ref a_read, .int 0, .ref a_readBits, .ref a_stands, .ref a_parted, .ref a_bitsWere, .ref a_stood, .ref a_chosen, .ref a_bestChosen, .int 0, .ref a_often, .ref a_sorted, .int 0, .ref a_risen, .ref a_risenWays])), (a_row, .inl (cJ, 64, .inr (.inl f_19)))] := hD
                refine lv_iload hx hb dX9_spread_102 (lv_at hl 2 rfl) ?_
                refine lv_iload hx hb dX9_spread_104 (lv_at hl 3 rfl) ?_
                refine lv_iadd hx hb dX9_spread_106 ?_
                refine my_eqi (y := 16) (by decide +kernel) ?_
                refine lv_istore (lv' := [(6, .int 16), (5, .int 0), (7, .int 0), (4, .int 16), (0, .ref m0), (1, .int 0), (2, .int 0), (3, .int 4)]) hx hb dX9_spread_107 hl (by decide) rfl (fun ls hl => ?_)
                refine lv_goto (tgt := 53) hx hb dX9_spread_109 (by decide) ?_
                refine lv_iload hx hb dX9_spread_53 (lv_at hl 0 rfl) ?_
                refine lv_sipush (v := 256) hx hb dX9_spread_55 (by decide +kernel) ?_
                refine lv_icmp_ge (tgt := 112) hx hb dX9_spread_58 (by decide) (fun c58 => ?_) (fun c58 => ?_)
                ·
                  exact absurd c58 (by decide +kernel)
                ·
                  refine lv_aload_n hx hb dX9_spread_61 rfl (lv_at hl 4 rfl) ?_
                  refine lv_iconst (v := 0) hx hb dX9_spread_62 (by decide +kernel) ?_
                  refine lv_iload hx hb dX9_spread_63 (lv_at hl 0 rfl) ?_
                  refine lv_iload hx hb dX9_spread_65 (lv_at hl 0 rfl) ?_
                  refine lv_iload hx hb dX9_spread_67 (lv_at hl 3 rfl) ?_
                  refine lv_iadd hx hb dX9_spread_69 ?_
                  refine my_eqi (y := 32) (by decide +kernel) ?_
                  refine lv_iconst (v := 1) hx hb dX9_spread_70 (by decide +kernel) ?_
                  refine lv_isub hx hb dX9_spread_71 ?_
                  refine my_eqi (y := 31) (by decide +kernel) ?_
                  refine my_gpI (my_pV (As := [.int 0, .int 16, .int 31]) (rest := []) (ci := 9) ⟨hx, hb, hml, hown, hts⟩ (cwV 3 hts gX9_spread_X9_within rfl rfl rfl (by decide +kernel) ⟨Nat.le_of_ble_eq_true rfl, Nat.le_of_ble_eq_true rfl⟩) hN hK hP [1, 0] rfl 1 rfl rfl rfl rfl hl.1 rfl (Nat.le_of_ble_eq_true rfl) dX9_spread_72 ⟨Nat.le_of_ble_eq_true rfl, Nat.le_of_ble_eq_true rfl⟩  (k0_X9_within l D cI cJ m0 a_row a_tape a_number a_read a_readBits a_stands a_parted a_bitsWere a_stood a_chosen a_bestChosen a_often a_sorted a_risen a_risenWays (0 : Int32) (1 : Int32) (0 : Int32) (0 : Int32) (0 : Int32) (0 : Int32) (0 : Int32) (0 : Int32) (0 : Int32) (16 : Int32) (31 : Int32))) (fun r hp => ?_)
                  obtain rfl := hp
                  refine lv_istore (lv' := [(7, .int 0), (6, .int 16), (5, .int 0), (4, .int 16), (0, .ref m0), (1, .int 0), (2, .int 0), (3, .int 4)]) hx hb dX9_spread_75 hl (by decide) rfl (fun ls hl => ?_)
                  refine lv_iload hx hb dX9_spread_77 (lv_at hl 2 rfl) ?_
                  refine lv_iload hx hb dX9_spread_79 (lv_at hl 0 rfl) ?_
                  refine lv_if_le (tgt := 88) hx hb dX9_spread_81 (by decide) (fun c81 => ?_) (fun c81 => ?_)
                  ·
                    refine lv_iconst (v := 0) hx hb dX9_spread_88 (by decide +kernel) ?_
                    refine my_gpI (my_pS (As := [.int 0]) (rest := [.int 0]) ⟨hx, hb, hml, hown, hts⟩ (va_cwS 1 hts gX9_spread_X9_flag rfl rfl rfl (by decide +kernel) ⟨Nat.le_of_ble_eq_true rfl, Nat.le_of_ble_eq_true rfl⟩) hN hK hP [] rfl rfl hl.1 rfl (Nat.le_of_ble_eq_true rfl) dX9_spread_89 ⟨Nat.le_of_ble_eq_true rfl, Nat.le_of_ble_eq_true rfl⟩  (k0_X9_flag l D cI cJ )) (fun r hp => ?_)
                    obtain rfl := hp
                    refine lv_iadd hx hb dX9_spread_92 ?_
                    refine my_eqi (y := 0) (by decide +kernel) ?_
                    refine lv_istore (lv' := [(5, .int 0), (7, .int 0), (6, .int 16), (4, .int 16), (0, .ref m0), (1, .int 0), (2, .int 0), (3, .int 4)]) hx hb dX9_spread_93 hl (by decide) rfl (fun ls hl => ?_)
                    refine lv_aload_n hx hb dX9_spread_95 rfl (lv_at hl 4 rfl) ?_
                    refine lv_iload hx hb dX9_spread_96 (lv_at hl 1 rfl) ?_
                    refine lv_i2l (v := 0) hx hb dX9_spread_98 (by decide +kernel) ?_
                    refine my_goV (wr := [(a_often, .inl (cI, 512, .inl (fun _ => (0 : Int32))))]) hP hD hS hA [1, 2] [0] rfl rfl (by decide) (by decide) (my_cV (As := [.long 0]) (rest := []) (ci := 9) (wc := [(m0, .inr (9, [.int 0, .int 1, .ref a_row, .ref a_tape, .int 0, .int 0, .int 0, .int 0, .ref a_number, .ref a_read, .int 0, .ref a_readBits, .ref a_stands, .ref a_parted, .ref a_bitsWere, .ref a_stood, .ref a_chosen, .ref a_bestChosen, .int 0, .ref a_often, .ref a_sorted, .int 0, .ref a_risen, .ref a_risenWays])), (a_row, .inl (cJ, 64, .inr (.inl f_19)))]) ⟨hx, hb, hml, hown, hts⟩ (cwV 1 hts gX9_spread_X9_enters rfl rfl rfl (by decide +kernel) ⟨Nat.le_of_ble_eq_true rfl, Nat.le_of_ble_eq_true rfl⟩) hN hK hP hD [1, 2] rfl (by decide) rfl 1 rfl rfl rfl rfl hl.1 rfl (Nat.le_of_ble_eq_true rfl) dX9_spread_99 ⟨Nat.le_of_ble_eq_true rfl, Nat.le_of_ble_eq_true rfl⟩  ((k_X9_enters l D cI cJ m0 a_row a_tape a_number a_read a_readBits a_stands a_parted a_bitsWere a_stood a_chosen a_bestChosen a_often a_sorted a_risen a_risenWays (0 : Int32) (0 : Int32) (0 : Int32) (0 : Int32) (0 : Int32) (0 : Int32) (0 : Int32) (0 : Int32) 1 f_19 (0 : Int64) (by first | omega | decide +kernel)) _)) (fun u H locs hp hP hD hS => ?_)
                    obtain ⟨f_20, rfl⟩ := hp
                    have hP : va_P D vwCl [(a_often, .inl (cI, 512, .inl (fun _ => (0 : Int32)))), (m0, .inr (9, [.int 0, .int 2, .ref a_row, .ref a_tape, .int 0, .int 0, .int 0, .int 0, .ref a_number, .ref a_read, .int 0, .ref a_readBits, .ref a_stands, .ref a_parted, .ref a_bitsWere, .ref a_stood, .ref a_chosen, .ref a_bestChosen, .int 0, .ref a_often, .ref a_sorted, .int 0, .ref a_risen, .ref a_risenWays])), (a_row, .inl (cJ, 64, .inr (.inl f_20)))] H := hP
                    have hD : va_D A [(a_often, .inl (cI, 512, .inl (fun _ => (0 : Int32)))), (m0, .inr (9, [.int 0, .int 2, .ref a_row, .ref a_tape, .int 0, .int 0, .int 0, .int 0, .ref a_number, .ref a_read, .int 0, .ref a_readBits, .ref a_stands, .ref a_parted, .ref a_bitsWere, .ref a_stood, .ref a_chosen, .ref a_bestChosen, .int 0, .ref a_often, .ref a_sorted, .int 0, .ref a_risen, .ref a_risenWays])), (a_row, .inl (cJ, 64, .inr (.inl f_20)))] := hD
                    refine lv_iload hx hb dX9_spread_102 (lv_at hl 2 rfl) ?_
                    refine lv_iload hx hb dX9_spread_104 (lv_at hl 3 rfl) ?_
                    refine lv_iadd hx hb dX9_spread_106 ?_
                    refine my_eqi (y := 32) (by decide +kernel) ?_
                    refine lv_istore (lv' := [(6, .int 32), (5, .int 0), (7, .int 0), (4, .int 16), (0, .ref m0), (1, .int 0), (2, .int 0), (3, .int 4)]) hx hb dX9_spread_107 hl (by decide) rfl (fun ls hl => ?_)
                    refine lv_goto (tgt := 53) hx hb dX9_spread_109 (by decide) ?_
                    refine lv_iload hx hb dX9_spread_53 (lv_at hl 0 rfl) ?_
                    refine lv_sipush (v := 256) hx hb dX9_spread_55 (by decide +kernel) ?_
                    refine lv_icmp_ge (tgt := 112) hx hb dX9_spread_58 (by decide) (fun c58 => ?_) (fun c58 => ?_)
                    ·
                      exact absurd c58 (by decide +kernel)
                    ·
                      refine lv_aload_n hx hb dX9_spread_61 rfl (lv_at hl 4 rfl) ?_
                      refine lv_iconst (v := 0) hx hb dX9_spread_62 (by decide +kernel) ?_
                      refine lv_iload hx hb dX9_spread_63 (lv_at hl 0 rfl) ?_
                      refine lv_iload hx hb dX9_spread_65 (lv_at hl 0 rfl) ?_
                      refine lv_iload hx hb dX9_spread_67 (lv_at hl 3 rfl) ?_
                      refine lv_iadd hx hb dX9_spread_69 ?_
                      refine my_eqi (y := 48) (by decide +kernel) ?_
                      refine lv_iconst (v := 1) hx hb dX9_spread_70 (by decide +kernel) ?_
                      refine lv_isub hx hb dX9_spread_71 ?_
                      refine my_eqi (y := 47) (by decide +kernel) ?_
                      refine my_gpI (my_pV (As := [.int 0, .int 32, .int 47]) (rest := []) (ci := 9) ⟨hx, hb, hml, hown, hts⟩ (cwV 3 hts gX9_spread_X9_within rfl rfl rfl (by decide +kernel) ⟨Nat.le_of_ble_eq_true rfl, Nat.le_of_ble_eq_true rfl⟩) hN hK hP [1, 0] rfl 1 rfl rfl rfl rfl hl.1 rfl (Nat.le_of_ble_eq_true rfl) dX9_spread_72 ⟨Nat.le_of_ble_eq_true rfl, Nat.le_of_ble_eq_true rfl⟩  (k0_X9_within l D cI cJ m0 a_row a_tape a_number a_read a_readBits a_stands a_parted a_bitsWere a_stood a_chosen a_bestChosen a_often a_sorted a_risen a_risenWays (0 : Int32) (2 : Int32) (0 : Int32) (0 : Int32) (0 : Int32) (0 : Int32) (0 : Int32) (0 : Int32) (0 : Int32) (32 : Int32) (47 : Int32))) (fun r hp => ?_)
                      obtain rfl := hp
                      refine lv_istore (lv' := [(7, .int 0), (6, .int 32), (5, .int 0), (4, .int 16), (0, .ref m0), (1, .int 0), (2, .int 0), (3, .int 4)]) hx hb dX9_spread_75 hl (by decide) rfl (fun ls hl => ?_)
                      refine lv_iload hx hb dX9_spread_77 (lv_at hl 2 rfl) ?_
                      refine lv_iload hx hb dX9_spread_79 (lv_at hl 0 rfl) ?_
                      refine lv_if_le (tgt := 88) hx hb dX9_spread_81 (by decide) (fun c81 => ?_) (fun c81 => ?_)
                      ·
                        refine lv_iconst (v := 0) hx hb dX9_spread_88 (by decide +kernel) ?_
                        refine my_gpI (my_pS (As := [.int 0]) (rest := [.int 0]) ⟨hx, hb, hml, hown, hts⟩ (va_cwS 1 hts gX9_spread_X9_flag rfl rfl rfl (by decide +kernel) ⟨Nat.le_of_ble_eq_true rfl, Nat.le_of_ble_eq_true rfl⟩) hN hK hP [] rfl rfl hl.1 rfl (Nat.le_of_ble_eq_true rfl) dX9_spread_89 ⟨Nat.le_of_ble_eq_true rfl, Nat.le_of_ble_eq_true rfl⟩  (k0_X9_flag l D cI cJ )) (fun r hp => ?_)
                        obtain rfl := hp
                        refine lv_iadd hx hb dX9_spread_92 ?_
                        refine my_eqi (y := 0) (by decide +kernel) ?_
                        refine lv_istore (lv' := [(5, .int 0), (7, .int 0), (6, .int 32), (4, .int 16), (0, .ref m0), (1, .int 0), (2, .int 0), (3, .int 4)]) hx hb dX9_spread_93 hl (by decide) rfl (fun ls hl => ?_)
                        refine lv_aload_n hx hb dX9_spread_95 rfl (lv_at hl 4 rfl) ?_
                        refine lv_iload hx hb dX9_spread_96 (lv_at hl 1 rfl) ?_
                        refine lv_i2l (v := 0) hx hb dX9_spread_98 (by decide +kernel) ?_
                        refine my_goV (wr := [(a_often, .inl (cI, 512, .inl (fun _ => (0 : Int32))))]) hP hD hS hA [1, 2] [0] rfl rfl (by decide) (by decide) (my_cV (As := [.long 0]) (rest := []) (ci := 9) (wc := [(m0, .inr (9, [.int 0, .int 2, .ref a_row, .ref a_tape, .int 0, .int 0, .int 0, .int 0, .ref a_number, .ref a_read, .int 0, .ref a_readBits, .ref a_stands, .ref a_parted, .ref a_bitsWere, .ref a_stood, .ref a_chosen, .ref a_bestChosen, .int 0, .ref a_often, .ref a_sorted, .int 0, .ref a_risen, .ref a_risenWays])), (a_row, .inl (cJ, 64, .inr (.inl f_20)))]) ⟨hx, hb, hml, hown, hts⟩ (cwV 1 hts gX9_spread_X9_enters rfl rfl rfl (by decide +kernel) ⟨Nat.le_of_ble_eq_true rfl, Nat.le_of_ble_eq_true rfl⟩) hN hK hP hD [1, 2] rfl (by decide) rfl 1 rfl rfl rfl rfl hl.1 rfl (Nat.le_of_ble_eq_true rfl) dX9_spread_99 ⟨Nat.le_of_ble_eq_true rfl, Nat.le_of_ble_eq_true rfl⟩  ((k_X9_enters l D cI cJ m0 a_row a_tape a_number a_read a_readBits a_stands a_parted a_bitsWere a_stood a_chosen a_bestChosen a_often a_sorted a_risen a_risenWays (0 : Int32) (0 : Int32) (0 : Int32) (0 : Int32) (0 : Int32) (0 : Int32) (0 : Int32) (0 : Int32) 2 f_20 (0 : Int64) (by first | omega | decide +kernel)) _)) (fun u H locs hp hP hD hS => ?_)
                        obtain ⟨f_21, rfl⟩ := hp
                        have hP : va_P D vwCl [(a_often, .inl (cI, 512, .inl (fun _ => (0 : Int32)))), (m0, .inr (9, [.int 0, .int 3, .ref a_row, .ref a_tape, .int 0, .int 0, .int 0, .int 0, .ref a_number, .ref a_read, .int 0, .ref a_readBits, .ref a_stands, .ref a_parted, .ref a_bitsWere, .ref a_stood, .ref a_chosen, .ref a_bestChosen, .int 0, .ref a_often, .ref a_sorted, .int 0, .ref a_risen, .ref a_risenWays])), (a_row, .inl (cJ, 64, .inr (.inl f_21)))] H := hP
                        have hD : va_D A [(a_often, .inl (cI, 512, .inl (fun _ => (0 : Int32)))), (m0, .inr (9, [.int 0, .int 3, .ref a_row, .ref a_tape, .int 0, .int 0, .int 0, .int 0, .ref a_number, .ref a_read, .int 0, .ref a_readBits, .ref a_stands, .ref a_parted, .ref a_bitsWere, .ref a_stood, .ref a_chosen, .ref a_bestChosen, .int 0, .ref a_often, .ref a_sorted, .int 0, .ref a_risen, .ref a_risenWays])), (a_row, .inl (cJ, 64, .inr (.inl f_21)))] := hD
                        refine lv_iload hx hb dX9_spread_102 (lv_at hl 2 rfl) ?_
                        refine lv_iload hx hb dX9_spread_104 (lv_at hl 3 rfl) ?_
                        refine lv_iadd hx hb dX9_spread_106 ?_
                        refine my_eqi (y := 48) (by decide +kernel) ?_
                        refine lv_istore (lv' := [(6, .int 48), (5, .int 0), (7, .int 0), (4, .int 16), (0, .ref m0), (1, .int 0), (2, .int 0), (3, .int 4)]) hx hb dX9_spread_107 hl (by decide) rfl (fun ls hl => ?_)
                        refine lv_goto (tgt := 53) hx hb dX9_spread_109 (by decide) ?_
                        refine lv_iload hx hb dX9_spread_53 (lv_at hl 0 rfl) ?_
                        refine lv_sipush (v := 256) hx hb dX9_spread_55 (by decide +kernel) ?_
                        refine lv_icmp_ge (tgt := 112) hx hb dX9_spread_58 (by decide) (fun c58 => ?_) (fun c58 => ?_)
                        ·
                          exact absurd c58 (by decide +kernel)
                        ·
                          refine lv_aload_n hx hb dX9_spread_61 rfl (lv_at hl 4 rfl) ?_
                          refine lv_iconst (v := 0) hx hb dX9_spread_62 (by decide +kernel) ?_
                          refine lv_iload hx hb dX9_spread_63 (lv_at hl 0 rfl) ?_
                          refine lv_iload hx hb dX9_spread_65 (lv_at hl 0 rfl) ?_
                          refine lv_iload hx hb dX9_spread_67 (lv_at hl 3 rfl) ?_
                          refine lv_iadd hx hb dX9_spread_69 ?_
                          refine my_eqi (y := 64) (by decide +kernel) ?_
                          refine lv_iconst (v := 1) hx hb dX9_spread_70 (by decide +kernel) ?_
                          refine lv_isub hx hb dX9_spread_71 ?_
                          refine my_eqi (y := 63) (by decide +kernel) ?_
                          refine my_gpI (my_pV (As := [.int 0, .int 48, .int 63]) (rest := []) (ci := 9) ⟨hx, hb, hml, hown, hts⟩ (cwV 3 hts gX9_spread_X9_within rfl rfl rfl (by decide +kernel) ⟨Nat.le_of_ble_eq_true rfl, Nat.le_of_ble_eq_true rfl⟩) hN hK hP [1, 0] rfl 1 rfl rfl rfl rfl hl.1 rfl (Nat.le_of_ble_eq_true rfl) dX9_spread_72 ⟨Nat.le_of_ble_eq_true rfl, Nat.le_of_ble_eq_true rfl⟩  (k0_X9_within l D cI cJ m0 a_row a_tape a_number a_read a_readBits a_stands a_parted a_bitsWere a_stood a_chosen a_bestChosen a_often a_sorted a_risen a_risenWays (0 : Int32) (3 : Int32) (0 : Int32) (0 : Int32) (0 : Int32) (0 : Int32) (0 : Int32) (0 : Int32) (0 : Int32) (48 : Int32) (63 : Int32))) (fun r hp => ?_)
                          obtain rfl := hp
                          refine lv_istore (lv' := [(7, .int 0), (6, .int 48), (5, .int 0), (4, .int 16), (0, .ref m0), (1, .int 0), (2, .int 0), (3, .int 4)]) hx hb dX9_spread_75 hl (by decide) rfl (fun ls hl => ?_)
                          refine lv_iload hx hb dX9_spread_77 (lv_at hl 2 rfl) ?_
                          refine lv_iload hx hb dX9_spread_79 (lv_at hl 0 rfl) ?_
                          refine lv_if_le (tgt := 88) hx hb dX9_spread_81 (by decide) (fun c81 => ?_) (fun c81 => ?_)
                          ·
                            refine lv_iconst (v := 0) hx hb dX9_spread_88 (by decide +kernel) ?_
                            refine my_gpI (my_pS (As := [.int 0]) (rest := [.int 0]) ⟨hx, hb, hml, hown, hts⟩ (va_cwS 1 hts gX9_spread_X9_flag rfl rfl rfl (by decide +kernel) ⟨Nat.le_of_ble_eq_true rfl, Nat.le_of_ble_eq_true rfl⟩) hN hK hP [] rfl rfl hl.1 rfl (Nat.le_of_ble_eq_true rfl) dX9_spread_89 ⟨Nat.le_of_ble_eq_true rfl, Nat.le_of_ble_eq_true rfl⟩  (k0_X9_flag l D cI cJ )) (fun r hp => ?_)
                            obtain rfl := hp
                            refine lv_iadd hx hb dX9_spread_92 ?_
                            refine my_eqi (y := 0) (by decide +kernel) ?_
                            refine lv_istore (lv' := [(5, .int 0), (7, .int 0), (6, .int 48), (4, .int 16), (0, .ref m0), (1, .int 0), (2, .int 0), (3, .int 4)]) hx hb dX9_spread_93 hl (by decide) rfl (fun ls hl => ?_)
                            refine lv_aload_n hx hb dX9_spread_95 rfl (lv_at hl 4 rfl) ?_
                            refine lv_iload hx hb dX9_spread_96 (lv_at hl 1 rfl) ?_
                            refine lv_i2l (v := 0) hx hb dX9_spread_98 (by decide +kernel) ?_
                            refine my_goV (wr := [(a_often, .inl (cI, 512, .inl (fun _ => (0 : Int32))))]) hP hD hS hA [1, 2] [0] rfl rfl (by decide) (by decide) (my_cV (As := [.long 0]) (rest := []) (ci := 9) (wc := [(m0, .inr (9, [.int 0, .int 3, .ref a_row, .ref a_tape, .int 0, .int 0, .int 0, .int 0, .ref a_number, .ref a_read, .int 0, .ref a_readBits, .ref a_stands, .ref a_parted, .ref a_bitsWere, .ref a_stood, .ref a_chosen, .ref a_bestChosen, .int 0, .ref a_often, .ref a_sorted, .int 0, .ref a_risen, .ref a_risenWays])), (a_row, .inl (cJ, 64, .inr (.inl f_21)))]) ⟨hx, hb, hml, hown, hts⟩ (cwV 1 hts gX9_spread_X9_enters rfl rfl rfl (by decide +kernel) ⟨Nat.le_of_ble_eq_true rfl, Nat.le_of_ble_eq_true rfl⟩) hN hK hP hD [1, 2] rfl (by decide) rfl 1 rfl rfl rfl rfl hl.1 rfl (Nat.le_of_ble_eq_true rfl) dX9_spread_99 ⟨Nat.le_of_ble_eq_true rfl, Nat.le_of_ble_eq_true rfl⟩  ((k_X9_enters l D cI cJ m0 a_row a_tape a_number a_read a_readBits a_stands a_parted a_bitsWere a_stood a_chosen a_bestChosen a_often a_sorted a_risen a_risenWays (0 : Int32) (0 : Int32) (0 : Int32) (0 : Int32) (0 : Int32) (0 : Int32) (0 : Int32) (0 : Int32) 3 f_21 (0 : Int64) (by first | omega | decide +kernel)) _)) (fun u H locs hp hP hD hS => ?_)
                            obtain ⟨f_22, rfl⟩ := hp
                            have hP : va_P D vwCl [(a_often, .inl (cI, 512, .inl (fun _ => (0 : Int32)))), (m0, .inr (9, [.int 0, .int 4, .ref a_row, .ref a_tape, .int 0, .int 0, .int 0, .int 0, .ref a_number, .ref a_read, .int 0, .ref a_readBits, .ref a_stands, .ref a_parted, .ref a_bitsWere, .ref a_stood, .ref a_chosen, .ref a_bestChosen, .int 0, .ref a_often, .ref a_sorted, .int 0, .ref a_risen, .ref a_risenWays])), (a_row, .inl (cJ, 64, .inr (.inl f_22)))] H := hP
                            have hD : va_D A [(a_often, .inl (cI, 512, .inl (fun _ => (0 : Int32)))), (m0, .inr (9, [.int 0, .int 4, .ref a_row, .ref a_tape, .int 0, .int 0, .int 0, .int 0, .ref a_number, .ref a_read, .int 0, .ref a_readBits, .ref a_stands, .ref a_parted, .ref a_bitsWere, .ref a_stood, .ref a_chosen, .ref a_bestChosen, .int 0, .ref a_often, .ref a_sorted, .int 0, .ref a_risen, .ref a_risenWays])), (a_row, .inl (cJ, 64, .inr (.inl f_22)))] := hD
                            refine lv_iload hx hb dX9_spread_102 (lv_at hl 2 rfl) ?_
                            refine lv_iload hx hb dX9_spread_104 (lv_at hl 3 rfl) ?_
                            refine lv_iadd hx hb dX9_spread_106 ?_
                            refine my_eqi (y := 64) (by decide +kernel) ?_
                            refine lv_istore (lv' := [(6, .int 64), (5, .int 0), (7, .int 0), (4, .int 16), (0, .ref m0), (1, .int 0), (2, .int 0), (3, .int 4)]) hx hb dX9_spread_107 hl (by decide) rfl (fun ls hl => ?_)
                            refine lv_goto (tgt := 53) hx hb dX9_spread_109 (by decide) ?_
                            refine lv_iload hx hb dX9_spread_53 (lv_at hl 0 rfl) ?_
                            refine lv_sipush (v := 256) hx hb dX9_spread_55 (by decide +kernel) ?_
                            refine lv_icmp_ge (tgt := 112) hx hb dX9_spread_58 (by decide) (fun c58 => ?_) (fun c58 => ?_)
                            ·
                              exact absurd c58 (by decide +kernel)
                            ·
                              refine lv_aload_n hx hb dX9_spread_61 rfl (lv_at hl 4 rfl) ?_
                              refine lv_iconst (v := 0) hx hb dX9_spread_62 (by decide +kernel) ?_
                              refine lv_iload hx hb dX9_spread_63 (lv_at hl 0 rfl) ?_
                              refine lv_iload hx hb dX9_spread_65 (lv_at hl 0 rfl) ?_
                              refine lv_iload hx hb dX9_spread_67 (lv_at hl 3 rfl) ?_
                              refine lv_iadd hx hb dX9_spread_69 ?_
                              refine my_eqi (y := 80) (by decide +kernel) ?_
                              refine lv_iconst (v := 1) hx hb dX9_spread_70 (by decide +kernel) ?_
                              refine lv_isub hx hb dX9_spread_71 ?_
                              refine my_eqi (y := 79) (by decide +kernel) ?_
                              refine my_gpI (my_pV (As := [.int 0, .int 64, .int 79]) (rest := []) (ci := 9) ⟨hx, hb, hml, hown, hts⟩ (cwV 3 hts gX9_spread_X9_within rfl rfl rfl (by decide +kernel) ⟨Nat.le_of_ble_eq_true rfl, Nat.le_of_ble_eq_true rfl⟩) hN hK hP [1, 0] rfl 1 rfl rfl rfl rfl hl.1 rfl (Nat.le_of_ble_eq_true rfl) dX9_spread_72 ⟨Nat.le_of_ble_eq_true rfl, Nat.le_of_ble_eq_true rfl⟩  (k0_X9_within l D cI cJ m0 a_row a_tape a_number a_read a_readBits a_stands a_parted a_bitsWere a_stood a_chosen a_bestChosen a_often a_sorted a_risen a_risenWays (0 : Int32) (4 : Int32) (0 : Int32) (0 : Int32) (0 : Int32) (0 : Int32) (0 : Int32) (0 : Int32) (0 : Int32) (64 : Int32) (79 : Int32))) (fun r hp => ?_)
                              obtain rfl := hp
                              refine lv_istore (lv' := [(7, .int 0), (6, .int 64), (5, .int 0), (4, .int 16), (0, .ref m0), (1, .int 0), (2, .int 0), (3, .int 4)]) hx hb dX9_spread_75 hl (by decide) rfl (fun ls hl => ?_)
                              refine lv_iload hx hb dX9_spread_77 (lv_at hl 2 rfl) ?_
                              refine lv_iload hx hb dX9_spread_79 (lv_at hl 0 rfl) ?_
                              refine lv_if_le (tgt := 88) hx hb dX9_spread_81 (by decide) (fun c81 => ?_) (fun c81 => ?_)
                              ·
                                refine lv_iconst (v := 0) hx hb dX9_spread_88 (by decide +kernel) ?_
                                refine my_gpI (my_pS (As := [.int 0]) (rest := [.int 0]) ⟨hx, hb, hml, hown, hts⟩ (va_cwS 1 hts gX9_spread_X9_flag rfl rfl rfl (by decide +kernel) ⟨Nat.le_of_ble_eq_true rfl, Nat.le_of_ble_eq_true rfl⟩) hN hK hP [] rfl rfl hl.1 rfl (Nat.le_of_ble_eq_true rfl) dX9_spread_89 ⟨Nat.le_of_ble_eq_true rfl, Nat.le_of_ble_eq_true rfl⟩  (k0_X9_flag l D cI cJ )) (fun r hp => ?_)
                                obtain rfl := hp
                                refine lv_iadd hx hb dX9_spread_92 ?_
                                refine my_eqi (y := 0) (by decide +kernel) ?_
                                refine lv_istore (lv' := [(5, .int 0), (7, .int 0), (6, .int 64), (4, .int 16), (0, .ref m0), (1, .int 0), (2, .int 0), (3, .int 4)]) hx hb dX9_spread_93 hl (by decide) rfl (fun ls hl => ?_)
                                refine lv_aload_n hx hb dX9_spread_95 rfl (lv_at hl 4 rfl) ?_
                                refine lv_iload hx hb dX9_spread_96 (lv_at hl 1 rfl) ?_
                                refine lv_i2l (v := 0) hx hb dX9_spread_98 (by decide +kernel) ?_
                                refine my_goV (wr := [(a_often, .inl (cI, 512, .inl (fun _ => (0 : Int32))))]) hP hD hS hA [1, 2] [0] rfl rfl (by decide) (by decide) (my_cV (As := [.long 0]) (rest := []) (ci := 9) (wc := [(m0, .inr (9, [.int 0, .int 4, .ref a_row, .ref a_tape, .int 0, .int 0, .int 0, .int 0, .ref a_number, .ref a_read, .int 0, .ref a_readBits, .ref a_stands, .ref a_parted, .ref a_bitsWere, .ref a_stood, .ref a_chosen, .ref a_bestChosen, .int 0, .ref a_often, .ref a_sorted, .int 0, .ref a_risen, .ref a_risenWays])), (a_row, .inl (cJ, 64, .inr (.inl f_22)))]) ⟨hx, hb, hml, hown, hts⟩ (cwV 1 hts gX9_spread_X9_enters rfl rfl rfl (by decide +kernel) ⟨Nat.le_of_ble_eq_true rfl, Nat.le_of_ble_eq_true rfl⟩) hN hK hP hD [1, 2] rfl (by decide) rfl 1 rfl rfl rfl rfl hl.1 rfl (Nat.le_of_ble_eq_true rfl) dX9_spread_99 ⟨Nat.le_of_ble_eq_true rfl, Nat.le_of_ble_eq_true rfl⟩  ((k_X9_enters l D cI cJ m0 a_row a_tape a_number a_read a_readBits a_stands a_parted a_bitsWere a_stood a_chosen a_bestChosen a_often a_sorted a_risen a_risenWays (0 : Int32) (0 : Int32) (0 : Int32) (0 : Int32) (0 : Int32) (0 : Int32) (0 : Int32) (0 : Int32) 4 f_22 (0 : Int64) (by first | omega | decide +kernel)) _)) (fun u H locs hp hP hD hS => ?_)
                                obtain ⟨f_23, rfl⟩ := hp
                                have hP : va_P D vwCl [(a_often, .inl (cI, 512, .inl (fun _ => (0 : Int32)))), (m0, .inr (9, [.int 0, .int 5, .ref a_row, .ref a_tape, .int 0, .int 0, .int 0, .int 0, .ref a_number, .ref a_read, .int 0, .ref a_readBits, .ref a_stands, .ref a_parted, .ref a_bitsWere, .ref a_stood, .ref a_chosen, .ref a_bestChosen, .int 0, .ref a_often, .ref a_sorted, .int 0, .ref a_risen, .ref a_risenWays])), (a_row, .inl (cJ, 64, .inr (.inl f_23)))] H := hP
                                have hD : va_D A [(a_often, .inl (cI, 512, .inl (fun _ => (0 : Int32)))), (m0, .inr (9, [.int 0, .int 5, .ref a_row, .ref a_tape, .int 0, .int 0, .int 0, .int 0, .ref a_number, .ref a_read, .int 0, .ref a_readBits, .ref a_stands, .ref a_parted, .ref a_bitsWere, .ref a_stood, .ref a_chosen, .ref a_bestChosen, .int 0, .ref a_often, .ref a_sorted, .int 0, .ref a_risen, .ref a_risenWays])), (a_row, .inl (cJ, 64, .inr (.inl f_23)))] := hD
                                refine lv_iload hx hb dX9_spread_102 (lv_at hl 2 rfl) ?_
                                refine lv_iload hx hb dX9_spread_104 (lv_at hl 3 rfl) ?_
                                refine lv_iadd hx hb dX9_spread_106 ?_
                                refine my_eqi (y := 80) (by decide +kernel) ?_
                                refine lv_istore (lv' := [(6, .int 80), (5, .int 0), (7, .int 0), (4, .int 16), (0, .ref m0), (1, .int 0), (2, .int 0), (3, .int 4)]) hx hb dX9_spread_107 hl (by decide) rfl (fun ls hl => ?_)
                                refine lv_goto (tgt := 53) hx hb dX9_spread_109 (by decide) ?_
                                refine lv_iload hx hb dX9_spread_53 (lv_at hl 0 rfl) ?_
                                refine lv_sipush (v := 256) hx hb dX9_spread_55 (by decide +kernel) ?_
                                refine lv_icmp_ge (tgt := 112) hx hb dX9_spread_58 (by decide) (fun c58 => ?_) (fun c58 => ?_)
                                ·
                                  exact absurd c58 (by decide +kernel)
                                ·
                                  refine lv_aload_n hx hb dX9_spread_61 rfl (lv_at hl 4 rfl) ?_
                                  refine lv_iconst (v := 0) hx hb dX9_spread_62 (by decide +kernel) ?_
                                  refine lv_iload hx hb dX9_spread_63 (lv_at hl 0 rfl) ?_
                                  refine lv_iload hx hb dX9_spread_65 (lv_at hl 0 rfl) ?_
                                  refine lv_iload hx hb dX9_spread_67 (lv_at hl 3 rfl) ?_
                                  refine lv_iadd hx hb dX9_spread_69 ?_
                                  refine my_eqi (y := 96) (by decide +kernel) ?_
                                  refine lv_iconst (v := 1) hx hb dX9_spread_70 (by decide +kernel) ?_
                                  refine lv_isub hx hb dX9_spread_71 ?_
                                  refine my_eqi (y := 95) (by decide +kernel) ?_
                                  refine my_gpI (my_pV (As := [.int 0, .int 80, .int 95]) (rest := []) (ci := 9) ⟨hx, hb, hml, hown, hts⟩ (cwV 3 hts gX9_spread_X9_within rfl rfl rfl (by decide +kernel) ⟨Nat.le_of_ble_eq_true rfl, Nat.le_of_ble_eq_true rfl⟩) hN hK hP [1, 0] rfl 1 rfl rfl rfl rfl hl.1 rfl (Nat.le_of_ble_eq_true rfl) dX9_spread_72 ⟨Nat.le_of_ble_eq_true rfl, Nat.le_of_ble_eq_true rfl⟩  (k0_X9_within l D cI cJ m0 a_row a_tape a_number a_read a_readBits a_stands a_parted a_bitsWere a_stood a_chosen a_bestChosen a_often a_sorted a_risen a_risenWays (0 : Int32) (5 : Int32) (0 : Int32) (0 : Int32) (0 : Int32) (0 : Int32) (0 : Int32) (0 : Int32) (0 : Int32) (80 : Int32) (95 : Int32))) (fun r hp => ?_)
                                  obtain rfl := hp
                                  refine lv_istore (lv' := [(7, .int 0), (6, .int 80), (5, .int 0), (4, .int 16), (0, .ref m0), (1, .int 0), (2, .int 0), (3, .int 4)]) hx hb dX9_spread_75 hl (by decide) rfl (fun ls hl => ?_)
                                  refine lv_iload hx hb dX9_spread_77 (lv_at hl 2 rfl) ?_
                                  refine lv_iload hx hb dX9_spread_79 (lv_at hl 0 rfl) ?_
                                  refine lv_if_le (tgt := 88) hx hb dX9_spread_81 (by decide) (fun c81 => ?_) (fun c81 => ?_)
                                  ·
                                    refine lv_iconst (v := 0) hx hb dX9_spread_88 (by decide +kernel) ?_
                                    refine my_gpI (my_pS (As := [.int 0]) (rest := [.int 0]) ⟨hx, hb, hml, hown, hts⟩ (va_cwS 1 hts gX9_spread_X9_flag rfl rfl rfl (by decide +kernel) ⟨Nat.le_of_ble_eq_true rfl, Nat.le_of_ble_eq_true rfl⟩) hN hK hP [] rfl rfl hl.1 rfl (Nat.le_of_ble_eq_true rfl) dX9_spread_89 ⟨Nat.le_of_ble_eq_true rfl, Nat.le_of_ble_eq_true rfl⟩  (k0_X9_flag l D cI cJ )) (fun r hp => ?_)
                                    obtain rfl := hp
                                    refine lv_iadd hx hb dX9_spread_92 ?_
                                    refine my_eqi (y := 0) (by decide +kernel) ?_
                                    refine lv_istore (lv' := [(5, .int 0), (7, .int 0), (6, .int 80), (4, .int 16), (0, .ref m0), (1, .int 0), (2, .int 0), (3, .int 4)]) hx hb dX9_spread_93 hl (by decide) rfl (fun ls hl => ?_)
                                    refine lv_aload_n hx hb dX9_spread_95 rfl (lv_at hl 4 rfl) ?_
                                    refine lv_iload hx hb dX9_spread_96 (lv_at hl 1 rfl) ?_
                                    refine lv_i2l (v := 0) hx hb dX9_spread_98 (by decide +kernel) ?_
                                    refine my_goV (wr := [(a_often, .inl (cI, 512, .inl (fun _ => (0 : Int32))))]) hP hD hS hA [1, 2] [0] rfl rfl (by decide) (by decide) (my_cV (As := [.long 0]) (rest := []) (ci := 9) (wc := [(m0, .inr (9, [.int 0, .int 5, .ref a_row, .ref a_tape, .int 0, .int 0, .int 0, .int 0, .ref a_number, .ref a_read, .int 0, .ref a_readBits, .ref a_stands, .ref a_parted, .ref a_bitsWere, .ref a_stood, .ref a_chosen, .ref a_bestChosen, .int 0, .ref a_often, .ref a_sorted, .int 0, .ref a_risen, .ref a_risenWays])), (a_row, .inl (cJ, 64, .inr (.inl f_23)))]) ⟨hx, hb, hml, hown, hts⟩ (cwV 1 hts gX9_spread_X9_enters rfl rfl rfl (by decide +kernel) ⟨Nat.le_of_ble_eq_true rfl, Nat.le_of_ble_eq_true rfl⟩) hN hK hP hD [1, 2] rfl (by decide) rfl 1 rfl rfl rfl rfl hl.1 rfl (Nat.le_of_ble_eq_true rfl) dX9_spread_99 ⟨Nat.le_of_ble_eq_true rfl, Nat.le_of_ble_eq_true rfl⟩  ((k_X9_enters l D cI cJ m0 a_row a_tape a_number a_read a_readBits a_stands a_parted a_bitsWere a_stood a_chosen a_bestChosen a_often a_sorted a_risen a_risenWays (0 : Int32) (0 : Int32) (0 : Int32) (0 : Int32) (0 : Int32) (0 : Int32) (0 : Int32) (0 : Int32) 5 f_23 (0 : Int64) (by first | omega | decide +kernel)) _)) (fun u H locs hp hP hD hS => ?_)
                                    obtain ⟨f_24, rfl⟩ := hp
                                    have hP : va_P D vwCl [(a_often, .inl (cI, 512, .inl (fun _ => (0 : Int32)))), (m0, .inr (9, [.int 0, .int 6, .ref a_row, .ref a_tape, .int 0, .int 0, .int 0, .int 0, .ref a_number, .ref a_read, .int 0, .ref a_readBits, .ref a_stands, .ref a_parted, .ref a_bitsWere, .ref a_stood, .ref a_chosen, .ref a_bestChosen, .int 0, .ref a_often, .ref a_sorted, .int 0, .ref a_risen, .ref a_risenWays])), (a_row, .inl (cJ, 64, .inr (.inl f_24)))] H := hP
                                    have hD : va_D A [(a_often, .inl (cI, 512, .inl (fun _ => (0 : Int32)))), (m0, .inr (9, [.int 0, .int 6, .ref a_row, .ref a_tape, .int 0, .int 0, .int 0, .int 0, .ref a_number, .ref a_read, .int 0, .ref a_readBits, .ref a_stands, .ref a_parted, .ref a_bitsWere, .ref a_stood, .ref a_chosen, .ref a_bestChosen, .int 0, .ref a_often, .ref a_sorted, .int 0, .ref a_risen, .ref a_risenWays])), (a_row, .inl (cJ, 64, .inr (.inl f_24)))] := hD
                                    refine lv_iload hx hb dX9_spread_102 (lv_at hl 2 rfl) ?_
                                    refine lv_iload hx hb dX9_spread_104 (lv_at hl 3 rfl) ?_
                                    refine lv_iadd hx hb dX9_spread_106 ?_
                                    refine my_eqi (y := 96) (by decide +kernel) ?_
                                    refine lv_istore (lv' := [(6, .int 96), (5, .int 0), (7, .int 0), (4, .int 16), (0, .ref m0), (1, .int 0), (2, .int 0), (3, .int 4)]) hx hb dX9_spread_107 hl (by decide) rfl (fun ls hl => ?_)
                                    refine lv_goto (tgt := 53) hx hb dX9_spread_109 (by decide) ?_
                                    refine lv_iload hx hb dX9_spread_53 (lv_at hl 0 rfl) ?_
                                    refine lv_sipush (v := 256) hx hb dX9_spread_55 (by decide +kernel) ?_
                                    refine lv_icmp_ge (tgt := 112) hx hb dX9_spread_58 (by decide) (fun c58 => ?_) (fun c58 => ?_)
                                    ·
                                      exact absurd c58 (by decide +kernel)
                                    ·
                                      refine lv_aload_n hx hb dX9_spread_61 rfl (lv_at hl 4 rfl) ?_
                                      refine lv_iconst (v := 0) hx hb dX9_spread_62 (by decide +kernel) ?_
                                      refine lv_iload hx hb dX9_spread_63 (lv_at hl 0 rfl) ?_
                                      refine lv_iload hx hb dX9_spread_65 (lv_at hl 0 rfl) ?_
                                      refine lv_iload hx hb dX9_spread_67 (lv_at hl 3 rfl) ?_
                                      refine lv_iadd hx hb dX9_spread_69 ?_
                                      refine my_eqi (y := 112) (by decide +kernel) ?_
                                      refine lv_iconst (v := 1) hx hb dX9_spread_70 (by decide +kernel) ?_
                                      refine lv_isub hx hb dX9_spread_71 ?_
                                      refine my_eqi (y := 111) (by decide +kernel) ?_
                                      refine my_gpI (my_pV (As := [.int 0, .int 96, .int 111]) (rest := []) (ci := 9) ⟨hx, hb, hml, hown, hts⟩ (cwV 3 hts gX9_spread_X9_within rfl rfl rfl (by decide +kernel) ⟨Nat.le_of_ble_eq_true rfl, Nat.le_of_ble_eq_true rfl⟩) hN hK hP [1, 0] rfl 1 rfl rfl rfl rfl hl.1 rfl (Nat.le_of_ble_eq_true rfl) dX9_spread_72 ⟨Nat.le_of_ble_eq_true rfl, Nat.le_of_ble_eq_true rfl⟩  (k0_X9_within l D cI cJ m0 a_row a_tape a_number a_read a_readBits a_stands a_parted a_bitsWere a_stood a_chosen a_bestChosen a_often a_sorted a_risen a_risenWays (0 : Int32) (6 : Int32) (0 : Int32) (0 : Int32) (0 : Int32) (0 : Int32) (0 : Int32) (0 : Int32) (0 : Int32) (96 : Int32) (111 : Int32))) (fun r hp => ?_)
                                      obtain rfl := hp
                                      refine lv_istore (lv' := [(7, .int 0), (6, .int 96), (5, .int 0), (4, .int 16), (0, .ref m0), (1, .int 0), (2, .int 0), (3, .int 4)]) hx hb dX9_spread_75 hl (by decide) rfl (fun ls hl => ?_)
                                      refine lv_iload hx hb dX9_spread_77 (lv_at hl 2 rfl) ?_
                                      refine lv_iload hx hb dX9_spread_79 (lv_at hl 0 rfl) ?_
                                      refine lv_if_le (tgt := 88) hx hb dX9_spread_81 (by decide) (fun c81 => ?_) (fun c81 => ?_)
                                      ·
                                        refine lv_iconst (v := 0) hx hb dX9_spread_88 (by decide +kernel) ?_
                                        refine my_gpI (my_pS (As := [.int 0]) (rest := [.int 0]) ⟨hx, hb, hml, hown, hts⟩ (va_cwS 1 hts gX9_spread_X9_flag rfl rfl rfl (by decide +kernel) ⟨Nat.le_of_ble_eq_true rfl, Nat.le_of_ble_eq_true rfl⟩) hN hK hP [] rfl rfl hl.1 rfl (Nat.le_of_ble_eq_true rfl) dX9_spread_89 ⟨Nat.le_of_ble_eq_true rfl, Nat.le_of_ble_eq_true rfl⟩  (k0_X9_flag l D cI cJ )) (fun r hp => ?_)
                                        obtain rfl := hp
                                        refine lv_iadd hx hb dX9_spread_92 ?_
                                        refine my_eqi (y := 0) (by decide +kernel) ?_
                                        refine lv_istore (lv' := [(5, .int 0), (7, .int 0), (6, .int 96), (4, .int 16), (0, .ref m0), (1, .int 0), (2, .int 0), (3, .int 4)]) hx hb dX9_spread_93 hl (by decide) rfl (fun ls hl => ?_)
                                        refine lv_aload_n hx hb dX9_spread_95 rfl (lv_at hl 4 rfl) ?_
                                        refine lv_iload hx hb dX9_spread_96 (lv_at hl 1 rfl) ?_
                                        refine lv_i2l (v := 0) hx hb dX9_spread_98 (by decide +kernel) ?_
                                        refine my_goV (wr := [(a_often, .inl (cI, 512, .inl (fun _ => (0 : Int32))))]) hP hD hS hA [1, 2] [0] rfl rfl (by decide) (by decide) (my_cV (As := [.long 0]) (rest := []) (ci := 9) (wc := [(m0, .inr (9, [.int 0, .int 6, .ref a_row, .ref a_tape, .int 0, .int 0, .int 0, .int 0, .ref a_number, .ref a_read, .int 0, .ref a_readBits, .ref a_stands, .ref a_parted, .ref a_bitsWere, .ref a_stood, .ref a_chosen, .ref a_bestChosen, .int 0, .ref a_often, .ref a_sorted, .int 0, .ref a_risen, .ref a_risenWays])), (a_row, .inl (cJ, 64, .inr (.inl f_24)))]) ⟨hx, hb, hml, hown, hts⟩ (cwV 1 hts gX9_spread_X9_enters rfl rfl rfl (by decide +kernel) ⟨Nat.le_of_ble_eq_true rfl, Nat.le_of_ble_eq_true rfl⟩) hN hK hP hD [1, 2] rfl (by decide) rfl 1 rfl rfl rfl rfl hl.1 rfl (Nat.le_of_ble_eq_true rfl) dX9_spread_99 ⟨Nat.le_of_ble_eq_true rfl, Nat.le_of_ble_eq_true rfl⟩  ((k_X9_enters l D cI cJ m0 a_row a_tape a_number a_read a_readBits a_stands a_parted a_bitsWere a_stood a_chosen a_bestChosen a_often a_sorted a_risen a_risenWays (0 : Int32) (0 : Int32) (0 : Int32) (0 : Int32) (0 : Int32) (0 : Int32) (0 : Int32) (0 : Int32) 6 f_24 (0 : Int64) (by first | omega | decide +kernel)) _)) (fun u H locs hp hP hD hS => ?_)
                                        obtain ⟨f_25, rfl⟩ := hp
                                        have hP : va_P D vwCl [(a_often, .inl (cI, 512, .inl (fun _ => (0 : Int32)))), (m0, .inr (9, [.int 0, .int 7, .ref a_row, .ref a_tape, .int 0, .int 0, .int 0, .int 0, .ref a_number, .ref a_read, .int 0, .ref a_readBits, .ref a_stands, .ref a_parted, .ref a_bitsWere, .ref a_stood, .ref a_chosen, .ref a_bestChosen, .int 0, .ref a_often, .ref a_sorted, .int 0, .ref a_risen, .ref a_risenWays])), (a_row, .inl (cJ, 64, .inr (.inl f_25)))] H := hP
                                        have hD : va_D A [(a_often, .inl (cI, 512, .inl (fun _ => (0 : Int32)))), (m0, .inr (9, [.int 0, .int 7, .ref a_row, .ref a_tape, .int 0, .int 0, .int 0, .int 0, .ref a_number, .ref a_read, .int 0, .ref a_readBits, .ref a_stands, .ref a_parted, .ref a_bitsWere, .ref a_stood, .ref a_chosen, .ref a_bestChosen, .int 0, .ref a_often, .ref a_sorted, .int 0, .ref a_risen, .ref a_risenWays])), (a_row, .inl (cJ, 64, .inr (.inl f_25)))] := hD
                                        refine lv_iload hx hb dX9_spread_102 (lv_at hl 2 rfl) ?_
                                        refine lv_iload hx hb dX9_spread_104 (lv_at hl 3 rfl) ?_
                                        refine lv_iadd hx hb dX9_spread_106 ?_
                                        refine my_eqi (y := 112) (by decide +kernel) ?_
                                        refine lv_istore (lv' := [(6, .int 112), (5, .int 0), (7, .int 0), (4, .int 16), (0, .ref m0), (1, .int 0), (2, .int 0), (3, .int 4)]) hx hb dX9_spread_107 hl (by decide) rfl (fun ls hl => ?_)
                                        refine lv_goto (tgt := 53) hx hb dX9_spread_109 (by decide) ?_
                                        refine lv_iload hx hb dX9_spread_53 (lv_at hl 0 rfl) ?_
                                        refine lv_sipush (v := 256) hx hb dX9_spread_55 (by decide +kernel) ?_
                                        refine lv_icmp_ge (tgt := 112) hx hb dX9_spread_58 (by decide) (fun c58 => ?_) (fun c58 => ?_)
                                        ·
                                          exact absurd c58 (by decide +kernel)
                                        ·
                                          refine lv_aload_n hx hb dX9_spread_61 rfl (lv_at hl 4 rfl) ?_
                                          refine lv_iconst (v := 0) hx hb dX9_spread_62 (by decide +kernel) ?_
                                          refine lv_iload hx hb dX9_spread_63 (lv_at hl 0 rfl) ?_
                                          refine lv_iload hx hb dX9_spread_65 (lv_at hl 0 rfl) ?_
                                          refine lv_iload hx hb dX9_spread_67 (lv_at hl 3 rfl) ?_
                                          refine lv_iadd hx hb dX9_spread_69 ?_
                                          refine my_eqi (y := 128) (by decide +kernel) ?_
                                          refine lv_iconst (v := 1) hx hb dX9_spread_70 (by decide +kernel) ?_
                                          refine lv_isub hx hb dX9_spread_71 ?_
                                          refine my_eqi (y := 127) (by decide +kernel) ?_
                                          refine my_gpI (my_pV (As := [.int 0, .int 112, .int 127]) (rest := []) (ci := 9) ⟨hx, hb, hml, hown, hts⟩ (cwV 3 hts gX9_spread_X9_within rfl rfl rfl (by decide +kernel) ⟨Nat.le_of_ble_eq_true rfl, Nat.le_of_ble_eq_true rfl⟩) hN hK hP [1, 0] rfl 1 rfl rfl rfl rfl hl.1 rfl (Nat.le_of_ble_eq_true rfl) dX9_spread_72 ⟨Nat.le_of_ble_eq_true rfl, Nat.le_of_ble_eq_true rfl⟩  (k0_X9_within l D cI cJ m0 a_row a_tape a_number a_read a_readBits a_stands a_parted a_bitsWere a_stood a_chosen a_bestChosen a_often a_sorted a_risen a_risenWays (0 : Int32) (7 : Int32) (0 : Int32) (0 : Int32) (0 : Int32) (0 : Int32) (0 : Int32) (0 : Int32) (0 : Int32) (112 : Int32) (127 : Int32))) (fun r hp => ?_)
                                          obtain rfl := hp
                                          refine lv_istore (lv' := [(7, .int 0), (6, .int 112), (5, .int 0), (4, .int 16), (0, .ref m0), (1, .int 0), (2, .int 0), (3, .int 4)]) hx hb dX9_spread_75 hl (by decide) rfl (fun ls hl => ?_)
                                          refine lv_iload hx hb dX9_spread_77 (lv_at hl 2 rfl) ?_
                                          refine lv_iload hx hb dX9_spread_79 (lv_at hl 0 rfl) ?_
                                          refine lv_if_le (tgt := 88) hx hb dX9_spread_81 (by decide) (fun c81 => ?_) (fun c81 => ?_)
                                          ·
                                            refine lv_iconst (v := 0) hx hb dX9_spread_88 (by decide +kernel) ?_
                                            refine my_gpI (my_pS (As := [.int 0]) (rest := [.int 0]) ⟨hx, hb, hml, hown, hts⟩ (va_cwS 1 hts gX9_spread_X9_flag rfl rfl rfl (by decide +kernel) ⟨Nat.le_of_ble_eq_true rfl, Nat.le_of_ble_eq_true rfl⟩) hN hK hP [] rfl rfl hl.1 rfl (Nat.le_of_ble_eq_true rfl) dX9_spread_89 ⟨Nat.le_of_ble_eq_true rfl, Nat.le_of_ble_eq_true rfl⟩  (k0_X9_flag l D cI cJ )) (fun r hp => ?_)
                                            obtain rfl := hp
                                            refine lv_iadd hx hb dX9_spread_92 ?_
                                            refine my_eqi (y := 0) (by decide +kernel) ?_
                                            refine lv_istore (lv' := [(5, .int 0), (7, .int 0), (6, .int 112), (4, .int 16), (0, .ref m0), (1, .int 0), (2, .int 0), (3, .int 4)]) hx hb dX9_spread_93 hl (by decide) rfl (fun ls hl => ?_)
                                            refine lv_aload_n hx hb dX9_spread_95 rfl (lv_at hl 4 rfl) ?_
                                            refine lv_iload hx hb dX9_spread_96 (lv_at hl 1 rfl) ?_
                                            refine lv_i2l (v := 0) hx hb dX9_spread_98 (by decide +kernel) ?_
                                            refine my_goV (wr := [(a_often, .inl (cI, 512, .inl (fun _ => (0 : Int32))))]) hP hD hS hA [1, 2] [0] rfl rfl (by decide) (by decide) (my_cV (As := [.long 0]) (rest := []) (ci := 9) (wc := [(m0, .inr (9, [.int 0, .int 7, .ref a_row, .ref a_tape, .int 0, .int 0, .int 0, .int 0, .ref a_number, .ref a_read, .int 0, .ref a_readBits, .ref a_stands, .ref a_parted, .ref a_bitsWere, .ref a_stood, .ref a_chosen, .ref a_bestChosen, .int 0, .ref a_often, .ref a_sorted, .int 0, .ref a_risen, .ref a_risenWays])), (a_row, .inl (cJ, 64, .inr (.inl f_25)))]) ⟨hx, hb, hml, hown, hts⟩ (cwV 1 hts gX9_spread_X9_enters rfl rfl rfl (by decide +kernel) ⟨Nat.le_of_ble_eq_true rfl, Nat.le_of_ble_eq_true rfl⟩) hN hK hP hD [1, 2] rfl (by decide) rfl 1 rfl rfl rfl rfl hl.1 rfl (Nat.le_of_ble_eq_true rfl) dX9_spread_99 ⟨Nat.le_of_ble_eq_true rfl, Nat.le_of_ble_eq_true rfl⟩  ((k_X9_enters l D cI cJ m0 a_row a_tape a_number a_read a_readBits a_stands a_parted a_bitsWere a_stood a_chosen a_bestChosen a_often a_sorted a_risen a_risenWays (0 : Int32) (0 : Int32) (0 : Int32) (0 : Int32) (0 : Int32) (0 : Int32) (0 : Int32) (0 : Int32) 7 f_25 (0 : Int64) (by first | omega | decide +kernel)) _)) (fun u H locs hp hP hD hS => ?_)
                                            obtain ⟨f_26, rfl⟩ := hp
                                            have hP : va_P D vwCl [(a_often, .inl (cI, 512, .inl (fun _ => (0 : Int32)))), (m0, .inr (9, [.int 0, .int 8, .ref a_row, .ref a_tape, .int 0, .int 0, .int 0, .int 0, .ref a_number, .ref a_read, .int 0, .ref a_readBits, .ref a_stands, .ref a_parted, .ref a_bitsWere, .ref a_stood, .ref a_chosen, .ref a_bestChosen, .int 0, .ref a_often, .ref a_sorted, .int 0, .ref a_risen, .ref a_risenWays])), (a_row, .inl (cJ, 64, .inr (.inl f_26)))] H := hP
                                            have hD : va_D A [(a_often, .inl (cI, 512, .inl (fun _ => (0 : Int32)))), (m0, .inr (9, [.int 0, .int 8, .ref a_row, .ref a_tape, .int 0, .int 0, .int 0, .int 0, .ref a_number, .ref a_read, .int 0, .ref a_readBits, .ref a_stands, .ref a_parted, .ref a_bitsWere, .ref a_stood, .ref a_chosen, .ref a_bestChosen, .int 0, .ref a_often, .ref a_sorted, .int 0, .ref a_risen, .ref a_risenWays])), (a_row, .inl (cJ, 64, .inr (.inl f_26)))] := hD
                                            refine lv_iload hx hb dX9_spread_102 (lv_at hl 2 rfl) ?_
                                            refine lv_iload hx hb dX9_spread_104 (lv_at hl 3 rfl) ?_
                                            refine lv_iadd hx hb dX9_spread_106 ?_
                                            refine my_eqi (y := 128) (by decide +kernel) ?_
                                            refine lv_istore (lv' := [(6, .int 128), (5, .int 0), (7, .int 0), (4, .int 16), (0, .ref m0), (1, .int 0), (2, .int 0), (3, .int 4)]) hx hb dX9_spread_107 hl (by decide) rfl (fun ls hl => ?_)
                                            refine lv_goto (tgt := 53) hx hb dX9_spread_109 (by decide) ?_
                                            refine lv_iload hx hb dX9_spread_53 (lv_at hl 0 rfl) ?_
                                            refine lv_sipush (v := 256) hx hb dX9_spread_55 (by decide +kernel) ?_
                                            refine lv_icmp_ge (tgt := 112) hx hb dX9_spread_58 (by decide) (fun c58 => ?_) (fun c58 => ?_)
                                            ·
                                              exact absurd c58 (by decide +kernel)
                                            ·
                                              refine lv_aload_n hx hb dX9_spread_61 rfl (lv_at hl 4 rfl) ?_
                                              refine lv_iconst (v := 0) hx hb dX9_spread_62 (by decide +kernel) ?_
                                              refine lv_iload hx hb dX9_spread_63 (lv_at hl 0 rfl) ?_
                                              refine lv_iload hx hb dX9_spread_65 (lv_at hl 0 rfl) ?_
                                              refine lv_iload hx hb dX9_spread_67 (lv_at hl 3 rfl) ?_
                                              refine lv_iadd hx hb dX9_spread_69 ?_
                                              refine my_eqi (y := 144) (by decide +kernel) ?_
                                              refine lv_iconst (v := 1) hx hb dX9_spread_70 (by decide +kernel) ?_
                                              refine lv_isub hx hb dX9_spread_71 ?_
                                              refine my_eqi (y := 143) (by decide +kernel) ?_
                                              refine my_gpI (my_pV (As := [.int 0, .int 128, .int 143]) (rest := []) (ci := 9) ⟨hx, hb, hml, hown, hts⟩ (cwV 3 hts gX9_spread_X9_within rfl rfl rfl (by decide +kernel) ⟨Nat.le_of_ble_eq_true rfl, Nat.le_of_ble_eq_true rfl⟩) hN hK hP [1, 0] rfl 1 rfl rfl rfl rfl hl.1 rfl (Nat.le_of_ble_eq_true rfl) dX9_spread_72 ⟨Nat.le_of_ble_eq_true rfl, Nat.le_of_ble_eq_true rfl⟩  (k0_X9_within l D cI cJ m0 a_row a_tape a_number a_read a_readBits a_stands a_parted a_bitsWere a_stood a_chosen a_bestChosen a_often a_sorted a_risen a_risenWays (0 : Int32) (8 : Int32) (0 : Int32) (0 : Int32) (0 : Int32) (0 : Int32) (0 : Int32) (0 : Int32) (0 : Int32) (128 : Int32) (143 : Int32))) (fun r hp => ?_)
                                              obtain rfl := hp
                                              refine lv_istore (lv' := [(7, .int 0), (6, .int 128), (5, .int 0), (4, .int 16), (0, .ref m0), (1, .int 0), (2, .int 0), (3, .int 4)]) hx hb dX9_spread_75 hl (by decide) rfl (fun ls hl => ?_)
                                              refine lv_iload hx hb dX9_spread_77 (lv_at hl 2 rfl) ?_
                                              refine lv_iload hx hb dX9_spread_79 (lv_at hl 0 rfl) ?_
                                              refine lv_if_le (tgt := 88) hx hb dX9_spread_81 (by decide) (fun c81 => ?_) (fun c81 => ?_)
                                              ·
                                                refine lv_iconst (v := 0) hx hb dX9_spread_88 (by decide +kernel) ?_
                                                refine my_gpI (my_pS (As := [.int 0]) (rest := [.int 0]) ⟨hx, hb, hml, hown, hts⟩ (va_cwS 1 hts gX9_spread_X9_flag rfl rfl rfl (by decide +kernel) ⟨Nat.le_of_ble_eq_true rfl, Nat.le_of_ble_eq_true rfl⟩) hN hK hP [] rfl rfl hl.1 rfl (Nat.le_of_ble_eq_true rfl) dX9_spread_89 ⟨Nat.le_of_ble_eq_true rfl, Nat.le_of_ble_eq_true rfl⟩  (k0_X9_flag l D cI cJ )) (fun r hp => ?_)
                                                obtain rfl := hp
                                                refine lv_iadd hx hb dX9_spread_92 ?_
                                                refine my_eqi (y := 0) (by decide +kernel) ?_
                                                refine lv_istore (lv' := [(5, .int 0), (7, .int 0), (6, .int 128), (4, .int 16), (0, .ref m0), (1, .int 0), (2, .int 0), (3, .int 4)]) hx hb dX9_spread_93 hl (by decide) rfl (fun ls hl => ?_)
                                                refine lv_aload_n hx hb dX9_spread_95 rfl (lv_at hl 4 rfl) ?_
                                                refine lv_iload hx hb dX9_spread_96 (lv_at hl 1 rfl) ?_
                                                refine lv_i2l (v := 0) hx hb dX9_spread_98 (by decide +kernel) ?_
                                                refine my_goV (wr := [(a_often, .inl (cI, 512, .inl (fun _ => (0 : Int32))))]) hP hD hS hA [1, 2] [0] rfl rfl (by decide) (by decide) (my_cV (As := [.long 0]) (rest := []) (ci := 9) (wc := [(m0, .inr (9, [.int 0, .int 8, .ref a_row, .ref a_tape, .int 0, .int 0, .int 0, .int 0, .ref a_number, .ref a_read, .int 0, .ref a_readBits, .ref a_stands, .ref a_parted, .ref a_bitsWere, .ref a_stood, .ref a_chosen, .ref a_bestChosen, .int 0, .ref a_often, .ref a_sorted, .int 0, .ref a_risen, .ref a_risenWays])), (a_row, .inl (cJ, 64, .inr (.inl f_26)))]) ⟨hx, hb, hml, hown, hts⟩ (cwV 1 hts gX9_spread_X9_enters rfl rfl rfl (by decide +kernel) ⟨Nat.le_of_ble_eq_true rfl, Nat.le_of_ble_eq_true rfl⟩) hN hK hP hD [1, 2] rfl (by decide) rfl 1 rfl rfl rfl rfl hl.1 rfl (Nat.le_of_ble_eq_true rfl) dX9_spread_99 ⟨Nat.le_of_ble_eq_true rfl, Nat.le_of_ble_eq_true rfl⟩  ((k_X9_enters l D cI cJ m0 a_row a_tape a_number a_read a_readBits a_stands a_parted a_bitsWere a_stood a_chosen a_bestChosen a_often a_sorted a_risen a_risenWays (0 : Int32) (0 : Int32) (0 : Int32) (0 : Int32) (0 : Int32) (0 : Int32) (0 : Int32) (0 : Int32) 8 f_26 (0 : Int64) (by first | omega | decide +kernel)) _)) (fun u H locs hp hP hD hS => ?_)
                                                obtain ⟨f_27, rfl⟩ := hp
                                                have hP : va_P D vwCl [(a_often, .inl (cI, 512, .inl (fun _ => (0 : Int32)))), (m0, .inr (9, [.int 0, .int 9, .ref a_row, .ref a_tape, .int 0, .int 0, .int 0, .int 0, .ref a_number, .ref a_read, .int 0, .ref a_readBits, .ref a_stands, .ref a_parted, .ref a_bitsWere, .ref a_stood, .ref a_chosen, .ref a_bestChosen, .int 0, .ref a_often, .ref a_sorted, .int 0, .ref a_risen, .ref a_risenWays])), (a_row, .inl (cJ, 64, .inr (.inl f_27)))] H := hP
                                                have hD : va_D A [(a_often, .inl (cI, 512, .inl (fun _ => (0 : Int32)))), (m0, .inr (9, [.int 0, .int 9, .ref a_row, .ref a_tape, .int 0, .int 0, .int 0, .int 0, .ref a_number, .ref a_read, .int 0, .ref a_readBits, .ref a_stands, .ref a_parted, .ref a_bitsWere, .ref a_stood, .ref a_chosen, .ref a_bestChosen, .int 0, .ref a_often, .ref a_sorted, .int 0, .ref a_risen, .ref a_risenWays])), (a_row, .inl (cJ, 64, .inr (.inl f_27)))] := hD
                                                refine lv_iload hx hb dX9_spread_102 (lv_at hl 2 rfl) ?_
                                                refine lv_iload hx hb dX9_spread_104 (lv_at hl 3 rfl) ?_
                                                refine lv_iadd hx hb dX9_spread_106 ?_
                                                refine my_eqi (y := 144) (by decide +kernel) ?_
                                                refine lv_istore (lv' := [(6, .int 144), (5, .int 0), (7, .int 0), (4, .int 16), (0, .ref m0), (1, .int 0), (2, .int 0), (3, .int 4)]) hx hb dX9_spread_107 hl (by decide) rfl (fun ls hl => ?_)
                                                refine lv_goto (tgt := 53) hx hb dX9_spread_109 (by decide) ?_
                                                refine lv_iload hx hb dX9_spread_53 (lv_at hl 0 rfl) ?_
                                                refine lv_sipush (v := 256) hx hb dX9_spread_55 (by decide +kernel) ?_
                                                refine lv_icmp_ge (tgt := 112) hx hb dX9_spread_58 (by decide) (fun c58 => ?_) (fun c58 => ?_)
                                                ·
                                                  exact absurd c58 (by decide +kernel)
                                                ·
                                                  refine lv_aload_n hx hb dX9_spread_61 rfl (lv_at hl 4 rfl) ?_
                                                  refine lv_iconst (v := 0) hx hb dX9_spread_62 (by decide +kernel) ?_
                                                  refine lv_iload hx hb dX9_spread_63 (lv_at hl 0 rfl) ?_
                                                  refine lv_iload hx hb dX9_spread_65 (lv_at hl 0 rfl) ?_
                                                  refine lv_iload hx hb dX9_spread_67 (lv_at hl 3 rfl) ?_
                                                  refine lv_iadd hx hb dX9_spread_69 ?_
                                                  refine my_eqi (y := 160) (by decide +kernel) ?_
                                                  refine lv_iconst (v := 1) hx hb dX9_spread_70 (by decide +kernel) ?_
                                                  refine lv_isub hx hb dX9_spread_71 ?_
                                                  refine my_eqi (y := 159) (by decide +kernel) ?_
                                                  refine my_gpI (my_pV (As := [.int 0, .int 144, .int 159]) (rest := []) (ci := 9) ⟨hx, hb, hml, hown, hts⟩ (cwV 3 hts gX9_spread_X9_within rfl rfl rfl (by decide +kernel) ⟨Nat.le_of_ble_eq_true rfl, Nat.le_of_ble_eq_true rfl⟩) hN hK hP [1, 0] rfl 1 rfl rfl rfl rfl hl.1 rfl (Nat.le_of_ble_eq_true rfl) dX9_spread_72 ⟨Nat.le_of_ble_eq_true rfl, Nat.le_of_ble_eq_true rfl⟩  (k0_X9_within l D cI cJ m0 a_row a_tape a_number a_read a_readBits a_stands a_parted a_bitsWere a_stood a_chosen a_bestChosen a_often a_sorted a_risen a_risenWays (0 : Int32) (9 : Int32) (0 : Int32) (0 : Int32) (0 : Int32) (0 : Int32) (0 : Int32) (0 : Int32) (0 : Int32) (144 : Int32) (159 : Int32))) (fun r hp => ?_)
                                                  obtain rfl := hp
                                                  refine lv_istore (lv' := [(7, .int 0), (6, .int 144), (5, .int 0), (4, .int 16), (0, .ref m0), (1, .int 0), (2, .int 0), (3, .int 4)]) hx hb dX9_spread_75 hl (by decide) rfl (fun ls hl => ?_)
                                                  refine lv_iload hx hb dX9_spread_77 (lv_at hl 2 rfl) ?_
                                                  refine lv_iload hx hb dX9_spread_79 (lv_at hl 0 rfl) ?_
                                                  refine lv_if_le (tgt := 88) hx hb dX9_spread_81 (by decide) (fun c81 => ?_) (fun c81 => ?_)
                                                  ·
                                                    refine lv_iconst (v := 0) hx hb dX9_spread_88 (by decide +kernel) ?_
                                                    refine my_gpI (my_pS (As := [.int 0]) (rest := [.int 0]) ⟨hx, hb, hml, hown, hts⟩ (va_cwS 1 hts gX9_spread_X9_flag rfl rfl rfl (by decide +kernel) ⟨Nat.le_of_ble_eq_true rfl, Nat.le_of_ble_eq_true rfl⟩) hN hK hP [] rfl rfl hl.1 rfl (Nat.le_of_ble_eq_true rfl) dX9_spread_89 ⟨Nat.le_of_ble_eq_true rfl, Nat.le_of_ble_eq_true rfl⟩  (k0_X9_flag l D cI cJ )) (fun r hp => ?_)
                                                    obtain rfl := hp
                                                    refine lv_iadd hx hb dX9_spread_92 ?_
                                                    refine my_eqi (y := 0) (by decide +kernel) ?_
                                                    refine lv_istore (lv' := [(5, .int 0), (7, .int 0), (6, .int 144), (4, .int 16), (0, .ref m0), (1, .int 0), (2, .int 0), (3, .int 4)]) hx hb dX9_spread_93 hl (by decide) rfl (fun ls hl => ?_)
                                                    refine lv_aload_n hx hb dX9_spread_95 rfl (lv_at hl 4 rfl) ?_
                                                    refine lv_iload hx hb dX9_spread_96 (lv_at hl 1 rfl) ?_
                                                    refine lv_i2l (v := 0) hx hb dX9_spread_98 (by decide +kernel) ?_
                                                    refine my_goV (wr := [(a_often, .inl (cI, 512, .inl (fun _ => (0 : Int32))))]) hP hD hS hA [1, 2] [0] rfl rfl (by decide) (by decide) (my_cV (As := [.long 0]) (rest := []) (ci := 9) (wc := [(m0, .inr (9, [.int 0, .int 9, .ref a_row, .ref a_tape, .int 0, .int 0, .int 0, .int 0, .ref a_number, .ref a_read, .int 0, .ref a_readBits, .ref a_stands, .ref a_parted, .ref a_bitsWere, .ref a_stood, .ref a_chosen, .ref a_bestChosen, .int 0, .ref a_often, .ref a_sorted, .int 0, .ref a_risen, .ref a_risenWays])), (a_row, .inl (cJ, 64, .inr (.inl f_27)))]) ⟨hx, hb, hml, hown, hts⟩ (cwV 1 hts gX9_spread_X9_enters rfl rfl rfl (by decide +kernel) ⟨Nat.le_of_ble_eq_true rfl, Nat.le_of_ble_eq_true rfl⟩) hN hK hP hD [1, 2] rfl (by decide) rfl 1 rfl rfl rfl rfl hl.1 rfl (Nat.le_of_ble_eq_true rfl) dX9_spread_99 ⟨Nat.le_of_ble_eq_true rfl, Nat.le_of_ble_eq_true rfl⟩  ((k_X9_enters l D cI cJ m0 a_row a_tape a_number a_read a_readBits a_stands a_parted a_bitsWere a_stood a_chosen a_bestChosen a_often a_sorted a_risen a_risenWays (0 : Int32) (0 : Int32) (0 : Int32) (0 : Int32) (0 : Int32) (0 : Int32) (0 : Int32) (0 : Int32) 9 f_27 (0 : Int64) (by first | omega | decide +kernel)) _)) (fun u H locs hp hP hD hS => ?_)
                                                    obtain ⟨f_28, rfl⟩ := hp
                                                    have hP : va_P D vwCl [(a_often, .inl (cI, 512, .inl (fun _ => (0 : Int32)))), (m0, .inr (9, [.int 0, .int 10, .ref a_row, .ref a_tape, .int 0, .int 0, .int 0, .int 0, .ref a_number, .ref a_read, .int 0, .ref a_readBits, .ref a_stands, .ref a_parted, .ref a_bitsWere, .ref a_stood, .ref a_chosen, .ref a_bestChosen, .int 0, .ref a_often, .ref a_sorted, .int 0, .ref a_risen, .ref a_risenWays])), (a_row, .inl (cJ, 64, .inr (.inl f_28)))] H := hP
                                                    have hD : va_D A [(a_often, .inl (cI, 512, .inl (fun _ => (0 : Int32)))), (m0, .inr (9, [.int 0, .int 10, .ref a_row, .ref a_tape, .int 0, .int 0, .int 0, .int 0, .ref a_number, .ref a_read, .int 0, .ref a_readBits, .ref a_stands, .ref a_parted, .ref a_bitsWere, .ref a_stood, .ref a_chosen, .ref a_bestChosen, .int 0, .ref a_often, .ref a_sorted, .int 0, .ref a_risen, .ref a_risenWays])), (a_row, .inl (cJ, 64, .inr (.inl f_28)))] := hD
                                                    refine lv_iload hx hb dX9_spread_102 (lv_at hl 2 rfl) ?_
                                                    refine lv_iload hx hb dX9_spread_104 (lv_at hl 3 rfl) ?_
                                                    refine lv_iadd hx hb dX9_spread_106 ?_
                                                    refine my_eqi (y := 160) (by decide +kernel) ?_
                                                    refine lv_istore (lv' := [(6, .int 160), (5, .int 0), (7, .int 0), (4, .int 16), (0, .ref m0), (1, .int 0), (2, .int 0), (3, .int 4)]) hx hb dX9_spread_107 hl (by decide) rfl (fun ls hl => ?_)
                                                    refine lv_goto (tgt := 53) hx hb dX9_spread_109 (by decide) ?_
                                                    refine lv_iload hx hb dX9_spread_53 (lv_at hl 0 rfl) ?_
                                                    refine lv_sipush (v := 256) hx hb dX9_spread_55 (by decide +kernel) ?_
                                                    refine lv_icmp_ge (tgt := 112) hx hb dX9_spread_58 (by decide) (fun c58 => ?_) (fun c58 => ?_)
                                                    ·
                                                      exact absurd c58 (by decide +kernel)
                                                    ·
                                                      refine lv_aload_n hx hb dX9_spread_61 rfl (lv_at hl 4 rfl) ?_
                                                      refine lv_iconst (v := 0) hx hb dX9_spread_62 (by decide +kernel) ?_
                                                      refine lv_iload hx hb dX9_spread_63 (lv_at hl 0 rfl) ?_
                                                      refine lv_iload hx hb dX9_spread_65 (lv_at hl 0 rfl) ?_
                                                      refine lv_iload hx hb dX9_spread_67 (lv_at hl 3 rfl) ?_
                                                      refine lv_iadd hx hb dX9_spread_69 ?_
                                                      refine my_eqi (y := 176) (by decide +kernel) ?_
                                                      refine lv_iconst (v := 1) hx hb dX9_spread_70 (by decide +kernel) ?_
                                                      refine lv_isub hx hb dX9_spread_71 ?_
                                                      refine my_eqi (y := 175) (by decide +kernel) ?_
                                                      refine my_gpI (my_pV (As := [.int 0, .int 160, .int 175]) (rest := []) (ci := 9) ⟨hx, hb, hml, hown, hts⟩ (cwV 3 hts gX9_spread_X9_within rfl rfl rfl (by decide +kernel) ⟨Nat.le_of_ble_eq_true rfl, Nat.le_of_ble_eq_true rfl⟩) hN hK hP [1, 0] rfl 1 rfl rfl rfl rfl hl.1 rfl (Nat.le_of_ble_eq_true rfl) dX9_spread_72 ⟨Nat.le_of_ble_eq_true rfl, Nat.le_of_ble_eq_true rfl⟩  (k0_X9_within l D cI cJ m0 a_row a_tape a_number a_read a_readBits a_stands a_parted a_bitsWere a_stood a_chosen a_bestChosen a_often a_sorted a_risen a_risenWays (0 : Int32) (10 : Int32) (0 : Int32) (0 : Int32) (0 : Int32) (0 : Int32) (0 : Int32) (0 : Int32) (0 : Int32) (160 : Int32) (175 : Int32))) (fun r hp => ?_)
                                                      obtain rfl := hp
                                                      refine lv_istore (lv' := [(7, .int 0), (6, .int 160), (5, .int 0), (4, .int 16), (0, .ref m0), (1, .int 0), (2, .int 0), (3, .int 4)]) hx hb dX9_spread_75 hl (by decide) rfl (fun ls hl => ?_)
                                                      refine lv_iload hx hb dX9_spread_77 (lv_at hl 2 rfl) ?_
                                                      refine lv_iload hx hb dX9_spread_79 (lv_at hl 0 rfl) ?_
                                                      refine lv_if_le (tgt := 88) hx hb dX9_spread_81 (by decide) (fun c81 => ?_) (fun c81 => ?_)
                                                      ·
                                                        refine lv_iconst (v := 0) hx hb dX9_spread_88 (by decide +kernel) ?_
                                                        refine my_gpI (my_pS (As := [.int 0]) (rest := [.int 0]) ⟨hx, hb, hml, hown, hts⟩ (va_cwS 1 hts gX9_spread_X9_flag rfl rfl rfl (by decide +kernel) ⟨Nat.le_of_ble_eq_true rfl, Nat.le_of_ble_eq_true rfl⟩) hN hK hP [] rfl rfl hl.1 rfl (Nat.le_of_ble_eq_true rfl) dX9_spread_89 ⟨Nat.le_of_ble_eq_true rfl, Nat.le_of_ble_eq_true rfl⟩  (k0_X9_flag l D cI cJ )) (fun r hp => ?_)
                                                        obtain rfl := hp
                                                        refine lv_iadd hx hb dX9_spread_92 ?_
                                                        refine my_eqi (y := 0) (by decide +kernel) ?_
                                                        refine lv_istore (lv' := [(5, .int 0), (7, .int 0), (6, .int 160), (4, .int 16), (0, .ref m0), (1, .int 0), (2, .int 0), (3, .int 4)]) hx hb dX9_spread_93 hl (by decide) rfl (fun ls hl => ?_)
                                                        refine lv_aload_n hx hb dX9_spread_95 rfl (lv_at hl 4 rfl) ?_
                                                        refine lv_iload hx hb dX9_spread_96 (lv_at hl 1 rfl) ?_
                                                        refine lv_i2l (v := 0) hx hb dX9_spread_98 (by decide +kernel) ?_
                                                        refine my_goV (wr := [(a_often, .inl (cI, 512, .inl (fun _ => (0 : Int32))))]) hP hD hS hA [1, 2] [0] rfl rfl (by decide) (by decide) (my_cV (As := [.long 0]) (rest := []) (ci := 9) (wc := [(m0, .inr (9, [.int 0, .int 10, .ref a_row, .ref a_tape, .int 0, .int 0, .int 0, .int 0, .ref a_number, .ref a_read, .int 0, .ref a_readBits, .ref a_stands, .ref a_parted, .ref a_bitsWere, .ref a_stood, .ref a_chosen, .ref a_bestChosen, .int 0, .ref a_often, .ref a_sorted, .int 0, .ref a_risen, .ref a_risenWays])), (a_row, .inl (cJ, 64, .inr (.inl f_28)))]) ⟨hx, hb, hml, hown, hts⟩ (cwV 1 hts gX9_spread_X9_enters rfl rfl rfl (by decide +kernel) ⟨Nat.le_of_ble_eq_true rfl, Nat.le_of_ble_eq_true rfl⟩) hN hK hP hD [1, 2] rfl (by decide) rfl 1 rfl rfl rfl rfl hl.1 rfl (Nat.le_of_ble_eq_true rfl) dX9_spread_99 ⟨Nat.le_of_ble_eq_true rfl, Nat.le_of_ble_eq_true rfl⟩  ((k_X9_enters l D cI cJ m0 a_row a_tape a_number a_read a_readBits a_stands a_parted a_bitsWere a_stood a_chosen a_bestChosen a_often a_sorted a_risen a_risenWays (0 : Int32) (0 : Int32) (0 : Int32) (0 : Int32) (0 : Int32) (0 : Int32) (0 : Int32) (0 : Int32) 10 f_28 (0 : Int64) (by first | omega | decide +kernel)) _)) (fun u H locs hp hP hD hS => ?_)
                                                        obtain ⟨f_29, rfl⟩ := hp
                                                        have hP : va_P D vwCl [(a_often, .inl (cI, 512, .inl (fun _ => (0 : Int32)))), (m0, .inr (9, [.int 0, .int 11, .ref a_row, .ref a_tape, .int 0, .int 0, .int 0, .int 0, .ref a_number, .ref a_read, .int 0, .ref a_readBits, .ref a_stands, .ref a_parted, .ref a_bitsWere, .ref a_stood, .ref a_chosen, .ref a_bestChosen, .int 0, .ref a_often, .ref a_sorted, .int 0, .ref a_risen, .ref a_risenWays])), (a_row, .inl (cJ, 64, .inr (.inl f_29)))] H := hP
                                                        have hD : va_D A [(a_often, .inl (cI, 512, .inl (fun _ => (0 : Int32)))), (m0, .inr (9, [.int 0, .int 11, .ref a_row, .ref a_tape, .int 0, .int 0, .int 0, .int 0, .ref a_number, .ref a_read, .int 0, .ref a_readBits, .ref a_stands, .ref a_parted, .ref a_bitsWere, .ref a_stood, .ref a_chosen, .ref a_bestChosen, .int 0, .ref a_often, .ref a_sorted, .int 0, .ref a_risen, .ref a_risenWays])), (a_row, .inl (cJ, 64, .inr (.inl f_29)))] := hD
                                                        refine lv_iload hx hb dX9_spread_102 (lv_at hl 2 rfl) ?_
                                                        refine lv_iload hx hb dX9_spread_104 (lv_at hl 3 rfl) ?_
                                                        refine lv_iadd hx hb dX9_spread_106 ?_
                                                        refine my_eqi (y := 176) (by decide +kernel) ?_
                                                        refine lv_istore (lv' := [(6, .int 176), (5, .int 0), (7, .int 0), (4, .int 16), (0, .ref m0), (1, .int 0), (2, .int 0), (3, .int 4)]) hx hb dX9_spread_107 hl (by decide) rfl (fun ls hl => ?_)
                                                        refine lv_goto (tgt := 53) hx hb dX9_spread_109 (by decide) ?_
                                                        refine lv_iload hx hb dX9_spread_53 (lv_at hl 0 rfl) ?_
                                                        refine lv_sipush (v := 256) hx hb dX9_spread_55 (by decide +kernel) ?_
                                                        refine lv_icmp_ge (tgt := 112) hx hb dX9_spread_58 (by decide) (fun c58 => ?_) (fun c58 => ?_)
                                                        ·
                                                          exact absurd c58 (by decide +kernel)
                                                        ·
                                                          refine lv_aload_n hx hb dX9_spread_61 rfl (lv_at hl 4 rfl) ?_
                                                          refine lv_iconst (v := 0) hx hb dX9_spread_62 (by decide +kernel) ?_
                                                          refine lv_iload hx hb dX9_spread_63 (lv_at hl 0 rfl) ?_
                                                          refine lv_iload hx hb dX9_spread_65 (lv_at hl 0 rfl) ?_
                                                          refine lv_iload hx hb dX9_spread_67 (lv_at hl 3 rfl) ?_
                                                          refine lv_iadd hx hb dX9_spread_69 ?_
                                                          refine my_eqi (y := 192) (by decide +kernel) ?_
                                                          refine lv_iconst (v := 1) hx hb dX9_spread_70 (by decide +kernel) ?_
                                                          refine lv_isub hx hb dX9_spread_71 ?_
                                                          refine my_eqi (y := 191) (by decide +kernel) ?_
                                                          refine my_gpI (my_pV (As := [.int 0, .int 176, .int 191]) (rest := []) (ci := 9) ⟨hx, hb, hml, hown, hts⟩ (cwV 3 hts gX9_spread_X9_within rfl rfl rfl (by decide +kernel) ⟨Nat.le_of_ble_eq_true rfl, Nat.le_of_ble_eq_true rfl⟩) hN hK hP [1, 0] rfl 1 rfl rfl rfl rfl hl.1 rfl (Nat.le_of_ble_eq_true rfl) dX9_spread_72 ⟨Nat.le_of_ble_eq_true rfl, Nat.le_of_ble_eq_true rfl⟩  (k0_X9_within l D cI cJ m0 a_row a_tape a_number a_read a_readBits a_stands a_parted a_bitsWere a_stood a_chosen a_bestChosen a_often a_sorted a_risen a_risenWays (0 : Int32) (11 : Int32) (0 : Int32) (0 : Int32) (0 : Int32) (0 : Int32) (0 : Int32) (0 : Int32) (0 : Int32) (176 : Int32) (191 : Int32))) (fun r hp => ?_)
                                                          obtain rfl := hp
                                                          refine lv_istore (lv' := [(7, .int 0), (6, .int 176), (5, .int 0), (4, .int 16), (0, .ref m0), (1, .int 0), (2, .int 0), (3, .int 4)]) hx hb dX9_spread_75 hl (by decide) rfl (fun ls hl => ?_)
                                                          refine lv_iload hx hb dX9_spread_77 (lv_at hl 2 rfl) ?_
                                                          refine lv_iload hx hb dX9_spread_79 (lv_at hl 0 rfl) ?_
                                                          refine lv_if_le (tgt := 88) hx hb dX9_spread_81 (by decide) (fun c81 => ?_) (fun c81 => ?_)
                                                          ·
                                                            refine lv_iconst (v := 0) hx hb dX9_spread_88 (by decide +kernel) ?_
                                                            refine my_gpI (my_pS (As := [.int 0]) (rest := [.int 0]) ⟨hx, hb, hml, hown, hts⟩ (va_cwS 1 hts gX9_spread_X9_flag rfl rfl rfl (by decide +kernel) ⟨Nat.le_of_ble_eq_true rfl, Nat.le_of_ble_eq_true rfl⟩) hN hK hP [] rfl rfl hl.1 rfl (Nat.le_of_ble_eq_true rfl) dX9_spread_89 ⟨Nat.le_of_ble_eq_true rfl, Nat.le_of_ble_eq_true rfl⟩  (k0_X9_flag l D cI cJ )) (fun r hp => ?_)
                                                            obtain rfl := hp
                                                            refine lv_iadd hx hb dX9_spread_92 ?_
                                                            refine my_eqi (y := 0) (by decide +kernel) ?_
                                                            refine lv_istore (lv' := [(5, .int 0), (7, .int 0), (6, .int 176), (4, .int 16), (0, .ref m0), (1, .int 0), (2, .int 0), (3, .int 4)]) hx hb dX9_spread_93 hl (by decide) rfl (fun ls hl => ?_)
                                                            refine lv_aload_n hx hb dX9_spread_95 rfl (lv_at hl 4 rfl) ?_
                                                            refine lv_iload hx hb dX9_spread_96 (lv_at hl 1 rfl) ?_
                                                            refine lv_i2l (v := 0) hx hb dX9_spread_98 (by decide +kernel) ?_
                                                            refine my_goV (wr := [(a_often, .inl (cI, 512, .inl (fun _ => (0 : Int32))))]) hP hD hS hA [1, 2] [0] rfl rfl (by decide) (by decide) (my_cV (As := [.long 0]) (rest := []) (ci := 9) (wc := [(m0, .inr (9, [.int 0, .int 11, .ref a_row, .ref a_tape, .int 0, .int 0, .int 0, .int 0, .ref a_number, .ref a_read, .int 0, .ref a_readBits, .ref a_stands, .ref a_parted, .ref a_bitsWere, .ref a_stood, .ref a_chosen, .ref a_bestChosen, .int 0, .ref a_often, .ref a_sorted, .int 0, .ref a_risen, .ref a_risenWays])), (a_row, .inl (cJ, 64, .inr (.inl f_29)))]) ⟨hx, hb, hml, hown, hts⟩ (cwV 1 hts gX9_spread_X9_enters rfl rfl rfl (by decide +kernel) ⟨Nat.le_of_ble_eq_true rfl, Nat.le_of_ble_eq_true rfl⟩) hN hK hP hD [1, 2] rfl (by decide) rfl 1 rfl rfl rfl rfl hl.1 rfl (Nat.le_of_ble_eq_true rfl) dX9_spread_99 ⟨Nat.le_of_ble_eq_true rfl, Nat.le_of_ble_eq_true rfl⟩  ((k_X9_enters l D cI cJ m0 a_row a_tape a_number a_read a_readBits a_stands a_parted a_bitsWere a_stood a_chosen a_bestChosen a_often a_sorted a_risen a_risenWays (0 : Int32) (0 : Int32) (0 : Int32) (0 : Int32) (0 : Int32) (0 : Int32) (0 : Int32) (0 : Int32) 11 f_29 (0 : Int64) (by first | omega | decide +kernel)) _)) (fun u H locs hp hP hD hS => ?_)
                                                            obtain ⟨f_30, rfl⟩ := hp
                                                            have hP : va_P D vwCl [(a_often, .inl (cI, 512, .inl (fun _ => (0 : Int32)))), (m0, .inr (9, [.int 0, .int 12, .ref a_row, .ref a_tape, .int 0, .int 0, .int 0, .int 0, .ref a_number, .ref a_read, .int 0, .ref a_readBits, .ref a_stands, .ref a_parted, .ref a_bitsWere, .ref a_stood, .ref a_chosen, .ref a_bestChosen, .int 0, .ref a_often, .ref a_sorted, .int 0, .ref a_risen, .ref a_risenWays])), (a_row, .inl (cJ, 64, .inr (.inl f_30)))] H := hP
                                                            have hD : va_D A [(a_often, .inl (cI, 512, .inl (fun _ => (0 : Int32)))), (m0, .inr (9, [.int 0, .int 12, .ref a_row, .ref a_tape, .int 0, .int 0, .int 0, .int 0, .ref a_number, .ref a_read, .int 0, .ref a_readBits, .ref a_stands, .ref a_parted, .ref a_bitsWere, .ref a_stood, .ref a_chosen, .ref a_bestChosen, .int 0, .ref a_often, .ref a_sorted, .int 0, .ref a_risen, .ref a_risenWays])), (a_row, .inl (cJ, 64, .inr (.inl f_30)))] := hD
                                                            refine lv_iload hx hb dX9_spread_102 (lv_at hl 2 rfl) ?_
                                                            refine lv_iload hx hb dX9_spread_104 (lv_at hl 3 rfl) ?_
                                                            refine lv_iadd hx hb dX9_spread_106 ?_
                                                            refine my_eqi (y := 192) (by decide +kernel) ?_
                                                            refine lv_istore (lv' := [(6, .int 192), (5, .int 0), (7, .int 0), (4, .int 16), (0, .ref m0), (1, .int 0), (2, .int 0), (3, .int 4)]) hx hb dX9_spread_107 hl (by decide) rfl (fun ls hl => ?_)
                                                            refine lv_goto (tgt := 53) hx hb dX9_spread_109 (by decide) ?_
                                                            refine lv_iload hx hb dX9_spread_53 (lv_at hl 0 rfl) ?_
                                                            refine lv_sipush (v := 256) hx hb dX9_spread_55 (by decide +kernel) ?_
                                                            refine lv_icmp_ge (tgt := 112) hx hb dX9_spread_58 (by decide) (fun c58 => ?_) (fun c58 => ?_)
                                                            ·
                                                              exact absurd c58 (by decide +kernel)
                                                            ·
                                                              refine lv_aload_n hx hb dX9_spread_61 rfl (lv_at hl 4 rfl) ?_
                                                              refine lv_iconst (v := 0) hx hb dX9_spread_62 (by decide +kernel) ?_
                                                              refine lv_iload hx hb dX9_spread_63 (lv_at hl 0 rfl) ?_
                                                              refine lv_iload hx hb dX9_spread_65 (lv_at hl 0 rfl) ?_
                                                              refine lv_iload hx hb dX9_spread_67 (lv_at hl 3 rfl) ?_
                                                              refine lv_iadd hx hb dX9_spread_69 ?_
                                                              refine my_eqi (y := 208) (by decide +kernel) ?_
                                                              refine lv_iconst (v := 1) hx hb dX9_spread_70 (by decide +kernel) ?_
                                                              refine lv_isub hx hb dX9_spread_71 ?_
                                                              refine my_eqi (y := 207) (by decide +kernel) ?_
                                                              refine my_gpI (my_pV (As := [.int 0, .int 192, .int 207]) (rest := []) (ci := 9) ⟨hx, hb, hml, hown, hts⟩ (cwV 3 hts gX9_spread_X9_within rfl rfl rfl (by decide +kernel) ⟨Nat.le_of_ble_eq_true rfl, Nat.le_of_ble_eq_true rfl⟩) hN hK hP [1, 0] rfl 1 rfl rfl rfl rfl hl.1 rfl (Nat.le_of_ble_eq_true rfl) dX9_spread_72 ⟨Nat.le_of_ble_eq_true rfl, Nat.le_of_ble_eq_true rfl⟩  (k0_X9_within l D cI cJ m0 a_row a_tape a_number a_read a_readBits a_stands a_parted a_bitsWere a_stood a_chosen a_bestChosen a_often a_sorted a_risen a_risenWays (0 : Int32) (12 : Int32) (0 : Int32) (0 : Int32) (0 : Int32) (0 : Int32) (0 : Int32) (0 : Int32) (0 : Int32) (192 : Int32) (207 : Int32))) (fun r hp => ?_)
                                                              obtain rfl := hp
                                                              refine lv_istore (lv' := [(7, .int 0), (6, .int 192), (5, .int 0), (4, .int 16), (0, .ref m0), (1, .int 0), (2, .int 0), (3, .int 4)]) hx hb dX9_spread_75 hl (by decide) rfl (fun ls hl => ?_)
                                                              refine lv_iload hx hb dX9_spread_77 (lv_at hl 2 rfl) ?_
                                                              refine lv_iload hx hb dX9_spread_79 (lv_at hl 0 rfl) ?_
                                                              refine lv_if_le (tgt := 88) hx hb dX9_spread_81 (by decide) (fun c81 => ?_) (fun c81 => ?_)
                                                              ·
                                                                refine lv_iconst (v := 0) hx hb dX9_spread_88 (by decide +kernel) ?_
                                                                refine my_gpI (my_pS (As := [.int 0]) (rest := [.int 0]) ⟨hx, hb, hml, hown, hts⟩ (va_cwS 1 hts gX9_spread_X9_flag rfl rfl rfl (by decide +kernel) ⟨Nat.le_of_ble_eq_true rfl, Nat.le_of_ble_eq_true rfl⟩) hN hK hP [] rfl rfl hl.1 rfl (Nat.le_of_ble_eq_true rfl) dX9_spread_89 ⟨Nat.le_of_ble_eq_true rfl, Nat.le_of_ble_eq_true rfl⟩  (k0_X9_flag l D cI cJ )) (fun r hp => ?_)
                                                                obtain rfl := hp
                                                                refine lv_iadd hx hb dX9_spread_92 ?_
                                                                refine my_eqi (y := 0) (by decide +kernel) ?_
                                                                refine lv_istore (lv' := [(5, .int 0), (7, .int 0), (6, .int 192), (4, .int 16), (0, .ref m0), (1, .int 0), (2, .int 0), (3, .int 4)]) hx hb dX9_spread_93 hl (by decide) rfl (fun ls hl => ?_)
                                                                refine lv_aload_n hx hb dX9_spread_95 rfl (lv_at hl 4 rfl) ?_
                                                                refine lv_iload hx hb dX9_spread_96 (lv_at hl 1 rfl) ?_
                                                                refine lv_i2l (v := 0) hx hb dX9_spread_98 (by decide +kernel) ?_
                                                                refine my_goV (wr := [(a_often, .inl (cI, 512, .inl (fun _ => (0 : Int32))))]) hP hD hS hA [1, 2] [0] rfl rfl (by decide) (by decide) (my_cV (As := [.long 0]) (rest := []) (ci := 9) (wc := [(m0, .inr (9, [.int 0, .int 12, .ref a_row, .ref a_tape, .int 0, .int 0, .int 0, .int 0, .ref a_number, .ref a_read, .int 0, .ref a_readBits, .ref a_stands, .ref a_parted, .ref a_bitsWere, .ref a_stood, .ref a_chosen, .ref a_bestChosen, .int 0, .ref a_often, .ref a_sorted, .int 0, .ref a_risen, .ref a_risenWays])), (a_row, .inl (cJ, 64, .inr (.inl f_30)))]) ⟨hx, hb, hml, hown, hts⟩ (cwV 1 hts gX9_spread_X9_enters rfl rfl rfl (by decide +kernel) ⟨Nat.le_of_ble_eq_true rfl, Nat.le_of_ble_eq_true rfl⟩) hN hK hP hD [1, 2] rfl (by decide) rfl 1 rfl rfl rfl rfl hl.1 rfl (Nat.le_of_ble_eq_true rfl) dX9_spread_99 ⟨Nat.le_of_ble_eq_true rfl, Nat.le_of_ble_eq_true rfl⟩  ((k_X9_enters l D cI cJ m0 a_row a_tape a_number a_read a_readBits a_stands a_parted a_bitsWere a_stood a_chosen a_bestChosen a_often a_sorted a_risen a_risenWays (0 : Int32) (0 : Int32) (0 : Int32) (0 : Int32) (0 : Int32) (0 : Int32) (0 : Int32) (0 : Int32) 12 f_30 (0 : Int64) (by first | omega | decide +kernel)) _)) (fun u H locs hp hP hD hS => ?_)
                                                                obtain ⟨f_31, rfl⟩ := hp
                                                                have hP : va_P D vwCl [(a_often, .inl (cI, 512, .inl (fun _ => (0 : Int32)))), (m0, .inr (9, [.int 0, .int 13, .ref a_row, .ref a_tape, .int 0, .int 0, .int 0, .int 0, .ref a_number, .ref a_read, .int 0, .ref a_readBits, .ref a_stands, .ref a_parted, .ref a_bitsWere, .ref a_stood, .ref a_chosen, .ref a_bestChosen, .int 0, .ref a_often, .ref a_sorted, .int 0, .ref a_risen, .ref a_risenWays])), (a_row, .inl (cJ, 64, .inr (.inl f_31)))] H := hP
                                                                have hD : va_D A [(a_often, .inl (cI, 512, .inl (fun _ => (0 : Int32)))), (m0, .inr (9, [.int 0, .int 13, .ref a_row, .ref a_tape, .int 0, .int 0, .int 0, .int 0, .ref a_number, .ref a_read, .int 0, .ref a_readBits, .ref a_stands, .ref a_parted, .ref a_bitsWere, .ref a_stood, .ref a_chosen, .ref a_bestChosen, .int 0, .ref a_often, .ref a_sorted, .int 0, .ref a_risen, .ref a_risenWays])), (a_row, .inl (cJ, 64, .inr (.inl f_31)))] := hD
                                                                refine lv_iload hx hb dX9_spread_102 (lv_at hl 2 rfl) ?_
                                                                refine lv_iload hx hb dX9_spread_104 (lv_at hl 3 rfl) ?_
                                                                refine lv_iadd hx hb dX9_spread_106 ?_
                                                                refine my_eqi (y := 208) (by decide +kernel) ?_
                                                                refine lv_istore (lv' := [(6, .int 208), (5, .int 0), (7, .int 0), (4, .int 16), (0, .ref m0), (1, .int 0), (2, .int 0), (3, .int 4)]) hx hb dX9_spread_107 hl (by decide) rfl (fun ls hl => ?_)
                                                                refine lv_goto (tgt := 53) hx hb dX9_spread_109 (by decide) ?_
                                                                refine lv_iload hx hb dX9_spread_53 (lv_at hl 0 rfl) ?_
                                                                refine lv_sipush (v := 256) hx hb dX9_spread_55 (by decide +kernel) ?_
                                                                refine lv_icmp_ge (tgt := 112) hx hb dX9_spread_58 (by decide) (fun c58 => ?_) (fun c58 => ?_)
                                                                ·
                                                                  exact absurd c58 (by decide +kernel)
                                                                ·
                                                                  refine lv_aload_n hx hb dX9_spread_61 rfl (lv_at hl 4 rfl) ?_
                                                                  refine lv_iconst (v := 0) hx hb dX9_spread_62 (by decide +kernel) ?_
                                                                  refine lv_iload hx hb dX9_spread_63 (lv_at hl 0 rfl) ?_
                                                                  refine lv_iload hx hb dX9_spread_65 (lv_at hl 0 rfl) ?_
                                                                  refine lv_iload hx hb dX9_spread_67 (lv_at hl 3 rfl) ?_
                                                                  refine lv_iadd hx hb dX9_spread_69 ?_
                                                                  refine my_eqi (y := 224) (by decide +kernel) ?_
                                                                  refine lv_iconst (v := 1) hx hb dX9_spread_70 (by decide +kernel) ?_
                                                                  refine lv_isub hx hb dX9_spread_71 ?_
                                                                  refine my_eqi (y := 223) (by decide +kernel) ?_
                                                                  refine my_gpI (my_pV (As := [.int 0, .int 208, .int 223]) (rest := []) (ci := 9) ⟨hx, hb, hml, hown, hts⟩ (cwV 3 hts gX9_spread_X9_within rfl rfl rfl (by decide +kernel) ⟨Nat.le_of_ble_eq_true rfl, Nat.le_of_ble_eq_true rfl⟩) hN hK hP [1, 0] rfl 1 rfl rfl rfl rfl hl.1 rfl (Nat.le_of_ble_eq_true rfl) dX9_spread_72 ⟨Nat.le_of_ble_eq_true rfl, Nat.le_of_ble_eq_true rfl⟩  (k0_X9_within l D cI cJ m0 a_row a_tape a_number a_read a_readBits a_stands a_parted a_bitsWere a_stood a_chosen a_bestChosen a_often a_sorted a_risen a_risenWays (0 : Int32) (13 : Int32) (0 : Int32) (0 : Int32) (0 : Int32) (0 : Int32) (0 : Int32) (0 : Int32) (0 : Int32) (208 : Int32) (223 : Int32))) (fun r hp => ?_)
                                                                  obtain rfl := hp
                                                                  refine lv_istore (lv' := [(7, .int 0), (6, .int 208), (5, .int 0), (4, .int 16), (0, .ref m0), (1, .int 0), (2, .int 0), (3, .int 4)]) hx hb dX9_spread_75 hl (by decide) rfl (fun ls hl => ?_)
                                                                  refine lv_iload hx hb dX9_spread_77 (lv_at hl 2 rfl) ?_
                                                                  refine lv_iload hx hb dX9_spread_79 (lv_at hl 0 rfl) ?_
                                                                  refine lv_if_le (tgt := 88) hx hb dX9_spread_81 (by decide) (fun c81 => ?_) (fun c81 => ?_)
                                                                  ·
                                                                    refine lv_iconst (v := 0) hx hb dX9_spread_88 (by decide +kernel) ?_
                                                                    refine my_gpI (my_pS (As := [.int 0]) (rest := [.int 0]) ⟨hx, hb, hml, hown, hts⟩ (va_cwS 1 hts gX9_spread_X9_flag rfl rfl rfl (by decide +kernel) ⟨Nat.le_of_ble_eq_true rfl, Nat.le_of_ble_eq_true rfl⟩) hN hK hP [] rfl rfl hl.1 rfl (Nat.le_of_ble_eq_true rfl) dX9_spread_89 ⟨Nat.le_of_ble_eq_true rfl, Nat.le_of_ble_eq_true rfl⟩  (k0_X9_flag l D cI cJ )) (fun r hp => ?_)
                                                                    obtain rfl := hp
                                                                    refine lv_iadd hx hb dX9_spread_92 ?_
                                                                    refine my_eqi (y := 0) (by decide +kernel) ?_
                                                                    refine lv_istore (lv' := [(5, .int 0), (7, .int 0), (6, .int 208), (4, .int 16), (0, .ref m0), (1, .int 0), (2, .int 0), (3, .int 4)]) hx hb dX9_spread_93 hl (by decide) rfl (fun ls hl => ?_)
                                                                    refine lv_aload_n hx hb dX9_spread_95 rfl (lv_at hl 4 rfl) ?_
                                                                    refine lv_iload hx hb dX9_spread_96 (lv_at hl 1 rfl) ?_
                                                                    refine lv_i2l (v := 0) hx hb dX9_spread_98 (by decide +kernel) ?_
                                                                    refine my_goV (wr := [(a_often, .inl (cI, 512, .inl (fun _ => (0 : Int32))))]) hP hD hS hA [1, 2] [0] rfl rfl (by decide) (by decide) (my_cV (As := [.long 0]) (rest := []) (ci := 9) (wc := [(m0, .inr (9, [.int 0, .int 13, .ref a_row, .ref a_tape, .int 0, .int 0, .int 0, .int 0, .ref a_number, .ref a_read, .int 0, .ref a_readBits, .ref a_stands, .ref a_parted, .ref a_bitsWere, .ref a_stood, .ref a_chosen, .ref a_bestChosen, .int 0, .ref a_often, .ref a_sorted, .int 0, .ref a_risen, .ref a_risenWays])), (a_row, .inl (cJ, 64, .inr (.inl f_31)))]) ⟨hx, hb, hml, hown, hts⟩ (cwV 1 hts gX9_spread_X9_enters rfl rfl rfl (by decide +kernel) ⟨Nat.le_of_ble_eq_true rfl, Nat.le_of_ble_eq_true rfl⟩) hN hK hP hD [1, 2] rfl (by decide) rfl 1 rfl rfl rfl rfl hl.1 rfl (Nat.le_of_ble_eq_true rfl) dX9_spread_99 ⟨Nat.le_of_ble_eq_true rfl, Nat.le_of_ble_eq_true rfl⟩  ((k_X9_enters l D cI cJ m0 a_row a_tape a_number a_read a_readBits a_stands a_parted a_bitsWere a_stood a_chosen a_bestChosen a_often a_sorted a_risen a_risenWays (0 : Int32) (0 : Int32) (0 : Int32) (0 : Int32) (0 : Int32) (0 : Int32) (0 : Int32) (0 : Int32) 13 f_31 (0 : Int64) (by first | omega | decide +kernel)) _)) (fun u H locs hp hP hD hS => ?_)
                                                                    obtain ⟨f_32, rfl⟩ := hp
                                                                    have hP : va_P D vwCl [(a_often, .inl (cI, 512, .inl (fun _ => (0 : Int32)))), (m0, .inr (9, [.int 0, .int 14, .ref a_row, .ref a_tape, .int 0, .int 0, .int 0, .int 0, .ref a_number, .ref a_read, .int 0, .ref a_readBits, .ref a_stands, .ref a_parted, .ref a_bitsWere, .ref a_stood, .ref a_chosen, .ref a_bestChosen, .int 0, .ref a_often, .ref a_sorted, .int 0, .ref a_risen, .ref a_risenWays])), (a_row, .inl (cJ, 64, .inr (.inl f_32)))] H := hP
                                                                    have hD : va_D A [(a_often, .inl (cI, 512, .inl (fun _ => (0 : Int32)))), (m0, .inr (9, [.int 0, .int 14, .ref a_row, .ref a_tape, .int 0, .int 0, .int 0, .int 0, .ref a_number, .ref a_read, .int 0, .ref a_readBits, .ref a_stands, .ref a_parted, .ref a_bitsWere, .ref a_stood, .ref a_chosen, .ref a_bestChosen, .int 0, .ref a_often, .ref a_sorted, .int 0, .ref a_risen, .ref a_risenWays])), (a_row, .inl (cJ, 64, .inr (.inl f_32)))] := hD
                                                                    refine lv_iload hx hb dX9_spread_102 (lv_at hl 2 rfl) ?_
                                                                    refine lv_iload hx hb dX9_spread_104 (lv_at hl 3 rfl) ?_
                                                                    refine lv_iadd hx hb dX9_spread_106 ?_
                                                                    refine my_eqi (y := 224) (by decide +kernel) ?_
                                                                    refine lv_istore (lv' := [(6, .int 224), (5, .int 0), (7, .int 0), (4, .int 16), (0, .ref m0), (1, .int 0), (2, .int 0), (3, .int 4)]) hx hb dX9_spread_107 hl (by decide) rfl (fun ls hl => ?_)
                                                                    refine lv_goto (tgt := 53) hx hb dX9_spread_109 (by decide) ?_
                                                                    refine lv_iload hx hb dX9_spread_53 (lv_at hl 0 rfl) ?_
                                                                    refine lv_sipush (v := 256) hx hb dX9_spread_55 (by decide +kernel) ?_
                                                                    refine lv_icmp_ge (tgt := 112) hx hb dX9_spread_58 (by decide) (fun c58 => ?_) (fun c58 => ?_)
                                                                    ·
                                                                      exact absurd c58 (by decide +kernel)
                                                                    ·
                                                                      refine lv_aload_n hx hb dX9_spread_61 rfl (lv_at hl 4 rfl) ?_
                                                                      refine lv_iconst (v := 0) hx hb dX9_spread_62 (by decide +kernel) ?_
                                                                      refine lv_iload hx hb dX9_spread_63 (lv_at hl 0 rfl) ?_
                                                                      refine lv_iload hx hb dX9_spread_65 (lv_at hl 0 rfl) ?_
                                                                      refine lv_iload hx hb dX9_spread_67 (lv_at hl 3 rfl) ?_
                                                                      refine lv_iadd hx hb dX9_spread_69 ?_
                                                                      refine my_eqi (y := 240) (by decide +kernel) ?_
                                                                      refine lv_iconst (v := 1) hx hb dX9_spread_70 (by decide +kernel) ?_
                                                                      refine lv_isub hx hb dX9_spread_71 ?_
                                                                      refine my_eqi (y := 239) (by decide +kernel) ?_
                                                                      refine my_gpI (my_pV (As := [.int 0, .int 224, .int 239]) (rest := []) (ci := 9) ⟨hx, hb, hml, hown, hts⟩ (cwV 3 hts gX9_spread_X9_within rfl rfl rfl (by decide +kernel) ⟨Nat.le_of_ble_eq_true rfl, Nat.le_of_ble_eq_true rfl⟩) hN hK hP [1, 0] rfl 1 rfl rfl rfl rfl hl.1 rfl (Nat.le_of_ble_eq_true rfl) dX9_spread_72 ⟨Nat.le_of_ble_eq_true rfl, Nat.le_of_ble_eq_true rfl⟩  (k0_X9_within l D cI cJ m0 a_row a_tape a_number a_read a_readBits a_stands a_parted a_bitsWere a_stood a_chosen a_bestChosen a_often a_sorted a_risen a_risenWays (0 : Int32) (14 : Int32) (0 : Int32) (0 : Int32) (0 : Int32) (0 : Int32) (0 : Int32) (0 : Int32) (0 : Int32) (224 : Int32) (239 : Int32))) (fun r hp => ?_)
                                                                      obtain rfl := hp
                                                                      refine lv_istore (lv' := [(7, .int 0), (6, .int 224), (5, .int 0), (4, .int 16), (0, .ref m0), (1, .int 0), (2, .int 0), (3, .int 4)]) hx hb dX9_spread_75 hl (by decide) rfl (fun ls hl => ?_)
                                                                      refine lv_iload hx hb dX9_spread_77 (lv_at hl 2 rfl) ?_
                                                                      refine lv_iload hx hb dX9_spread_79 (lv_at hl 0 rfl) ?_
                                                                      refine lv_if_le (tgt := 88) hx hb dX9_spread_81 (by decide) (fun c81 => ?_) (fun c81 => ?_)
                                                                      ·
                                                                        refine lv_iconst (v := 0) hx hb dX9_spread_88 (by decide +kernel) ?_
                                                                        refine my_gpI (my_pS (As := [.int 0]) (rest := [.int 0]) ⟨hx, hb, hml, hown, hts⟩ (va_cwS 1 hts gX9_spread_X9_flag rfl rfl rfl (by decide +kernel) ⟨Nat.le_of_ble_eq_true rfl, Nat.le_of_ble_eq_true rfl⟩) hN hK hP [] rfl rfl hl.1 rfl (Nat.le_of_ble_eq_true rfl) dX9_spread_89 ⟨Nat.le_of_ble_eq_true rfl, Nat.le_of_ble_eq_true rfl⟩  (k0_X9_flag l D cI cJ )) (fun r hp => ?_)
                                                                        obtain rfl := hp
                                                                        refine lv_iadd hx hb dX9_spread_92 ?_
                                                                        refine my_eqi (y := 0) (by decide +kernel) ?_
                                                                        refine lv_istore (lv' := [(5, .int 0), (7, .int 0), (6, .int 224), (4, .int 16), (0, .ref m0), (1, .int 0), (2, .int 0), (3, .int 4)]) hx hb dX9_spread_93 hl (by decide) rfl (fun ls hl => ?_)
                                                                        refine lv_aload_n hx hb dX9_spread_95 rfl (lv_at hl 4 rfl) ?_
                                                                        refine lv_iload hx hb dX9_spread_96 (lv_at hl 1 rfl) ?_
                                                                        refine lv_i2l (v := 0) hx hb dX9_spread_98 (by decide +kernel) ?_
                                                                        refine my_goV (wr := [(a_often, .inl (cI, 512, .inl (fun _ => (0 : Int32))))]) hP hD hS hA [1, 2] [0] rfl rfl (by decide) (by decide) (my_cV (As := [.long 0]) (rest := []) (ci := 9) (wc := [(m0, .inr (9, [.int 0, .int 14, .ref a_row, .ref a_tape, .int 0, .int 0, .int 0, .int 0, .ref a_number, .ref a_read, .int 0, .ref a_readBits, .ref a_stands, .ref a_parted, .ref a_bitsWere, .ref a_stood, .ref a_chosen, .ref a_bestChosen, .int 0, .ref a_often, .ref a_sorted, .int 0, .ref a_risen, .ref a_risenWays])), (a_row, .inl (cJ, 64, .inr (.inl f_32)))]) ⟨hx, hb, hml, hown, hts⟩ (cwV 1 hts gX9_spread_X9_enters rfl rfl rfl (by decide +kernel) ⟨Nat.le_of_ble_eq_true rfl, Nat.le_of_ble_eq_true rfl⟩) hN hK hP hD [1, 2] rfl (by decide) rfl 1 rfl rfl rfl rfl hl.1 rfl (Nat.le_of_ble_eq_true rfl) dX9_spread_99 ⟨Nat.le_of_ble_eq_true rfl, Nat.le_of_ble_eq_true rfl⟩  ((k_X9_enters l D cI cJ m0 a_row a_tape a_number a_read a_readBits a_stands a_parted a_bitsWere a_stood a_chosen a_bestChosen a_often a_sorted a_risen a_risenWays (0 : Int32) (0 : Int32) (0 : Int32) (0 : Int32) (0 : Int32) (0 : Int32) (0 : Int32) (0 : Int32) 14 f_32 (0 : Int64) (by first | omega | decide +kernel)) _)) (fun u H locs hp hP hD hS => ?_)
                                                                        obtain ⟨f_33, rfl⟩ := hp
                                                                        have hP : va_P D vwCl [(a_often, .inl (cI, 512, .inl (fun _ => (0 : Int32)))), (m0, .inr (9, [.int 0, .int 15, .ref a_row, .ref a_tape, .int 0, .int 0, .int 0, .int 0, .ref a_number, .ref a_read, .int 0, .ref a_readBits, .ref a_stands, .ref a_parted, .ref a_bitsWere, .ref a_stood, .ref a_chosen, .ref a_bestChosen, .int 0, .ref a_often, .ref a_sorted, .int 0, .ref a_risen, .ref a_risenWays])), (a_row, .inl (cJ, 64, .inr (.inl f_33)))] H := hP
                                                                        have hD : va_D A [(a_often, .inl (cI, 512, .inl (fun _ => (0 : Int32)))), (m0, .inr (9, [.int 0, .int 15, .ref a_row, .ref a_tape, .int 0, .int 0, .int 0, .int 0, .ref a_number, .ref a_read, .int 0, .ref a_readBits, .ref a_stands, .ref a_parted, .ref a_bitsWere, .ref a_stood, .ref a_chosen, .ref a_bestChosen, .int 0, .ref a_often, .ref a_sorted, .int 0, .ref a_risen, .ref a_risenWays])), (a_row, .inl (cJ, 64, .inr (.inl f_33)))] := hD
                                                                        refine lv_iload hx hb dX9_spread_102 (lv_at hl 2 rfl) ?_
                                                                        refine lv_iload hx hb dX9_spread_104 (lv_at hl 3 rfl) ?_
                                                                        refine lv_iadd hx hb dX9_spread_106 ?_
                                                                        refine my_eqi (y := 240) (by decide +kernel) ?_
                                                                        refine lv_istore (lv' := [(6, .int 240), (5, .int 0), (7, .int 0), (4, .int 16), (0, .ref m0), (1, .int 0), (2, .int 0), (3, .int 4)]) hx hb dX9_spread_107 hl (by decide) rfl (fun ls hl => ?_)
                                                                        refine lv_goto (tgt := 53) hx hb dX9_spread_109 (by decide) ?_
                                                                        refine lv_iload hx hb dX9_spread_53 (lv_at hl 0 rfl) ?_
                                                                        refine lv_sipush (v := 256) hx hb dX9_spread_55 (by decide +kernel) ?_
                                                                        refine lv_icmp_ge (tgt := 112) hx hb dX9_spread_58 (by decide) (fun c58 => ?_) (fun c58 => ?_)
                                                                        ·
                                                                          exact absurd c58 (by decide +kernel)
                                                                        ·
                                                                          refine lv_aload_n hx hb dX9_spread_61 rfl (lv_at hl 4 rfl) ?_
                                                                          refine lv_iconst (v := 0) hx hb dX9_spread_62 (by decide +kernel) ?_
                                                                          refine lv_iload hx hb dX9_spread_63 (lv_at hl 0 rfl) ?_
                                                                          refine lv_iload hx hb dX9_spread_65 (lv_at hl 0 rfl) ?_
                                                                          refine lv_iload hx hb dX9_spread_67 (lv_at hl 3 rfl) ?_
                                                                          refine lv_iadd hx hb dX9_spread_69 ?_
                                                                          refine my_eqi (y := 256) (by decide +kernel) ?_
                                                                          refine lv_iconst (v := 1) hx hb dX9_spread_70 (by decide +kernel) ?_
                                                                          refine lv_isub hx hb dX9_spread_71 ?_
                                                                          refine my_eqi (y := 255) (by decide +kernel) ?_
                                                                          refine my_gpI (my_pV (As := [.int 0, .int 240, .int 255]) (rest := []) (ci := 9) ⟨hx, hb, hml, hown, hts⟩ (cwV 3 hts gX9_spread_X9_within rfl rfl rfl (by decide +kernel) ⟨Nat.le_of_ble_eq_true rfl, Nat.le_of_ble_eq_true rfl⟩) hN hK hP [1, 0] rfl 1 rfl rfl rfl rfl hl.1 rfl (Nat.le_of_ble_eq_true rfl) dX9_spread_72 ⟨Nat.le_of_ble_eq_true rfl, Nat.le_of_ble_eq_true rfl⟩  (k0_X9_within l D cI cJ m0 a_row a_tape a_number a_read a_readBits a_stands a_parted a_bitsWere a_stood a_chosen a_bestChosen a_often a_sorted a_risen a_risenWays (0 : Int32) (15 : Int32) (0 : Int32) (0 : Int32) (0 : Int32) (0 : Int32) (0 : Int32) (0 : Int32) (0 : Int32) (240 : Int32) (255 : Int32))) (fun r hp => ?_)
                                                                          obtain rfl := hp
                                                                          refine lv_istore (lv' := [(7, .int 0), (6, .int 240), (5, .int 0), (4, .int 16), (0, .ref m0), (1, .int 0), (2, .int 0), (3, .int 4)]) hx hb dX9_spread_75 hl (by decide) rfl (fun ls hl => ?_)
                                                                          refine lv_iload hx hb dX9_spread_77 (lv_at hl 2 rfl) ?_
                                                                          refine lv_iload hx hb dX9_spread_79 (lv_at hl 0 rfl) ?_
                                                                          refine lv_if_le (tgt := 88) hx hb dX9_spread_81 (by decide) (fun c81 => ?_) (fun c81 => ?_)
                                                                          ·
                                                                            refine lv_iconst (v := 0) hx hb dX9_spread_88 (by decide +kernel) ?_
                                                                            refine my_gpI (my_pS (As := [.int 0]) (rest := [.int 0]) ⟨hx, hb, hml, hown, hts⟩ (va_cwS 1 hts gX9_spread_X9_flag rfl rfl rfl (by decide +kernel) ⟨Nat.le_of_ble_eq_true rfl, Nat.le_of_ble_eq_true rfl⟩) hN hK hP [] rfl rfl hl.1 rfl (Nat.le_of_ble_eq_true rfl) dX9_spread_89 ⟨Nat.le_of_ble_eq_true rfl, Nat.le_of_ble_eq_true rfl⟩  (k0_X9_flag l D cI cJ )) (fun r hp => ?_)
                                                                            obtain rfl := hp
                                                                            refine lv_iadd hx hb dX9_spread_92 ?_
                                                                            refine my_eqi (y := 0) (by decide +kernel) ?_
                                                                            refine lv_istore (lv' := [(5, .int 0), (7, .int 0), (6, .int 240), (4, .int 16), (0, .ref m0), (1, .int 0), (2, .int 0), (3, .int 4)]) hx hb dX9_spread_93 hl (by decide) rfl (fun ls hl => ?_)
                                                                            refine lv_aload_n hx hb dX9_spread_95 rfl (lv_at hl 4 rfl) ?_
                                                                            refine lv_iload hx hb dX9_spread_96 (lv_at hl 1 rfl) ?_
                                                                            refine lv_i2l (v := 0) hx hb dX9_spread_98 (by decide +kernel) ?_
                                                                            refine my_goV (wr := [(a_often, .inl (cI, 512, .inl (fun _ => (0 : Int32))))]) hP hD hS hA [1, 2] [0] rfl rfl (by decide) (by decide) (my_cV (As := [.long 0]) (rest := []) (ci := 9) (wc := [(m0, .inr (9, [.int 0, .int 15, .ref a_row, .ref a_tape, .int 0, .int 0, .int 0, .int 0, .ref a_number, .ref a_read, .int 0, .ref a_readBits, .ref a_stands, .ref a_parted, .ref a_bitsWere, .ref a_stood, .ref a_chosen, .ref a_bestChosen, .int 0, .ref a_often, .ref a_sorted, .int 0, .ref a_risen, .ref a_risenWays])), (a_row, .inl (cJ, 64, .inr (.inl f_33)))]) ⟨hx, hb, hml, hown, hts⟩ (cwV 1 hts gX9_spread_X9_enters rfl rfl rfl (by decide +kernel) ⟨Nat.le_of_ble_eq_true rfl, Nat.le_of_ble_eq_true rfl⟩) hN hK hP hD [1, 2] rfl (by decide) rfl 1 rfl rfl rfl rfl hl.1 rfl (Nat.le_of_ble_eq_true rfl) dX9_spread_99 ⟨Nat.le_of_ble_eq_true rfl, Nat.le_of_ble_eq_true rfl⟩  ((k_X9_enters l D cI cJ m0 a_row a_tape a_number a_read a_readBits a_stands a_parted a_bitsWere a_stood a_chosen a_bestChosen a_often a_sorted a_risen a_risenWays (0 : Int32) (0 : Int32) (0 : Int32) (0 : Int32) (0 : Int32) (0 : Int32) (0 : Int32) (0 : Int32) 15 f_33 (0 : Int64) (by first | omega | decide +kernel)) _)) (fun u H locs hp hP hD hS => ?_)
                                                                            obtain ⟨f_34, rfl⟩ := hp
                                                                            have hP : va_P D vwCl [(a_often, .inl (cI, 512, .inl (fun _ => (0 : Int32)))), (m0, .inr (9, [.int 0, .int 16, .ref a_row, .ref a_tape, .int 0, .int 0, .int 0, .int 0, .ref a_number, .ref a_read, .int 0, .ref a_readBits, .ref a_stands, .ref a_parted, .ref a_bitsWere, .ref a_stood, .ref a_chosen, .ref a_bestChosen, .int 0, .ref a_often, .ref a_sorted, .int 0, .ref a_risen, .ref a_risenWays])), (a_row, .inl (cJ, 64, .inr (.inl f_34)))] H := hP
                                                                            have hD : va_D A [(a_often, .inl (cI, 512, .inl (fun _ => (0 : Int32)))), (m0, .inr (9, [.int 0, .int 16, .ref a_row, .ref a_tape, .int 0, .int 0, .int 0, .int 0, .ref a_number, .ref a_read, .int 0, .ref a_readBits, .ref a_stands, .ref a_parted, .ref a_bitsWere, .ref a_stood, .ref a_chosen, .ref a_bestChosen, .int 0, .ref a_often, .ref a_sorted, .int 0, .ref a_risen, .ref a_risenWays])), (a_row, .inl (cJ, 64, .inr (.inl f_34)))] := hD
                                                                            refine lv_iload hx hb dX9_spread_102 (lv_at hl 2 rfl) ?_
                                                                            refine lv_iload hx hb dX9_spread_104 (lv_at hl 3 rfl) ?_
                                                                            refine lv_iadd hx hb dX9_spread_106 ?_
                                                                            refine my_eqi (y := 256) (by decide +kernel) ?_
                                                                            refine lv_istore (lv' := [(6, .int 256), (5, .int 0), (7, .int 0), (4, .int 16), (0, .ref m0), (1, .int 0), (2, .int 0), (3, .int 4)]) hx hb dX9_spread_107 hl (by decide) rfl (fun ls hl => ?_)
                                                                            refine lv_goto (tgt := 53) hx hb dX9_spread_109 (by decide) ?_
                                                                            refine lv_iload hx hb dX9_spread_53 (lv_at hl 0 rfl) ?_
                                                                            refine lv_sipush (v := 256) hx hb dX9_spread_55 (by decide +kernel) ?_
                                                                            refine lv_icmp_ge (tgt := 112) hx hb dX9_spread_58 (by decide) (fun c58 => ?_) (fun c58 => ?_)
                                                                            ·
                                                                              refine lv_iload hx hb dX9_spread_112 (lv_at hl 1 rfl) ?_
                                                                              exact my_retI hx hb hr hlocks hK hS [] (hP.sub [] rfl) (hD.sub [] (by decide) rfl) (Or.inl ⟨rfl, rfl, (by first | omega | assumption | trivial | decide +kernel), (by first | omega | assumption | trivial | decide +kernel), (by first | omega | assumption | trivial | decide +kernel), (by first | omega | assumption | trivial | decide +kernel)⟩) dX9_spread_114
                                                                            ·
                                                                              exact absurd c58 (by decide +kernel)
                                                                          ·
                                                                            exact absurd c81 (by decide +kernel)
                                                                      ·
                                                                        exact absurd c81 (by decide +kernel)
                                                                  ·
                                                                    exact absurd c81 (by decide +kernel)
                                                              ·
                                                                exact absurd c81 (by decide +kernel)
                                                          ·
                                                            exact absurd c81 (by decide +kernel)
                                                      ·
                                                        exact absurd c81 (by decide +kernel)
                                                  ·
                                                    exact absurd c81 (by decide +kernel)
                                              ·
                                                exact absurd c81 (by decide +kernel)
                                          ·
                                            exact absurd c81 (by decide +kernel)
                                      ·
                                        exact absurd c81 (by decide +kernel)
                                  ·
                                    exact absurd c81 (by decide +kernel)
                              ·
                                exact absurd c81 (by decide +kernel)
                          ·
                            exact absurd c81 (by decide +kernel)
                      ·
                        exact absurd c81 (by decide +kernel)
                  ·
                    exact absurd c81 (by decide +kernel)
              ·
                exact absurd c81 (by decide +kernel)
        ·
          exact absurd c23 (by decide +kernel)
      ·
        refine lv_if_ne (tgt := 28) hx hb dX9_spread_23 (by decide) (fun c23 => ?_) (fun c23 => ?_)
        ·
          exact absurd c23 (by decide +kernel)
        ·
          refine lv_iconst (v := (-1)) hx hb dX9_spread_26 (by decide +kernel) ?_
          exact my_retI hx hb hr hlocks hK hS [] (hP.sub [] rfl) (hD.sub [] (by decide) rfl) (Or.inr (⟨rfl, rfl, (by first | omega | assumption | trivial | decide +kernel)⟩)) dX9_spread_27
  ·
    refine lv_if_eq (tgt := 26) hx hb dX9_spread_11 (by decide) (fun c11 => ?_) (fun c11 => ?_)
    ·
      refine lv_iconst (v := (-1)) hx hb dX9_spread_26 (by decide +kernel) ?_
      exact my_retI hx hb hr hlocks hK hS [] (hP.sub [] rfl) (hD.sub [] (by decide) rfl) (Or.inr (⟨rfl, rfl, (by first | omega | assumption | trivial | decide +kernel)⟩)) dX9_spread_27
    ·
      exact absurd c11 (by decide +kernel)
set_option maxHeartbeats 4000000 in
set_option maxRecDepth 100000 in
theorem k0_X9_dense (l : Launch) (D : va_G) (cI cJ : ClassId) (m0 : Nat) (a_row : Nat) (a_tape : Nat) (a_number : Nat) (a_read : Nat) (a_readBits : Nat) (a_stands : Nat) (a_parted : Nat) (a_bitsWere : Nat) (a_stood : Nat) (a_chosen : Nat) (a_bestChosen : Nat) (a_often : Nat) (a_sorted : Nat) (a_risen : Nat) (a_risenWays : Nat) (rf : Nat → Int64) (l9 : Int32) (r9 : Int32) (w9 : Int32) : ctI l yX9_dense wsX9_dense ({ frames := 2, cells := 0, slots := 0, locals := 120 } : Room) D (tyIJ cI cJ) [.ref m0, .int l9, .int r9, .int w9] [(m0, .inr (9, [.int 0, .int 0, .ref a_row, .ref a_tape, .int 0, .int 0, .int 0, .int 0, .ref a_number, .ref a_read, .int 0, .ref a_readBits, .ref a_stands, .ref a_parted, .ref a_bitsWere, .ref a_stood, .ref a_chosen, .ref a_bestChosen, .int 0, .ref a_often, .ref a_sorted, .int 0, .ref a_risen, .ref a_risenWays])), (a_often, .inl (cI, 512, .inl (fun _ => (0 : Int32)))), (a_row, .inl (cJ, 64, .inr (.inl rf)))] (fun (r : Int32) (u : va_W) => (u = [] ∧ r = 0 ∧ l9.toInt = 0 ∧ r9.toInt = 0 ∧ 0 ≤ w9.toInt ∧ w9.toInt ≤ 255) ∨ (u = [] ∧ r = (-1) ∧ (l9.toInt < 0 ∨ r9.toInt < l9.toInt ∨ 0 < r9.toInt ∨ w9.toInt < 0 ∨ 255 < w9.toInt))) := by
  refine ctI.of (cc := cX9_dense) (maxL := 8) (ret := (some .int)) (by decide) rfl (Nat.le_of_ble_eq_true rfl) ?_
  intro p e s m below meth c ls A hx hb hr hts hown hml hlocks hname hA hK hN hP hD hS hl
  have hl : lv_has ls 8 [(0, .ref m0), (1, .int l9), (2, .int r9), (3, .int w9)] := hl
  have hown : s.vm.findClass RX9 = some m.cls := hown
  have hi9 : ∀ w ∈ u_ws RX9 TX9 24, w ∈ wsX9_dense := by decide +kernel
  have fl1 := hts (.fieldLink RX9 1 "PlaneColumnModel" "thrown" "I") (by decide +kernel)
  have fl11 := hts (.fieldLink RX9 11 "PlaneColumnModel" "told" "I") (by decide +kernel)
  have fl172 := hts (.fieldLink RX9 172 "PlaneColumnModel" "size" "I") (by decide +kernel)
  refine lv_aload_n hx hb dX9_dense_0 rfl (lv_at hl 0 rfl) ?_
  refine lv_iconst (v := 0) hx hb dX9_dense_1 (by decide +kernel) ?_
  refine va_put (ci := 9) (v := .int 0) (ty := (.int)) (C := RX9) (T := TX9) (N := 24) hx hb hts hi9 tyX9 tyX9_ok nmX9 hown hK hP hD hS 0 rfl rfl 0 (by decide) fl1 (fun _ h9 => h9) rfl (by decide +kernel) rfl rfl (Nat.le_of_ble_eq_true rfl) dX9_dense_2 (fun H locs hP hD hS => ?_)
  have hP : va_P D vwCl [(m0, .inr (9, [.int 0, .int 0, .ref a_row, .ref a_tape, .int 0, .int 0, .int 0, .int 0, .ref a_number, .ref a_read, .int 0, .ref a_readBits, .ref a_stands, .ref a_parted, .ref a_bitsWere, .ref a_stood, .ref a_chosen, .ref a_bestChosen, .int 0, .ref a_often, .ref a_sorted, .int 0, .ref a_risen, .ref a_risenWays])), (a_often, .inl (cI, 512, .inl (fun _ => (0 : Int32)))), (a_row, .inl (cJ, 64, .inr (.inl rf)))] H := hP
  have hD : va_D A [(m0, .inr (9, [.int 0, .int 0, .ref a_row, .ref a_tape, .int 0, .int 0, .int 0, .int 0, .ref a_number, .ref a_read, .int 0, .ref a_readBits, .ref a_stands, .ref a_parted, .ref a_bitsWere, .ref a_stood, .ref a_chosen, .ref a_bestChosen, .int 0, .ref a_often, .ref a_sorted, .int 0, .ref a_risen, .ref a_risenWays])), (a_often, .inl (cI, 512, .inl (fun _ => (0 : Int32)))), (a_row, .inl (cJ, 64, .inr (.inl rf)))] := hD
  refine lv_aload_n hx hb dX9_dense_5 rfl (lv_at hl 0 rfl) ?_
  refine lv_iload_n hx hb dX9_dense_6 rfl (lv_at hl 1 rfl) ?_
  refine lv_iload_n hx hb dX9_dense_7 rfl (lv_at hl 2 rfl) ?_
  refine my_gpI (my_pV (As := [.int l9, .int r9]) (rest := []) (ci := 9) ⟨hx, hb, hml, hown, hts⟩ (cwV 2 hts gX9_dense_X9_isSpan rfl rfl rfl (by decide +kernel) ⟨Nat.le_of_ble_eq_true rfl, Nat.le_of_ble_eq_true rfl⟩) hN hK hP [0] rfl 0 rfl rfl rfl rfl hl.1 rfl (Nat.le_of_ble_eq_true rfl) dX9_dense_8 ⟨Nat.le_of_ble_eq_true rfl, Nat.le_of_ble_eq_true rfl⟩  (k0_X9_isSpan l D cI cJ m0 a_row a_tape a_number a_read a_readBits a_stands a_parted a_bitsWere a_stood a_chosen a_bestChosen a_often a_sorted a_risen a_risenWays (0 : Int32) (0 : Int32) (0 : Int32) (0 : Int32) (0 : Int32) (0 : Int32) (0 : Int32) (0 : Int32) l9 r9)) (fun r hp => ?_)
  rcases hp with ⟨rfl, rfl, rfl⟩ | ⟨rfl, ha_1⟩
  ·
    refine lv_if_eq (tgt := 21) hx hb dX9_dense_11 (by decide) (fun c11 => ?_) (fun c11 => ?_)
    ·
      exact absurd c11 (by decide +kernel)
    ·
      refine lv_iload_n hx hb dX9_dense_14 rfl (lv_at hl 3 rfl) ?_
      refine my_gpI (my_pS (As := [.int w9]) (rest := []) ⟨hx, hb, hml, hown, hts⟩ (va_cwS 1 hts gX9_dense_X9_isNumber rfl rfl rfl (by decide +kernel) ⟨Nat.le_of_ble_eq_true rfl, Nat.le_of_ble_eq_true rfl⟩) hN hK hP [] rfl rfl hl.1 rfl (Nat.le_of_ble_eq_true rfl) dX9_dense_15 ⟨Nat.le_of_ble_eq_true rfl, Nat.le_of_ble_eq_true rfl⟩  (k_X9_isNumber l D cI cJ w9)) (fun r hp => ?_)
      rcases hp with ⟨rfl, hgv_2, hlv_3⟩ | ⟨rfl, ho_4⟩
      ·
        refine lv_if_ne (tgt := 23) hx hb dX9_dense_18 (by decide) (fun c18 => ?_) (fun c18 => ?_)
        ·
          refine lv_aload_n hx hb dX9_dense_23 rfl (lv_at hl 0 rfl) ?_
          refine lv_iload_n hx hb dX9_dense_24 rfl (lv_at hl 1 rfl) ?_
          refine lv_iload_n hx hb dX9_dense_25 rfl (lv_at hl 2 rfl) ?_
          refine my_goV (wr := [(a_row, .inl (cJ, 64, .inr (.inl rf)))]) hP hD hS hA [0, 1] [2] rfl rfl (by decide) (by decide) (my_cV (As := [.int 0, .int 0]) (rest := []) (ci := 9) (wc := [(m0, .inr (9, [.int 0, .int 0, .ref a_row, .ref a_tape, .int 0, .int 0, .int 0, .int 0, .ref a_number, .ref a_read, .int 0, .ref a_readBits, .ref a_stands, .ref a_parted, .ref a_bitsWere, .ref a_stood, .ref a_chosen, .ref a_bestChosen, .int 0, .ref a_often, .ref a_sorted, .int 0, .ref a_risen, .ref a_risenWays])), (a_often, .inl (cI, 512, .inl (fun _ => (0 : Int32))))]) ⟨hx, hb, hml, hown, hts⟩ (cwV 2 hts gX9_dense_X9_sorts rfl rfl rfl (by decide +kernel) ⟨Nat.le_of_ble_eq_true rfl, Nat.le_of_ble_eq_true rfl⟩) hN hK hP hD [0, 1] rfl (by decide) rfl 0 rfl rfl rfl rfl hl.1 rfl (Nat.le_of_ble_eq_true rfl) dX9_dense_26 ⟨Nat.le_of_ble_eq_true rfl, Nat.le_of_ble_eq_true rfl⟩  ((k0_X9_sorts l D cI cJ m0 a_row a_tape a_number a_read a_readBits a_stands a_parted a_bitsWere a_stood a_chosen a_bestChosen a_often a_sorted a_risen a_risenWays (0 : Int32) (0 : Int32) (0 : Int32) (0 : Int32) (0 : Int32) (0 : Int32) (0 : Int32) (0 : Int32) (0 : Int32)) _)) (fun u H locs hp hP hD hS => ?_)
          obtain rfl := hp
          have hP : va_P D vwCl [(a_row, .inl (cJ, 64, .inr (.inl rf))), (m0, .inr (9, [.int 0, .int 0, .ref a_row, .ref a_tape, .int 0, .int 0, .int 0, .int 0, .ref a_number, .ref a_read, .int 0, .ref a_readBits, .ref a_stands, .ref a_parted, .ref a_bitsWere, .ref a_stood, .ref a_chosen, .ref a_bestChosen, .int 0, .ref a_often, .ref a_sorted, .int 0, .ref a_risen, .ref a_risenWays])), (a_often, .inl (cI, 512, .inl (fun _ => (0 : Int32))))] H := hP
          have hD : va_D A [(a_row, .inl (cJ, 64, .inr (.inl rf))), (m0, .inr (9, [.int 0, .int 0, .ref a_row, .ref a_tape, .int 0, .int 0, .int 0, .int 0, .ref a_number, .ref a_read, .int 0, .ref a_readBits, .ref a_stands, .ref a_parted, .ref a_bitsWere, .ref a_stood, .ref a_chosen, .ref a_bestChosen, .int 0, .ref a_often, .ref a_sorted, .int 0, .ref a_risen, .ref a_risenWays])), (a_often, .inl (cI, 512, .inl (fun _ => (0 : Int32))))] := hD
          refine lv_iconst (v := 0) hx hb dX9_dense_29 (by decide +kernel) ?_
          refine lv_istore (lv' := [(4, .int 0), (0, .ref m0), (1, .int 0), (2, .int 0), (3, .int w9)]) hx hb dX9_dense_30 hl (by decide) rfl (fun ls hl => ?_)
          refine lv_iconst (v := (-1)) hx hb dX9_dense_32 (by decide +kernel) ?_
          refine lv_istore (lv' := [(5, .int (-1)), (4, .int 0), (0, .ref m0), (1, .int 0), (2, .int 0), (3, .int w9)]) hx hb dX9_dense_33 hl (by decide) rfl (fun ls hl => ?_)
          refine lv_iconst (v := 0) hx hb dX9_dense_35 (by decide +kernel) ?_
          refine lv_istore (lv' := [(6, .int 0), (5, .int (-1)), (4, .int 0), (0, .ref m0), (1, .int 0), (2, .int 0), (3, .int w9)]) hx hb dX9_dense_36 hl (by decide) rfl (fun ls hl => ?_)
          refine lv_iload hx hb dX9_dense_38 (lv_at hl 0 rfl) ?_
          refine lv_aload_n hx hb dX9_dense_40 rfl (lv_at hl 3 rfl) ?_
          refine va_get (ci := 9) (v := .int 0) (C := RX9) (T := TX9) (N := 24) hx hb hts hi9 hown hK hP 1 rfl rfl 21 (by decide) fl172 (fun _ h9 => h9) rfl dX9_dense_41 ?_
          refine lv_icmp_ge (tgt := 106) hx hb dX9_dense_44 (by decide) (fun c44 => ?_) (fun c44 => ?_)
          ·
            refine lv_aload_n hx hb dX9_dense_106 rfl (lv_at hl 3 rfl) ?_
            refine lv_iconst (v := 0) hx hb dX9_dense_107 (by decide +kernel) ?_
            refine va_put (ci := 9) (v := .int 0) (ty := (.int)) (C := RX9) (T := TX9) (N := 24) hx hb hts hi9 tyX9 tyX9_ok nmX9 hown hK hP hD hS 1 rfl rfl 1 (by decide) fl11 (fun _ h9 => h9) rfl (by decide +kernel) rfl rfl (Nat.le_of_ble_eq_true rfl) dX9_dense_108 (fun H locs hP hD hS => ?_)
            have hP : va_P D vwCl [(a_row, .inl (cJ, 64, .inr (.inl rf))), (m0, .inr (9, [.int 0, .int 0, .ref a_row, .ref a_tape, .int 0, .int 0, .int 0, .int 0, .ref a_number, .ref a_read, .int 0, .ref a_readBits, .ref a_stands, .ref a_parted, .ref a_bitsWere, .ref a_stood, .ref a_chosen, .ref a_bestChosen, .int 0, .ref a_often, .ref a_sorted, .int 0, .ref a_risen, .ref a_risenWays])), (a_often, .inl (cI, 512, .inl (fun _ => (0 : Int32))))] H := hP
            have hD : va_D A [(a_row, .inl (cJ, 64, .inr (.inl rf))), (m0, .inr (9, [.int 0, .int 0, .ref a_row, .ref a_tape, .int 0, .int 0, .int 0, .int 0, .ref a_number, .ref a_read, .int 0, .ref a_readBits, .ref a_stands, .ref a_parted, .ref a_bitsWere, .ref a_stood, .ref a_chosen, .ref a_bestChosen, .int 0, .ref a_often, .ref a_sorted, .int 0, .ref a_risen, .ref a_risenWays])), (a_often, .inl (cI, 512, .inl (fun _ => (0 : Int32))))] := hD
            refine lv_aload_n hx hb dX9_dense_111 rfl (lv_at hl 3 rfl) ?_
            refine lv_iload hx hb dX9_dense_112 (lv_at hl 1 rfl) ?_
            refine lv_i2l (v := (-1)) hx hb dX9_dense_114 (by decide +kernel) ?_
            refine my_goV (wr := [(a_often, .inl (cI, 512, .inl (fun _ => (0 : Int32))))]) hP hD hS hA [1, 0] [2] rfl rfl (by decide) (by decide) (my_cV (As := [.long (-1)]) (rest := []) (ci := 9) (wc := [(m0, .inr (9, [.int 0, .int 0, .ref a_row, .ref a_tape, .int 0, .int 0, .int 0, .int 0, .ref a_number, .ref a_read, .int 0, .ref a_readBits, .ref a_stands, .ref a_parted, .ref a_bitsWere, .ref a_stood, .ref a_chosen, .ref a_bestChosen, .int 0, .ref a_often, .ref a_sorted, .int 0, .ref a_risen, .ref a_risenWays])), (a_row, .inl (cJ, 64, .inr (.inl rf)))]) ⟨hx, hb, hml, hown, hts⟩ (cwV 1 hts gX9_dense_X9_enters rfl rfl rfl (by decide +kernel) ⟨Nat.le_of_ble_eq_true rfl, Nat.le_of_ble_eq_true rfl⟩) hN hK hP hD [1, 0] rfl (by decide) rfl 1 rfl rfl rfl rfl hl.1 rfl (Nat.le_of_ble_eq_true rfl) dX9_dense_115 ⟨Nat.le_of_ble_eq_true rfl, Nat.le_of_ble_eq_true rfl⟩  ((k_X9_enters l D cI cJ m0 a_row a_tape a_number a_read a_readBits a_stands a_parted a_bitsWere a_stood a_chosen a_bestChosen a_often a_sorted a_risen a_risenWays (0 : Int32) (0 : Int32) (0 : Int32) (0 : Int32) (0 : Int32) (0 : Int32) (0 : Int32) (0 : Int32) 0 rf (-1 : Int64) (by first | omega | decide +kernel)) _)) (fun u H locs hp hP hD hS => ?_)
            obtain ⟨f_5, rfl⟩ := hp
            have hP : va_P D vwCl [(a_often, .inl (cI, 512, .inl (fun _ => (0 : Int32)))), (m0, .inr (9, [.int 0, .int 1, .ref a_row, .ref a_tape, .int 0, .int 0, .int 0, .int 0, .ref a_number, .ref a_read, .int 0, .ref a_readBits, .ref a_stands, .ref a_parted, .ref a_bitsWere, .ref a_stood, .ref a_chosen, .ref a_bestChosen, .int 0, .ref a_often, .ref a_sorted, .int 0, .ref a_risen, .ref a_risenWays])), (a_row, .inl (cJ, 64, .inr (.inl f_5)))] H := hP
            have hD : va_D A [(a_often, .inl (cI, 512, .inl (fun _ => (0 : Int32)))), (m0, .inr (9, [.int 0, .int 1, .ref a_row, .ref a_tape, .int 0, .int 0, .int 0, .int 0, .ref a_number, .ref a_read, .int 0, .ref a_readBits, .ref a_stands, .ref a_parted, .ref a_bitsWere, .ref a_stood, .ref a_chosen, .ref a_bestChosen, .int 0, .ref a_often, .ref a_sorted, .int 0, .ref a_risen, .ref a_risenWays])), (a_row, .inl (cJ, 64, .inr (.inl f_5)))] := hD
            refine lv_iload hx hb dX9_dense_118 (lv_at hl 2 rfl) ?_
            exact my_retI hx hb hr hlocks hK hS [] (hP.sub [] rfl) (hD.sub [] (by decide) rfl) (Or.inl ⟨rfl, rfl, (by first | omega | assumption | trivial | decide +kernel), (by first | omega | assumption | trivial | decide +kernel), (by first | omega | assumption | trivial | decide +kernel), (by first | omega | assumption | trivial | decide +kernel)⟩) dX9_dense_120
          ·
            exact absurd c44 (by decide +kernel)
        ·
          exact absurd c18 (by decide +kernel)
      ·
        refine lv_if_ne (tgt := 23) hx hb dX9_dense_18 (by decide) (fun c18 => ?_) (fun c18 => ?_)
        ·
          exact absurd c18 (by decide +kernel)
        ·
          refine lv_iconst (v := (-1)) hx hb dX9_dense_21 (by decide +kernel) ?_
          exact my_retI hx hb hr hlocks hK hS [] (hP.sub [] rfl) (hD.sub [] (by decide) rfl) (Or.inr (⟨rfl, rfl, (by first | omega | assumption | trivial | decide +kernel)⟩)) dX9_dense_22
  ·
    refine lv_if_eq (tgt := 21) hx hb dX9_dense_11 (by decide) (fun c11 => ?_) (fun c11 => ?_)
    ·
      refine lv_iconst (v := (-1)) hx hb dX9_dense_21 (by decide +kernel) ?_
      exact my_retI hx hb hr hlocks hK hS [] (hP.sub [] rfl) (hD.sub [] (by decide) rfl) (Or.inr (⟨rfl, rfl, (by first | omega | assumption | trivial | decide +kernel)⟩)) dX9_dense_22
    ·
      exact absurd c11 (by decide +kernel)
set_option maxHeartbeats 4000000 in
set_option maxRecDepth 100000 in
theorem k0_X9_farthest (l : Launch) (D : va_G) (cI cJ : ClassId) (m0 : Nat) (a_row : Nat) (a_tape : Nat) (a_number : Nat) (a_read : Nat) (a_readBits : Nat) (a_stands : Nat) (a_parted : Nat) (a_bitsWere : Nat) (a_stood : Nat) (a_chosen : Nat) (a_bestChosen : Nat) (a_often : Nat) (a_sorted : Nat) (a_risen : Nat) (a_risenWays : Nat) (l9 : Int32) (r9 : Int32) (w9 : Int32) : ctI l yX9_farthest wsX9_farthest ({ frames := 2, cells := 0, slots := 0, locals := 120 } : Room) D (tyIJ cI cJ) [.ref m0, .int l9, .int r9, .int w9] [(m0, .inr (9, [.int 0, .int 0, .ref a_row, .ref a_tape, .int 0, .int 0, .int 0, .int 0, .ref a_number, .ref a_read, .int 0, .ref a_readBits, .ref a_stands, .ref a_parted, .ref a_bitsWere, .ref a_stood, .ref a_chosen, .ref a_bestChosen, .int 0, .ref a_often, .ref a_sorted, .int 0, .ref a_risen, .ref a_risenWays]))] (fun (r : Int32) (u : va_W) => (u = [] ∧ r = (-2) ∧ l9.toInt = 0 ∧ r9.toInt = 0 ∧ 0 ≤ w9.toInt ∧ w9.toInt ≤ 255) ∨ (u = [] ∧ r = (-1) ∧ (l9.toInt < 0 ∨ r9.toInt < l9.toInt ∨ 0 < r9.toInt ∨ w9.toInt < 0 ∨ 255 < w9.toInt))) := by
  refine ctI.of (cc := cX9_farthest) (maxL := 5) (ret := (some .int)) (by decide) rfl (Nat.le_of_ble_eq_true rfl) ?_
  intro p e s m below meth c ls A hx hb hr hts hown hml hlocks hname hA hK hN hP hD hS hl
  have hl : lv_has ls 5 [(0, .ref m0), (1, .int l9), (2, .int r9), (3, .int w9)] := hl
  have hown : s.vm.findClass RX9 = some m.cls := hown
  have hi9 : ∀ w ∈ u_ws RX9 TX9 24, w ∈ wsX9_farthest := by decide +kernel
  have fl1 := hts (.fieldLink RX9 1 "PlaneColumnModel" "thrown" "I") (by decide +kernel)
  refine lv_aload_n hx hb dX9_farthest_0 rfl (lv_at hl 0 rfl) ?_
  refine lv_iconst (v := 0) hx hb dX9_farthest_1 (by decide +kernel) ?_
  refine va_put (ci := 9) (v := .int 0) (ty := (.int)) (C := RX9) (T := TX9) (N := 24) hx hb hts hi9 tyX9 tyX9_ok nmX9 hown hK hP hD hS 0 rfl rfl 0 (by decide) fl1 (fun _ h9 => h9) rfl (by decide +kernel) rfl rfl (Nat.le_of_ble_eq_true rfl) dX9_farthest_2 (fun H locs hP hD hS => ?_)
  have hP : va_P D vwCl [(m0, .inr (9, [.int 0, .int 0, .ref a_row, .ref a_tape, .int 0, .int 0, .int 0, .int 0, .ref a_number, .ref a_read, .int 0, .ref a_readBits, .ref a_stands, .ref a_parted, .ref a_bitsWere, .ref a_stood, .ref a_chosen, .ref a_bestChosen, .int 0, .ref a_often, .ref a_sorted, .int 0, .ref a_risen, .ref a_risenWays]))] H := hP
  have hD : va_D A [(m0, .inr (9, [.int 0, .int 0, .ref a_row, .ref a_tape, .int 0, .int 0, .int 0, .int 0, .ref a_number, .ref a_read, .int 0, .ref a_readBits, .ref a_stands, .ref a_parted, .ref a_bitsWere, .ref a_stood, .ref a_chosen, .ref a_bestChosen, .int 0, .ref a_often, .ref a_sorted, .int 0, .ref a_risen, .ref a_risenWays]))] := hD
  refine lv_aload_n hx hb dX9_farthest_5 rfl (lv_at hl 0 rfl) ?_
  refine lv_iload_n hx hb dX9_farthest_6 rfl (lv_at hl 1 rfl) ?_
  refine lv_iload_n hx hb dX9_farthest_7 rfl (lv_at hl 2 rfl) ?_
  refine my_gpI (my_pV (As := [.int l9, .int r9]) (rest := []) (ci := 9) ⟨hx, hb, hml, hown, hts⟩ (cwV 2 hts gX9_farthest_X9_isSpan rfl rfl rfl (by decide +kernel) ⟨Nat.le_of_ble_eq_true rfl, Nat.le_of_ble_eq_true rfl⟩) hN hK hP [0] rfl 0 rfl rfl rfl rfl hl.1 rfl (Nat.le_of_ble_eq_true rfl) dX9_farthest_8 ⟨Nat.le_of_ble_eq_true rfl, Nat.le_of_ble_eq_true rfl⟩  (k0_X9_isSpan l D cI cJ m0 a_row a_tape a_number a_read a_readBits a_stands a_parted a_bitsWere a_stood a_chosen a_bestChosen a_often a_sorted a_risen a_risenWays (0 : Int32) (0 : Int32) (0 : Int32) (0 : Int32) (0 : Int32) (0 : Int32) (0 : Int32) (0 : Int32) l9 r9)) (fun r hp => ?_)
  rcases hp with ⟨rfl, rfl, rfl⟩ | ⟨rfl, ha_1⟩
  ·
    refine lv_if_eq (tgt := 21) hx hb dX9_farthest_11 (by decide) (fun c11 => ?_) (fun c11 => ?_)
    ·
      exact absurd c11 (by decide +kernel)
    ·
      refine lv_iload_n hx hb dX9_farthest_14 rfl (lv_at hl 3 rfl) ?_
      refine my_gpI (my_pS (As := [.int w9]) (rest := []) ⟨hx, hb, hml, hown, hts⟩ (va_cwS 1 hts gX9_farthest_X9_isNumber rfl rfl rfl (by decide +kernel) ⟨Nat.le_of_ble_eq_true rfl, Nat.le_of_ble_eq_true rfl⟩) hN hK hP [] rfl rfl hl.1 rfl (Nat.le_of_ble_eq_true rfl) dX9_farthest_15 ⟨Nat.le_of_ble_eq_true rfl, Nat.le_of_ble_eq_true rfl⟩  (k_X9_isNumber l D cI cJ w9)) (fun r hp => ?_)
      rcases hp with ⟨rfl, hgv_2, hlv_3⟩ | ⟨rfl, ho_4⟩
      ·
        refine lv_if_ne (tgt := 23) hx hb dX9_farthest_18 (by decide) (fun c18 => ?_) (fun c18 => ?_)
        ·
          refine lv_iload_n hx hb dX9_farthest_23 rfl (lv_at hl 1 rfl) ?_
          refine lv_iload_n hx hb dX9_farthest_24 rfl (lv_at hl 2 rfl) ?_
          refine lv_icmp_ne (tgt := 31) hx hb dX9_farthest_25 (by decide) (fun c25 => ?_) (fun c25 => ?_)
          ·
            exact absurd c25 (by decide +kernel)
          ·
            refine lv_bipush (v := (-2)) hx hb dX9_farthest_28 (by decide +kernel) ?_
            exact my_retI hx hb hr hlocks hK hS [] (hP.sub [] rfl) (hD.sub [] (by decide) rfl) (Or.inl ⟨rfl, rfl, (by first | omega | assumption | trivial | decide +kernel), (by first | omega | assumption | trivial | decide +kernel), (by first | omega | assumption | trivial | decide +kernel), (by first | omega | assumption | trivial | decide +kernel)⟩) dX9_farthest_30
        ·
          exact absurd c18 (by decide +kernel)
      ·
        refine lv_if_ne (tgt := 23) hx hb dX9_farthest_18 (by decide) (fun c18 => ?_) (fun c18 => ?_)
        ·
          exact absurd c18 (by decide +kernel)
        ·
          refine lv_iconst (v := (-1)) hx hb dX9_farthest_21 (by decide +kernel) ?_
          exact my_retI hx hb hr hlocks hK hS [] (hP.sub [] rfl) (hD.sub [] (by decide) rfl) (Or.inr (⟨rfl, rfl, (by first | omega | assumption | trivial | decide +kernel)⟩)) dX9_farthest_22
  ·
    refine lv_if_eq (tgt := 21) hx hb dX9_farthest_11 (by decide) (fun c11 => ?_) (fun c11 => ?_)
    ·
      refine lv_iconst (v := (-1)) hx hb dX9_farthest_21 (by decide +kernel) ?_
      exact my_retI hx hb hr hlocks hK hS [] (hP.sub [] rfl) (hD.sub [] (by decide) rfl) (Or.inr (⟨rfl, rfl, (by first | omega | assumption | trivial | decide +kernel)⟩)) dX9_farthest_22
    ·
      exact absurd c11 (by decide +kernel)
set_option maxHeartbeats 4000000 in
set_option maxRecDepth 100000 in
theorem k0_X9_fit (l : Launch) (D : va_G) (cI cJ : ClassId) (m0 : Nat) (a_row : Nat) (a_tape : Nat) (a_number : Nat) (a_read : Nat) (a_readBits : Nat) (a_stands : Nat) (a_parted : Nat) (a_bitsWere : Nat) (a_stood : Nat) (a_chosen : Nat) (a_bestChosen : Nat) (a_often : Nat) (a_sorted : Nat) (a_risen : Nat) (a_risenWays : Nat) (rf : Nat → Int64) (l9 : Int32) (r9 : Int32) (k9 : Int32) : ctI l yX9_fit wsX9_fit ({ frames := 2, cells := 0, slots := 0, locals := 120 } : Room) D (tyIJ cI cJ) [.ref m0, .int l9, .int r9, .int k9] [(m0, .inr (9, [.int 0, .int 0, .ref a_row, .ref a_tape, .int 0, .int 0, .int 0, .int 0, .ref a_number, .ref a_read, .int 0, .ref a_readBits, .ref a_stands, .ref a_parted, .ref a_bitsWere, .ref a_stood, .ref a_chosen, .ref a_bestChosen, .int 0, .ref a_often, .ref a_sorted, .int 0, .ref a_risen, .ref a_risenWays])), (a_often, .inl (cI, 512, .inl (fun _ => (0 : Int32)))), (a_row, .inl (cJ, 64, .inr (.inl rf)))] (fun (r : Int32) (u : va_W) => (u = [] ∧ r = 0 ∧ l9.toInt = 0 ∧ r9.toInt = 0 ∧ 0 ≤ k9.toInt) ∨ (u = [] ∧ r = (-1) ∧ (l9.toInt < 0 ∨ r9.toInt < l9.toInt ∨ 0 < r9.toInt ∨ k9.toInt < 0))) := by
  refine ctI.of (cc := cX9_fit) (maxL := 6) (ret := (some .int)) (by decide) rfl (Nat.le_of_ble_eq_true rfl) ?_
  intro p e s m below meth c ls A hx hb hr hts hown hml hlocks hname hA hK hN hP hD hS hl
  have hl : lv_has ls 6 [(0, .ref m0), (1, .int l9), (2, .int r9), (3, .int k9)] := hl
  have hown : s.vm.findClass RX9 = some m.cls := hown
  have hi9 : ∀ w ∈ u_ws RX9 TX9 24, w ∈ wsX9_fit := by decide +kernel
  have fl1 := hts (.fieldLink RX9 1 "PlaneColumnModel" "thrown" "I") (by decide +kernel)
  have fl11 := hts (.fieldLink RX9 11 "PlaneColumnModel" "told" "I") (by decide +kernel)
  have fl172 := hts (.fieldLink RX9 172 "PlaneColumnModel" "size" "I") (by decide +kernel)
  refine lv_aload_n hx hb dX9_fit_0 rfl (lv_at hl 0 rfl) ?_
  refine lv_iconst (v := 0) hx hb dX9_fit_1 (by decide +kernel) ?_
  refine va_put (ci := 9) (v := .int 0) (ty := (.int)) (C := RX9) (T := TX9) (N := 24) hx hb hts hi9 tyX9 tyX9_ok nmX9 hown hK hP hD hS 0 rfl rfl 0 (by decide) fl1 (fun _ h9 => h9) rfl (by decide +kernel) rfl rfl (Nat.le_of_ble_eq_true rfl) dX9_fit_2 (fun H locs hP hD hS => ?_)
  have hP : va_P D vwCl [(m0, .inr (9, [.int 0, .int 0, .ref a_row, .ref a_tape, .int 0, .int 0, .int 0, .int 0, .ref a_number, .ref a_read, .int 0, .ref a_readBits, .ref a_stands, .ref a_parted, .ref a_bitsWere, .ref a_stood, .ref a_chosen, .ref a_bestChosen, .int 0, .ref a_often, .ref a_sorted, .int 0, .ref a_risen, .ref a_risenWays])), (a_often, .inl (cI, 512, .inl (fun _ => (0 : Int32)))), (a_row, .inl (cJ, 64, .inr (.inl rf)))] H := hP
  have hD : va_D A [(m0, .inr (9, [.int 0, .int 0, .ref a_row, .ref a_tape, .int 0, .int 0, .int 0, .int 0, .ref a_number, .ref a_read, .int 0, .ref a_readBits, .ref a_stands, .ref a_parted, .ref a_bitsWere, .ref a_stood, .ref a_chosen, .ref a_bestChosen, .int 0, .ref a_often, .ref a_sorted, .int 0, .ref a_risen, .ref a_risenWays])), (a_often, .inl (cI, 512, .inl (fun _ => (0 : Int32)))), (a_row, .inl (cJ, 64, .inr (.inl rf)))] := hD
  refine lv_aload_n hx hb dX9_fit_5 rfl (lv_at hl 0 rfl) ?_
  refine lv_iload_n hx hb dX9_fit_6 rfl (lv_at hl 1 rfl) ?_
  refine lv_iload_n hx hb dX9_fit_7 rfl (lv_at hl 2 rfl) ?_
  refine my_gpI (my_pV (As := [.int l9, .int r9]) (rest := []) (ci := 9) ⟨hx, hb, hml, hown, hts⟩ (cwV 2 hts gX9_fit_X9_isSpan rfl rfl rfl (by decide +kernel) ⟨Nat.le_of_ble_eq_true rfl, Nat.le_of_ble_eq_true rfl⟩) hN hK hP [0] rfl 0 rfl rfl rfl rfl hl.1 rfl (Nat.le_of_ble_eq_true rfl) dX9_fit_8 ⟨Nat.le_of_ble_eq_true rfl, Nat.le_of_ble_eq_true rfl⟩  (k0_X9_isSpan l D cI cJ m0 a_row a_tape a_number a_read a_readBits a_stands a_parted a_bitsWere a_stood a_chosen a_bestChosen a_often a_sorted a_risen a_risenWays (0 : Int32) (0 : Int32) (0 : Int32) (0 : Int32) (0 : Int32) (0 : Int32) (0 : Int32) (0 : Int32) l9 r9)) (fun r hp => ?_)
  rcases hp with ⟨rfl, rfl, rfl⟩ | ⟨rfl, ha_1⟩
  ·
    refine lv_if_eq (tgt := 18) hx hb dX9_fit_11 (by decide) (fun c11 => ?_) (fun c11 => ?_)
    ·
      exact absurd c11 (by decide +kernel)
    ·
      refine lv_iload_n hx hb dX9_fit_14 rfl (lv_at hl 3 rfl) ?_
      refine lv_if_ge (tgt := 20) hx hb dX9_fit_15 (by decide) (fun c15 => ?_) (fun c15 => ?_)
      ·
        have d15 : k9.toInt ≥ (0 : Int) := my_ge c15 rfl (by decide +kernel)
        refine lv_aload_n hx hb dX9_fit_20 rfl (lv_at hl 0 rfl) ?_
        refine lv_iload_n hx hb dX9_fit_21 rfl (lv_at hl 1 rfl) ?_
        refine lv_iload_n hx hb dX9_fit_22 rfl (lv_at hl 2 rfl) ?_
        refine my_goV (wr := [(a_row, .inl (cJ, 64, .inr (.inl rf)))]) hP hD hS hA [0, 1] [2] rfl rfl (by decide) (by decide) (my_cV (As := [.int 0, .int 0]) (rest := []) (ci := 9) (wc := [(m0, .inr (9, [.int 0, .int 0, .ref a_row, .ref a_tape, .int 0, .int 0, .int 0, .int 0, .ref a_number, .ref a_read, .int 0, .ref a_readBits, .ref a_stands, .ref a_parted, .ref a_bitsWere, .ref a_stood, .ref a_chosen, .ref a_bestChosen, .int 0, .ref a_often, .ref a_sorted, .int 0, .ref a_risen, .ref a_risenWays])), (a_often, .inl (cI, 512, .inl (fun _ => (0 : Int32))))]) ⟨hx, hb, hml, hown, hts⟩ (cwV 2 hts gX9_fit_X9_sorts rfl rfl rfl (by decide +kernel) ⟨Nat.le_of_ble_eq_true rfl, Nat.le_of_ble_eq_true rfl⟩) hN hK hP hD [0, 1] rfl (by decide) rfl 0 rfl rfl rfl rfl hl.1 rfl (Nat.le_of_ble_eq_true rfl) dX9_fit_23 ⟨Nat.le_of_ble_eq_true rfl, Nat.le_of_ble_eq_true rfl⟩  ((k0_X9_sorts l D cI cJ m0 a_row a_tape a_number a_read a_readBits a_stands a_parted a_bitsWere a_stood a_chosen a_bestChosen a_often a_sorted a_risen a_risenWays (0 : Int32) (0 : Int32) (0 : Int32) (0 : Int32) (0 : Int32) (0 : Int32) (0 : Int32) (0 : Int32) (0 : Int32)) _)) (fun u H locs hp hP hD hS => ?_)
        obtain rfl := hp
        have hP : va_P D vwCl [(a_row, .inl (cJ, 64, .inr (.inl rf))), (m0, .inr (9, [.int 0, .int 0, .ref a_row, .ref a_tape, .int 0, .int 0, .int 0, .int 0, .ref a_number, .ref a_read, .int 0, .ref a_readBits, .ref a_stands, .ref a_parted, .ref a_bitsWere, .ref a_stood, .ref a_chosen, .ref a_bestChosen, .int 0, .ref a_often, .ref a_sorted, .int 0, .ref a_risen, .ref a_risenWays])), (a_often, .inl (cI, 512, .inl (fun _ => (0 : Int32))))] H := hP
        have hD : va_D A [(a_row, .inl (cJ, 64, .inr (.inl rf))), (m0, .inr (9, [.int 0, .int 0, .ref a_row, .ref a_tape, .int 0, .int 0, .int 0, .int 0, .ref a_number, .ref a_read, .int 0, .ref a_readBits, .ref a_stands, .ref a_parted, .ref a_bitsWere, .ref a_stood, .ref a_chosen, .ref a_bestChosen, .int 0, .ref a_often, .ref a_sorted, .int 0, .ref a_risen, .ref a_risenWays])), (a_often, .inl (cI, 512, .inl (fun _ => (0 : Int32))))] := hD
        refine lv_iconst (v := 0) hx hb dX9_fit_26 (by decide +kernel) ?_
        refine lv_istore (lv' := [(4, .int 0), (0, .ref m0), (1, .int 0), (2, .int 0), (3, .int k9)]) hx hb dX9_fit_27 hl (by decide) rfl (fun ls hl => ?_)
        refine lv_iconst (v := 0) hx hb dX9_fit_29 (by decide +kernel) ?_
        refine lv_istore (lv' := [(5, .int 0), (4, .int 0), (0, .ref m0), (1, .int 0), (2, .int 0), (3, .int k9)]) hx hb dX9_fit_30 hl (by decide) rfl (fun ls hl => ?_)
        refine lv_iload hx hb dX9_fit_32 (lv_at hl 1 rfl) ?_
        refine lv_aload_n hx hb dX9_fit_34 rfl (lv_at hl 2 rfl) ?_
        refine va_get (ci := 9) (v := .int 0) (C := RX9) (T := TX9) (N := 24) hx hb hts hi9 hown hK hP 1 rfl rfl 21 (by decide) fl172 (fun _ h9 => h9) rfl dX9_fit_35 ?_
        refine lv_icmp_ge (tgt := 73) hx hb dX9_fit_38 (by decide) (fun c38 => ?_) (fun c38 => ?_)
        ·
          refine lv_aload_n hx hb dX9_fit_73 rfl (lv_at hl 2 rfl) ?_
          refine lv_iconst (v := 0) hx hb dX9_fit_74 (by decide +kernel) ?_
          refine va_put (ci := 9) (v := .int 0) (ty := (.int)) (C := RX9) (T := TX9) (N := 24) hx hb hts hi9 tyX9 tyX9_ok nmX9 hown hK hP hD hS 1 rfl rfl 1 (by decide) fl11 (fun _ h9 => h9) rfl (by decide +kernel) rfl rfl (Nat.le_of_ble_eq_true rfl) dX9_fit_75 (fun H locs hP hD hS => ?_)
          have hP : va_P D vwCl [(a_row, .inl (cJ, 64, .inr (.inl rf))), (m0, .inr (9, [.int 0, .int 0, .ref a_row, .ref a_tape, .int 0, .int 0, .int 0, .int 0, .ref a_number, .ref a_read, .int 0, .ref a_readBits, .ref a_stands, .ref a_parted, .ref a_bitsWere, .ref a_stood, .ref a_chosen, .ref a_bestChosen, .int 0, .ref a_often, .ref a_sorted, .int 0, .ref a_risen, .ref a_risenWays])), (a_often, .inl (cI, 512, .inl (fun _ => (0 : Int32))))] H := hP
          have hD : va_D A [(a_row, .inl (cJ, 64, .inr (.inl rf))), (m0, .inr (9, [.int 0, .int 0, .ref a_row, .ref a_tape, .int 0, .int 0, .int 0, .int 0, .ref a_number, .ref a_read, .int 0, .ref a_readBits, .ref a_stands, .ref a_parted, .ref a_bitsWere, .ref a_stood, .ref a_chosen, .ref a_bestChosen, .int 0, .ref a_often, .ref a_sorted, .int 0, .ref a_risen, .ref a_risenWays])), (a_often, .inl (cI, 512, .inl (fun _ => (0 : Int32))))] := hD
          refine lv_aload_n hx hb dX9_fit_78 rfl (lv_at hl 2 rfl) ?_
          refine lv_iload hx hb dX9_fit_79 (lv_at hl 0 rfl) ?_
          refine lv_i2l (v := 0) hx hb dX9_fit_81 (by decide +kernel) ?_
          refine my_goV (wr := [(a_often, .inl (cI, 512, .inl (fun _ => (0 : Int32))))]) hP hD hS hA [1, 0] [2] rfl rfl (by decide) (by decide) (my_cV (As := [.long 0]) (rest := []) (ci := 9) (wc := [(m0, .inr (9, [.int 0, .int 0, .ref a_row, .ref a_tape, .int 0, .int 0, .int 0, .int 0, .ref a_number, .ref a_read, .int 0, .ref a_readBits, .ref a_stands, .ref a_parted, .ref a_bitsWere, .ref a_stood, .ref a_chosen, .ref a_bestChosen, .int 0, .ref a_often, .ref a_sorted, .int 0, .ref a_risen, .ref a_risenWays])), (a_row, .inl (cJ, 64, .inr (.inl rf)))]) ⟨hx, hb, hml, hown, hts⟩ (cwV 1 hts gX9_fit_X9_enters rfl rfl rfl (by decide +kernel) ⟨Nat.le_of_ble_eq_true rfl, Nat.le_of_ble_eq_true rfl⟩) hN hK hP hD [1, 0] rfl (by decide) rfl 1 rfl rfl rfl rfl hl.1 rfl (Nat.le_of_ble_eq_true rfl) dX9_fit_82 ⟨Nat.le_of_ble_eq_true rfl, Nat.le_of_ble_eq_true rfl⟩  ((k_X9_enters l D cI cJ m0 a_row a_tape a_number a_read a_readBits a_stands a_parted a_bitsWere a_stood a_chosen a_bestChosen a_often a_sorted a_risen a_risenWays (0 : Int32) (0 : Int32) (0 : Int32) (0 : Int32) (0 : Int32) (0 : Int32) (0 : Int32) (0 : Int32) 0 rf (0 : Int64) (by first | omega | decide +kernel)) _)) (fun u H locs hp hP hD hS => ?_)
          obtain ⟨f_2, rfl⟩ := hp
          have hP : va_P D vwCl [(a_often, .inl (cI, 512, .inl (fun _ => (0 : Int32)))), (m0, .inr (9, [.int 0, .int 1, .ref a_row, .ref a_tape, .int 0, .int 0, .int 0, .int 0, .ref a_number, .ref a_read, .int 0, .ref a_readBits, .ref a_stands, .ref a_parted, .ref a_bitsWere, .ref a_stood, .ref a_chosen, .ref a_bestChosen, .int 0, .ref a_often, .ref a_sorted, .int 0, .ref a_risen, .ref a_risenWays])), (a_row, .inl (cJ, 64, .inr (.inl f_2)))] H := hP
          have hD : va_D A [(a_often, .inl (cI, 512, .inl (fun _ => (0 : Int32)))), (m0, .inr (9, [.int 0, .int 1, .ref a_row, .ref a_tape, .int 0, .int 0, .int 0, .int 0, .ref a_number, .ref a_read, .int 0, .ref a_readBits, .ref a_stands, .ref a_parted, .ref a_bitsWere, .ref a_stood, .ref a_chosen, .ref a_bestChosen, .int 0, .ref a_often, .ref a_sorted, .int 0, .ref a_risen, .ref a_risenWays])), (a_row, .inl (cJ, 64, .inr (.inl f_2)))] := hD
          refine lv_iload hx hb dX9_fit_85 (lv_at hl 1 rfl) ?_
          exact my_retI hx hb hr hlocks hK hS [] (hP.sub [] rfl) (hD.sub [] (by decide) rfl) (Or.inl ⟨rfl, rfl, (by first | omega | assumption | trivial | decide +kernel), (by first | omega | assumption | trivial | decide +kernel), (by first | omega | assumption | trivial | decide +kernel)⟩) dX9_fit_87
        ·
          exact absurd c38 (by decide +kernel)
      ·
        have d15 : k9.toInt < (0 : Int) := my_nge c15 rfl (by decide +kernel)
        refine lv_iconst (v := (-1)) hx hb dX9_fit_18 (by decide +kernel) ?_
        exact my_retI hx hb hr hlocks hK hS [] (hP.sub [] rfl) (hD.sub [] (by decide) rfl) (Or.inr (⟨rfl, rfl, (by first | omega | assumption | trivial | decide +kernel)⟩)) dX9_fit_19
  ·
    refine lv_if_eq (tgt := 18) hx hb dX9_fit_11 (by decide) (fun c11 => ?_) (fun c11 => ?_)
    ·
      refine lv_iconst (v := (-1)) hx hb dX9_fit_18 (by decide +kernel) ?_
      exact my_retI hx hb hr hlocks hK hS [] (hP.sub [] rfl) (hD.sub [] (by decide) rfl) (Or.inr (⟨rfl, rfl, (by first | omega | assumption | trivial | decide +kernel)⟩)) dX9_fit_19
    ·
      exact absurd c11 (by decide +kernel)
set_option maxHeartbeats 4000000 in
set_option maxRecDepth 100000 in
theorem k0_X9_lone (l : Launch) (D : va_G) (cI cJ : ClassId) (m0 : Nat) (a_row : Nat) (a_tape : Nat) (a_number : Nat) (a_read : Nat) (a_readBits : Nat) (a_stands : Nat) (a_parted : Nat) (a_bitsWere : Nat) (a_stood : Nat) (a_chosen : Nat) (a_bestChosen : Nat) (a_often : Nat) (a_sorted : Nat) (a_risen : Nat) (a_risenWays : Nat) (rf : Nat → Int64) (l9 : Int32) (r9 : Int32) : ctI l yX9_lone wsX9_lone ({ frames := 1, cells := 0, slots := 0, locals := 60 } : Room) D (tyIJ cI cJ) [.ref m0, .int l9, .int r9] [(m0, .inr (9, [.int 0, .int 0, .ref a_row, .ref a_tape, .int 0, .int 0, .int 0, .int 0, .ref a_number, .ref a_read, .int 0, .ref a_readBits, .ref a_stands, .ref a_parted, .ref a_bitsWere, .ref a_stood, .ref a_chosen, .ref a_bestChosen, .int 0, .ref a_often, .ref a_sorted, .int 0, .ref a_risen, .ref a_risenWays])), (a_often, .inl (cI, 512, .inl (fun _ => (0 : Int32)))), (a_row, .inl (cJ, 64, .inr (.inl rf)))] (fun (r : Int32) (u : va_W) => (u = [] ∧ r = 0 ∧ l9.toInt = 0 ∧ r9.toInt = 0) ∨ (u = [] ∧ r = (-1) ∧ (l9.toInt < 0 ∨ r9.toInt < l9.toInt ∨ 0 < r9.toInt))) := by
  refine ctI.of (cc := cX9_lone) (maxL := 7) (ret := (some .int)) (by decide) rfl (Nat.le_of_ble_eq_true rfl) ?_
  intro p e s m below meth c ls A hx hb hr hts hown hml hlocks hname hA hK hN hP hD hS hl
  have hl : lv_has ls 7 [(0, .ref m0), (1, .int l9), (2, .int r9)] := hl
  have hown : s.vm.findClass RX9 = some m.cls := hown
  have hi9 : ∀ w ∈ u_ws RX9 TX9 24, w ∈ wsX9_lone := by decide +kernel
  have fl1 := hts (.fieldLink RX9 1 "PlaneColumnModel" "thrown" "I") (by decide +kernel)
  have fl11 := hts (.fieldLink RX9 11 "PlaneColumnModel" "told" "I") (by decide +kernel)
  refine lv_aload_n hx hb dX9_lone_0 rfl (lv_at hl 0 rfl) ?_
  refine lv_iconst (v := 0) hx hb dX9_lone_1 (by decide +kernel) ?_
  refine va_put (ci := 9) (v := .int 0) (ty := (.int)) (C := RX9) (T := TX9) (N := 24) hx hb hts hi9 tyX9 tyX9_ok nmX9 hown hK hP hD hS 0 rfl rfl 0 (by decide) fl1 (fun _ h9 => h9) rfl (by decide +kernel) rfl rfl (Nat.le_of_ble_eq_true rfl) dX9_lone_2 (fun H locs hP hD hS => ?_)
  have hP : va_P D vwCl [(m0, .inr (9, [.int 0, .int 0, .ref a_row, .ref a_tape, .int 0, .int 0, .int 0, .int 0, .ref a_number, .ref a_read, .int 0, .ref a_readBits, .ref a_stands, .ref a_parted, .ref a_bitsWere, .ref a_stood, .ref a_chosen, .ref a_bestChosen, .int 0, .ref a_often, .ref a_sorted, .int 0, .ref a_risen, .ref a_risenWays])), (a_often, .inl (cI, 512, .inl (fun _ => (0 : Int32)))), (a_row, .inl (cJ, 64, .inr (.inl rf)))] H := hP
  have hD : va_D A [(m0, .inr (9, [.int 0, .int 0, .ref a_row, .ref a_tape, .int 0, .int 0, .int 0, .int 0, .ref a_number, .ref a_read, .int 0, .ref a_readBits, .ref a_stands, .ref a_parted, .ref a_bitsWere, .ref a_stood, .ref a_chosen, .ref a_bestChosen, .int 0, .ref a_often, .ref a_sorted, .int 0, .ref a_risen, .ref a_risenWays])), (a_often, .inl (cI, 512, .inl (fun _ => (0 : Int32)))), (a_row, .inl (cJ, 64, .inr (.inl rf)))] := hD
  refine lv_aload_n hx hb dX9_lone_5 rfl (lv_at hl 0 rfl) ?_
  refine lv_iload_n hx hb dX9_lone_6 rfl (lv_at hl 1 rfl) ?_
  refine lv_iload_n hx hb dX9_lone_7 rfl (lv_at hl 2 rfl) ?_
  refine my_gpI (my_pV (As := [.int l9, .int r9]) (rest := []) (ci := 9) ⟨hx, hb, hml, hown, hts⟩ (cwV 2 hts gX9_lone_X9_isSpan rfl rfl rfl (by decide +kernel) ⟨Nat.le_of_ble_eq_true rfl, Nat.le_of_ble_eq_true rfl⟩) hN hK hP [0] rfl 0 rfl rfl rfl rfl hl.1 rfl (Nat.le_of_ble_eq_true rfl) dX9_lone_8 ⟨Nat.le_of_ble_eq_true rfl, Nat.le_of_ble_eq_true rfl⟩  (k0_X9_isSpan l D cI cJ m0 a_row a_tape a_number a_read a_readBits a_stands a_parted a_bitsWere a_stood a_chosen a_bestChosen a_often a_sorted a_risen a_risenWays (0 : Int32) (0 : Int32) (0 : Int32) (0 : Int32) (0 : Int32) (0 : Int32) (0 : Int32) (0 : Int32) l9 r9)) (fun r hp => ?_)
  rcases hp with ⟨rfl, rfl, rfl⟩ | ⟨rfl, ha_1⟩
  ·
    refine lv_if_ne (tgt := 16) hx hb dX9_lone_11 (by decide) (fun c11 => ?_) (fun c11 => ?_)
    ·
      refine lv_aload_n hx hb dX9_lone_16 rfl (lv_at hl 0 rfl) ?_
      refine lv_iconst (v := 0) hx hb dX9_lone_17 (by decide +kernel) ?_
      refine lv_iload_n hx hb dX9_lone_18 rfl (lv_at hl 1 rfl) ?_
      refine lv_iload_n hx hb dX9_lone_19 rfl (lv_at hl 2 rfl) ?_
      refine my_goV (wr := [(a_row, .inl (cJ, 64, .inr (.inl rf)))]) hP hD hS hA [0, 1] [2] rfl rfl (by decide) (by decide) (my_cV (As := [.int 0, .int 0, .int 0]) (rest := []) (ci := 9) (wc := [(m0, .inr (9, [.int 0, .int 0, .ref a_row, .ref a_tape, .int 0, .int 0, .int 0, .int 0, .ref a_number, .ref a_read, .int 0, .ref a_readBits, .ref a_stands, .ref a_parted, .ref a_bitsWere, .ref a_stood, .ref a_chosen, .ref a_bestChosen, .int 0, .ref a_often, .ref a_sorted, .int 0, .ref a_risen, .ref a_risenWays])), (a_often, .inl (cI, 512, .inl (fun _ => (0 : Int32))))]) ⟨hx, hb, hml, hown, hts⟩ (cwV 3 hts gX9_lone_X9_counts rfl rfl rfl (by decide +kernel) ⟨Nat.le_of_ble_eq_true rfl, Nat.le_of_ble_eq_true rfl⟩) hN hK hP hD [0, 1] rfl (by decide) rfl 0 rfl rfl rfl rfl hl.1 rfl (Nat.le_of_ble_eq_true rfl) dX9_lone_20 ⟨Nat.le_of_ble_eq_true rfl, Nat.le_of_ble_eq_true rfl⟩  ((k0_X9_counts l D cI cJ m0 a_row a_tape a_number a_read a_readBits a_stands a_parted a_bitsWere a_stood a_chosen a_bestChosen a_often a_sorted a_risen a_risenWays (0 : Int32) (0 : Int32) (0 : Int32) (0 : Int32) (0 : Int32) (0 : Int32) (0 : Int32) (0 : Int32) (0 : Int32)) _)) (fun u H locs hp hP hD hS => ?_)
      obtain rfl := hp
      have hP : va_P D vwCl [(a_row, .inl (cJ, 64, .inr (.inl rf))), (m0, .inr (9, [.int 0, .int 0, .ref a_row, .ref a_tape, .int 0, .int 0, .int 0, .int 0, .ref a_number, .ref a_read, .int 0, .ref a_readBits, .ref a_stands, .ref a_parted, .ref a_bitsWere, .ref a_stood, .ref a_chosen, .ref a_bestChosen, .int 0, .ref a_often, .ref a_sorted, .int 0, .ref a_risen, .ref a_risenWays])), (a_often, .inl (cI, 512, .inl (fun _ => (0 : Int32))))] H := hP
      have hD : va_D A [(a_row, .inl (cJ, 64, .inr (.inl rf))), (m0, .inr (9, [.int 0, .int 0, .ref a_row, .ref a_tape, .int 0, .int 0, .int 0, .int 0, .ref a_number, .ref a_read, .int 0, .ref a_readBits, .ref a_stands, .ref a_parted, .ref a_bitsWere, .ref a_stood, .ref a_chosen, .ref a_bestChosen, .int 0, .ref a_often, .ref a_sorted, .int 0, .ref a_risen, .ref a_risenWays])), (a_often, .inl (cI, 512, .inl (fun _ => (0 : Int32))))] := hD
      refine lv_iconst (v := 0) hx hb dX9_lone_23 (by decide +kernel) ?_
      refine lv_istore_n (lv' := [(3, .int 0), (0, .ref m0), (1, .int 0), (2, .int 0)]) hx hb dX9_lone_24 rfl hl (by decide) rfl (fun ls hl => ?_)
      refine lv_iconst (v := (-1)) hx hb dX9_lone_25 (by decide +kernel) ?_
      refine lv_istore (lv' := [(4, .int (-1)), (3, .int 0), (0, .ref m0), (1, .int 0), (2, .int 0)]) hx hb dX9_lone_26 hl (by decide) rfl (fun ls hl => ?_)
      refine lv_iconst (v := (-1)) hx hb dX9_lone_28 (by decide +kernel) ?_
      refine lv_istore (lv' := [(5, .int (-1)), (4, .int (-1)), (3, .int 0), (0, .ref m0), (1, .int 0), (2, .int 0)]) hx hb dX9_lone_29 hl (by decide) rfl (fun ls hl => ?_)
      refine lv_iconst (v := 0) hx hb dX9_lone_31 (by decide +kernel) ?_
      refine lv_istore (lv' := [(6, .int 0), (5, .int (-1)), (4, .int (-1)), (3, .int 0), (0, .ref m0), (1, .int 0), (2, .int 0)]) hx hb dX9_lone_32 hl (by decide) rfl (fun ls hl => ?_)
      have loop34 : ∀ (n9 : Nat) (k : Nat), 256 - k < n9 → (k ≤ 256) → ∀ (H : Heap) (locs : List Loc) (ls : Array Slot), va_P D vwCl [(m0, .inr (9, [.int 0, .int 0, .ref a_row, .ref a_tape, .int 0, .int 0, .int 0, .int 0, .ref a_number, .ref a_read, .int 0, .ref a_readBits, .ref a_stands, .ref a_parted, .ref a_bitsWere, .ref a_stood, .ref a_chosen, .ref a_bestChosen, .int 0, .ref a_often, .ref a_sorted, .int 0, .ref a_risen, .ref a_risenWays])), (a_often, .inl (cI, 512, .inl (fun _ => (0 : Int32)))), (a_row, .inl (cJ, 64, .inr (.inl rf)))] H → va_D A [(m0, .inr (9, [.int 0, .int 0, .ref a_row, .ref a_tape, .int 0, .int 0, .int 0, .int 0, .ref a_number, .ref a_read, .int 0, .ref a_readBits, .ref a_stands, .ref a_parted, .ref a_bitsWere, .ref a_stood, .ref a_chosen, .ref a_bestChosen, .int 0, .ref a_often, .ref a_sorted, .int 0, .ref a_risen, .ref a_risenWays])), (a_often, .inl (cI, 512, .inl (fun _ => (0 : Int32)))), (a_row, .inl (cJ, 64, .inr (.inl rf)))] → va_S A s.heap H locs → lv_has ls 7 [(6, .int (nI k)), (5, .int (-1)), (4, .int (-1)), (3, .int 0), (0, .ref m0)] → W p l e ({ frames := 1, cells := 0, slots := 0, locals := 60 } : Room) s m [.ref m0, .int (0 : Int32), .int (0 : Int32)].toArray below meth c H locs 0 0 (MQ below (va_Qi (fun (r : Int32) (u : va_W) => (u = [] ∧ r = 0 ∧ (0 : Int32).toInt = 0 ∧ (0 : Int32).toInt = 0) ∨ (u = [] ∧ r = (-1) ∧ ((0 : Int32).toInt < 0 ∨ (0 : Int32).toInt < (0 : Int32).toInt ∨ 0 < (0 : Int32).toInt))) (my_B D (tyIJ cI cJ) A) A) [.ref m0, .int (0 : Int32), .int (0 : Int32)].toArray s 0 0 A) (F0 m 34 ls []) := by
        intro n9
        induction n9 with
        | zero =>
          intro k hn9
          exact absurd hn9 (Nat.not_lt_zero _)
        | succ n9 ih34 =>
          intro k hn9 hk H locs ls hP hD hS hl
          refine lv_iload hx hb dX9_lone_34 (lv_at hl 0 rfl) ?_
          refine lv_sipush (v := 256) hx hb dX9_lone_36 (by decide +kernel) ?_
          refine lv_icmp_ge (tgt := 79) hx hb dX9_lone_39 (by decide) (fun c39 => ?_) (fun c39 => ?_)
          ·
            have d39 : ((k : Nat) : Int) ≥ (256 : Int) := my_ge c39 (nI_toInt (by omega)) (by decide +kernel)
            refine lv_aload_n hx hb dX9_lone_79 rfl (lv_at hl 4 rfl) ?_
            refine lv_iconst (v := 0) hx hb dX9_lone_80 (by decide +kernel) ?_
            refine va_put (ci := 9) (v := .int 0) (ty := (.int)) (C := RX9) (T := TX9) (N := 24) hx hb hts hi9 tyX9 tyX9_ok nmX9 hown hK hP hD hS 0 rfl rfl 1 (by decide) fl11 (fun _ h9 => h9) rfl (by decide +kernel) rfl rfl (Nat.le_of_ble_eq_true rfl) dX9_lone_81 (fun H locs hP hD hS => ?_)
            have hP : va_P D vwCl [(m0, .inr (9, [.int 0, .int 0, .ref a_row, .ref a_tape, .int 0, .int 0, .int 0, .int 0, .ref a_number, .ref a_read, .int 0, .ref a_readBits, .ref a_stands, .ref a_parted, .ref a_bitsWere, .ref a_stood, .ref a_chosen, .ref a_bestChosen, .int 0, .ref a_often, .ref a_sorted, .int 0, .ref a_risen, .ref a_risenWays])), (a_often, .inl (cI, 512, .inl (fun _ => (0 : Int32)))), (a_row, .inl (cJ, 64, .inr (.inl rf)))] H := hP
            have hD : va_D A [(m0, .inr (9, [.int 0, .int 0, .ref a_row, .ref a_tape, .int 0, .int 0, .int 0, .int 0, .ref a_number, .ref a_read, .int 0, .ref a_readBits, .ref a_stands, .ref a_parted, .ref a_bitsWere, .ref a_stood, .ref a_chosen, .ref a_bestChosen, .int 0, .ref a_often, .ref a_sorted, .int 0, .ref a_risen, .ref a_risenWays])), (a_often, .inl (cI, 512, .inl (fun _ => (0 : Int32)))), (a_row, .inl (cJ, 64, .inr (.inl rf)))] := hD
            refine lv_aload_n hx hb dX9_lone_84 rfl (lv_at hl 4 rfl) ?_
            refine lv_iload hx hb dX9_lone_85 (lv_at hl 2 rfl) ?_
            refine lv_i2l (v := (-1)) hx hb dX9_lone_87 (by decide +kernel) ?_
            refine my_goV (wr := [(a_often, .inl (cI, 512, .inl (fun _ => (0 : Int32))))]) hP hD hS hA [0, 2] [1] rfl rfl (by decide) (by decide) (my_cV (As := [.long (-1)]) (rest := []) (ci := 9) (wc := [(m0, .inr (9, [.int 0, .int 0, .ref a_row, .ref a_tape, .int 0, .int 0, .int 0, .int 0, .ref a_number, .ref a_read, .int 0, .ref a_readBits, .ref a_stands, .ref a_parted, .ref a_bitsWere, .ref a_stood, .ref a_chosen, .ref a_bestChosen, .int 0, .ref a_often, .ref a_sorted, .int 0, .ref a_risen, .ref a_risenWays])), (a_row, .inl (cJ, 64, .inr (.inl rf)))]) ⟨hx, hb, hml, hown, hts⟩ (cwV 1 hts gX9_lone_X9_enters rfl rfl rfl (by decide +kernel) ⟨Nat.le_of_ble_eq_true rfl, Nat.le_of_ble_eq_true rfl⟩) hN hK hP hD [0, 2] rfl (by decide) rfl 0 rfl rfl rfl rfl hl.1 rfl (Nat.le_of_ble_eq_true rfl) dX9_lone_88 ⟨Nat.le_of_ble_eq_true rfl, Nat.le_of_ble_eq_true rfl⟩  ((k_X9_enters l D cI cJ m0 a_row a_tape a_number a_read a_readBits a_stands a_parted a_bitsWere a_stood a_chosen a_bestChosen a_often a_sorted a_risen a_risenWays (0 : Int32) (0 : Int32) (0 : Int32) (0 : Int32) (0 : Int32) (0 : Int32) (0 : Int32) (0 : Int32) 0 rf (-1 : Int64) (by first | omega | decide +kernel)) _)) (fun u H locs hp hP hD hS => ?_)
            obtain ⟨f_2, rfl⟩ := hp
            have hP : va_P D vwCl [(a_often, .inl (cI, 512, .inl (fun _ => (0 : Int32)))), (m0, .inr (9, [.int 0, .int 1, .ref a_row, .ref a_tape, .int 0, .int 0, .int 0, .int 0, .ref a_number, .ref a_read, .int 0, .ref a_readBits, .ref a_stands, .ref a_parted, .ref a_bitsWere, .ref a_stood, .ref a_chosen, .ref a_bestChosen, .int 0, .ref a_often, .ref a_sorted, .int 0, .ref a_risen, .ref a_risenWays])), (a_row, .inl (cJ, 64, .inr (.inl f_2)))] H := hP
            have hD : va_D A [(a_often, .inl (cI, 512, .inl (fun _ => (0 : Int32)))), (m0, .inr (9, [.int 0, .int 1, .ref a_row, .ref a_tape, .int 0, .int 0, .int 0, .int 0, .ref a_number, .ref a_read, .int 0, .ref a_readBits, .ref a_stands, .ref a_parted, .ref a_bitsWere, .ref a_stood, .ref a_chosen, .ref a_bestChosen, .int 0, .ref a_often, .ref a_sorted, .int 0, .ref a_risen, .ref a_risenWays])), (a_row, .inl (cJ, 64, .inr (.inl f_2)))] := hD
            refine lv_aload_n hx hb dX9_lone_91 rfl (lv_at hl 4 rfl) ?_
            refine lv_iload hx hb dX9_lone_92 (lv_at hl 1 rfl) ?_
            refine lv_i2l (v := (-1)) hx hb dX9_lone_94 (by decide +kernel) ?_
            refine my_goV (wr := [(a_often, .inl (cI, 512, .inl (fun _ => (0 : Int32))))]) hP hD hS hA [1, 2] [0] rfl rfl (by decide) (by decide) (my_cV (As := [.long (-1)]) (rest := []) (ci := 9) (wc := [(m0, .inr (9, [.int 0, .int 1, .ref a_row, .ref a_tape, .int 0, .int 0, .int 0, .int 0, .ref a_number, .ref a_read, .int 0, .ref a_readBits, .ref a_stands, .ref a_parted, .ref a_bitsWere, .ref a_stood, .ref a_chosen, .ref a_bestChosen, .int 0, .ref a_often, .ref a_sorted, .int 0, .ref a_risen, .ref a_risenWays])), (a_row, .inl (cJ, 64, .inr (.inl f_2)))]) ⟨hx, hb, hml, hown, hts⟩ (cwV 1 hts gX9_lone_X9_enters rfl rfl rfl (by decide +kernel) ⟨Nat.le_of_ble_eq_true rfl, Nat.le_of_ble_eq_true rfl⟩) hN hK hP hD [1, 2] rfl (by decide) rfl 1 rfl rfl rfl rfl hl.1 rfl (Nat.le_of_ble_eq_true rfl) dX9_lone_95 ⟨Nat.le_of_ble_eq_true rfl, Nat.le_of_ble_eq_true rfl⟩  ((k_X9_enters l D cI cJ m0 a_row a_tape a_number a_read a_readBits a_stands a_parted a_bitsWere a_stood a_chosen a_bestChosen a_often a_sorted a_risen a_risenWays (0 : Int32) (0 : Int32) (0 : Int32) (0 : Int32) (0 : Int32) (0 : Int32) (0 : Int32) (0 : Int32) 1 f_2 (-1 : Int64) (by first | omega | decide +kernel)) _)) (fun u H locs hp hP hD hS => ?_)
            obtain ⟨f_3, rfl⟩ := hp
            have hP : va_P D vwCl [(a_often, .inl (cI, 512, .inl (fun _ => (0 : Int32)))), (m0, .inr (9, [.int 0, .int 2, .ref a_row, .ref a_tape, .int 0, .int 0, .int 0, .int 0, .ref a_number, .ref a_read, .int 0, .ref a_readBits, .ref a_stands, .ref a_parted, .ref a_bitsWere, .ref a_stood, .ref a_chosen, .ref a_bestChosen, .int 0, .ref a_often, .ref a_sorted, .int 0, .ref a_risen, .ref a_risenWays])), (a_row, .inl (cJ, 64, .inr (.inl f_3)))] H := hP
            have hD : va_D A [(a_often, .inl (cI, 512, .inl (fun _ => (0 : Int32)))), (m0, .inr (9, [.int 0, .int 2, .ref a_row, .ref a_tape, .int 0, .int 0, .int 0, .int 0, .ref a_number, .ref a_read, .int 0, .ref a_readBits, .ref a_stands, .ref a_parted, .ref a_bitsWere, .ref a_stood, .ref a_chosen, .ref a_bestChosen, .int 0, .ref a_often, .ref a_sorted, .int 0, .ref a_risen, .ref a_risenWays])), (a_row, .inl (cJ, 64, .inr (.inl f_3)))] := hD
            refine lv_iload_n hx hb dX9_lone_98 rfl (lv_at hl 3 rfl) ?_
            exact my_retI hx hb hr hlocks hK hS [] (hP.sub [] rfl) (hD.sub [] (by decide) rfl) (Or.inl ⟨rfl, rfl, (by first | omega | assumption | trivial | decide +kernel), (by first | omega | assumption | trivial | decide +kernel)⟩) dX9_lone_99
          ·
            have d39 : ((k : Nat) : Int) < (256 : Int) := my_nge c39 (nI_toInt (by omega)) (by decide +kernel)
            refine lv_aload_n hx hb dX9_lone_42 rfl (lv_at hl 4 rfl) ?_
            refine lv_iconst (v := 0) hx hb dX9_lone_43 (by decide +kernel) ?_
            refine lv_iload hx hb dX9_lone_44 (lv_at hl 0 rfl) ?_
            refine my_gpI (my_pV (As := [.int 0, .int (nI k)]) (rest := []) (ci := 9) ⟨hx, hb, hml, hown, hts⟩ (cwV 2 hts gX9_lone_X9_times rfl rfl rfl (by decide +kernel) ⟨Nat.le_of_ble_eq_true rfl, Nat.le_of_ble_eq_true rfl⟩) hN hK hP [0, 1] rfl 0 rfl rfl rfl rfl hl.1 rfl (Nat.le_of_ble_eq_true rfl) dX9_lone_46 ⟨Nat.le_of_ble_eq_true rfl, Nat.le_of_ble_eq_true rfl⟩  (k0_X9_times l D cI cJ m0 a_row a_tape a_number a_read a_readBits a_stands a_parted a_bitsWere a_stood a_chosen a_bestChosen a_often a_sorted a_risen a_risenWays (0 : Int32) (0 : Int32) (0 : Int32) (0 : Int32) (0 : Int32) (0 : Int32) (0 : Int32) (0 : Int32) (0 : Int32) (nI k) (by rw [nI_toInt (by omega)]; omega) (by rw [nI_toInt (by omega)]; omega))) (fun r hp => ?_)
            obtain rfl := hp
            refine lv_iconst (v := 1) hx hb dX9_lone_49 (by decide +kernel) ?_
            refine lv_icmp_ne (tgt := 73) hx hb dX9_lone_50 (by decide) (fun c50 => ?_) (fun c50 => ?_)
            ·
              refine lv_iinc (v := nI (k + 1)) (lv' := [(6, .int (nI (k + 1))), (5, .int (-1)), (4, .int (-1)), (3, .int 0), (0, .ref m0)]) hx hb dX9_lone_73 hl (k := 0) rfl (my_incN k 1 (by decide +kernel)) (by decide) rfl (fun ls hl => ?_)
              refine lv_goto (tgt := 34) hx hb dX9_lone_76 (by decide) ?_
              exact ih34  (k + 1) (by omega) (by omega) _ _ ls (hP.sub [0, 1, 2] rfl) (hD.sub [0, 1, 2] (by decide) rfl) hS (lv_sub hl [0, 1, 2, 3, 4] rfl)
            ·
              exact absurd c50 (by decide +kernel)
      exact loop34 ((256 - 0) + 1) 0 (Nat.lt_succ_self _) (by first | omega | decide +kernel) _ _ ls (hP.sub [1, 2, 0] rfl) (hD.sub [1, 2, 0] (by decide) rfl) hS (lv_sub hl [0, 1, 2, 3, 4] rfl)
    ·
      exact absurd c11 (by decide +kernel)
  ·
    refine lv_if_ne (tgt := 16) hx hb dX9_lone_11 (by decide) (fun c11 => ?_) (fun c11 => ?_)
    ·
      exact absurd c11 (by decide +kernel)
    ·
      refine lv_iconst (v := (-1)) hx hb dX9_lone_14 (by decide +kernel) ?_
      exact my_retI hx hb hr hlocks hK hS [] (hP.sub [] rfl) (hD.sub [] (by decide) rfl) (Or.inr (⟨rfl, rfl, (by first | omega | assumption | trivial | decide +kernel)⟩)) dX9_lone_15
set_option maxHeartbeats 4000000 in
set_option maxRecDepth 100000 in
theorem k0_X9_common (l : Launch) (D : va_G) (cI cJ : ClassId) (m0 : Nat) (a_row : Nat) (a_tape : Nat) (a_number : Nat) (a_read : Nat) (a_readBits : Nat) (a_stands : Nat) (a_parted : Nat) (a_bitsWere : Nat) (a_stood : Nat) (a_chosen : Nat) (a_bestChosen : Nat) (a_often : Nat) (a_sorted : Nat) (a_risen : Nat) (a_risenWays : Nat) (rf : Nat → Int64) (l9 : Int32) (r9 : Int32) (s9 : Int32) (t9 : Int32) : ctI l yX9_common wsX9_common ({ frames := 3, cells := 0, slots := 0, locals := 180 } : Room) D (tyIJ cI cJ) [.ref m0, .int l9, .int r9, .int s9, .int t9] [(m0, .inr (9, [.int 0, .int 0, .ref a_row, .ref a_tape, .int 0, .int 0, .int 0, .int 0, .ref a_number, .ref a_read, .int 0, .ref a_readBits, .ref a_stands, .ref a_parted, .ref a_bitsWere, .ref a_stood, .ref a_chosen, .ref a_bestChosen, .int 0, .ref a_often, .ref a_sorted, .int 0, .ref a_risen, .ref a_risenWays])), (a_often, .inl (cI, 512, .inl (fun _ => (0 : Int32)))), (a_row, .inl (cJ, 64, .inr (.inl rf)))] (fun (r : Int32) (u : va_W) => (u = [] ∧ r = 0 ∧ l9.toInt = 0 ∧ r9.toInt = 0 ∧ s9.toInt = 0 ∧ t9.toInt = 0) ∨ (u = [] ∧ r = (-1) ∧ (l9.toInt < 0 ∨ r9.toInt < l9.toInt ∨ 0 < r9.toInt ∨ s9.toInt < 0 ∨ t9.toInt < s9.toInt ∨ 0 < t9.toInt))) := by
  refine ctI.of (cc := cX9_common) (maxL := 7) (ret := (some .int)) (by decide) rfl (Nat.le_of_ble_eq_true rfl) ?_
  intro p e s m below meth c ls A hx hb hr hts hown hml hlocks hname hA hK hN hP hD hS hl
  have hl : lv_has ls 7 [(0, .ref m0), (1, .int l9), (2, .int r9), (3, .int s9), (4, .int t9)] := hl
  have hown : s.vm.findClass RX9 = some m.cls := hown
  have hi9 : ∀ w ∈ u_ws RX9 TX9 24, w ∈ wsX9_common := by decide +kernel
  have fl1 := hts (.fieldLink RX9 1 "PlaneColumnModel" "thrown" "I") (by decide +kernel)
  have fl11 := hts (.fieldLink RX9 11 "PlaneColumnModel" "told" "I") (by decide +kernel)
  refine lv_aload_n hx hb dX9_common_0 rfl (lv_at hl 0 rfl) ?_
  refine lv_iconst (v := 0) hx hb dX9_common_1 (by decide +kernel) ?_
  refine va_put (ci := 9) (v := .int 0) (ty := (.int)) (C := RX9) (T := TX9) (N := 24) hx hb hts hi9 tyX9 tyX9_ok nmX9 hown hK hP hD hS 0 rfl rfl 0 (by decide) fl1 (fun _ h9 => h9) rfl (by decide +kernel) rfl rfl (Nat.le_of_ble_eq_true rfl) dX9_common_2 (fun H locs hP hD hS => ?_)
  have hP : va_P D vwCl [(m0, .inr (9, [.int 0, .int 0, .ref a_row, .ref a_tape, .int 0, .int 0, .int 0, .int 0, .ref a_number, .ref a_read, .int 0, .ref a_readBits, .ref a_stands, .ref a_parted, .ref a_bitsWere, .ref a_stood, .ref a_chosen, .ref a_bestChosen, .int 0, .ref a_often, .ref a_sorted, .int 0, .ref a_risen, .ref a_risenWays])), (a_often, .inl (cI, 512, .inl (fun _ => (0 : Int32)))), (a_row, .inl (cJ, 64, .inr (.inl rf)))] H := hP
  have hD : va_D A [(m0, .inr (9, [.int 0, .int 0, .ref a_row, .ref a_tape, .int 0, .int 0, .int 0, .int 0, .ref a_number, .ref a_read, .int 0, .ref a_readBits, .ref a_stands, .ref a_parted, .ref a_bitsWere, .ref a_stood, .ref a_chosen, .ref a_bestChosen, .int 0, .ref a_often, .ref a_sorted, .int 0, .ref a_risen, .ref a_risenWays])), (a_often, .inl (cI, 512, .inl (fun _ => (0 : Int32)))), (a_row, .inl (cJ, 64, .inr (.inl rf)))] := hD
  refine lv_aload_n hx hb dX9_common_5 rfl (lv_at hl 0 rfl) ?_
  refine lv_iload_n hx hb dX9_common_6 rfl (lv_at hl 1 rfl) ?_
  refine lv_iload_n hx hb dX9_common_7 rfl (lv_at hl 2 rfl) ?_
  refine lv_iload_n hx hb dX9_common_8 rfl (lv_at hl 3 rfl) ?_
  refine lv_iload hx hb dX9_common_9 (lv_at hl 4 rfl) ?_
  refine my_goI (wr := [(a_row, .inl (cJ, 64, .inr (.inl rf)))]) hP hD hS hA [0, 1] [2] rfl rfl (by decide) (by decide) (my_cV (As := [.int l9, .int r9, .int s9, .int t9]) (rest := []) (ci := 9) (wc := [(m0, .inr (9, [.int 0, .int 0, .ref a_row, .ref a_tape, .int 0, .int 0, .int 0, .int 0, .ref a_number, .ref a_read, .int 0, .ref a_readBits, .ref a_stands, .ref a_parted, .ref a_bitsWere, .ref a_stood, .ref a_chosen, .ref a_bestChosen, .int 0, .ref a_often, .ref a_sorted, .int 0, .ref a_risen, .ref a_risenWays])), (a_often, .inl (cI, 512, .inl (fun _ => (0 : Int32))))]) ⟨hx, hb, hml, hown, hts⟩ (cwV 4 hts gX9_common_X9_counts_ rfl rfl rfl (by decide +kernel) ⟨Nat.le_of_ble_eq_true rfl, Nat.le_of_ble_eq_true rfl⟩) hN hK hP hD [0, 1] rfl (by decide) rfl 0 rfl rfl rfl rfl hl.1 rfl (Nat.le_of_ble_eq_true rfl) dX9_common_11 ⟨Nat.le_of_ble_eq_true rfl, Nat.le_of_ble_eq_true rfl⟩  ((k0_X9_counts_ l D cI cJ m0 a_row a_tape a_number a_read a_readBits a_stands a_parted a_bitsWere a_stood a_chosen a_bestChosen a_often a_sorted a_risen a_risenWays (0 : Int32) (0 : Int32) (0 : Int32) (0 : Int32) (0 : Int32) (0 : Int32) (0 : Int32) (0 : Int32) l9 r9 s9 t9) _)) (fun r u H locs hp hP hD hS => ?_)
  rcases hp with ⟨rfl, rfl, rfl, rfl, rfl, rfl⟩ | ⟨rfl, rfl, ha_1⟩
  ·
    have hP : va_P D vwCl [(a_row, .inl (cJ, 64, .inr (.inl rf))), (m0, .inr (9, [.int 0, .int 0, .ref a_row, .ref a_tape, .int 0, .int 0, .int 0, .int 0, .ref a_number, .ref a_read, .int 0, .ref a_readBits, .ref a_stands, .ref a_parted, .ref a_bitsWere, .ref a_stood, .ref a_chosen, .ref a_bestChosen, .int 0, .ref a_often, .ref a_sorted, .int 0, .ref a_risen, .ref a_risenWays])), (a_often, .inl (cI, 512, .inl (fun _ => (0 : Int32))))] H := hP
    have hD : va_D A [(a_row, .inl (cJ, 64, .inr (.inl rf))), (m0, .inr (9, [.int 0, .int 0, .ref a_row, .ref a_tape, .int 0, .int 0, .int 0, .int 0, .ref a_number, .ref a_read, .int 0, .ref a_readBits, .ref a_stands, .ref a_parted, .ref a_bitsWere, .ref a_stood, .ref a_chosen, .ref a_bestChosen, .int 0, .ref a_often, .ref a_sorted, .int 0, .ref a_risen, .ref a_risenWays])), (a_often, .inl (cI, 512, .inl (fun _ => (0 : Int32))))] := hD
    refine lv_if_ne (tgt := 19) hx hb dX9_common_14 (by decide) (fun c14 => ?_) (fun c14 => ?_)
    ·
      refine lv_aload_n hx hb dX9_common_19 rfl (lv_at hl 0 rfl) ?_
      refine lv_iconst (v := 0) hx hb dX9_common_20 (by decide +kernel) ?_
      refine va_put (ci := 9) (v := .int 0) (ty := (.int)) (C := RX9) (T := TX9) (N := 24) hx hb hts hi9 tyX9 tyX9_ok nmX9 hown hK hP hD hS 1 rfl rfl 1 (by decide) fl11 (fun _ h9 => h9) rfl (by decide +kernel) rfl rfl (Nat.le_of_ble_eq_true rfl) dX9_common_21 (fun H locs hP hD hS => ?_)
      have hP : va_P D vwCl [(a_row, .inl (cJ, 64, .inr (.inl rf))), (m0, .inr (9, [.int 0, .int 0, .ref a_row, .ref a_tape, .int 0, .int 0, .int 0, .int 0, .ref a_number, .ref a_read, .int 0, .ref a_readBits, .ref a_stands, .ref a_parted, .ref a_bitsWere, .ref a_stood, .ref a_chosen, .ref a_bestChosen, .int 0, .ref a_often, .ref a_sorted, .int 0, .ref a_risen, .ref a_risenWays])), (a_often, .inl (cI, 512, .inl (fun _ => (0 : Int32))))] H := hP
      have hD : va_D A [(a_row, .inl (cJ, 64, .inr (.inl rf))), (m0, .inr (9, [.int 0, .int 0, .ref a_row, .ref a_tape, .int 0, .int 0, .int 0, .int 0, .ref a_number, .ref a_read, .int 0, .ref a_readBits, .ref a_stands, .ref a_parted, .ref a_bitsWere, .ref a_stood, .ref a_chosen, .ref a_bestChosen, .int 0, .ref a_often, .ref a_sorted, .int 0, .ref a_risen, .ref a_risenWays])), (a_often, .inl (cI, 512, .inl (fun _ => (0 : Int32))))] := hD
      refine lv_aload_n hx hb dX9_common_24 rfl (lv_at hl 0 rfl) ?_
      refine lv_aload_n hx hb dX9_common_25 rfl (lv_at hl 0 rfl) ?_
      refine lv_iconst (v := 1) hx hb dX9_common_26 (by decide +kernel) ?_
      refine lv_iconst (v := 1) hx hb dX9_common_27 (by decide +kernel) ?_
      refine my_gpI (my_pV (As := [.int 1, .int 1]) (rest := [.ref m0]) (ci := 9) ⟨hx, hb, hml, hown, hts⟩ (cwV 2 hts gX9_common_X9_nodes rfl rfl rfl (by decide +kernel) ⟨Nat.le_of_ble_eq_true rfl, Nat.le_of_ble_eq_true rfl⟩) hN hK hP [1, 2] rfl 1 rfl rfl rfl rfl hl.1 rfl (Nat.le_of_ble_eq_true rfl) dX9_common_28 ⟨Nat.le_of_ble_eq_true rfl, Nat.le_of_ble_eq_true rfl⟩  (k0_X9_nodes l D cI cJ m0 a_row a_tape a_number a_read a_readBits a_stands a_parted a_bitsWere a_stood a_chosen a_bestChosen a_often a_sorted a_risen a_risenWays (0 : Int32) (0 : Int32) (0 : Int32) (0 : Int32) (0 : Int32) (0 : Int32) (0 : Int32) (0 : Int32) (0 : Int32) (1 : Int32) (1 : Int32) (by first | omega | decide +kernel))) (fun r hp => ?_)
      obtain rfl := hp
      refine lv_i2l (v := 0) hx hb dX9_common_31 (by decide +kernel) ?_
      refine my_goV (wr := [(a_often, .inl (cI, 512, .inl (fun _ => (0 : Int32))))]) hP hD hS hA [1, 0] [2] rfl rfl (by decide) (by decide) (my_cV (As := [.long 0]) (rest := []) (ci := 9) (wc := [(m0, .inr (9, [.int 0, .int 0, .ref a_row, .ref a_tape, .int 0, .int 0, .int 0, .int 0, .ref a_number, .ref a_read, .int 0, .ref a_readBits, .ref a_stands, .ref a_parted, .ref a_bitsWere, .ref a_stood, .ref a_chosen, .ref a_bestChosen, .int 0, .ref a_often, .ref a_sorted, .int 0, .ref a_risen, .ref a_risenWays])), (a_row, .inl (cJ, 64, .inr (.inl rf)))]) ⟨hx, hb, hml, hown, hts⟩ (cwV 1 hts gX9_common_X9_enters rfl rfl rfl (by decide +kernel) ⟨Nat.le_of_ble_eq_true rfl, Nat.le_of_ble_eq_true rfl⟩) hN hK hP hD [1, 0] rfl (by decide) rfl 1 rfl rfl rfl rfl hl.1 rfl (Nat.le_of_ble_eq_true rfl) dX9_common_32 ⟨Nat.le_of_ble_eq_true rfl, Nat.le_of_ble_eq_true rfl⟩  ((k_X9_enters l D cI cJ m0 a_row a_tape a_number a_read a_readBits a_stands a_parted a_bitsWere a_stood a_chosen a_bestChosen a_often a_sorted a_risen a_risenWays (0 : Int32) (0 : Int32) (0 : Int32) (0 : Int32) (0 : Int32) (0 : Int32) (0 : Int32) (0 : Int32) 0 rf (0 : Int64) (by first | omega | decide +kernel)) _)) (fun u H locs hp hP hD hS => ?_)
      obtain ⟨f_2, rfl⟩ := hp
      have hP : va_P D vwCl [(a_often, .inl (cI, 512, .inl (fun _ => (0 : Int32)))), (m0, .inr (9, [.int 0, .int 1, .ref a_row, .ref a_tape, .int 0, .int 0, .int 0, .int 0, .ref a_number, .ref a_read, .int 0, .ref a_readBits, .ref a_stands, .ref a_parted, .ref a_bitsWere, .ref a_stood, .ref a_chosen, .ref a_bestChosen, .int 0, .ref a_often, .ref a_sorted, .int 0, .ref a_risen, .ref a_risenWays])), (a_row, .inl (cJ, 64, .inr (.inl f_2)))] H := hP
      have hD : va_D A [(a_often, .inl (cI, 512, .inl (fun _ => (0 : Int32)))), (m0, .inr (9, [.int 0, .int 1, .ref a_row, .ref a_tape, .int 0, .int 0, .int 0, .int 0, .ref a_number, .ref a_read, .int 0, .ref a_readBits, .ref a_stands, .ref a_parted, .ref a_bitsWere, .ref a_stood, .ref a_chosen, .ref a_bestChosen, .int 0, .ref a_often, .ref a_sorted, .int 0, .ref a_risen, .ref a_risenWays])), (a_row, .inl (cJ, 64, .inr (.inl f_2)))] := hD
      refine lv_iconst (v := 0) hx hb dX9_common_35 (by decide +kernel) ?_
      refine lv_istore (lv' := [(5, .int 0), (0, .ref m0), (1, .int 0), (2, .int 0), (3, .int 0), (4, .int 0)]) hx hb dX9_common_36 hl (by decide) rfl (fun ls hl => ?_)
      refine lv_iconst (v := 0) hx hb dX9_common_38 (by decide +kernel) ?_
      refine lv_istore (lv' := [(6, .int 0), (5, .int 0), (0, .ref m0), (1, .int 0), (2, .int 0), (3, .int 0), (4, .int 0)]) hx hb dX9_common_39 hl (by decide) rfl (fun ls hl => ?_)
      have loop41 : ∀ (n9 : Nat) (k : Nat), 256 - k < n9 → (k ≤ 256) → ∀ (H : Heap) (locs : List Loc) (ls : Array Slot), va_P D vwCl [(m0, .inr (9, [.int 0, .int 1, .ref a_row, .ref a_tape, .int 0, .int 0, .int 0, .int 0, .ref a_number, .ref a_read, .int 0, .ref a_readBits, .ref a_stands, .ref a_parted, .ref a_bitsWere, .ref a_stood, .ref a_chosen, .ref a_bestChosen, .int 0, .ref a_often, .ref a_sorted, .int 0, .ref a_risen, .ref a_risenWays])), (a_often, .inl (cI, 512, .inl (fun _ => (0 : Int32))))] H → va_D A [(m0, .inr (9, [.int 0, .int 1, .ref a_row, .ref a_tape, .int 0, .int 0, .int 0, .int 0, .ref a_number, .ref a_read, .int 0, .ref a_readBits, .ref a_stands, .ref a_parted, .ref a_bitsWere, .ref a_stood, .ref a_chosen, .ref a_bestChosen, .int 0, .ref a_often, .ref a_sorted, .int 0, .ref a_risen, .ref a_risenWays])), (a_often, .inl (cI, 512, .inl (fun _ => (0 : Int32))))] → va_S A s.heap H locs → lv_has ls 7 [(6, .int (nI k)), (5, .int 0), (0, .ref m0)] → W p l e ({ frames := 3, cells := 0, slots := 0, locals := 180 } : Room) s m [.ref m0, .int (0 : Int32), .int (0 : Int32), .int (0 : Int32), .int (0 : Int32)].toArray below meth c H locs 0 0 (MQ below (va_Qi (fun (r : Int32) (u : va_W) => (u = [] ∧ r = 0 ∧ (0 : Int32).toInt = 0 ∧ (0 : Int32).toInt = 0 ∧ (0 : Int32).toInt = 0 ∧ (0 : Int32).toInt = 0) ∨ (u = [] ∧ r = (-1) ∧ ((0 : Int32).toInt < 0 ∨ (0 : Int32).toInt < (0 : Int32).toInt ∨ 0 < (0 : Int32).toInt ∨ (0 : Int32).toInt < 0 ∨ (0 : Int32).toInt < (0 : Int32).toInt ∨ 0 < (0 : Int32).toInt))) (my_B D (tyIJ cI cJ) A) A) [.ref m0, .int (0 : Int32), .int (0 : Int32), .int (0 : Int32), .int (0 : Int32)].toArray s 0 0 A) (F0 m 41 ls []) := by
        intro n9
        induction n9 with
        | zero =>
          intro k hn9
          exact absurd hn9 (Nat.not_lt_zero _)
        | succ n9 ih41 =>
          intro k hn9 hk H locs ls hP hD hS hl
          refine lv_iload hx hb dX9_common_41 (lv_at hl 0 rfl) ?_
          refine lv_sipush (v := 256) hx hb dX9_common_43 (by decide +kernel) ?_
          refine lv_icmp_ge (tgt := 116) hx hb dX9_common_46 (by decide) (fun c46 => ?_) (fun c46 => ?_)
          ·
            have d46 : ((k : Nat) : Int) ≥ (256 : Int) := my_ge c46 (nI_toInt (by omega)) (by decide +kernel)
            refine lv_iload hx hb dX9_common_116 (lv_at hl 1 rfl) ?_
            exact my_retI hx hb hr hlocks hK hS [] (hP.sub [] rfl) (hD.sub [] (by decide) rfl) (Or.inl ⟨rfl, rfl, (by first | omega | assumption | trivial | decide +kernel), (by first | omega | assumption | trivial | decide +kernel), (by first | omega | assumption | trivial | decide +kernel), (by first | omega | assumption | trivial | decide +kernel)⟩) dX9_common_118
          ·
            have d46 : ((k : Nat) : Int) < (256 : Int) := my_nge c46 (nI_toInt (by omega)) (by decide +kernel)
            refine lv_aload_n hx hb dX9_common_49 rfl (lv_at hl 2 rfl) ?_
            refine lv_iconst (v := 0) hx hb dX9_common_50 (by decide +kernel) ?_
            refine lv_iload hx hb dX9_common_51 (lv_at hl 0 rfl) ?_
            refine my_gpI (my_pV (As := [.int 0, .int (nI k)]) (rest := []) (ci := 9) ⟨hx, hb, hml, hown, hts⟩ (cwV 2 hts gX9_common_X9_times rfl rfl rfl (by decide +kernel) ⟨Nat.le_of_ble_eq_true rfl, Nat.le_of_ble_eq_true rfl⟩) hN hK hP [0, 1] rfl 0 rfl rfl rfl rfl hl.1 rfl (Nat.le_of_ble_eq_true rfl) dX9_common_53 ⟨Nat.le_of_ble_eq_true rfl, Nat.le_of_ble_eq_true rfl⟩  (k0_X9_times l D cI cJ m0 a_row a_tape a_number a_read a_readBits a_stands a_parted a_bitsWere a_stood a_chosen a_bestChosen a_often a_sorted a_risen a_risenWays (0 : Int32) (1 : Int32) (0 : Int32) (0 : Int32) (0 : Int32) (0 : Int32) (0 : Int32) (0 : Int32) (0 : Int32) (nI k) (by rw [nI_toInt (by omega)]; omega) (by rw [nI_toInt (by omega)]; omega))) (fun r hp => ?_)
            obtain rfl := hp
            refine lv_if_le (tgt := 110) hx hb dX9_common_56 (by decide) (fun c56 => ?_) (fun c56 => ?_)
            ·
              refine lv_iinc (v := nI (k + 1)) (lv' := [(6, .int (nI (k + 1))), (5, .int 0), (0, .ref m0)]) hx hb dX9_common_110 hl (k := 0) rfl (my_incN k 1 (by decide +kernel)) (by decide) rfl (fun ls hl => ?_)
              refine lv_goto (tgt := 41) hx hb dX9_common_113 (by decide) ?_
              exact ih41  (k + 1) (by omega) (by omega) _ _ ls (hP.sub [0, 1] rfl) (hD.sub [0, 1] (by decide) rfl) hS (lv_sub hl [0, 1, 2] rfl)
            ·
              exact absurd c56 (by decide +kernel)
      exact loop41 ((256 - 0) + 1) 0 (Nat.lt_succ_self _) (by first | omega | decide +kernel) _ _ ls (hP.sub [1, 0] rfl) (hD.sub [1, 0] (by decide) rfl) hS (lv_sub hl [0, 1, 2] rfl)
    ·
      exact absurd c14 (by decide +kernel)
  ·
    have hP : va_P D vwCl [(a_row, .inl (cJ, 64, .inr (.inl rf)))] H := hP
    have hD : va_D A [(a_row, .inl (cJ, 64, .inr (.inl rf)))] := hD
    refine lv_if_ne (tgt := 19) hx hb dX9_common_14 (by decide) (fun c14 => ?_) (fun c14 => ?_)
    ·
      exact absurd c14 (by decide +kernel)
    ·
      refine lv_iconst (v := (-1)) hx hb dX9_common_17 (by decide +kernel) ?_
      exact my_retI hx hb hr hlocks hK hS [] (hP.sub [] rfl) (hD.sub [] (by decide) rfl) (Or.inr (⟨rfl, rfl, (by first | omega | assumption | trivial | decide +kernel)⟩)) dX9_common_18
set_option maxHeartbeats 4000000 in
set_option maxRecDepth 100000 in
theorem k0_X9_lacking (l : Launch) (D : va_G) (cI cJ : ClassId) (m0 : Nat) (a_row : Nat) (a_tape : Nat) (a_number : Nat) (a_read : Nat) (a_readBits : Nat) (a_stands : Nat) (a_parted : Nat) (a_bitsWere : Nat) (a_stood : Nat) (a_chosen : Nat) (a_bestChosen : Nat) (a_often : Nat) (a_sorted : Nat) (a_risen : Nat) (a_risenWays : Nat) (rf : Nat → Int64) (l9 : Int32) (r9 : Int32) (s9 : Int32) (t9 : Int32) : ctI l yX9_lacking wsX9_lacking ({ frames := 2, cells := 0, slots := 0, locals := 120 } : Room) D (tyIJ cI cJ) [.ref m0, .int l9, .int r9, .int s9, .int t9] [(m0, .inr (9, [.int 0, .int 0, .ref a_row, .ref a_tape, .int 0, .int 0, .int 0, .int 0, .ref a_number, .ref a_read, .int 0, .ref a_readBits, .ref a_stands, .ref a_parted, .ref a_bitsWere, .ref a_stood, .ref a_chosen, .ref a_bestChosen, .int 0, .ref a_often, .ref a_sorted, .int 0, .ref a_risen, .ref a_risenWays])), (a_often, .inl (cI, 512, .inl (fun _ => (0 : Int32)))), (a_row, .inl (cJ, 64, .inr (.inl rf)))] (fun (r : Int32) (u : va_W) => (u = [] ∧ r = 0 ∧ l9.toInt = 0 ∧ r9.toInt = 0 ∧ s9.toInt = 0 ∧ t9.toInt = 0) ∨ (u = [] ∧ r = (-1) ∧ (l9.toInt < 0 ∨ r9.toInt < l9.toInt ∨ 0 < r9.toInt ∨ s9.toInt < 0 ∨ t9.toInt < s9.toInt ∨ 0 < t9.toInt))) := by
  refine ctI.of (cc := cX9_lacking) (maxL := 7) (ret := (some .int)) (by decide) rfl (Nat.le_of_ble_eq_true rfl) ?_
  intro p e s m below meth c ls A hx hb hr hts hown hml hlocks hname hA hK hN hP hD hS hl
  have hl : lv_has ls 7 [(0, .ref m0), (1, .int l9), (2, .int r9), (3, .int s9), (4, .int t9)] := hl
  have hown : s.vm.findClass RX9 = some m.cls := hown
  have hi9 : ∀ w ∈ u_ws RX9 TX9 24, w ∈ wsX9_lacking := by decide +kernel
  have fl1 := hts (.fieldLink RX9 1 "PlaneColumnModel" "thrown" "I") (by decide +kernel)
  have fl11 := hts (.fieldLink RX9 11 "PlaneColumnModel" "told" "I") (by decide +kernel)
  refine lv_aload_n hx hb dX9_lacking_0 rfl (lv_at hl 0 rfl) ?_
  refine lv_iconst (v := 0) hx hb dX9_lacking_1 (by decide +kernel) ?_
  refine va_put (ci := 9) (v := .int 0) (ty := (.int)) (C := RX9) (T := TX9) (N := 24) hx hb hts hi9 tyX9 tyX9_ok nmX9 hown hK hP hD hS 0 rfl rfl 0 (by decide) fl1 (fun _ h9 => h9) rfl (by decide +kernel) rfl rfl (Nat.le_of_ble_eq_true rfl) dX9_lacking_2 (fun H locs hP hD hS => ?_)
  have hP : va_P D vwCl [(m0, .inr (9, [.int 0, .int 0, .ref a_row, .ref a_tape, .int 0, .int 0, .int 0, .int 0, .ref a_number, .ref a_read, .int 0, .ref a_readBits, .ref a_stands, .ref a_parted, .ref a_bitsWere, .ref a_stood, .ref a_chosen, .ref a_bestChosen, .int 0, .ref a_often, .ref a_sorted, .int 0, .ref a_risen, .ref a_risenWays])), (a_often, .inl (cI, 512, .inl (fun _ => (0 : Int32)))), (a_row, .inl (cJ, 64, .inr (.inl rf)))] H := hP
  have hD : va_D A [(m0, .inr (9, [.int 0, .int 0, .ref a_row, .ref a_tape, .int 0, .int 0, .int 0, .int 0, .ref a_number, .ref a_read, .int 0, .ref a_readBits, .ref a_stands, .ref a_parted, .ref a_bitsWere, .ref a_stood, .ref a_chosen, .ref a_bestChosen, .int 0, .ref a_often, .ref a_sorted, .int 0, .ref a_risen, .ref a_risenWays])), (a_often, .inl (cI, 512, .inl (fun _ => (0 : Int32)))), (a_row, .inl (cJ, 64, .inr (.inl rf)))] := hD
  refine lv_aload_n hx hb dX9_lacking_5 rfl (lv_at hl 0 rfl) ?_
  refine lv_iload_n hx hb dX9_lacking_6 rfl (lv_at hl 1 rfl) ?_
  refine lv_iload_n hx hb dX9_lacking_7 rfl (lv_at hl 2 rfl) ?_
  refine lv_iload_n hx hb dX9_lacking_8 rfl (lv_at hl 3 rfl) ?_
  refine lv_iload hx hb dX9_lacking_9 (lv_at hl 4 rfl) ?_
  refine my_goI (wr := [(a_row, .inl (cJ, 64, .inr (.inl rf)))]) hP hD hS hA [0, 1] [2] rfl rfl (by decide) (by decide) (my_cV (As := [.int l9, .int r9, .int s9, .int t9]) (rest := []) (ci := 9) (wc := [(m0, .inr (9, [.int 0, .int 0, .ref a_row, .ref a_tape, .int 0, .int 0, .int 0, .int 0, .ref a_number, .ref a_read, .int 0, .ref a_readBits, .ref a_stands, .ref a_parted, .ref a_bitsWere, .ref a_stood, .ref a_chosen, .ref a_bestChosen, .int 0, .ref a_often, .ref a_sorted, .int 0, .ref a_risen, .ref a_risenWays])), (a_often, .inl (cI, 512, .inl (fun _ => (0 : Int32))))]) ⟨hx, hb, hml, hown, hts⟩ (cwV 4 hts gX9_lacking_X9_counts_ rfl rfl rfl (by decide +kernel) ⟨Nat.le_of_ble_eq_true rfl, Nat.le_of_ble_eq_true rfl⟩) hN hK hP hD [0, 1] rfl (by decide) rfl 0 rfl rfl rfl rfl hl.1 rfl (Nat.le_of_ble_eq_true rfl) dX9_lacking_11 ⟨Nat.le_of_ble_eq_true rfl, Nat.le_of_ble_eq_true rfl⟩  ((k0_X9_counts_ l D cI cJ m0 a_row a_tape a_number a_read a_readBits a_stands a_parted a_bitsWere a_stood a_chosen a_bestChosen a_often a_sorted a_risen a_risenWays (0 : Int32) (0 : Int32) (0 : Int32) (0 : Int32) (0 : Int32) (0 : Int32) (0 : Int32) (0 : Int32) l9 r9 s9 t9) _)) (fun r u H locs hp hP hD hS => ?_)
  rcases hp with ⟨rfl, rfl, rfl, rfl, rfl, rfl⟩ | ⟨rfl, rfl, ha_1⟩
  ·
    have hP : va_P D vwCl [(a_row, .inl (cJ, 64, .inr (.inl rf))), (m0, .inr (9, [.int 0, .int 0, .ref a_row, .ref a_tape, .int 0, .int 0, .int 0, .int 0, .ref a_number, .ref a_read, .int 0, .ref a_readBits, .ref a_stands, .ref a_parted, .ref a_bitsWere, .ref a_stood, .ref a_chosen, .ref a_bestChosen, .int 0, .ref a_often, .ref a_sorted, .int 0, .ref a_risen, .ref a_risenWays])), (a_often, .inl (cI, 512, .inl (fun _ => (0 : Int32))))] H := hP
    have hD : va_D A [(a_row, .inl (cJ, 64, .inr (.inl rf))), (m0, .inr (9, [.int 0, .int 0, .ref a_row, .ref a_tape, .int 0, .int 0, .int 0, .int 0, .ref a_number, .ref a_read, .int 0, .ref a_readBits, .ref a_stands, .ref a_parted, .ref a_bitsWere, .ref a_stood, .ref a_chosen, .ref a_bestChosen, .int 0, .ref a_often, .ref a_sorted, .int 0, .ref a_risen, .ref a_risenWays])), (a_often, .inl (cI, 512, .inl (fun _ => (0 : Int32))))] := hD
    refine lv_if_ne (tgt := 19) hx hb dX9_lacking_14 (by decide) (fun c14 => ?_) (fun c14 => ?_)
    ·
      refine lv_aload_n hx hb dX9_lacking_19 rfl (lv_at hl 0 rfl) ?_
      refine lv_iconst (v := 0) hx hb dX9_lacking_20 (by decide +kernel) ?_
      refine va_put (ci := 9) (v := .int 0) (ty := (.int)) (C := RX9) (T := TX9) (N := 24) hx hb hts hi9 tyX9 tyX9_ok nmX9 hown hK hP hD hS 1 rfl rfl 1 (by decide) fl11 (fun _ h9 => h9) rfl (by decide +kernel) rfl rfl (Nat.le_of_ble_eq_true rfl) dX9_lacking_21 (fun H locs hP hD hS => ?_)
      have hP : va_P D vwCl [(a_row, .inl (cJ, 64, .inr (.inl rf))), (m0, .inr (9, [.int 0, .int 0, .ref a_row, .ref a_tape, .int 0, .int 0, .int 0, .int 0, .ref a_number, .ref a_read, .int 0, .ref a_readBits, .ref a_stands, .ref a_parted, .ref a_bitsWere, .ref a_stood, .ref a_chosen, .ref a_bestChosen, .int 0, .ref a_often, .ref a_sorted, .int 0, .ref a_risen, .ref a_risenWays])), (a_often, .inl (cI, 512, .inl (fun _ => (0 : Int32))))] H := hP
      have hD : va_D A [(a_row, .inl (cJ, 64, .inr (.inl rf))), (m0, .inr (9, [.int 0, .int 0, .ref a_row, .ref a_tape, .int 0, .int 0, .int 0, .int 0, .ref a_number, .ref a_read, .int 0, .ref a_readBits, .ref a_stands, .ref a_parted, .ref a_bitsWere, .ref a_stood, .ref a_chosen, .ref a_bestChosen, .int 0, .ref a_often, .ref a_sorted, .int 0, .ref a_risen, .ref a_risenWays])), (a_often, .inl (cI, 512, .inl (fun _ => (0 : Int32))))] := hD
      refine lv_iconst (v := 0) hx hb dX9_lacking_24 (by decide +kernel) ?_
      refine lv_istore (lv' := [(5, .int 0), (0, .ref m0), (1, .int 0), (2, .int 0), (3, .int 0), (4, .int 0)]) hx hb dX9_lacking_25 hl (by decide) rfl (fun ls hl => ?_)
      refine lv_iconst (v := 0) hx hb dX9_lacking_27 (by decide +kernel) ?_
      refine lv_istore (lv' := [(6, .int 0), (5, .int 0), (0, .ref m0), (1, .int 0), (2, .int 0), (3, .int 0), (4, .int 0)]) hx hb dX9_lacking_28 hl (by decide) rfl (fun ls hl => ?_)
      have loop30 : ∀ (n9 : Nat) (k : Nat), 256 - k < n9 → (k ≤ 256) → ∀ (H : Heap) (locs : List Loc) (ls : Array Slot), va_P D vwCl [(m0, .inr (9, [.int 0, .int 0, .ref a_row, .ref a_tape, .int 0, .int 0, .int 0, .int 0, .ref a_number, .ref a_read, .int 0, .ref a_readBits, .ref a_stands, .ref a_parted, .ref a_bitsWere, .ref a_stood, .ref a_chosen, .ref a_bestChosen, .int 0, .ref a_often, .ref a_sorted, .int 0, .ref a_risen, .ref a_risenWays])), (a_often, .inl (cI, 512, .inl (fun _ => (0 : Int32))))] H → va_D A [(m0, .inr (9, [.int 0, .int 0, .ref a_row, .ref a_tape, .int 0, .int 0, .int 0, .int 0, .ref a_number, .ref a_read, .int 0, .ref a_readBits, .ref a_stands, .ref a_parted, .ref a_bitsWere, .ref a_stood, .ref a_chosen, .ref a_bestChosen, .int 0, .ref a_often, .ref a_sorted, .int 0, .ref a_risen, .ref a_risenWays])), (a_often, .inl (cI, 512, .inl (fun _ => (0 : Int32))))] → va_S A s.heap H locs → lv_has ls 7 [(6, .int (nI k)), (5, .int 0), (0, .ref m0)] → W p l e ({ frames := 2, cells := 0, slots := 0, locals := 120 } : Room) s m [.ref m0, .int (0 : Int32), .int (0 : Int32), .int (0 : Int32), .int (0 : Int32)].toArray below meth c H locs 0 0 (MQ below (va_Qi (fun (r : Int32) (u : va_W) => (u = [] ∧ r = 0 ∧ (0 : Int32).toInt = 0 ∧ (0 : Int32).toInt = 0 ∧ (0 : Int32).toInt = 0 ∧ (0 : Int32).toInt = 0) ∨ (u = [] ∧ r = (-1) ∧ ((0 : Int32).toInt < 0 ∨ (0 : Int32).toInt < (0 : Int32).toInt ∨ 0 < (0 : Int32).toInt ∨ (0 : Int32).toInt < 0 ∨ (0 : Int32).toInt < (0 : Int32).toInt ∨ 0 < (0 : Int32).toInt))) (my_B D (tyIJ cI cJ) A) A) [.ref m0, .int (0 : Int32), .int (0 : Int32), .int (0 : Int32), .int (0 : Int32)].toArray s 0 0 A) (F0 m 30 ls []) := by
        intro n9
        induction n9 with
        | zero =>
          intro k hn9
          exact absurd hn9 (Nat.not_lt_zero _)
        | succ n9 ih30 =>
          intro k hn9 hk H locs ls hP hD hS hl
          refine lv_iload hx hb dX9_lacking_30 (lv_at hl 0 rfl) ?_
          refine lv_sipush (v := 256) hx hb dX9_lacking_32 (by decide +kernel) ?_
          refine lv_icmp_ge (tgt := 93) hx hb dX9_lacking_35 (by decide) (fun c35 => ?_) (fun c35 => ?_)
          ·
            have d35 : ((k : Nat) : Int) ≥ (256 : Int) := my_ge c35 (nI_toInt (by omega)) (by decide +kernel)
            refine lv_iload hx hb dX9_lacking_93 (lv_at hl 1 rfl) ?_
            exact my_retI hx hb hr hlocks hK hS [] (hP.sub [] rfl) (hD.sub [] (by decide) rfl) (Or.inl ⟨rfl, rfl, (by first | omega | assumption | trivial | decide +kernel), (by first | omega | assumption | trivial | decide +kernel), (by first | omega | assumption | trivial | decide +kernel), (by first | omega | assumption | trivial | decide +kernel)⟩) dX9_lacking_95
          ·
            have d35 : ((k : Nat) : Int) < (256 : Int) := my_nge c35 (nI_toInt (by omega)) (by decide +kernel)
            refine lv_aload_n hx hb dX9_lacking_38 rfl (lv_at hl 2 rfl) ?_
            refine lv_iconst (v := 0) hx hb dX9_lacking_39 (by decide +kernel) ?_
            refine lv_iload hx hb dX9_lacking_40 (lv_at hl 0 rfl) ?_
            refine my_gpI (my_pV (As := [.int 0, .int (nI k)]) (rest := []) (ci := 9) ⟨hx, hb, hml, hown, hts⟩ (cwV 2 hts gX9_lacking_X9_times rfl rfl rfl (by decide +kernel) ⟨Nat.le_of_ble_eq_true rfl, Nat.le_of_ble_eq_true rfl⟩) hN hK hP [0, 1] rfl 0 rfl rfl rfl rfl hl.1 rfl (Nat.le_of_ble_eq_true rfl) dX9_lacking_42 ⟨Nat.le_of_ble_eq_true rfl, Nat.le_of_ble_eq_true rfl⟩  (k0_X9_times l D cI cJ m0 a_row a_tape a_number a_read a_readBits a_stands a_parted a_bitsWere a_stood a_chosen a_bestChosen a_often a_sorted a_risen a_risenWays (0 : Int32) (0 : Int32) (0 : Int32) (0 : Int32) (0 : Int32) (0 : Int32) (0 : Int32) (0 : Int32) (0 : Int32) (nI k) (by rw [nI_toInt (by omega)]; omega) (by rw [nI_toInt (by omega)]; omega))) (fun r hp => ?_)
            obtain rfl := hp
            refine lv_if_le (tgt := 87) hx hb dX9_lacking_45 (by decide) (fun c45 => ?_) (fun c45 => ?_)
            ·
              refine lv_iinc (v := nI (k + 1)) (lv' := [(6, .int (nI (k + 1))), (5, .int 0), (0, .ref m0)]) hx hb dX9_lacking_87 hl (k := 0) rfl (my_incN k 1 (by decide +kernel)) (by decide) rfl (fun ls hl => ?_)
              refine lv_goto (tgt := 30) hx hb dX9_lacking_90 (by decide) ?_
              exact ih30  (k + 1) (by omega) (by omega) _ _ ls (hP.sub [0, 1] rfl) (hD.sub [0, 1] (by decide) rfl) hS (lv_sub hl [0, 1, 2] rfl)
            ·
              exact absurd c45 (by decide +kernel)
      exact loop30 ((256 - 0) + 1) 0 (Nat.lt_succ_self _) (by first | omega | decide +kernel) _ _ ls (hP.sub [1, 2] rfl) (hD.sub [1, 2] (by decide) rfl) hS (lv_sub hl [0, 1, 2] rfl)
    ·
      exact absurd c14 (by decide +kernel)
  ·
    have hP : va_P D vwCl [(a_row, .inl (cJ, 64, .inr (.inl rf)))] H := hP
    have hD : va_D A [(a_row, .inl (cJ, 64, .inr (.inl rf)))] := hD
    refine lv_if_ne (tgt := 19) hx hb dX9_lacking_14 (by decide) (fun c14 => ?_) (fun c14 => ?_)
    ·
      exact absurd c14 (by decide +kernel)
    ·
      refine lv_iconst (v := (-1)) hx hb dX9_lacking_17 (by decide +kernel) ?_
      exact my_retI hx hb hr hlocks hK hS [] (hP.sub [] rfl) (hD.sub [] (by decide) rfl) (Or.inr (⟨rfl, rfl, (by first | omega | assumption | trivial | decide +kernel)⟩)) dX9_lacking_18
set_option maxHeartbeats 4000000 in
set_option maxRecDepth 100000 in
theorem k0_X9_both (l : Launch) (D : va_G) (cI cJ : ClassId) (m0 : Nat) (a_row : Nat) (a_tape : Nat) (a_number : Nat) (a_read : Nat) (a_readBits : Nat) (a_stands : Nat) (a_parted : Nat) (a_bitsWere : Nat) (a_stood : Nat) (a_chosen : Nat) (a_bestChosen : Nat) (a_often : Nat) (a_sorted : Nat) (a_risen : Nat) (a_risenWays : Nat) (l9 : Int32) (r9 : Int32) (s9 : Int32) (t9 : Int32) (k9 : Int32) : ctI l yX9_both wsX9_both ({ frames := 1, cells := 0, slots := 0, locals := 60 } : Room) D (tyIJ cI cJ) [.ref m0, .int l9, .int r9, .int s9, .int t9, .int k9] [(m0, .inr (9, [.int 0, .int 0, .ref a_row, .ref a_tape, .int 0, .int 0, .int 0, .int 0, .ref a_number, .ref a_read, .int 0, .ref a_readBits, .ref a_stands, .ref a_parted, .ref a_bitsWere, .ref a_stood, .ref a_chosen, .ref a_bestChosen, .int 0, .ref a_often, .ref a_sorted, .int 0, .ref a_risen, .ref a_risenWays]))] (fun (r : Int32) (u : va_W) => (u = [] ∧ r = (-2) ∧ l9.toInt = 0 ∧ r9.toInt = 0 ∧ s9.toInt = 0 ∧ t9.toInt = 0 ∧ 0 ≤ k9.toInt) ∨ (u = [] ∧ r = (-1) ∧ (l9.toInt < 0 ∨ r9.toInt < l9.toInt ∨ 0 < r9.toInt ∨ s9.toInt < 0 ∨ t9.toInt < s9.toInt ∨ 0 < t9.toInt ∨ k9.toInt < 0))) := by
  refine ctI.of (cc := cX9_both) (maxL := 9) (ret := (some .int)) (by decide) rfl (Nat.le_of_ble_eq_true rfl) ?_
  intro p e s m below meth c ls A hx hb hr hts hown hml hlocks hname hA hK hN hP hD hS hl
  have hl : lv_has ls 9 [(0, .ref m0), (1, .int l9), (2, .int r9), (3, .int s9), (4, .int t9), (5, .int k9)] := hl
  have hown : s.vm.findClass RX9 = some m.cls := hown
  have hi9 : ∀ w ∈ u_ws RX9 TX9 24, w ∈ wsX9_both := by decide +kernel
  have fl1 := hts (.fieldLink RX9 1 "PlaneColumnModel" "thrown" "I") (by decide +kernel)
  refine lv_aload_n hx hb dX9_both_0 rfl (lv_at hl 0 rfl) ?_
  refine lv_iconst (v := 0) hx hb dX9_both_1 (by decide +kernel) ?_
  refine va_put (ci := 9) (v := .int 0) (ty := (.int)) (C := RX9) (T := TX9) (N := 24) hx hb hts hi9 tyX9 tyX9_ok nmX9 hown hK hP hD hS 0 rfl rfl 0 (by decide) fl1 (fun _ h9 => h9) rfl (by decide +kernel) rfl rfl (Nat.le_of_ble_eq_true rfl) dX9_both_2 (fun H locs hP hD hS => ?_)
  have hP : va_P D vwCl [(m0, .inr (9, [.int 0, .int 0, .ref a_row, .ref a_tape, .int 0, .int 0, .int 0, .int 0, .ref a_number, .ref a_read, .int 0, .ref a_readBits, .ref a_stands, .ref a_parted, .ref a_bitsWere, .ref a_stood, .ref a_chosen, .ref a_bestChosen, .int 0, .ref a_often, .ref a_sorted, .int 0, .ref a_risen, .ref a_risenWays]))] H := hP
  have hD : va_D A [(m0, .inr (9, [.int 0, .int 0, .ref a_row, .ref a_tape, .int 0, .int 0, .int 0, .int 0, .ref a_number, .ref a_read, .int 0, .ref a_readBits, .ref a_stands, .ref a_parted, .ref a_bitsWere, .ref a_stood, .ref a_chosen, .ref a_bestChosen, .int 0, .ref a_often, .ref a_sorted, .int 0, .ref a_risen, .ref a_risenWays]))] := hD
  refine lv_aload_n hx hb dX9_both_5 rfl (lv_at hl 0 rfl) ?_
  refine lv_iload_n hx hb dX9_both_6 rfl (lv_at hl 1 rfl) ?_
  refine lv_iload_n hx hb dX9_both_7 rfl (lv_at hl 2 rfl) ?_
  refine my_gpI (my_pV (As := [.int l9, .int r9]) (rest := []) (ci := 9) ⟨hx, hb, hml, hown, hts⟩ (cwV 2 hts gX9_both_X9_isSpan rfl rfl rfl (by decide +kernel) ⟨Nat.le_of_ble_eq_true rfl, Nat.le_of_ble_eq_true rfl⟩) hN hK hP [0] rfl 0 rfl rfl rfl rfl hl.1 rfl (Nat.le_of_ble_eq_true rfl) dX9_both_8 ⟨Nat.le_of_ble_eq_true rfl, Nat.le_of_ble_eq_true rfl⟩  (k0_X9_isSpan l D cI cJ m0 a_row a_tape a_number a_read a_readBits a_stands a_parted a_bitsWere a_stood a_chosen a_bestChosen a_often a_sorted a_risen a_risenWays (0 : Int32) (0 : Int32) (0 : Int32) (0 : Int32) (0 : Int32) (0 : Int32) (0 : Int32) (0 : Int32) l9 r9)) (fun r hp => ?_)
  rcases hp with ⟨rfl, rfl, rfl⟩ | ⟨rfl, ha_1⟩
  ·
    refine lv_if_eq (tgt := 29) hx hb dX9_both_11 (by decide) (fun c11 => ?_) (fun c11 => ?_)
    ·
      exact absurd c11 (by decide +kernel)
    ·
      refine lv_aload_n hx hb dX9_both_14 rfl (lv_at hl 0 rfl) ?_
      refine lv_iload_n hx hb dX9_both_15 rfl (lv_at hl 3 rfl) ?_
      refine lv_iload hx hb dX9_both_16 (lv_at hl 4 rfl) ?_
      refine my_gpI (my_pV (As := [.int s9, .int t9]) (rest := []) (ci := 9) ⟨hx, hb, hml, hown, hts⟩ (cwV 2 hts gX9_both_X9_isSpan rfl rfl rfl (by decide +kernel) ⟨Nat.le_of_ble_eq_true rfl, Nat.le_of_ble_eq_true rfl⟩) hN hK hP [0] rfl 0 rfl rfl rfl rfl hl.1 rfl (Nat.le_of_ble_eq_true rfl) dX9_both_18 ⟨Nat.le_of_ble_eq_true rfl, Nat.le_of_ble_eq_true rfl⟩  (k0_X9_isSpan l D cI cJ m0 a_row a_tape a_number a_read a_readBits a_stands a_parted a_bitsWere a_stood a_chosen a_bestChosen a_often a_sorted a_risen a_risenWays (0 : Int32) (0 : Int32) (0 : Int32) (0 : Int32) (0 : Int32) (0 : Int32) (0 : Int32) (0 : Int32) s9 t9)) (fun r hp => ?_)
      rcases hp with ⟨rfl, rfl, rfl⟩ | ⟨rfl, ha_2⟩
      ·
        refine lv_if_eq (tgt := 29) hx hb dX9_both_21 (by decide) (fun c21 => ?_) (fun c21 => ?_)
        ·
          exact absurd c21 (by decide +kernel)
        ·
          refine lv_iload hx hb dX9_both_24 (lv_at hl 5 rfl) ?_
          refine lv_if_ge (tgt := 31) hx hb dX9_both_26 (by decide) (fun c26 => ?_) (fun c26 => ?_)
          ·
            have d26 : k9.toInt ≥ (0 : Int) := my_ge c26 rfl (by decide +kernel)
            refine lv_iload hx hb dX9_both_31 (lv_at hl 5 rfl) ?_
            refine lv_iload_n hx hb dX9_both_33 rfl (lv_at hl 2 rfl) ?_
            refine lv_iload_n hx hb dX9_both_34 rfl (lv_at hl 1 rfl) ?_
            refine lv_isub hx hb dX9_both_35 ?_
            refine my_eqi (y := 0) (by decide +kernel) ?_
            refine lv_iload hx hb dX9_both_36 (lv_at hl 4 rfl) ?_
            refine lv_iadd hx hb dX9_both_38 ?_
            refine my_eqi (y := 0) (by decide +kernel) ?_
            refine lv_iload_n hx hb dX9_both_39 rfl (lv_at hl 3 rfl) ?_
            refine lv_isub hx hb dX9_both_40 ?_
            refine my_eqi (y := 0) (by decide +kernel) ?_
            refine lv_icmp_lt (tgt := 47) hx hb dX9_both_41 (by decide) (fun c41 => ?_) (fun c41 => ?_)
            ·
              have d41 : k9.toInt < (0 : Int) := my_lt c41 rfl (by decide +kernel)
              exact absurd d41 (by omega)
            ·
              have d41 : k9.toInt ≥ (0 : Int) := my_nlt c41 rfl (by decide +kernel)
              refine lv_bipush (v := (-2)) hx hb dX9_both_44 (by decide +kernel) ?_
              exact my_retI hx hb hr hlocks hK hS [] (hP.sub [] rfl) (hD.sub [] (by decide) rfl) (Or.inl ⟨rfl, rfl, (by first | omega | assumption | trivial | decide +kernel), (by first | omega | assumption | trivial | decide +kernel), (by first | omega | assumption | trivial | decide +kernel), (by first | omega | assumption | trivial | decide +kernel), (by first | omega | assumption | trivial | decide +kernel)⟩) dX9_both_46
          ·
            have d26 : k9.toInt < (0 : Int) := my_nge c26 rfl (by decide +kernel)
            refine lv_iconst (v := (-1)) hx hb dX9_both_29 (by decide +kernel) ?_
            exact my_retI hx hb hr hlocks hK hS [] (hP.sub [] rfl) (hD.sub [] (by decide) rfl) (Or.inr (⟨rfl, rfl, (by first | omega | assumption | trivial | decide +kernel)⟩)) dX9_both_30
      ·
        refine lv_if_eq (tgt := 29) hx hb dX9_both_21 (by decide) (fun c21 => ?_) (fun c21 => ?_)
        ·
          refine lv_iconst (v := (-1)) hx hb dX9_both_29 (by decide +kernel) ?_
          exact my_retI hx hb hr hlocks hK hS [] (hP.sub [] rfl) (hD.sub [] (by decide) rfl) (Or.inr (⟨rfl, rfl, (by first | omega | assumption | trivial | decide +kernel)⟩)) dX9_both_30
        ·
          exact absurd c21 (by decide +kernel)
  ·
    refine lv_if_eq (tgt := 29) hx hb dX9_both_11 (by decide) (fun c11 => ?_) (fun c11 => ?_)
    ·
      refine lv_iconst (v := (-1)) hx hb dX9_both_29 (by decide +kernel) ?_
      exact my_retI hx hb hr hlocks hK hS [] (hP.sub [] rfl) (hD.sub [] (by decide) rfl) (Or.inr (⟨rfl, rfl, (by first | omega | assumption | trivial | decide +kernel)⟩)) dX9_both_30
    ·
      exact absurd c11 (by decide +kernel)
set_option maxHeartbeats 4000000 in
set_option maxRecDepth 100000 in
theorem k0_X9_same (l : Launch) (D : va_G) (cI cJ : ClassId) (m0 : Nat) (a_row : Nat) (a_tape : Nat) (a_number : Nat) (a_read : Nat) (a_readBits : Nat) (a_stands : Nat) (a_parted : Nat) (a_bitsWere : Nat) (a_stood : Nat) (a_chosen : Nat) (a_bestChosen : Nat) (a_often : Nat) (a_sorted : Nat) (a_risen : Nat) (a_risenWays : Nat) (rf : Nat → Int64) (l9 : Int32) (r9 : Int32) (s9 : Int32) (t9 : Int32) : ctI l yX9_same wsX9_same ({ frames := 2, cells := 0, slots := 0, locals := 120 } : Room) D (tyIJ cI cJ) [.ref m0, .int l9, .int r9, .int s9, .int t9] [(m0, .inr (9, [.int 0, .int 0, .ref a_row, .ref a_tape, .int 0, .int 0, .int 0, .int 0, .ref a_number, .ref a_read, .int 0, .ref a_readBits, .ref a_stands, .ref a_parted, .ref a_bitsWere, .ref a_stood, .ref a_chosen, .ref a_bestChosen, .int 0, .ref a_often, .ref a_sorted, .int 0, .ref a_risen, .ref a_risenWays])), (a_often, .inl (cI, 512, .inl (fun _ => (0 : Int32)))), (a_row, .inl (cJ, 64, .inr (.inl rf)))] (fun (r : Int32) (u : va_W) => (u = [] ∧ r = 1 ∧ l9.toInt = 0 ∧ r9.toInt = 0 ∧ s9.toInt = 0 ∧ t9.toInt = 0) ∨ (u = [] ∧ r = (-1) ∧ (l9.toInt < 0 ∨ r9.toInt < l9.toInt ∨ 0 < r9.toInt ∨ s9.toInt < 0 ∨ t9.toInt < s9.toInt ∨ 0 < t9.toInt))) := by
  refine ctI.of (cc := cX9_same) (maxL := 10) (ret := (some .int)) (by decide) rfl (Nat.le_of_ble_eq_true rfl) ?_
  intro p e s m below meth c ls A hx hb hr hts hown hml hlocks hname hA hK hN hP hD hS hl
  have hl : lv_has ls 10 [(0, .ref m0), (1, .int l9), (2, .int r9), (3, .int s9), (4, .int t9)] := hl
  have hown : s.vm.findClass RX9 = some m.cls := hown
  have hi9 : ∀ w ∈ u_ws RX9 TX9 24, w ∈ wsX9_same := by decide +kernel
  have fl1 := hts (.fieldLink RX9 1 "PlaneColumnModel" "thrown" "I") (by decide +kernel)
  have fl11 := hts (.fieldLink RX9 11 "PlaneColumnModel" "told" "I") (by decide +kernel)
  refine lv_aload_n hx hb dX9_same_0 rfl (lv_at hl 0 rfl) ?_
  refine lv_iconst (v := 0) hx hb dX9_same_1 (by decide +kernel) ?_
  refine va_put (ci := 9) (v := .int 0) (ty := (.int)) (C := RX9) (T := TX9) (N := 24) hx hb hts hi9 tyX9 tyX9_ok nmX9 hown hK hP hD hS 0 rfl rfl 0 (by decide) fl1 (fun _ h9 => h9) rfl (by decide +kernel) rfl rfl (Nat.le_of_ble_eq_true rfl) dX9_same_2 (fun H locs hP hD hS => ?_)
  have hP : va_P D vwCl [(m0, .inr (9, [.int 0, .int 0, .ref a_row, .ref a_tape, .int 0, .int 0, .int 0, .int 0, .ref a_number, .ref a_read, .int 0, .ref a_readBits, .ref a_stands, .ref a_parted, .ref a_bitsWere, .ref a_stood, .ref a_chosen, .ref a_bestChosen, .int 0, .ref a_often, .ref a_sorted, .int 0, .ref a_risen, .ref a_risenWays])), (a_often, .inl (cI, 512, .inl (fun _ => (0 : Int32)))), (a_row, .inl (cJ, 64, .inr (.inl rf)))] H := hP
  have hD : va_D A [(m0, .inr (9, [.int 0, .int 0, .ref a_row, .ref a_tape, .int 0, .int 0, .int 0, .int 0, .ref a_number, .ref a_read, .int 0, .ref a_readBits, .ref a_stands, .ref a_parted, .ref a_bitsWere, .ref a_stood, .ref a_chosen, .ref a_bestChosen, .int 0, .ref a_often, .ref a_sorted, .int 0, .ref a_risen, .ref a_risenWays])), (a_often, .inl (cI, 512, .inl (fun _ => (0 : Int32)))), (a_row, .inl (cJ, 64, .inr (.inl rf)))] := hD
  refine lv_aload_n hx hb dX9_same_5 rfl (lv_at hl 0 rfl) ?_
  refine lv_iload_n hx hb dX9_same_6 rfl (lv_at hl 1 rfl) ?_
  refine lv_iload_n hx hb dX9_same_7 rfl (lv_at hl 2 rfl) ?_
  refine lv_iload_n hx hb dX9_same_8 rfl (lv_at hl 3 rfl) ?_
  refine lv_iload hx hb dX9_same_9 (lv_at hl 4 rfl) ?_
  refine my_goI (wr := [(a_row, .inl (cJ, 64, .inr (.inl rf)))]) hP hD hS hA [0, 1] [2] rfl rfl (by decide) (by decide) (my_cV (As := [.int l9, .int r9, .int s9, .int t9]) (rest := []) (ci := 9) (wc := [(m0, .inr (9, [.int 0, .int 0, .ref a_row, .ref a_tape, .int 0, .int 0, .int 0, .int 0, .ref a_number, .ref a_read, .int 0, .ref a_readBits, .ref a_stands, .ref a_parted, .ref a_bitsWere, .ref a_stood, .ref a_chosen, .ref a_bestChosen, .int 0, .ref a_often, .ref a_sorted, .int 0, .ref a_risen, .ref a_risenWays])), (a_often, .inl (cI, 512, .inl (fun _ => (0 : Int32))))]) ⟨hx, hb, hml, hown, hts⟩ (cwV 4 hts gX9_same_X9_counts_ rfl rfl rfl (by decide +kernel) ⟨Nat.le_of_ble_eq_true rfl, Nat.le_of_ble_eq_true rfl⟩) hN hK hP hD [0, 1] rfl (by decide) rfl 0 rfl rfl rfl rfl hl.1 rfl (Nat.le_of_ble_eq_true rfl) dX9_same_11 ⟨Nat.le_of_ble_eq_true rfl, Nat.le_of_ble_eq_true rfl⟩  ((k0_X9_counts_ l D cI cJ m0 a_row a_tape a_number a_read a_readBits a_stands a_parted a_bitsWere a_stood a_chosen a_bestChosen a_often a_sorted a_risen a_risenWays (0 : Int32) (0 : Int32) (0 : Int32) (0 : Int32) (0 : Int32) (0 : Int32) (0 : Int32) (0 : Int32) l9 r9 s9 t9) _)) (fun r u H locs hp hP hD hS => ?_)
  rcases hp with ⟨rfl, rfl, rfl, rfl, rfl, rfl⟩ | ⟨rfl, rfl, ha_1⟩
  ·
    have hP : va_P D vwCl [(a_row, .inl (cJ, 64, .inr (.inl rf))), (m0, .inr (9, [.int 0, .int 0, .ref a_row, .ref a_tape, .int 0, .int 0, .int 0, .int 0, .ref a_number, .ref a_read, .int 0, .ref a_readBits, .ref a_stands, .ref a_parted, .ref a_bitsWere, .ref a_stood, .ref a_chosen, .ref a_bestChosen, .int 0, .ref a_often, .ref a_sorted, .int 0, .ref a_risen, .ref a_risenWays])), (a_often, .inl (cI, 512, .inl (fun _ => (0 : Int32))))] H := hP
    have hD : va_D A [(a_row, .inl (cJ, 64, .inr (.inl rf))), (m0, .inr (9, [.int 0, .int 0, .ref a_row, .ref a_tape, .int 0, .int 0, .int 0, .int 0, .ref a_number, .ref a_read, .int 0, .ref a_readBits, .ref a_stands, .ref a_parted, .ref a_bitsWere, .ref a_stood, .ref a_chosen, .ref a_bestChosen, .int 0, .ref a_often, .ref a_sorted, .int 0, .ref a_risen, .ref a_risenWays])), (a_often, .inl (cI, 512, .inl (fun _ => (0 : Int32))))] := hD
    refine lv_if_ne (tgt := 19) hx hb dX9_same_14 (by decide) (fun c14 => ?_) (fun c14 => ?_)
    ·
      refine lv_iconst (v := (-1)) hx hb dX9_same_19 (by decide +kernel) ?_
      refine lv_istore (lv' := [(5, .int (-1)), (0, .ref m0), (1, .int 0), (2, .int 0), (3, .int 0), (4, .int 0)]) hx hb dX9_same_20 hl (by decide) rfl (fun ls hl => ?_)
      refine lv_iconst (v := 0) hx hb dX9_same_22 (by decide +kernel) ?_
      refine lv_istore (lv' := [(6, .int 0), (5, .int (-1)), (0, .ref m0), (1, .int 0), (2, .int 0), (3, .int 0), (4, .int 0)]) hx hb dX9_same_23 hl (by decide) rfl (fun ls hl => ?_)
      refine lv_iconst (v := 0) hx hb dX9_same_25 (by decide +kernel) ?_
      refine lv_istore (lv' := [(7, .int 0), (6, .int 0), (5, .int (-1)), (0, .ref m0), (1, .int 0), (2, .int 0), (3, .int 0), (4, .int 0)]) hx hb dX9_same_26 hl (by decide) rfl (fun ls hl => ?_)
      refine lv_sipush (v := 255) hx hb dX9_same_28 (by decide +kernel) ?_
      refine lv_istore (lv' := [(8, .int 255), (7, .int 0), (6, .int 0), (5, .int (-1)), (0, .ref m0), (1, .int 0), (2, .int 0), (3, .int 0), (4, .int 0)]) hx hb dX9_same_31 hl (by decide) rfl (fun ls hl => ?_)
      have loop33 : ∀ (n9 : Nat) (x : Int32), (x.toInt + 1).toNat < n9 → (-1 ≤ x.toInt) → (x.toInt ≤ 255) → ∀ (H : Heap) (locs : List Loc) (ls : Array Slot), va_P D vwCl [(m0, .inr (9, [.int 0, .int 0, .ref a_row, .ref a_tape, .int 0, .int 0, .int 0, .int 0, .ref a_number, .ref a_read, .int 0, .ref a_readBits, .ref a_stands, .ref a_parted, .ref a_bitsWere, .ref a_stood, .ref a_chosen, .ref a_bestChosen, .int 0, .ref a_often, .ref a_sorted, .int 0, .ref a_risen, .ref a_risenWays])), (a_often, .inl (cI, 512, .inl (fun _ => (0 : Int32)))), (a_row, .inl (cJ, 64, .inr (.inl rf)))] H → va_D A [(m0, .inr (9, [.int 0, .int 0, .ref a_row, .ref a_tape, .int 0, .int 0, .int 0, .int 0, .ref a_number, .ref a_read, .int 0, .ref a_readBits, .ref a_stands, .ref a_parted, .ref a_bitsWere, .ref a_stood, .ref a_chosen, .ref a_bestChosen, .int 0, .ref a_often, .ref a_sorted, .int 0, .ref a_risen, .ref a_risenWays])), (a_often, .inl (cI, 512, .inl (fun _ => (0 : Int32)))), (a_row, .inl (cJ, 64, .inr (.inl rf)))] → va_S A s.heap H locs → lv_has ls 10 [(8, .int x), (7, .int 0), (6, .int 0), (5, .int (-1)), (0, .ref m0)] → W p l e ({ frames := 2, cells := 0, slots := 0, locals := 120 } : Room) s m [.ref m0, .int (0 : Int32), .int (0 : Int32), .int (0 : Int32), .int (0 : Int32)].toArray below meth c H locs 0 0 (MQ below (va_Qi (fun (r : Int32) (u : va_W) => (u = [] ∧ r = 1 ∧ (0 : Int32).toInt = 0 ∧ (0 : Int32).toInt = 0 ∧ (0 : Int32).toInt = 0 ∧ (0 : Int32).toInt = 0) ∨ (u = [] ∧ r = (-1) ∧ ((0 : Int32).toInt < 0 ∨ (0 : Int32).toInt < (0 : Int32).toInt ∨ 0 < (0 : Int32).toInt ∨ (0 : Int32).toInt < 0 ∨ (0 : Int32).toInt < (0 : Int32).toInt ∨ 0 < (0 : Int32).toInt))) (my_B D (tyIJ cI cJ) A) A) [.ref m0, .int (0 : Int32), .int (0 : Int32), .int (0 : Int32), .int (0 : Int32)].toArray s 0 0 A) (F0 m 33 ls []) := by
        intro n9
        induction n9 with
        | zero =>
          intro x hn9
          exact absurd hn9 (Nat.not_lt_zero _)
        | succ n9 ih33 =>
          intro x hn9 hx0 hx1 H locs ls hP hD hS hl
          refine lv_iload hx hb dX9_same_33 (lv_at hl 0 rfl) ?_
          refine lv_if_lt (tgt := 98) hx hb dX9_same_35 (by decide) (fun c35 => ?_) (fun c35 => ?_)
          ·
            have d35 : x.toInt < (0 : Int) := my_lt c35 rfl (by decide +kernel)
            refine lv_aload_n hx hb dX9_same_98 rfl (lv_at hl 4 rfl) ?_
            refine lv_iconst (v := 0) hx hb dX9_same_99 (by decide +kernel) ?_
            refine va_put (ci := 9) (v := .int 0) (ty := (.int)) (C := RX9) (T := TX9) (N := 24) hx hb hts hi9 tyX9 tyX9_ok nmX9 hown hK hP hD hS 0 rfl rfl 1 (by decide) fl11 (fun _ h9 => h9) rfl (by decide +kernel) rfl rfl (Nat.le_of_ble_eq_true rfl) dX9_same_100 (fun H locs hP hD hS => ?_)
            have hP : va_P D vwCl [(m0, .inr (9, [.int 0, .int 0, .ref a_row, .ref a_tape, .int 0, .int 0, .int 0, .int 0, .ref a_number, .ref a_read, .int 0, .ref a_readBits, .ref a_stands, .ref a_parted, .ref a_bitsWere, .ref a_stood, .ref a_chosen, .ref a_bestChosen, .int 0, .ref a_often, .ref a_sorted, .int 0, .ref a_risen, .ref a_risenWays])), (a_often, .inl (cI, 512, .inl (fun _ => (0 : Int32)))), (a_row, .inl (cJ, 64, .inr (.inl rf)))] H := hP
            have hD : va_D A [(m0, .inr (9, [.int 0, .int 0, .ref a_row, .ref a_tape, .int 0, .int 0, .int 0, .int 0, .ref a_number, .ref a_read, .int 0, .ref a_readBits, .ref a_stands, .ref a_parted, .ref a_bitsWere, .ref a_stood, .ref a_chosen, .ref a_bestChosen, .int 0, .ref a_often, .ref a_sorted, .int 0, .ref a_risen, .ref a_risenWays])), (a_often, .inl (cI, 512, .inl (fun _ => (0 : Int32)))), (a_row, .inl (cJ, 64, .inr (.inl rf)))] := hD
            refine lv_aload_n hx hb dX9_same_103 rfl (lv_at hl 4 rfl) ?_
            refine lv_iload hx hb dX9_same_104 (lv_at hl 3 rfl) ?_
            refine lv_i2l (v := (-1)) hx hb dX9_same_106 (by decide +kernel) ?_
            refine my_goV (wr := [(a_often, .inl (cI, 512, .inl (fun _ => (0 : Int32))))]) hP hD hS hA [0, 2] [1] rfl rfl (by decide) (by decide) (my_cV (As := [.long (-1)]) (rest := []) (ci := 9) (wc := [(m0, .inr (9, [.int 0, .int 0, .ref a_row, .ref a_tape, .int 0, .int 0, .int 0, .int 0, .ref a_number, .ref a_read, .int 0, .ref a_readBits, .ref a_stands, .ref a_parted, .ref a_bitsWere, .ref a_stood, .ref a_chosen, .ref a_bestChosen, .int 0, .ref a_often, .ref a_sorted, .int 0, .ref a_risen, .ref a_risenWays])), (a_row, .inl (cJ, 64, .inr (.inl rf)))]) ⟨hx, hb, hml, hown, hts⟩ (cwV 1 hts gX9_same_X9_enters rfl rfl rfl (by decide +kernel) ⟨Nat.le_of_ble_eq_true rfl, Nat.le_of_ble_eq_true rfl⟩) hN hK hP hD [0, 2] rfl (by decide) rfl 0 rfl rfl rfl rfl hl.1 rfl (Nat.le_of_ble_eq_true rfl) dX9_same_107 ⟨Nat.le_of_ble_eq_true rfl, Nat.le_of_ble_eq_true rfl⟩  ((k_X9_enters l D cI cJ m0 a_row a_tape a_number a_read a_readBits a_stands a_parted a_bitsWere a_stood a_chosen a_bestChosen a_often a_sorted a_risen a_risenWays (0 : Int32) (0 : Int32) (0 : Int32) (0 : Int32) (0 : Int32) (0 : Int32) (0 : Int32) (0 : Int32) 0 rf (-1 : Int64) (by first | omega | decide +kernel)) _)) (fun u H locs hp hP hD hS => ?_)
            obtain ⟨f_2, rfl⟩ := hp
            have hP : va_P D vwCl [(a_often, .inl (cI, 512, .inl (fun _ => (0 : Int32)))), (m0, .inr (9, [.int 0, .int 1, .ref a_row, .ref a_tape, .int 0, .int 0, .int 0, .int 0, .ref a_number, .ref a_read, .int 0, .ref a_readBits, .ref a_stands, .ref a_parted, .ref a_bitsWere, .ref a_stood, .ref a_chosen, .ref a_bestChosen, .int 0, .ref a_often, .ref a_sorted, .int 0, .ref a_risen, .ref a_risenWays])), (a_row, .inl (cJ, 64, .inr (.inl f_2)))] H := hP
            have hD : va_D A [(a_often, .inl (cI, 512, .inl (fun _ => (0 : Int32)))), (m0, .inr (9, [.int 0, .int 1, .ref a_row, .ref a_tape, .int 0, .int 0, .int 0, .int 0, .ref a_number, .ref a_read, .int 0, .ref a_readBits, .ref a_stands, .ref a_parted, .ref a_bitsWere, .ref a_stood, .ref a_chosen, .ref a_bestChosen, .int 0, .ref a_often, .ref a_sorted, .int 0, .ref a_risen, .ref a_risenWays])), (a_row, .inl (cJ, 64, .inr (.inl f_2)))] := hD
            refine lv_aload_n hx hb dX9_same_110 rfl (lv_at hl 4 rfl) ?_
            refine lv_iload hx hb dX9_same_111 (lv_at hl 2 rfl) ?_
            refine lv_i2l (v := 0) hx hb dX9_same_113 (by decide +kernel) ?_
            refine my_goV (wr := [(a_often, .inl (cI, 512, .inl (fun _ => (0 : Int32))))]) hP hD hS hA [1, 2] [0] rfl rfl (by decide) (by decide) (my_cV (As := [.long 0]) (rest := []) (ci := 9) (wc := [(m0, .inr (9, [.int 0, .int 1, .ref a_row, .ref a_tape, .int 0, .int 0, .int 0, .int 0, .ref a_number, .ref a_read, .int 0, .ref a_readBits, .ref a_stands, .ref a_parted, .ref a_bitsWere, .ref a_stood, .ref a_chosen, .ref a_bestChosen, .int 0, .ref a_often, .ref a_sorted, .int 0, .ref a_risen, .ref a_risenWays])), (a_row, .inl (cJ, 64, .inr (.inl f_2)))]) ⟨hx, hb, hml, hown, hts⟩ (cwV 1 hts gX9_same_X9_enters rfl rfl rfl (by decide +kernel) ⟨Nat.le_of_ble_eq_true rfl, Nat.le_of_ble_eq_true rfl⟩) hN hK hP hD [1, 2] rfl (by decide) rfl 1 rfl rfl rfl rfl hl.1 rfl (Nat.le_of_ble_eq_true rfl) dX9_same_114 ⟨Nat.le_of_ble_eq_true rfl, Nat.le_of_ble_eq_true rfl⟩  ((k_X9_enters l D cI cJ m0 a_row a_tape a_number a_read a_readBits a_stands a_parted a_bitsWere a_stood a_chosen a_bestChosen a_often a_sorted a_risen a_risenWays (0 : Int32) (0 : Int32) (0 : Int32) (0 : Int32) (0 : Int32) (0 : Int32) (0 : Int32) (0 : Int32) 1 f_2 (0 : Int64) (by first | omega | decide +kernel)) _)) (fun u H locs hp hP hD hS => ?_)
            obtain ⟨f_3, rfl⟩ := hp
            have hP : va_P D vwCl [(a_often, .inl (cI, 512, .inl (fun _ => (0 : Int32)))), (m0, .inr (9, [.int 0, .int 2, .ref a_row, .ref a_tape, .int 0, .int 0, .int 0, .int 0, .ref a_number, .ref a_read, .int 0, .ref a_readBits, .ref a_stands, .ref a_parted, .ref a_bitsWere, .ref a_stood, .ref a_chosen, .ref a_bestChosen, .int 0, .ref a_often, .ref a_sorted, .int 0, .ref a_risen, .ref a_risenWays])), (a_row, .inl (cJ, 64, .inr (.inl f_3)))] H := hP
            have hD : va_D A [(a_often, .inl (cI, 512, .inl (fun _ => (0 : Int32)))), (m0, .inr (9, [.int 0, .int 2, .ref a_row, .ref a_tape, .int 0, .int 0, .int 0, .int 0, .ref a_number, .ref a_read, .int 0, .ref a_readBits, .ref a_stands, .ref a_parted, .ref a_bitsWere, .ref a_stood, .ref a_chosen, .ref a_bestChosen, .int 0, .ref a_often, .ref a_sorted, .int 0, .ref a_risen, .ref a_risenWays])), (a_row, .inl (cJ, 64, .inr (.inl f_3)))] := hD
            refine lv_aload_n hx hb dX9_same_117 rfl (lv_at hl 4 rfl) ?_
            refine lv_iload hx hb dX9_same_118 (lv_at hl 1 rfl) ?_
            refine lv_i2l (v := 0) hx hb dX9_same_120 (by decide +kernel) ?_
            refine my_goV (wr := [(a_often, .inl (cI, 512, .inl (fun _ => (0 : Int32))))]) hP hD hS hA [1, 2] [0] rfl rfl (by decide) (by decide) (my_cV (As := [.long 0]) (rest := []) (ci := 9) (wc := [(m0, .inr (9, [.int 0, .int 2, .ref a_row, .ref a_tape, .int 0, .int 0, .int 0, .int 0, .ref a_number, .ref a_read, .int 0, .ref a_readBits, .ref a_stands, .ref a_parted, .ref a_bitsWere, .ref a_stood, .ref a_chosen, .ref a_bestChosen, .int 0, .ref a_often, .ref a_sorted, .int 0, .ref a_risen, .ref a_risenWays])), (a_row, .inl (cJ, 64, .inr (.inl f_3)))]) ⟨hx, hb, hml, hown, hts⟩ (cwV 1 hts gX9_same_X9_enters rfl rfl rfl (by decide +kernel) ⟨Nat.le_of_ble_eq_true rfl, Nat.le_of_ble_eq_true rfl⟩) hN hK hP hD [1, 2] rfl (by decide) rfl 1 rfl rfl rfl rfl hl.1 rfl (Nat.le_of_ble_eq_true rfl) dX9_same_121 ⟨Nat.le_of_ble_eq_true rfl, Nat.le_of_ble_eq_true rfl⟩  ((k_X9_enters l D cI cJ m0 a_row a_tape a_number a_read a_readBits a_stands a_parted a_bitsWere a_stood a_chosen a_bestChosen a_often a_sorted a_risen a_risenWays (0 : Int32) (0 : Int32) (0 : Int32) (0 : Int32) (0 : Int32) (0 : Int32) (0 : Int32) (0 : Int32) 2 f_3 (0 : Int64) (by first | omega | decide +kernel)) _)) (fun u H locs hp hP hD hS => ?_)
            obtain ⟨f_4, rfl⟩ := hp
            have hP : va_P D vwCl [(a_often, .inl (cI, 512, .inl (fun _ => (0 : Int32)))), (m0, .inr (9, [.int 0, .int 3, .ref a_row, .ref a_tape, .int 0, .int 0, .int 0, .int 0, .ref a_number, .ref a_read, .int 0, .ref a_readBits, .ref a_stands, .ref a_parted, .ref a_bitsWere, .ref a_stood, .ref a_chosen, .ref a_bestChosen, .int 0, .ref a_often, .ref a_sorted, .int 0, .ref a_risen, .ref a_risenWays])), (a_row, .inl (cJ, 64, .inr (.inl f_4)))] H := hP
            have hD : va_D A [(a_often, .inl (cI, 512, .inl (fun _ => (0 : Int32)))), (m0, .inr (9, [.int 0, .int 3, .ref a_row, .ref a_tape, .int 0, .int 0, .int 0, .int 0, .ref a_number, .ref a_read, .int 0, .ref a_readBits, .ref a_stands, .ref a_parted, .ref a_bitsWere, .ref a_stood, .ref a_chosen, .ref a_bestChosen, .int 0, .ref a_often, .ref a_sorted, .int 0, .ref a_risen, .ref a_risenWays])), (a_row, .inl (cJ, 64, .inr (.inl f_4)))] := hD
            refine lv_iload hx hb dX9_same_124 (lv_at hl 3 rfl) ?_
            refine lv_if_ge (tgt := 133) hx hb dX9_same_126 (by decide) (fun c126 => ?_) (fun c126 => ?_)
            ·
              exact absurd c126 (by decide +kernel)
            ·
              refine lv_iconst (v := 1) hx hb dX9_same_129 (by decide +kernel) ?_
              refine lv_goto (tgt := 134) hx hb dX9_same_130 (by decide) ?_
              refine my_gpI (my_pS (As := [.int 1]) (rest := []) ⟨hx, hb, hml, hown, hts⟩ (va_cwS 1 hts gX9_same_X9_flag rfl rfl rfl (by decide +kernel) ⟨Nat.le_of_ble_eq_true rfl, Nat.le_of_ble_eq_true rfl⟩) hN hK hP [] rfl rfl hl.1 rfl (Nat.le_of_ble_eq_true rfl) dX9_same_134 ⟨Nat.le_of_ble_eq_true rfl, Nat.le_of_ble_eq_true rfl⟩  (k1_X9_flag l D cI cJ )) (fun r hp => ?_)
              obtain rfl := hp
              exact my_retI hx hb hr hlocks hK hS [] (hP.sub [] rfl) (hD.sub [] (by decide) rfl) (Or.inl ⟨rfl, rfl, (by first | omega | assumption | trivial | decide +kernel), (by first | omega | assumption | trivial | decide +kernel), (by first | omega | assumption | trivial | decide +kernel), (by first | omega | assumption | trivial | decide +kernel)⟩) dX9_same_137
          ·
            have d35 : x.toInt ≥ (0 : Int) := my_nlt c35 rfl (by decide +kernel)
            refine lv_aload_n hx hb dX9_same_38 rfl (lv_at hl 4 rfl) ?_
            refine lv_iconst (v := 0) hx hb dX9_same_39 (by decide +kernel) ?_
            refine lv_iload hx hb dX9_same_40 (lv_at hl 0 rfl) ?_
            refine my_gpI (my_pV (As := [.int 0, .int x]) (rest := []) (ci := 9) ⟨hx, hb, hml, hown, hts⟩ (cwV 2 hts gX9_same_X9_times rfl rfl rfl (by decide +kernel) ⟨Nat.le_of_ble_eq_true rfl, Nat.le_of_ble_eq_true rfl⟩) hN hK hP [0, 1] rfl 0 rfl rfl rfl rfl hl.1 rfl (Nat.le_of_ble_eq_true rfl) dX9_same_42 ⟨Nat.le_of_ble_eq_true rfl, Nat.le_of_ble_eq_true rfl⟩  (k0_X9_times l D cI cJ m0 a_row a_tape a_number a_read a_readBits a_stands a_parted a_bitsWere a_stood a_chosen a_bestChosen a_often a_sorted a_risen a_risenWays (0 : Int32) (0 : Int32) (0 : Int32) (0 : Int32) (0 : Int32) (0 : Int32) (0 : Int32) (0 : Int32) (0 : Int32) x (by first | omega | decide +kernel) (by first | omega | decide +kernel))) (fun r hp => ?_)
            obtain rfl := hp
            refine lv_aload_n hx hb dX9_same_45 rfl (lv_at hl 4 rfl) ?_
            refine lv_iconst (v := 1) hx hb dX9_same_46 (by decide +kernel) ?_
            refine lv_iload hx hb dX9_same_47 (lv_at hl 0 rfl) ?_
            refine my_gpI (my_pV (As := [.int 1, .int x]) (rest := [.int 0]) (ci := 9) ⟨hx, hb, hml, hown, hts⟩ (cwV 2 hts gX9_same_X9_times rfl rfl rfl (by decide +kernel) ⟨Nat.le_of_ble_eq_true rfl, Nat.le_of_ble_eq_true rfl⟩) hN hK hP [0, 1] rfl 0 rfl rfl rfl rfl hl.1 rfl (Nat.le_of_ble_eq_true rfl) dX9_same_49 ⟨Nat.le_of_ble_eq_true rfl, Nat.le_of_ble_eq_true rfl⟩  (k1_X9_times l D cI cJ m0 a_row a_tape a_number a_read a_readBits a_stands a_parted a_bitsWere a_stood a_chosen a_bestChosen a_often a_sorted a_risen a_risenWays (0 : Int32) (0 : Int32) (0 : Int32) (0 : Int32) (0 : Int32) (0 : Int32) (0 : Int32) (0 : Int32) (0 : Int32) x (by first | omega | decide +kernel) (by first | omega | decide +kernel))) (fun r hp => ?_)
            obtain rfl := hp
            refine lv_isub hx hb dX9_same_52 ?_
            refine my_eqi (y := 0) (by decide +kernel) ?_
            refine lv_istore (lv' := [(9, .int 0), (8, .int x), (7, .int 0), (6, .int 0), (5, .int (-1)), (0, .ref m0)]) hx hb dX9_same_53 hl (by decide) rfl (fun ls hl => ?_)
            refine lv_iload hx hb dX9_same_55 (lv_at hl 0 rfl) ?_
            refine lv_if_eq (tgt := 65) hx hb dX9_same_57 (by decide) (fun c57 => ?_) (fun c57 => ?_)
            ·
              refine lv_iload hx hb dX9_same_65 (lv_at hl 4 rfl) ?_
              refine lv_istore (lv' := [(5, .int (-1)), (9, .int 0), (8, .int x), (7, .int 0), (6, .int 0), (0, .ref m0)]) hx hb dX9_same_67 hl (by decide) rfl (fun ls hl => ?_)
              refine lv_iload hx hb dX9_same_69 (lv_at hl 4 rfl) ?_
              refine lv_iconst (v := 0) hx hb dX9_same_71 (by decide +kernel) ?_
              refine lv_iload hx hb dX9_same_72 (lv_at hl 1 rfl) ?_
              refine va_mmax hx hb (hml.trans hl.1.symm) hown (hts (.methodLink RX9 181 Lib.Math.max.name) (by decide +kernel)) (hts (.static Lib.Math.max.name) (by decide +kernel)) (hts (.initialized "java/lang/Math") (by decide +kernel)) (hts (.code Lib.Math.max.name Lib.Math.max.code 2 (some .int)) (by decide +kernel)) (Nat.le_of_ble_eq_true rfl) (Nat.le_of_ble_eq_true rfl) (Nat.le_of_ble_eq_true rfl) (Nat.le_of_ble_eq_true rfl) dX9_same_74 ?_
              refine my_eqi (y := 0) (by decide +kernel) ?_
              refine lv_iadd hx hb dX9_same_77 ?_
              refine my_eqi (y := 0) (by decide +kernel) ?_
              refine lv_istore (lv' := [(6, .int 0), (5, .int (-1)), (9, .int 0), (8, .int x), (7, .int 0), (0, .ref m0)]) hx hb dX9_same_78 hl (by decide) rfl (fun ls hl => ?_)
              refine lv_iload hx hb dX9_same_80 (lv_at hl 4 rfl) ?_
              refine lv_iconst (v := 0) hx hb dX9_same_82 (by decide +kernel) ?_
              refine lv_iload hx hb dX9_same_83 (lv_at hl 2 rfl) ?_
              refine lv_ineg hx hb dX9_same_85 ?_
              refine my_eqi (y := 0) (by decide +kernel) ?_
              refine va_mmax hx hb (hml.trans hl.1.symm) hown (hts (.methodLink RX9 181 Lib.Math.max.name) (by decide +kernel)) (hts (.static Lib.Math.max.name) (by decide +kernel)) (hts (.initialized "java/lang/Math") (by decide +kernel)) (hts (.code Lib.Math.max.name Lib.Math.max.code 2 (some .int)) (by decide +kernel)) (Nat.le_of_ble_eq_true rfl) (Nat.le_of_ble_eq_true rfl) (Nat.le_of_ble_eq_true rfl) (Nat.le_of_ble_eq_true rfl) dX9_same_86 ?_
              refine my_eqi (y := 0) (by decide +kernel) ?_
              refine lv_iadd hx hb dX9_same_89 ?_
              refine my_eqi (y := 0) (by decide +kernel) ?_
              refine lv_istore (lv' := [(7, .int 0), (6, .int 0), (5, .int (-1)), (9, .int 0), (8, .int x), (0, .ref m0)]) hx hb dX9_same_90 hl (by decide) rfl (fun ls hl => ?_)
              obtain ⟨z_5, ez_5⟩ : ∃ y : Int32, y = x + (-1) := ⟨_, rfl⟩
              have tz_5 : z_5.toInt = x.toInt + (-1) := by rw [ez_5]; exact my_addI rfl (by decide +kernel) (by omega) (by omega)
              refine lv_iinc (v := z_5) (lv' := [(8, .int z_5), (7, .int 0), (6, .int 0), (5, .int (-1)), (9, .int 0), (0, .ref m0)]) hx hb dX9_same_92 hl (k := 4) rfl (by rw [ez_5]; rfl) (by decide) rfl (fun ls hl => ?_)
              refine lv_goto (tgt := 33) hx hb dX9_same_95 (by decide) ?_
              exact ih33  z_5 (by omega) (by omega) (by omega) _ _ ls (hP.sub [0, 1, 2] rfl) (hD.sub [0, 1, 2] (by decide) rfl) hS (lv_sub hl [0, 1, 2, 3, 5] rfl)
            ·
              exact absurd c57 (by decide +kernel)
      exact loop33 ((((255 : Int32).toInt + 1).toNat) + 1) (255 : Int32) (Nat.lt_succ_self _) (by first | omega | decide +kernel) (by first | omega | decide +kernel) _ _ ls (hP.sub [1, 2, 0] rfl) (hD.sub [1, 2, 0] (by decide) rfl) hS (lv_sub hl [0, 1, 2, 3, 4] rfl)
    ·
      exact absurd c14 (by decide +kernel)
  ·
    have hP : va_P D vwCl [(a_row, .inl (cJ, 64, .inr (.inl rf)))] H := hP
    have hD : va_D A [(a_row, .inl (cJ, 64, .inr (.inl rf)))] := hD
    refine lv_if_ne (tgt := 19) hx hb dX9_same_14 (by decide) (fun c14 => ?_) (fun c14 => ?_)
    ·
      exact absurd c14 (by decide +kernel)
    ·
      refine lv_iconst (v := (-1)) hx hb dX9_same_17 (by decide +kernel) ?_
      exact my_retI hx hb hr hlocks hK hS [] (hP.sub [] rfl) (hD.sub [] (by decide) rfl) (Or.inr (⟨rfl, rfl, (by first | omega | assumption | trivial | decide +kernel)⟩)) dX9_same_18
set_option maxHeartbeats 4000000 in
set_option maxRecDepth 100000 in
theorem k0_X9_count (l : Launch) (D : va_G) (cI cJ : ClassId) (m0 : Nat) (a_row : Nat) (a_tape : Nat) (a_number : Nat) (a_read : Nat) (a_readBits : Nat) (a_stands : Nat) (a_parted : Nat) (a_bitsWere : Nat) (a_stood : Nat) (a_chosen : Nat) (a_bestChosen : Nat) (a_often : Nat) (a_sorted : Nat) (a_risen : Nat) (a_risenWays : Nat) (w9 : Int32) : ctI l yX9_count wsX9_count ({ frames := 2, cells := 0, slots := 0, locals := 120 } : Room) D (tyIJ cI cJ) [.ref m0, .int w9] [(m0, .inr (9, [.int 0, .int 0, .ref a_row, .ref a_tape, .int 0, .int 0, .int 0, .int 0, .ref a_number, .ref a_read, .int 0, .ref a_readBits, .ref a_stands, .ref a_parted, .ref a_bitsWere, .ref a_stood, .ref a_chosen, .ref a_bestChosen, .int 0, .ref a_often, .ref a_sorted, .int 0, .ref a_risen, .ref a_risenWays])), (a_often, .inl (cI, 512, .inl (fun _ => (0 : Int32))))] (fun (r : Int32) (u : va_W) => (u = [] ∧ r = 0 ∧ 0 ≤ w9.toInt ∧ w9.toInt ≤ 5) ∨ (u = [] ∧ r = (-1) ∧ (w9.toInt < 0 ∨ 5 < w9.toInt))) := by
  refine ctI.of (cc := cX9_count) (maxL := 2) (ret := (some .int)) (by decide) rfl (Nat.le_of_ble_eq_true rfl) ?_
  intro p e s m below meth c ls A hx hb hr hts hown hml hlocks hname hA hK hN hP hD hS hl
  have hl : lv_has ls 2 [(0, .ref m0), (1, .int w9)] := hl
  have hown : s.vm.findClass RX9 = some m.cls := hown
  have hi9 : ∀ w ∈ u_ws RX9 TX9 24, w ∈ wsX9_count := by decide +kernel
  have fl1 := hts (.fieldLink RX9 1 "PlaneColumnModel" "thrown" "I") (by decide +kernel)
  have fl11 := hts (.fieldLink RX9 11 "PlaneColumnModel" "told" "I") (by decide +kernel)
  have fl14 := hts (.fieldLink RX9 14 "PlaneColumnModel" "taped" "I") (by decide +kernel)
  have fl88 := hts (.fieldLink RX9 88 "PlaneColumnModel" "many" "I") (by decide +kernel)
  refine lv_aload_n hx hb dX9_count_0 rfl (lv_at hl 0 rfl) ?_
  refine lv_iconst (v := 0) hx hb dX9_count_1 (by decide +kernel) ?_
  refine va_put (ci := 9) (v := .int 0) (ty := (.int)) (C := RX9) (T := TX9) (N := 24) hx hb hts hi9 tyX9 tyX9_ok nmX9 hown hK hP hD hS 0 rfl rfl 0 (by decide) fl1 (fun _ h9 => h9) rfl (by decide +kernel) rfl rfl (Nat.le_of_ble_eq_true rfl) dX9_count_2 (fun H locs hP hD hS => ?_)
  have hP : va_P D vwCl [(m0, .inr (9, [.int 0, .int 0, .ref a_row, .ref a_tape, .int 0, .int 0, .int 0, .int 0, .ref a_number, .ref a_read, .int 0, .ref a_readBits, .ref a_stands, .ref a_parted, .ref a_bitsWere, .ref a_stood, .ref a_chosen, .ref a_bestChosen, .int 0, .ref a_often, .ref a_sorted, .int 0, .ref a_risen, .ref a_risenWays])), (a_often, .inl (cI, 512, .inl (fun _ => (0 : Int32))))] H := hP
  have hD : va_D A [(m0, .inr (9, [.int 0, .int 0, .ref a_row, .ref a_tape, .int 0, .int 0, .int 0, .int 0, .ref a_number, .ref a_read, .int 0, .ref a_readBits, .ref a_stands, .ref a_parted, .ref a_bitsWere, .ref a_stood, .ref a_chosen, .ref a_bestChosen, .int 0, .ref a_often, .ref a_sorted, .int 0, .ref a_risen, .ref a_risenWays])), (a_often, .inl (cI, 512, .inl (fun _ => (0 : Int32))))] := hD
  refine lv_iload_n hx hb dX9_count_5 rfl (lv_at hl 1 rfl) ?_
  by_cases cs6 : w9.toInt < 0 ∨ 5 < w9.toInt
  ·
    refine lv_tableOut (tgt := 76) hx hb dX9_count_6 cs6 (by decide) ?_
    refine lv_iconst (v := (-1)) hx hb dX9_count_76 (by decide +kernel) ?_
    exact my_retI hx hb hr hlocks hK hS [] (hP.sub [] rfl) (hD.sub [] (by decide) rfl) (Or.inr (⟨rfl, rfl, (by first | omega | assumption | trivial | decide +kernel)⟩)) dX9_count_77
  ·
    by_cases cv6_0 : w9.toInt = 0
    ·
      refine lv_tableIn (off := 38) (tgt := 44) hx hb dX9_count_6 (by omega) (by omega) (by rw [cv6_0]; rfl) (by decide) ?_
      refine lv_aload_n hx hb dX9_count_44 rfl (lv_at hl 0 rfl) ?_
      refine va_get (ci := 9) (v := .int 0) (C := RX9) (T := TX9) (N := 24) hx hb hts hi9 hown hK hP 0 rfl rfl 7 (by decide) fl88 (fun _ h9 => h9) rfl dX9_count_45 ?_
      exact my_retI hx hb hr hlocks hK hS [] (hP.sub [] rfl) (hD.sub [] (by decide) rfl) (Or.inl ⟨rfl, rfl, (by first | omega | assumption | trivial | decide +kernel), (by first | omega | assumption | trivial | decide +kernel)⟩) dX9_count_48
    ·
      by_cases cv6_1 : w9.toInt = 1
      ·
        refine lv_tableIn (off := 43) (tgt := 49) hx hb dX9_count_6 (by omega) (by omega) (by rw [cv6_1]; rfl) (by decide) ?_
        refine lv_aload_n hx hb dX9_count_49 rfl (lv_at hl 0 rfl) ?_
        refine va_get (ci := 9) (v := .int 0) (C := RX9) (T := TX9) (N := 24) hx hb hts hi9 hown hK hP 0 rfl rfl 4 (by decide) fl14 (fun _ h9 => h9) rfl dX9_count_50 ?_
        exact my_retI hx hb hr hlocks hK hS [] (hP.sub [] rfl) (hD.sub [] (by decide) rfl) (Or.inl ⟨rfl, rfl, (by first | omega | assumption | trivial | decide +kernel), (by first | omega | assumption | trivial | decide +kernel)⟩) dX9_count_53
      ·
        by_cases cv6_2 : w9.toInt = 2
        ·
          refine lv_tableIn (off := 48) (tgt := 54) hx hb dX9_count_6 (by omega) (by omega) (by rw [cv6_2]; rfl) (by decide) ?_
          refine lv_aload_n hx hb dX9_count_54 rfl (lv_at hl 0 rfl) ?_
          refine va_get (ci := 9) (v := .int 0) (C := RX9) (T := TX9) (N := 24) hx hb hts hi9 hown hK hP 0 rfl rfl 1 (by decide) fl11 (fun _ h9 => h9) rfl dX9_count_55 ?_
          exact my_retI hx hb hr hlocks hK hS [] (hP.sub [] rfl) (hD.sub [] (by decide) rfl) (Or.inl ⟨rfl, rfl, (by first | omega | assumption | trivial | decide +kernel), (by first | omega | assumption | trivial | decide +kernel)⟩) dX9_count_58
        ·
          by_cases cv6_3 : w9.toInt = 3
          ·
            refine lv_tableIn (off := 53) (tgt := 59) hx hb dX9_count_6 (by omega) (by omega) (by rw [cv6_3]; rfl) (by decide) ?_
            refine lv_aload_n hx hb dX9_count_59 rfl (lv_at hl 0 rfl) ?_
            refine my_goI (wr := []) hP hD hS hA [0, 1] [] rfl rfl (by decide) (by decide) (my_cV (As := []) (rest := []) (ci := 9) (wc := [(m0, .inr (9, [.int 0, .int 0, .ref a_row, .ref a_tape, .int 0, .int 0, .int 0, .int 0, .ref a_number, .ref a_read, .int 0, .ref a_readBits, .ref a_stands, .ref a_parted, .ref a_bitsWere, .ref a_stood, .ref a_chosen, .ref a_bestChosen, .int 0, .ref a_often, .ref a_sorted, .int 0, .ref a_risen, .ref a_risenWays])), (a_often, .inl (cI, 512, .inl (fun _ => (0 : Int32))))]) ⟨hx, hb, hml, hown, hts⟩ (cwV 0 hts gX9_count_X9_unlike rfl rfl rfl (by decide +kernel) ⟨Nat.le_of_ble_eq_true rfl, Nat.le_of_ble_eq_true rfl⟩) hN hK hP hD [0, 1] rfl (by decide) rfl 0 rfl rfl rfl rfl hl.1 rfl (Nat.le_of_ble_eq_true rfl) dX9_count_60 ⟨Nat.le_of_ble_eq_true rfl, Nat.le_of_ble_eq_true rfl⟩  ((k0_X9_unlike l D cI cJ m0 a_row a_tape a_number a_read a_readBits a_stands a_parted a_bitsWere a_stood a_chosen a_bestChosen a_often a_sorted a_risen a_risenWays (0 : Int32) (0 : Int32) (0 : Int32) (0 : Int32) (0 : Int32) (0 : Int32) (0 : Int32) (0 : Int32)) _)) (fun r u H locs hp hP hD hS => ?_)
            obtain ⟨rfl, rfl⟩ := hp
            have hP : va_P D vwCl [] H := hP
            have hD : va_D A [] := hD
            exact my_retI hx hb hr hlocks hK hS [] (hP.sub [] rfl) (hD.sub [] (by decide) rfl) (Or.inl ⟨rfl, rfl, (by first | omega | assumption | trivial | decide +kernel), (by first | omega | assumption | trivial | decide +kernel)⟩) dX9_count_63
          ·
            by_cases cv6_4 : w9.toInt = 4
            ·
              refine lv_tableIn (off := 58) (tgt := 64) hx hb dX9_count_6 (by omega) (by omega) (by rw [cv6_4]; rfl) (by decide) ?_
              refine lv_aload_n hx hb dX9_count_64 rfl (lv_at hl 0 rfl) ?_
              refine lv_iconst (v := 0) hx hb dX9_count_65 (by decide +kernel) ?_
              refine my_gpI (my_pV (As := [.int 0]) (rest := []) (ci := 9) ⟨hx, hb, hml, hown, hts⟩ (cwV 1 hts gX9_count_X9_together rfl rfl rfl (by decide +kernel) ⟨Nat.le_of_ble_eq_true rfl, Nat.le_of_ble_eq_true rfl⟩) hN hK hP [0] rfl 0 rfl rfl rfl rfl hl.1 rfl (Nat.le_of_ble_eq_true rfl) dX9_count_66 ⟨Nat.le_of_ble_eq_true rfl, Nat.le_of_ble_eq_true rfl⟩  (k0_X9_together l D cI cJ m0 a_row a_tape a_number a_read a_readBits a_stands a_parted a_bitsWere a_stood a_chosen a_bestChosen a_often a_sorted a_risen a_risenWays (0 : Int32) (0 : Int32) (0 : Int32) (0 : Int32) (0 : Int32) (0 : Int32) (0 : Int32) (0 : Int32))) (fun r hp => ?_)
              obtain rfl := hp
              exact my_retI hx hb hr hlocks hK hS [] (hP.sub [] rfl) (hD.sub [] (by decide) rfl) (Or.inl ⟨rfl, rfl, (by first | omega | assumption | trivial | decide +kernel), (by first | omega | assumption | trivial | decide +kernel)⟩) dX9_count_69
            ·
              have cv6_5 : w9.toInt = 5 := by omega
              refine lv_tableIn (off := 64) (tgt := 70) hx hb dX9_count_6 (by omega) (by omega) (by rw [cv6_5]; rfl) (by decide) ?_
              refine lv_aload_n hx hb dX9_count_70 rfl (lv_at hl 0 rfl) ?_
              refine lv_iconst (v := 1) hx hb dX9_count_71 (by decide +kernel) ?_
              refine my_gpI (my_pV (As := [.int 1]) (rest := []) (ci := 9) ⟨hx, hb, hml, hown, hts⟩ (cwV 1 hts gX9_count_X9_together rfl rfl rfl (by decide +kernel) ⟨Nat.le_of_ble_eq_true rfl, Nat.le_of_ble_eq_true rfl⟩) hN hK hP [0] rfl 0 rfl rfl rfl rfl hl.1 rfl (Nat.le_of_ble_eq_true rfl) dX9_count_72 ⟨Nat.le_of_ble_eq_true rfl, Nat.le_of_ble_eq_true rfl⟩  (k1_X9_together l D cI cJ m0 a_row a_tape a_number a_read a_readBits a_stands a_parted a_bitsWere a_stood a_chosen a_bestChosen a_often a_sorted a_risen a_risenWays (0 : Int32) (0 : Int32) (0 : Int32) (0 : Int32) (0 : Int32) (0 : Int32) (0 : Int32) (0 : Int32))) (fun r hp => ?_)
              obtain rfl := hp
              exact my_retI hx hb hr hlocks hK hS [] (hP.sub [] rfl) (hD.sub [] (by decide) rfl) (Or.inl ⟨rfl, rfl, (by first | omega | assumption | trivial | decide +kernel), (by first | omega | assumption | trivial | decide +kernel)⟩) dX9_count_75
set_option maxHeartbeats 4000000 in
set_option maxRecDepth 100000 in
theorem k0_X9_row (l : Launch) (D : va_G) (cI cJ : ClassId) (m0 : Nat) (a_row : Nat) (a_tape : Nat) (a_number : Nat) (a_read : Nat) (a_readBits : Nat) (a_stands : Nat) (a_parted : Nat) (a_bitsWere : Nat) (a_stood : Nat) (a_chosen : Nat) (a_bestChosen : Nat) (a_often : Nat) (a_sorted : Nat) (a_risen : Nat) (a_risenWays : Nat) (i9 : Int32) : ctL l yX9_row wsX9_row ({ frames := 1, cells := 0, slots := 0, locals := 60 } : Room) D (tyIJ cI cJ) [.ref m0, .int i9] [(m0, .inr (9, [.int 0, .int 0, .ref a_row, .ref a_tape, .int 0, .int 0, .int 0, .int 0, .ref a_number, .ref a_read, .int 0, .ref a_readBits, .ref a_stands, .ref a_parted, .ref a_bitsWere, .ref a_stood, .ref a_chosen, .ref a_bestChosen, .int 0, .ref a_often, .ref a_sorted, .int 0, .ref a_risen, .ref a_risenWays]))] (fun (r : Int64) (u : va_W) => u = [(m0, .inr (9, [.int 1, .int 0, .ref a_row, .ref a_tape, .int 0, .int 0, .int 0, .int 0, .ref a_number, .ref a_read, .int 0, .ref a_readBits, .ref a_stands, .ref a_parted, .ref a_bitsWere, .ref a_stood, .ref a_chosen, .ref a_bestChosen, .int 0, .ref a_often, .ref a_sorted, .int 0, .ref a_risen, .ref a_risenWays]))] ∧ r = 0) := by
  refine ctL.of (cc := cX9_row) (maxL := 2) (ret := (some .long)) (by decide) rfl (Nat.le_of_ble_eq_true rfl) ?_
  intro p e s m below meth c ls A hx hb hr hts hown hml hlocks hname hA hK hN hP hD hS hl
  have hl : lv_has ls 2 [(0, .ref m0), (1, .int i9)] := hl
  have hown : s.vm.findClass RX9 = some m.cls := hown
  have hi9 : ∀ w ∈ u_ws RX9 TX9 24, w ∈ wsX9_row := by decide +kernel
  have fl1 := hts (.fieldLink RX9 1 "PlaneColumnModel" "thrown" "I") (by decide +kernel)
  have fl11 := hts (.fieldLink RX9 11 "PlaneColumnModel" "told" "I") (by decide +kernel)
  refine lv_aload_n hx hb dX9_row_0 rfl (lv_at hl 0 rfl) ?_
  refine lv_iload_n hx hb dX9_row_1 rfl (lv_at hl 1 rfl) ?_
  refine lv_i2l (v := i9.toInt64) hx hb dX9_row_2 rfl ?_
  refine lv_lconst (v := 0) hx hb dX9_row_3 (by decide +kernel) ?_
  refine lv_aload_n hx hb dX9_row_4 rfl (lv_at hl 0 rfl) ?_
  refine va_get (ci := 9) (v := .int 0) (C := RX9) (T := TX9) (N := 24) hx hb hts hi9 hown hK hP 0 rfl rfl 1 (by decide) fl11 (fun _ h9 => h9) rfl dX9_row_5 ?_
  refine lv_iconst (v := 1) hx hb dX9_row_8 (by decide +kernel) ?_
  refine lv_isub hx hb dX9_row_9 ?_
  refine my_eqi (y := (-1)) (by decide +kernel) ?_
  refine lv_i2l (v := (-1)) hx hb dX9_row_10 (by decide +kernel) ?_
  refine my_gpI (my_pS (As := [.long i9.toInt64, .long 0, .long (-1)]) (rest := [.ref m0]) ⟨hx, hb, hml, hown, hts⟩ (va_cwS 3 hts gX9_row_X9_in rfl rfl rfl (by decide +kernel) ⟨Nat.le_of_ble_eq_true rfl, Nat.le_of_ble_eq_true rfl⟩) hN hK hP [] rfl rfl hl.1 rfl (Nat.le_of_ble_eq_true rfl) dX9_row_11 ⟨Nat.le_of_ble_eq_true rfl, Nat.le_of_ble_eq_true rfl⟩  (k_X9_in l D cI cJ i9.toInt64 (0 : Int64) (-1 : Int64) i9.toInt (0 : Int) (-1 : Int) (Int32.toInt_toInt64 _) (by decide +kernel) (by decide +kernel))) (fun r hp => ?_)
  rcases hp with ⟨rfl, ha_1, hb_2⟩ | ⟨rfl, ha_3⟩
  ·
    exfalso; omega
  ·
    refine lv_if_ne (tgt := 21) hx hb dX9_row_14 (by decide) (fun c14 => ?_) (fun c14 => ?_)
    ·
      exact absurd c14 (by decide +kernel)
    ·
      refine lv_iconst (v := 1) hx hb dX9_row_17 (by decide +kernel) ?_
      refine lv_goto (tgt := 22) hx hb dX9_row_18 (by decide) ?_
      refine my_gpI (my_pS (As := [.int 1]) (rest := [.ref m0]) ⟨hx, hb, hml, hown, hts⟩ (va_cwS 1 hts gX9_row_X9_flag rfl rfl rfl (by decide +kernel) ⟨Nat.le_of_ble_eq_true rfl, Nat.le_of_ble_eq_true rfl⟩) hN hK hP [] rfl rfl hl.1 rfl (Nat.le_of_ble_eq_true rfl) dX9_row_22 ⟨Nat.le_of_ble_eq_true rfl, Nat.le_of_ble_eq_true rfl⟩  (k1_X9_flag l D cI cJ )) (fun r hp => ?_)
      obtain rfl := hp
      refine va_put (ci := 9) (v := .int 1) (ty := (.int)) (C := RX9) (T := TX9) (N := 24) hx hb hts hi9 tyX9 tyX9_ok nmX9 hown hK hP hD hS 0 rfl rfl 0 (by decide) fl1 (fun _ h9 => h9) rfl (by decide +kernel) rfl rfl (Nat.le_of_ble_eq_true rfl) dX9_row_25 (fun H locs hP hD hS => ?_)
      have hP : va_P D vwCl [(m0, .inr (9, [.int 1, .int 0, .ref a_row, .ref a_tape, .int 0, .int 0, .int 0, .int 0, .ref a_number, .ref a_read, .int 0, .ref a_readBits, .ref a_stands, .ref a_parted, .ref a_bitsWere, .ref a_stood, .ref a_chosen, .ref a_bestChosen, .int 0, .ref a_often, .ref a_sorted, .int 0, .ref a_risen, .ref a_risenWays]))] H := hP
      have hD : va_D A [(m0, .inr (9, [.int 1, .int 0, .ref a_row, .ref a_tape, .int 0, .int 0, .int 0, .int 0, .ref a_number, .ref a_read, .int 0, .ref a_readBits, .ref a_stands, .ref a_parted, .ref a_bitsWere, .ref a_stood, .ref a_chosen, .ref a_bestChosen, .int 0, .ref a_often, .ref a_sorted, .int 0, .ref a_risen, .ref a_risenWays]))] := hD
      refine lv_aload_n hx hb dX9_row_28 rfl (lv_at hl 0 rfl) ?_
      refine va_get (ci := 9) (v := .int 1) (C := RX9) (T := TX9) (N := 24) hx hb hts hi9 hown hK hP 0 rfl rfl 0 (by decide) fl1 (fun _ h9 => h9) rfl dX9_row_29 ?_
      refine lv_iconst (v := 1) hx hb dX9_row_32 (by decide +kernel) ?_
      refine lv_icmp_ne (tgt := 40) hx hb dX9_row_33 (by decide) (fun c33 => ?_) (fun c33 => ?_)
      ·
        exact absurd c33 (by decide +kernel)
      ·
        refine lv_lconst (v := 0) hx hb dX9_row_36 (by decide +kernel) ?_
        refine lv_goto (tgt := 46) hx hb dX9_row_37 (by decide) ?_
        exact my_retL hx hb hr hlocks hK hS [(m0, .inr (9, [.int 1, .int 0, .ref a_row, .ref a_tape, .int 0, .int 0, .int 0, .int 0, .ref a_number, .ref a_read, .int 0, .ref a_readBits, .ref a_stands, .ref a_parted, .ref a_bitsWere, .ref a_stood, .ref a_chosen, .ref a_bestChosen, .int 0, .ref a_often, .ref a_sorted, .int 0, .ref a_risen, .ref a_risenWays]))] (hP.sub [0] rfl) (hD.sub [0] (by decide) rfl) (⟨rfl, rfl⟩) dX9_row_46
set_option maxHeartbeats 4000000 in
set_option maxRecDepth 100000 in
theorem k1_X9_thrown (l : Launch) (D : va_G) (cI cJ : ClassId) (m0 : Nat) (a_row : Nat) (a_tape : Nat) (a_number : Nat) (a_read : Nat) (a_readBits : Nat) (a_stands : Nat) (a_parted : Nat) (a_bitsWere : Nat) (a_stood : Nat) (a_chosen : Nat) (a_bestChosen : Nat) (a_often : Nat) (a_sorted : Nat) (a_risen : Nat) (a_risenWays : Nat) (i_told : Int32) (i_taped : Int32) (i_at : Int32) (i_to : Int32) (i_many : Int32) (i_readMany : Int32) (i_fewest : Int32) (i_size : Int32) : cpI l yX9_thrown wsX9_thrown ({ frames := 0, cells := 0, slots := 0, locals := 0 } : Room) D (tyIJ cI cJ) [.ref m0] [(m0, .inr (9, [.int 1, .int i_told, .ref a_row, .ref a_tape, .int i_taped, .int i_at, .int i_to, .int i_many, .ref a_number, .ref a_read, .int i_readMany, .ref a_readBits, .ref a_stands, .ref a_parted, .ref a_bitsWere, .ref a_stood, .ref a_chosen, .ref a_bestChosen, .int i_fewest, .ref a_often, .ref a_sorted, .int i_size, .ref a_risen, .ref a_risenWays]))] (fun (r : Int32) => r = 1) := by
  refine cpI.of (cc := cX9_thrown) (maxL := 1) (ret := (some .int)) (by decide) rfl (Nat.le_of_ble_eq_true rfl) ?_
  intro p e s m below meth c ls hx hb hr hts hown hml hlocks hname hK hN hP hl
  have hl : lv_has ls 1 [(0, .ref m0)] := hl
  have hown : s.vm.findClass RX9 = some m.cls := hown
  have hi9 : ∀ w ∈ u_ws RX9 TX9 24, w ∈ wsX9_thrown := by decide +kernel
  have fl1 := hts (.fieldLink RX9 1 "PlaneColumnModel" "thrown" "I") (by decide +kernel)
  refine lv_aload_n hx hb dX9_thrown_0 rfl (lv_at hl 0 rfl) ?_
  refine va_get (ci := 9) (v := .int 1) (C := RX9) (T := TX9) (N := 24) hx hb hts hi9 hown hK hP 0 rfl rfl 0 (by decide) fl1 (fun _ h9 => h9) rfl dX9_thrown_1 ?_
  exact my_rpI hx hb hr hlocks (rfl) dX9_thrown_4
