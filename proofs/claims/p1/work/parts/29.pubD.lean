set_option maxHeartbeats 4000000 in
set_option maxRecDepth 100000 in
theorem k0_X8_spread (l : Launch) (D : va_G) (cI cJ : ClassId) (x0 : Nat) (xn : Nat) (xl : Nat) (xt : Nat) (xo : Nat) (xf : Nat) (xs : Nat) (xp : Nat) (xq : Nat) (xr : Nat) (xc : Nat) (f1 : Nat) (f2 : Nat) (f3 : Int32) (ff : Nat → Int32) (o1 : Nat) (o2 : Int32) (of : Nat → Int64) (l9 : Int32) (r9 : Int32) (p9 : Int32) : ctI l yX8_spread wsX8_spread ({ frames := 4, cells := 0, slots := 0, locals := 240 } : Room) D (tyIJ cI cJ) [.ref x0, .int l9, .int r9, .int p9] [(x0, .inr (8, [.ref xn, .int 0, .ref xl, .ref xt, .ref xo, .ref xf, .ref xs, .ref xp, .ref xq, .ref xr, .ref xc])), (xf, .inr (6, [.ref f1, .ref f2, .int f3])), (f1, .inl (cI, 512, .inl (fun _ => (0 : Int32)))), (f2, .inl (cI, 64, .inl ff)), (xo, .inr (7, [.ref o1, .int o2])), (o1, .inl (cJ, 64, .inr (.inl of)))] (fun (r : Int32) (u : va_W) => (u = [] ∧ r = 0 ∧ l9.toInt = 0 ∧ r9.toInt = 0 ∧ 1 ≤ p9.toInt ∧ p9.toInt ≤ 4) ∨ (u = [] ∧ r = (-1) ∧ (l9.toInt < 0 ∨ r9.toInt < l9.toInt ∨ 0 < r9.toInt ∨ p9.toInt < 1 ∨ 4 < p9.toInt))) := by
  refine ctI.of (cc := cX8_spread) (maxL := 7) (ret := (some .int)) (by decide) rfl (Nat.le_of_ble_eq_true rfl) ?_
  intro p e s m below meth c ls A hx hb hr hts hown hml hlocks hname hA hK hN hP hD hS hl
  have hl : lv_has ls 7 [(0, .ref x0), (1, .int l9), (2, .int r9), (3, .int p9)] := hl
  have hown : s.vm.findClass RX8 = some m.cls := hown
  have hi8 : ∀ w ∈ u_ws RX8 TX8 11, w ∈ wsX8_spread := by decide +kernel
  have fl34 := hts (.fieldLink RX8 34 "PlaneColumn" "told" "LPlaneColumn$Told;") (by decide +kernel)
  have fl41 := hts (.fieldLink RX8 41 "PlaneColumn" "first" "LPlaneColumn$Tally;") (by decide +kernel)
  have fl9 := hts (.fieldLink RX8 9 "PlaneColumn" "numbers" "[I") (by decide +kernel)
  refine lv_aload_n hx hb dX8_spread_0 rfl (lv_at hl 0 rfl) ?_
  refine lv_iload_n hx hb dX8_spread_1 rfl (lv_at hl 1 rfl) ?_
  refine lv_iload_n hx hb dX8_spread_2 rfl (lv_at hl 2 rfl) ?_
  refine my_gpI (my_pV (As := [.int l9, .int r9]) (rest := []) (ci := 8) ⟨hx, hb, hml, hown, hts⟩ (cwV 2 hts gX8_spread_X8_isSpan rfl rfl rfl (by decide +kernel) ⟨Nat.le_of_ble_eq_true rfl, Nat.le_of_ble_eq_true rfl⟩) hN hK hP [0] rfl 0 rfl rfl rfl rfl hl.1 rfl (Nat.le_of_ble_eq_true rfl) dX8_spread_3 ⟨Nat.le_of_ble_eq_true rfl, Nat.le_of_ble_eq_true rfl⟩  (k0_X8_isSpan l D cI cJ x0 xn xl xt xo xf xs xp xq xr xc l9 r9)) (fun r hp => ?_)
  rcases hp with ⟨rfl, rfl, rfl⟩ | ⟨rfl, ha_1⟩
  ·
    refine lv_if_eq (tgt := 19) hx hb dX8_spread_6 (by decide) (fun c6 => ?_) (fun c6 => ?_)
    ·
      exact absurd c6 (by decide +kernel)
    ·
      refine lv_iload_n hx hb dX8_spread_9 rfl (lv_at hl 3 rfl) ?_
      refine lv_iconst (v := 1) hx hb dX8_spread_10 (by decide +kernel) ?_
      refine lv_icmp_lt (tgt := 19) hx hb dX8_spread_11 (by decide) (fun c11 => ?_) (fun c11 => ?_)
      ·
        have d11 : p9.toInt < (1 : Int) := my_lt c11 rfl (by decide +kernel)
        refine lv_iconst (v := (-1)) hx hb dX8_spread_19 (by decide +kernel) ?_
        exact my_retI hx hb hr hlocks hK hS [] (hP.sub [] rfl) (hD.sub [] (by decide) rfl) (Or.inr (⟨rfl, rfl, (by first | omega | assumption | trivial | decide +kernel)⟩)) dX8_spread_20
      ·
        have d11 : p9.toInt ≥ (1 : Int) := my_nlt c11 rfl (by decide +kernel)
        refine lv_iload_n hx hb dX8_spread_14 rfl (lv_at hl 3 rfl) ?_
        refine lv_iconst (v := 4) hx hb dX8_spread_15 (by decide +kernel) ?_
        refine lv_icmp_le (tgt := 21) hx hb dX8_spread_16 (by decide) (fun c16 => ?_) (fun c16 => ?_)
        ·
          have d16 : p9.toInt ≤ (4 : Int) := my_le c16 rfl (by decide +kernel)
          rcases (show p9 = 1 ∨ p9 = 2 ∨ p9 = 3 ∨ p9 = 4 from by
            rcases (show p9.toInt = 1 ∨ p9.toInt = 2 ∨ p9.toInt = 3 ∨ p9.toInt = 4 from by omega) with h | h | h | h
            · exact Or.inl (my_eqI h (by decide +kernel))
            · exact Or.inr (Or.inl (my_eqI h (by decide +kernel)))
            · exact Or.inr (Or.inr (Or.inl (my_eqI h (by decide +kernel))))
            · exact Or.inr (Or.inr (Or.inr (my_eqI h (by decide +kernel))))
            ) with rfl | rfl | rfl | rfl
          ·
            refine lv_aload_n hx hb dX8_spread_21 rfl (lv_at hl 0 rfl) ?_
            refine va_get (ci := 8) (v := .ref xf) (C := RX8) (T := TX8) (N := 11) hx hb hts hi8 hown hK hP 0 rfl rfl 5 (by decide) fl41 (fun _ h9 => h9) rfl dX8_spread_22 ?_
            refine lv_aload_n hx hb dX8_spread_25 rfl (lv_at hl 0 rfl) ?_
            refine va_get (ci := 8) (v := .ref xn) (C := RX8) (T := TX8) (N := 11) hx hb hts hi8 hown hK hP 0 rfl rfl 0 (by decide) fl9 (fun _ h9 => h9) rfl dX8_spread_26 ?_
            refine lv_iload_n hx hb dX8_spread_29 rfl (lv_at hl 1 rfl) ?_
            refine lv_iload_n hx hb dX8_spread_30 rfl (lv_at hl 2 rfl) ?_
            refine my_goV (wr := [(x0, .inr (8, [.ref xn, .int 0, .ref xl, .ref xt, .ref xo, .ref xf, .ref xs, .ref xp, .ref xq, .ref xr, .ref xc])), (xo, .inr (7, [.ref o1, .int o2])), (o1, .inl (cJ, 64, .inr (.inl of)))]) hP hD hS hA [1, 2, 3] [0, 4, 5] rfl rfl (by decide) (by decide) (my_cV (As := [.ref xn, .int 0, .int 0]) (rest := []) (ci := 6) (wc := [(xf, .inr (6, [.ref f1, .ref f2, .int f3])), (f1, .inl (cI, 512, .inl (fun _ => (0 : Int32)))), (f2, .inl (cI, 64, .inl ff))]) ⟨hx, hb, hml, hown, hts⟩ (cwV 3 hts gX8_spread_X6_take rfl rfl rfl (by decide +kernel) ⟨Nat.le_of_ble_eq_true rfl, Nat.le_of_ble_eq_true rfl⟩) hN hK hP hD [1, 2, 3] rfl (by decide) rfl 1 rfl rfl rfl rfl hl.1 rfl (Nat.le_of_ble_eq_true rfl) dX8_spread_31 ⟨Nat.le_of_ble_eq_true rfl, Nat.le_of_ble_eq_true rfl⟩  ((k0_X6_take l D cI cJ xf f1 f2 xn f3 ff) _)) (fun u H locs hp hP hD hS => ?_)
            obtain rfl := hp
            have hP : va_P D vwCl [(x0, .inr (8, [.ref xn, .int 0, .ref xl, .ref xt, .ref xo, .ref xf, .ref xs, .ref xp, .ref xq, .ref xr, .ref xc])), (xo, .inr (7, [.ref o1, .int o2])), (o1, .inl (cJ, 64, .inr (.inl of))), (xf, .inr (6, [.ref f1, .ref f2, .int 0])), (f1, .inl (cI, 512, .inl (fun _ => (0 : Int32)))), (f2, .inl (cI, 64, .inl ff))] H := hP
            have hD : va_D A [(x0, .inr (8, [.ref xn, .int 0, .ref xl, .ref xt, .ref xo, .ref xf, .ref xs, .ref xp, .ref xq, .ref xr, .ref xc])), (xo, .inr (7, [.ref o1, .int o2])), (o1, .inl (cJ, 64, .inr (.inl of))), (xf, .inr (6, [.ref f1, .ref f2, .int 0])), (f1, .inl (cI, 512, .inl (fun _ => (0 : Int32)))), (f2, .inl (cI, 64, .inl ff))] := hD
            refine lv_iconst (v := 0) hx hb dX8_spread_34 (by decide +kernel) ?_
            refine lv_istore (lv' := [(4, .int 0), (0, .ref x0), (1, .int 0), (2, .int 0), (3, .int 1)]) hx hb dX8_spread_35 hl (by decide) rfl (fun ls hl => ?_)
            refine lv_aload_n hx hb dX8_spread_37 rfl (lv_at hl 1 rfl) ?_
            refine va_get (ci := 8) (v := .ref xo) (C := RX8) (T := TX8) (N := 11) hx hb hts hi8 hown hK hP 0 rfl rfl 4 (by decide) fl34 (fun _ h9 => h9) rfl dX8_spread_38 ?_
            refine my_goV (wr := [(x0, .inr (8, [.ref xn, .int 0, .ref xl, .ref xt, .ref xo, .ref xf, .ref xs, .ref xp, .ref xq, .ref xr, .ref xc])), (o1, .inl (cJ, 64, .inr (.inl of))), (xf, .inr (6, [.ref f1, .ref f2, .int 0])), (f1, .inl (cI, 512, .inl (fun _ => (0 : Int32)))), (f2, .inl (cI, 64, .inl ff))]) hP hD hS hA [1] [0, 2, 3, 4, 5] rfl rfl (by decide) (by decide) (my_cV (As := []) (rest := []) (ci := 7) (wc := [(xo, .inr (7, [.ref o1, .int o2]))]) ⟨hx, hb, hml, hown, hts⟩ (cwV 0 hts gX8_spread_X7_begin rfl rfl rfl (by decide +kernel) ⟨Nat.le_of_ble_eq_true rfl, Nat.le_of_ble_eq_true rfl⟩) hN hK hP hD [1] rfl (by decide) rfl 1 rfl rfl rfl rfl hl.1 rfl (Nat.le_of_ble_eq_true rfl) dX8_spread_41 ⟨Nat.le_of_ble_eq_true rfl, Nat.le_of_ble_eq_true rfl⟩  ((k_X7_begin l D cI cJ xo o1 o2) _)) (fun u H locs hp hP hD hS => ?_)
            obtain rfl := hp
            have hP : va_P D vwCl [(x0, .inr (8, [.ref xn, .int 0, .ref xl, .ref xt, .ref xo, .ref xf, .ref xs, .ref xp, .ref xq, .ref xr, .ref xc])), (o1, .inl (cJ, 64, .inr (.inl of))), (xf, .inr (6, [.ref f1, .ref f2, .int 0])), (f1, .inl (cI, 512, .inl (fun _ => (0 : Int32)))), (f2, .inl (cI, 64, .inl ff)), (xo, .inr (7, [.ref o1, .int 0]))] H := hP
            have hD : va_D A [(x0, .inr (8, [.ref xn, .int 0, .ref xl, .ref xt, .ref xo, .ref xf, .ref xs, .ref xp, .ref xq, .ref xr, .ref xc])), (o1, .inl (cJ, 64, .inr (.inl of))), (xf, .inr (6, [.ref f1, .ref f2, .int 0])), (f1, .inl (cI, 512, .inl (fun _ => (0 : Int32)))), (f2, .inl (cI, 64, .inl ff)), (xo, .inr (7, [.ref o1, .int 0]))] := hD
            refine lv_iconst (v := 0) hx hb dX8_spread_44 (by decide +kernel) ?_
            refine lv_istore (lv' := [(5, .int 0), (4, .int 0), (0, .ref x0), (1, .int 0), (2, .int 0), (3, .int 1)]) hx hb dX8_spread_45 hl (by decide) rfl (fun ls hl => ?_)
            refine lv_iload hx hb dX8_spread_47 (lv_at hl 0 rfl) ?_
            refine lv_iconst (v := 1) hx hb dX8_spread_49 (by decide +kernel) ?_
            refine lv_iload_n hx hb dX8_spread_50 rfl (lv_at hl 5 rfl) ?_
            refine lv_ishl hx hb dX8_spread_51 ?_
            refine my_eqi (y := 2) (by decide +kernel) ?_
            refine lv_icmp_ge (tgt := 91) hx hb dX8_spread_52 (by decide) (fun c52 => ?_) (fun c52 => ?_)
            ·
              exact absurd c52 (by decide +kernel)
            ·
              refine lv_aload_n hx hb dX8_spread_55 rfl (lv_at hl 2 rfl) ?_
              refine va_get (ci := 8) (v := .ref xf) (C := RX8) (T := TX8) (N := 11) hx hb hts hi8 hown hK hP 0 rfl rfl 5 (by decide) fl41 (fun _ h9 => h9) rfl dX8_spread_56 ?_
              refine lv_iload_n hx hb dX8_spread_59 rfl (lv_at hl 5 rfl) ?_
              refine lv_iload hx hb dX8_spread_60 (lv_at hl 0 rfl) ?_
              refine my_gpI (my_pV (As := [.int 1, .int 0]) (rest := []) (ci := 6) ⟨hx, hb, hml, hown, hts⟩ (cwV 2 hts gX8_spread_X6_inNode rfl rfl rfl (by decide +kernel) ⟨Nat.le_of_ble_eq_true rfl, Nat.le_of_ble_eq_true rfl⟩) hN hK hP [2, 3] rfl 2 rfl rfl rfl rfl hl.1 rfl (Nat.le_of_ble_eq_true rfl) dX8_spread_62 ⟨Nat.le_of_ble_eq_true rfl, Nat.le_of_ble_eq_true rfl⟩  (k0_X6_inNode_1 l D cI cJ xf f1 f2 (0 : Int32) (0 : Int32))) (fun r hp => ?_)
              obtain rfl := hp
              refine lv_istore (lv' := [(6, .int 0), (5, .int 0), (4, .int 0), (0, .ref x0), (1, .int 0), (2, .int 0), (3, .int 1)]) hx hb dX8_spread_65 hl (by decide) rfl (fun ls hl => ?_)
              refine lv_aload_n hx hb dX8_spread_67 rfl (lv_at hl 3 rfl) ?_
              refine va_get (ci := 8) (v := .ref xo) (C := RX8) (T := TX8) (N := 11) hx hb hts hi8 hown hK hP 0 rfl rfl 4 (by decide) fl34 (fun _ h9 => h9) rfl dX8_spread_68 ?_
              refine lv_iload hx hb dX8_spread_71 (lv_at hl 0 rfl) ?_
              refine lv_i2l (v := 0) hx hb dX8_spread_73 (by decide +kernel) ?_
              refine my_goV (wr := [(x0, .inr (8, [.ref xn, .int 0, .ref xl, .ref xt, .ref xo, .ref xf, .ref xs, .ref xp, .ref xq, .ref xr, .ref xc])), (xf, .inr (6, [.ref f1, .ref f2, .int 0])), (f1, .inl (cI, 512, .inl (fun _ => (0 : Int32)))), (f2, .inl (cI, 64, .inl ff))]) hP hD hS hA [5, 1] [0, 2, 3, 4] rfl rfl (by decide) (by decide) (my_cV (As := [.long 0]) (rest := []) (ci := 7) (wc := [(xo, .inr (7, [.ref o1, .int 0])), (o1, .inl (cJ, 64, .inr (.inl of)))]) ⟨hx, hb, hml, hown, hts⟩ (cwV 1 hts gX8_spread_X7_add rfl rfl rfl (by decide +kernel) ⟨Nat.le_of_ble_eq_true rfl, Nat.le_of_ble_eq_true rfl⟩) hN hK hP hD [5, 1] rfl (by decide) rfl 5 rfl rfl rfl rfl hl.1 rfl (Nat.le_of_ble_eq_true rfl) dX8_spread_74 ⟨Nat.le_of_ble_eq_true rfl, Nat.le_of_ble_eq_true rfl⟩  ((k_X7_add l D cI cJ xo o1 0 of (0 : Int64) (by first | omega | decide +kernel)) _)) (fun u H locs hp hP hD hS => ?_)
              obtain ⟨k_2, f_3, rfl, ha_4, hb_5⟩ := hp
              have hP : va_P D vwCl [(x0, .inr (8, [.ref xn, .int 0, .ref xl, .ref xt, .ref xo, .ref xf, .ref xs, .ref xp, .ref xq, .ref xr, .ref xc])), (xf, .inr (6, [.ref f1, .ref f2, .int 0])), (f1, .inl (cI, 512, .inl (fun _ => (0 : Int32)))), (f2, .inl (cI, 64, .inl ff)), (xo, .inr (7, [.ref o1, .int (nI k_2)])), (o1, .inl (cJ, 64, .inr (.inl f_3)))] H := hP
              have hD : va_D A [(x0, .inr (8, [.ref xn, .int 0, .ref xl, .ref xt, .ref xo, .ref xf, .ref xs, .ref xp, .ref xq, .ref xr, .ref xc])), (xf, .inr (6, [.ref f1, .ref f2, .int 0])), (f1, .inl (cI, 512, .inl (fun _ => (0 : Int32)))), (f2, .inl (cI, 64, .inl ff)), (xo, .inr (7, [.ref o1, .int (nI k_2)])), (o1, .inl (cJ, 64, .inr (.inl f_3)))] := hD
              refine lv_iload hx hb dX8_spread_77 (lv_at hl 0 rfl) ?_
              refine lv_if_le (tgt := 85) hx hb dX8_spread_79 (by decide) (fun c79 => ?_) (fun c79 => ?_)
              ·
                refine lv_iinc (v := 1) (lv' := [(5, .int 1), (6, .int 0), (4, .int 0), (0, .ref x0), (1, .int 0), (2, .int 0), (3, .int 1)]) hx hb dX8_spread_85 hl (k := 1) rfl (by decide +kernel) (by decide) rfl (fun ls hl => ?_)
                refine lv_goto (tgt := 47) hx hb dX8_spread_88 (by decide) ?_
                refine lv_iload hx hb dX8_spread_47 (lv_at hl 0 rfl) ?_
                refine lv_iconst (v := 1) hx hb dX8_spread_49 (by decide +kernel) ?_
                refine lv_iload_n hx hb dX8_spread_50 rfl (lv_at hl 6 rfl) ?_
                refine lv_ishl hx hb dX8_spread_51 ?_
                refine my_eqi (y := 2) (by decide +kernel) ?_
                refine lv_icmp_ge (tgt := 91) hx hb dX8_spread_52 (by decide) (fun c52 => ?_) (fun c52 => ?_)
                ·
                  exact absurd c52 (by decide +kernel)
                ·
                  refine lv_aload_n hx hb dX8_spread_55 rfl (lv_at hl 3 rfl) ?_
                  refine va_get (ci := 8) (v := .ref xf) (C := RX8) (T := TX8) (N := 11) hx hb hts hi8 hown hK hP 0 rfl rfl 5 (by decide) fl41 (fun _ h9 => h9) rfl dX8_spread_56 ?_
                  refine lv_iload_n hx hb dX8_spread_59 rfl (lv_at hl 6 rfl) ?_
                  refine lv_iload hx hb dX8_spread_60 (lv_at hl 0 rfl) ?_
                  refine my_gpI (my_pV (As := [.int 1, .int 1]) (rest := []) (ci := 6) ⟨hx, hb, hml, hown, hts⟩ (cwV 2 hts gX8_spread_X6_inNode rfl rfl rfl (by decide +kernel) ⟨Nat.le_of_ble_eq_true rfl, Nat.le_of_ble_eq_true rfl⟩) hN hK hP [1, 2] rfl 1 rfl rfl rfl rfl hl.1 rfl (Nat.le_of_ble_eq_true rfl) dX8_spread_62 ⟨Nat.le_of_ble_eq_true rfl, Nat.le_of_ble_eq_true rfl⟩  (k0_X6_inNode_1 l D cI cJ xf f1 f2 (0 : Int32) (1 : Int32))) (fun r hp => ?_)
                  obtain rfl := hp
                  refine lv_istore (lv' := [(6, .int 0), (5, .int 1), (4, .int 0), (0, .ref x0), (1, .int 0), (2, .int 0), (3, .int 1)]) hx hb dX8_spread_65 hl (by decide) rfl (fun ls hl => ?_)
                  refine lv_aload_n hx hb dX8_spread_67 rfl (lv_at hl 3 rfl) ?_
                  refine va_get (ci := 8) (v := .ref xo) (C := RX8) (T := TX8) (N := 11) hx hb hts hi8 hown hK hP 0 rfl rfl 4 (by decide) fl34 (fun _ h9 => h9) rfl dX8_spread_68 ?_
                  refine lv_iload hx hb dX8_spread_71 (lv_at hl 0 rfl) ?_
                  refine lv_i2l (v := 0) hx hb dX8_spread_73 (by decide +kernel) ?_
                  refine my_goV (wr := [(x0, .inr (8, [.ref xn, .int 0, .ref xl, .ref xt, .ref xo, .ref xf, .ref xs, .ref xp, .ref xq, .ref xr, .ref xc])), (xf, .inr (6, [.ref f1, .ref f2, .int 0])), (f1, .inl (cI, 512, .inl (fun _ => (0 : Int32)))), (f2, .inl (cI, 64, .inl ff))]) hP hD hS hA [4, 5] [0, 1, 2, 3] rfl rfl (by decide) (by decide) (my_cV (As := [.long 0]) (rest := []) (ci := 7) (wc := [(xo, .inr (7, [.ref o1, .int (nI k_2)])), (o1, .inl (cJ, 64, .inr (.inl f_3)))]) ⟨hx, hb, hml, hown, hts⟩ (cwV 1 hts gX8_spread_X7_add rfl rfl rfl (by decide +kernel) ⟨Nat.le_of_ble_eq_true rfl, Nat.le_of_ble_eq_true rfl⟩) hN hK hP hD [4, 5] rfl (by decide) rfl 4 rfl rfl rfl rfl hl.1 rfl (Nat.le_of_ble_eq_true rfl) dX8_spread_74 ⟨Nat.le_of_ble_eq_true rfl, Nat.le_of_ble_eq_true rfl⟩  ((k_X7_add l D cI cJ xo o1 k_2 f_3 (0 : Int64) (by first | omega | decide +kernel)) _)) (fun u H locs hp hP hD hS => ?_)
                  obtain ⟨k_6, f_7, rfl, ha_8, hb_9⟩ := hp
                  have hP : va_P D vwCl [(x0, .inr (8, [.ref xn, .int 0, .ref xl, .ref xt, .ref xo, .ref xf, .ref xs, .ref xp, .ref xq, .ref xr, .ref xc])), (xf, .inr (6, [.ref f1, .ref f2, .int 0])), (f1, .inl (cI, 512, .inl (fun _ => (0 : Int32)))), (f2, .inl (cI, 64, .inl ff)), (xo, .inr (7, [.ref o1, .int (nI k_6)])), (o1, .inl (cJ, 64, .inr (.inl f_7)))] H := hP
                  have hD : va_D A [(x0, .inr (8, [.ref xn, .int 0, .ref xl, .ref xt, .ref xo, .ref xf, .ref xs, .ref xp, .ref xq, .ref xr, .ref xc])), (xf, .inr (6, [.ref f1, .ref f2, .int 0])), (f1, .inl (cI, 512, .inl (fun _ => (0 : Int32)))), (f2, .inl (cI, 64, .inl ff)), (xo, .inr (7, [.ref o1, .int (nI k_6)])), (o1, .inl (cJ, 64, .inr (.inl f_7)))] := hD
                  refine lv_iload hx hb dX8_spread_77 (lv_at hl 0 rfl) ?_
                  refine lv_if_le (tgt := 85) hx hb dX8_spread_79 (by decide) (fun c79 => ?_) (fun c79 => ?_)
                  ·
                    refine lv_iinc (v := 2) (lv' := [(5, .int 2), (6, .int 0), (4, .int 0), (0, .ref x0), (1, .int 0), (2, .int 0), (3, .int 1)]) hx hb dX8_spread_85 hl (k := 1) rfl (by decide +kernel) (by decide) rfl (fun ls hl => ?_)
                    refine lv_goto (tgt := 47) hx hb dX8_spread_88 (by decide) ?_
                    refine lv_iload hx hb dX8_spread_47 (lv_at hl 0 rfl) ?_
                    refine lv_iconst (v := 1) hx hb dX8_spread_49 (by decide +kernel) ?_
                    refine lv_iload_n hx hb dX8_spread_50 rfl (lv_at hl 6 rfl) ?_
                    refine lv_ishl hx hb dX8_spread_51 ?_
                    refine my_eqi (y := 2) (by decide +kernel) ?_
                    refine lv_icmp_ge (tgt := 91) hx hb dX8_spread_52 (by decide) (fun c52 => ?_) (fun c52 => ?_)
                    ·
                      refine lv_iload hx hb dX8_spread_91 (lv_at hl 2 rfl) ?_
                      exact my_retI hx hb hr hlocks hK hS [] (hP.sub [] rfl) (hD.sub [] (by decide) rfl) (Or.inl ⟨rfl, rfl, (by first | omega | assumption | trivial | decide +kernel), (by first | omega | assumption | trivial | decide +kernel), (by first | omega | assumption | trivial | decide +kernel), (by first | omega | assumption | trivial | decide +kernel)⟩) dX8_spread_93
                    ·
                      exact absurd c52 (by decide +kernel)
                  ·
                    exact absurd c79 (by decide +kernel)
              ·
                exact absurd c79 (by decide +kernel)
          ·
            refine lv_aload_n hx hb dX8_spread_21 rfl (lv_at hl 0 rfl) ?_
            refine va_get (ci := 8) (v := .ref xf) (C := RX8) (T := TX8) (N := 11) hx hb hts hi8 hown hK hP 0 rfl rfl 5 (by decide) fl41 (fun _ h9 => h9) rfl dX8_spread_22 ?_
            refine lv_aload_n hx hb dX8_spread_25 rfl (lv_at hl 0 rfl) ?_
            refine va_get (ci := 8) (v := .ref xn) (C := RX8) (T := TX8) (N := 11) hx hb hts hi8 hown hK hP 0 rfl rfl 0 (by decide) fl9 (fun _ h9 => h9) rfl dX8_spread_26 ?_
            refine lv_iload_n hx hb dX8_spread_29 rfl (lv_at hl 1 rfl) ?_
            refine lv_iload_n hx hb dX8_spread_30 rfl (lv_at hl 2 rfl) ?_
            refine my_goV (wr := [(x0, .inr (8, [.ref xn, .int 0, .ref xl, .ref xt, .ref xo, .ref xf, .ref xs, .ref xp, .ref xq, .ref xr, .ref xc])), (xo, .inr (7, [.ref o1, .int o2])), (o1, .inl (cJ, 64, .inr (.inl of)))]) hP hD hS hA [1, 2, 3] [0, 4, 5] rfl rfl (by decide) (by decide) (my_cV (As := [.ref xn, .int 0, .int 0]) (rest := []) (ci := 6) (wc := [(xf, .inr (6, [.ref f1, .ref f2, .int f3])), (f1, .inl (cI, 512, .inl (fun _ => (0 : Int32)))), (f2, .inl (cI, 64, .inl ff))]) ⟨hx, hb, hml, hown, hts⟩ (cwV 3 hts gX8_spread_X6_take rfl rfl rfl (by decide +kernel) ⟨Nat.le_of_ble_eq_true rfl, Nat.le_of_ble_eq_true rfl⟩) hN hK hP hD [1, 2, 3] rfl (by decide) rfl 1 rfl rfl rfl rfl hl.1 rfl (Nat.le_of_ble_eq_true rfl) dX8_spread_31 ⟨Nat.le_of_ble_eq_true rfl, Nat.le_of_ble_eq_true rfl⟩  ((k0_X6_take l D cI cJ xf f1 f2 xn f3 ff) _)) (fun u H locs hp hP hD hS => ?_)
            obtain rfl := hp
            have hP : va_P D vwCl [(x0, .inr (8, [.ref xn, .int 0, .ref xl, .ref xt, .ref xo, .ref xf, .ref xs, .ref xp, .ref xq, .ref xr, .ref xc])), (xo, .inr (7, [.ref o1, .int o2])), (o1, .inl (cJ, 64, .inr (.inl of))), (xf, .inr (6, [.ref f1, .ref f2, .int 0])), (f1, .inl (cI, 512, .inl (fun _ => (0 : Int32)))), (f2, .inl (cI, 64, .inl ff))] H := hP
            have hD : va_D A [(x0, .inr (8, [.ref xn, .int 0, .ref xl, .ref xt, .ref xo, .ref xf, .ref xs, .ref xp, .ref xq, .ref xr, .ref xc])), (xo, .inr (7, [.ref o1, .int o2])), (o1, .inl (cJ, 64, .inr (.inl of))), (xf, .inr (6, [.ref f1, .ref f2, .int 0])), (f1, .inl (cI, 512, .inl (fun _ => (0 : Int32)))), (f2, .inl (cI, 64, .inl ff))] := hD
            refine lv_iconst (v := 0) hx hb dX8_spread_34 (by decide +kernel) ?_
            refine lv_istore (lv' := [(4, .int 0), (0, .ref x0), (1, .int 0), (2, .int 0), (3, .int 2)]) hx hb dX8_spread_35 hl (by decide) rfl (fun ls hl => ?_)
            refine lv_aload_n hx hb dX8_spread_37 rfl (lv_at hl 1 rfl) ?_
            refine va_get (ci := 8) (v := .ref xo) (C := RX8) (T := TX8) (N := 11) hx hb hts hi8 hown hK hP 0 rfl rfl 4 (by decide) fl34 (fun _ h9 => h9) rfl dX8_spread_38 ?_
            refine my_goV (wr := [(x0, .inr (8, [.ref xn, .int 0, .ref xl, .ref xt, .ref xo, .ref xf, .ref xs, .ref xp, .ref xq, .ref xr, .ref xc])), (o1, .inl (cJ, 64, .inr (.inl of))), (xf, .inr (6, [.ref f1, .ref f2, .int 0])), (f1, .inl (cI, 512, .inl (fun _ => (0 : Int32)))), (f2, .inl (cI, 64, .inl ff))]) hP hD hS hA [1] [0, 2, 3, 4, 5] rfl rfl (by decide) (by decide) (my_cV (As := []) (rest := []) (ci := 7) (wc := [(xo, .inr (7, [.ref o1, .int o2]))]) ⟨hx, hb, hml, hown, hts⟩ (cwV 0 hts gX8_spread_X7_begin rfl rfl rfl (by decide +kernel) ⟨Nat.le_of_ble_eq_true rfl, Nat.le_of_ble_eq_true rfl⟩) hN hK hP hD [1] rfl (by decide) rfl 1 rfl rfl rfl rfl hl.1 rfl (Nat.le_of_ble_eq_true rfl) dX8_spread_41 ⟨Nat.le_of_ble_eq_true rfl, Nat.le_of_ble_eq_true rfl⟩  ((k_X7_begin l D cI cJ xo o1 o2) _)) (fun u H locs hp hP hD hS => ?_)
            obtain rfl := hp
            have hP : va_P D vwCl [(x0, .inr (8, [.ref xn, .int 0, .ref xl, .ref xt, .ref xo, .ref xf, .ref xs, .ref xp, .ref xq, .ref xr, .ref xc])), (o1, .inl (cJ, 64, .inr (.inl of))), (xf, .inr (6, [.ref f1, .ref f2, .int 0])), (f1, .inl (cI, 512, .inl (fun _ => (0 : Int32)))), (f2, .inl (cI, 64, .inl ff)), (xo, .inr (7, [.ref o1, .int 0]))] H := hP
            have hD : va_D A [(x0, .inr (8, [.ref xn, .int 0, .ref xl, .ref xt, .ref xo, .ref xf, .ref xs, .ref xp, .ref xq, .ref xr, .ref xc])), (o1, .inl (cJ, 64, .inr (.inl of))), (xf, .inr (6, [.ref f1, .ref f2, .int 0])), (f1, .inl (cI, 512, .inl (fun _ => (0 : Int32)))), (f2, .inl (cI, 64, .inl ff)), (xo, .inr (7, [.ref o1, .int 0]))] := hD
            refine lv_iconst (v := 0) hx hb dX8_spread_44 (by decide +kernel) ?_
            refine lv_istore (lv' := [(5, .int 0), (4, .int 0), (0, .ref x0), (1, .int 0), (2, .int 0), (3, .int 2)]) hx hb dX8_spread_45 hl (by decide) rfl (fun ls hl => ?_)
            refine lv_iload hx hb dX8_spread_47 (lv_at hl 0 rfl) ?_
            refine lv_iconst (v := 1) hx hb dX8_spread_49 (by decide +kernel) ?_
            refine lv_iload_n hx hb dX8_spread_50 rfl (lv_at hl 5 rfl) ?_
            refine lv_ishl hx hb dX8_spread_51 ?_
            refine my_eqi (y := 4) (by decide +kernel) ?_
            refine lv_icmp_ge (tgt := 91) hx hb dX8_spread_52 (by decide) (fun c52 => ?_) (fun c52 => ?_)
            ·
              exact absurd c52 (by decide +kernel)
            ·
              refine lv_aload_n hx hb dX8_spread_55 rfl (lv_at hl 2 rfl) ?_
              refine va_get (ci := 8) (v := .ref xf) (C := RX8) (T := TX8) (N := 11) hx hb hts hi8 hown hK hP 0 rfl rfl 5 (by decide) fl41 (fun _ h9 => h9) rfl dX8_spread_56 ?_
              refine lv_iload_n hx hb dX8_spread_59 rfl (lv_at hl 5 rfl) ?_
              refine lv_iload hx hb dX8_spread_60 (lv_at hl 0 rfl) ?_
              refine my_gpI (my_pV (As := [.int 2, .int 0]) (rest := []) (ci := 6) ⟨hx, hb, hml, hown, hts⟩ (cwV 2 hts gX8_spread_X6_inNode rfl rfl rfl (by decide +kernel) ⟨Nat.le_of_ble_eq_true rfl, Nat.le_of_ble_eq_true rfl⟩) hN hK hP [2, 3] rfl 2 rfl rfl rfl rfl hl.1 rfl (Nat.le_of_ble_eq_true rfl) dX8_spread_62 ⟨Nat.le_of_ble_eq_true rfl, Nat.le_of_ble_eq_true rfl⟩  (k0_X6_inNode_2 l D cI cJ xf f1 f2 (0 : Int32) (0 : Int32))) (fun r hp => ?_)
              obtain rfl := hp
              refine lv_istore (lv' := [(6, .int 0), (5, .int 0), (4, .int 0), (0, .ref x0), (1, .int 0), (2, .int 0), (3, .int 2)]) hx hb dX8_spread_65 hl (by decide) rfl (fun ls hl => ?_)
              refine lv_aload_n hx hb dX8_spread_67 rfl (lv_at hl 3 rfl) ?_
              refine va_get (ci := 8) (v := .ref xo) (C := RX8) (T := TX8) (N := 11) hx hb hts hi8 hown hK hP 0 rfl rfl 4 (by decide) fl34 (fun _ h9 => h9) rfl dX8_spread_68 ?_
              refine lv_iload hx hb dX8_spread_71 (lv_at hl 0 rfl) ?_
              refine lv_i2l (v := 0) hx hb dX8_spread_73 (by decide +kernel) ?_
              refine my_goV (wr := [(x0, .inr (8, [.ref xn, .int 0, .ref xl, .ref xt, .ref xo, .ref xf, .ref xs, .ref xp, .ref xq, .ref xr, .ref xc])), (xf, .inr (6, [.ref f1, .ref f2, .int 0])), (f1, .inl (cI, 512, .inl (fun _ => (0 : Int32)))), (f2, .inl (cI, 64, .inl ff))]) hP hD hS hA [5, 1] [0, 2, 3, 4] rfl rfl (by decide) (by decide) (my_cV (As := [.long 0]) (rest := []) (ci := 7) (wc := [(xo, .inr (7, [.ref o1, .int 0])), (o1, .inl (cJ, 64, .inr (.inl of)))]) ⟨hx, hb, hml, hown, hts⟩ (cwV 1 hts gX8_spread_X7_add rfl rfl rfl (by decide +kernel) ⟨Nat.le_of_ble_eq_true rfl, Nat.le_of_ble_eq_true rfl⟩) hN hK hP hD [5, 1] rfl (by decide) rfl 5 rfl rfl rfl rfl hl.1 rfl (Nat.le_of_ble_eq_true rfl) dX8_spread_74 ⟨Nat.le_of_ble_eq_true rfl, Nat.le_of_ble_eq_true rfl⟩  ((k_X7_add l D cI cJ xo o1 0 of (0 : Int64) (by first | omega | decide +kernel)) _)) (fun u H locs hp hP hD hS => ?_)
              obtain ⟨k_10, f_11, rfl, ha_12, hb_13⟩ := hp
              have hP : va_P D vwCl [(x0, .inr (8, [.ref xn, .int 0, .ref xl, .ref xt, .ref xo, .ref xf, .ref xs, .ref xp, .ref xq, .ref xr, .ref xc])), (xf, .inr (6, [.ref f1, .ref f2, .int 0])), (f1, .inl (cI, 512, .inl (fun _ => (0 : Int32)))), (f2, .inl (cI, 64, .inl ff)), (xo, .inr (7, [.ref o1, .int (nI k_10)])), (o1, .inl (cJ, 64, .inr (.inl f_11)))] H := hP
              have hD : va_D A [(x0, .inr (8, [.ref xn, .int 0, .ref xl, .ref xt, .ref xo, .ref xf, .ref xs, .ref xp, .ref xq, .ref xr, .ref xc])), (xf, .inr (6, [.ref f1, .ref f2, .int 0])), (f1, .inl (cI, 512, .inl (fun _ => (0 : Int32)))), (f2, .inl (cI, 64, .inl ff)), (xo, .inr (7, [.ref o1, .int (nI k_10)])), (o1, .inl (cJ, 64, .inr (.inl f_11)))] := hD
              refine lv_iload hx hb dX8_spread_77 (lv_at hl 0 rfl) ?_
              refine lv_if_le (tgt := 85) hx hb dX8_spread_79 (by decide) (fun c79 => ?_) (fun c79 => ?_)
              ·
                refine lv_iinc (v := 1) (lv' := [(5, .int 1), (6, .int 0), (4, .int 0), (0, .ref x0), (1, .int 0), (2, .int 0), (3, .int 2)]) hx hb dX8_spread_85 hl (k := 1) rfl (by decide +kernel) (by decide) rfl (fun ls hl => ?_)
                refine lv_goto (tgt := 47) hx hb dX8_spread_88 (by decide) ?_
                refine lv_iload hx hb dX8_spread_47 (lv_at hl 0 rfl) ?_
                refine lv_iconst (v := 1) hx hb dX8_spread_49 (by decide +kernel) ?_
                refine lv_iload_n hx hb dX8_spread_50 rfl (lv_at hl 6 rfl) ?_
                refine lv_ishl hx hb dX8_spread_51 ?_
                refine my_eqi (y := 4) (by decide +kernel) ?_
                refine lv_icmp_ge (tgt := 91) hx hb dX8_spread_52 (by decide) (fun c52 => ?_) (fun c52 => ?_)
                ·
                  exact absurd c52 (by decide +kernel)
                ·
                  refine lv_aload_n hx hb dX8_spread_55 rfl (lv_at hl 3 rfl) ?_
                  refine va_get (ci := 8) (v := .ref xf) (C := RX8) (T := TX8) (N := 11) hx hb hts hi8 hown hK hP 0 rfl rfl 5 (by decide) fl41 (fun _ h9 => h9) rfl dX8_spread_56 ?_
                  refine lv_iload_n hx hb dX8_spread_59 rfl (lv_at hl 6 rfl) ?_
                  refine lv_iload hx hb dX8_spread_60 (lv_at hl 0 rfl) ?_
                  refine my_gpI (my_pV (As := [.int 2, .int 1]) (rest := []) (ci := 6) ⟨hx, hb, hml, hown, hts⟩ (cwV 2 hts gX8_spread_X6_inNode rfl rfl rfl (by decide +kernel) ⟨Nat.le_of_ble_eq_true rfl, Nat.le_of_ble_eq_true rfl⟩) hN hK hP [1, 2] rfl 1 rfl rfl rfl rfl hl.1 rfl (Nat.le_of_ble_eq_true rfl) dX8_spread_62 ⟨Nat.le_of_ble_eq_true rfl, Nat.le_of_ble_eq_true rfl⟩  (k0_X6_inNode_2 l D cI cJ xf f1 f2 (0 : Int32) (1 : Int32))) (fun r hp => ?_)
                  obtain rfl := hp
                  refine lv_istore (lv' := [(6, .int 0), (5, .int 1), (4, .int 0), (0, .ref x0), (1, .int 0), (2, .int 0), (3, .int 2)]) hx hb dX8_spread_65 hl (by decide) rfl (fun ls hl => ?_)
                  refine lv_aload_n hx hb dX8_spread_67 rfl (lv_at hl 3 rfl) ?_
                  refine va_get (ci := 8) (v := .ref xo) (C := RX8) (T := TX8) (N := 11) hx hb hts hi8 hown hK hP 0 rfl rfl 4 (by decide) fl34 (fun _ h9 => h9) rfl dX8_spread_68 ?_
                  refine lv_iload hx hb dX8_spread_71 (lv_at hl 0 rfl) ?_
                  refine lv_i2l (v := 0) hx hb dX8_spread_73 (by decide +kernel) ?_
                  refine my_goV (wr := [(x0, .inr (8, [.ref xn, .int 0, .ref xl, .ref xt, .ref xo, .ref xf, .ref xs, .ref xp, .ref xq, .ref xr, .ref xc])), (xf, .inr (6, [.ref f1, .ref f2, .int 0])), (f1, .inl (cI, 512, .inl (fun _ => (0 : Int32)))), (f2, .inl (cI, 64, .inl ff))]) hP hD hS hA [4, 5] [0, 1, 2, 3] rfl rfl (by decide) (by decide) (my_cV (As := [.long 0]) (rest := []) (ci := 7) (wc := [(xo, .inr (7, [.ref o1, .int (nI k_10)])), (o1, .inl (cJ, 64, .inr (.inl f_11)))]) ⟨hx, hb, hml, hown, hts⟩ (cwV 1 hts gX8_spread_X7_add rfl rfl rfl (by decide +kernel) ⟨Nat.le_of_ble_eq_true rfl, Nat.le_of_ble_eq_true rfl⟩) hN hK hP hD [4, 5] rfl (by decide) rfl 4 rfl rfl rfl rfl hl.1 rfl (Nat.le_of_ble_eq_true rfl) dX8_spread_74 ⟨Nat.le_of_ble_eq_true rfl, Nat.le_of_ble_eq_true rfl⟩  ((k_X7_add l D cI cJ xo o1 k_10 f_11 (0 : Int64) (by first | omega | decide +kernel)) _)) (fun u H locs hp hP hD hS => ?_)
                  obtain ⟨k_14, f_15, rfl, ha_16, hb_17⟩ := hp
                  have hP : va_P D vwCl [(x0, .inr (8, [.ref xn, .int 0, .ref xl, .ref xt, .ref xo, .ref xf, .ref xs, .ref xp, .ref xq, .ref xr, .ref xc])), (xf, .inr (6, [.ref f1, .ref f2, .int 0])), (f1, .inl (cI, 512, .inl (fun _ => (0 : Int32)))), (f2, .inl (cI, 64, .inl ff)), (xo, .inr (7, [.ref o1, .int (nI k_14)])), (o1, .inl (cJ, 64, .inr (.inl f_15)))] H := hP
                  have hD : va_D A [(x0, .inr (8, [.ref xn, .int 0, .ref xl, .ref xt, .ref xo, .ref xf, .ref xs, .ref xp, .ref xq, .ref xr, .ref xc])), (xf, .inr (6, [.ref f1, .ref f2, .int 0])), (f1, .inl (cI, 512, .inl (fun _ => (0 : Int32)))), (f2, .inl (cI, 64, .inl ff)), (xo, .inr (7, [.ref o1, .int (nI k_14)])), (o1, .inl (cJ, 64, .inr (.inl f_15)))] := hD
                  refine lv_iload hx hb dX8_spread_77 (lv_at hl 0 rfl) ?_
                  refine lv_if_le (tgt := 85) hx hb dX8_spread_79 (by decide) (fun c79 => ?_) (fun c79 => ?_)
                  ·
                    refine lv_iinc (v := 2) (lv' := [(5, .int 2), (6, .int 0), (4, .int 0), (0, .ref x0), (1, .int 0), (2, .int 0), (3, .int 2)]) hx hb dX8_spread_85 hl (k := 1) rfl (by decide +kernel) (by decide) rfl (fun ls hl => ?_)
                    refine lv_goto (tgt := 47) hx hb dX8_spread_88 (by decide) ?_
                    refine lv_iload hx hb dX8_spread_47 (lv_at hl 0 rfl) ?_
                    refine lv_iconst (v := 1) hx hb dX8_spread_49 (by decide +kernel) ?_
                    refine lv_iload_n hx hb dX8_spread_50 rfl (lv_at hl 6 rfl) ?_
                    refine lv_ishl hx hb dX8_spread_51 ?_
                    refine my_eqi (y := 4) (by decide +kernel) ?_
                    refine lv_icmp_ge (tgt := 91) hx hb dX8_spread_52 (by decide) (fun c52 => ?_) (fun c52 => ?_)
                    ·
                      exact absurd c52 (by decide +kernel)
                    ·
                      refine lv_aload_n hx hb dX8_spread_55 rfl (lv_at hl 3 rfl) ?_
                      refine va_get (ci := 8) (v := .ref xf) (C := RX8) (T := TX8) (N := 11) hx hb hts hi8 hown hK hP 0 rfl rfl 5 (by decide) fl41 (fun _ h9 => h9) rfl dX8_spread_56 ?_
                      refine lv_iload_n hx hb dX8_spread_59 rfl (lv_at hl 6 rfl) ?_
                      refine lv_iload hx hb dX8_spread_60 (lv_at hl 0 rfl) ?_
                      refine my_gpI (my_pV (As := [.int 2, .int 2]) (rest := []) (ci := 6) ⟨hx, hb, hml, hown, hts⟩ (cwV 2 hts gX8_spread_X6_inNode rfl rfl rfl (by decide +kernel) ⟨Nat.le_of_ble_eq_true rfl, Nat.le_of_ble_eq_true rfl⟩) hN hK hP [1, 2] rfl 1 rfl rfl rfl rfl hl.1 rfl (Nat.le_of_ble_eq_true rfl) dX8_spread_62 ⟨Nat.le_of_ble_eq_true rfl, Nat.le_of_ble_eq_true rfl⟩  (k0_X6_inNode_2 l D cI cJ xf f1 f2 (0 : Int32) (2 : Int32))) (fun r hp => ?_)
                      obtain rfl := hp
                      refine lv_istore (lv' := [(6, .int 0), (5, .int 2), (4, .int 0), (0, .ref x0), (1, .int 0), (2, .int 0), (3, .int 2)]) hx hb dX8_spread_65 hl (by decide) rfl (fun ls hl => ?_)
                      refine lv_aload_n hx hb dX8_spread_67 rfl (lv_at hl 3 rfl) ?_
                      refine va_get (ci := 8) (v := .ref xo) (C := RX8) (T := TX8) (N := 11) hx hb hts hi8 hown hK hP 0 rfl rfl 4 (by decide) fl34 (fun _ h9 => h9) rfl dX8_spread_68 ?_
                      refine lv_iload hx hb dX8_spread_71 (lv_at hl 0 rfl) ?_
                      refine lv_i2l (v := 0) hx hb dX8_spread_73 (by decide +kernel) ?_
                      refine my_goV (wr := [(x0, .inr (8, [.ref xn, .int 0, .ref xl, .ref xt, .ref xo, .ref xf, .ref xs, .ref xp, .ref xq, .ref xr, .ref xc])), (xf, .inr (6, [.ref f1, .ref f2, .int 0])), (f1, .inl (cI, 512, .inl (fun _ => (0 : Int32)))), (f2, .inl (cI, 64, .inl ff))]) hP hD hS hA [4, 5] [0, 1, 2, 3] rfl rfl (by decide) (by decide) (my_cV (As := [.long 0]) (rest := []) (ci := 7) (wc := [(xo, .inr (7, [.ref o1, .int (nI k_14)])), (o1, .inl (cJ, 64, .inr (.inl f_15)))]) ⟨hx, hb, hml, hown, hts⟩ (cwV 1 hts gX8_spread_X7_add rfl rfl rfl (by decide +kernel) ⟨Nat.le_of_ble_eq_true rfl, Nat.le_of_ble_eq_true rfl⟩) hN hK hP hD [4, 5] rfl (by decide) rfl 4 rfl rfl rfl rfl hl.1 rfl (Nat.le_of_ble_eq_true rfl) dX8_spread_74 ⟨Nat.le_of_ble_eq_true rfl, Nat.le_of_ble_eq_true rfl⟩  ((k_X7_add l D cI cJ xo o1 k_14 f_15 (0 : Int64) (by first | omega | decide +kernel)) _)) (fun u H locs hp hP hD hS => ?_)
                      obtain ⟨k_18, f_19, rfl, ha_20, hb_21⟩ := hp
                      have hP : va_P D vwCl [(x0, .inr (8, [.ref xn, .int 0, .ref xl, .ref xt, .ref xo, .ref xf, .ref xs, .ref xp, .ref xq, .ref xr, .ref xc])), (xf, .inr (6, [.ref f1, .ref f2, .int 0])), (f1, .inl (cI, 512, .inl (fun _ => (0 : Int32)))), (f2, .inl (cI, 64, .inl ff)), (xo, .inr (7, [.ref o1, .int (nI k_18)])), (o1, .inl (cJ, 64, .inr (.inl f_19)))] H := hP
                      have hD : va_D A [(x0, .inr (8, [.ref xn, .int 0, .ref xl, .ref xt, .ref xo, .ref xf, .ref xs, .ref xp, .ref xq, .ref xr, .ref xc])), (xf, .inr (6, [.ref f1, .ref f2, .int 0])), (f1, .inl (cI, 512, .inl (fun _ => (0 : Int32)))), (f2, .inl (cI, 64, .inl ff)), (xo, .inr (7, [.ref o1, .int (nI k_18)])), (o1, .inl (cJ, 64, .inr (.inl f_19)))] := hD
                      refine lv_iload hx hb dX8_spread_77 (lv_at hl 0 rfl) ?_
                      refine lv_if_le (tgt := 85) hx hb dX8_spread_79 (by decide) (fun c79 => ?_) (fun c79 => ?_)
                      ·
                        refine lv_iinc (v := 3) (lv' := [(5, .int 3), (6, .int 0), (4, .int 0), (0, .ref x0), (1, .int 0), (2, .int 0), (3, .int 2)]) hx hb dX8_spread_85 hl (k := 1) rfl (by decide +kernel) (by decide) rfl (fun ls hl => ?_)
                        refine lv_goto (tgt := 47) hx hb dX8_spread_88 (by decide) ?_
                        refine lv_iload hx hb dX8_spread_47 (lv_at hl 0 rfl) ?_
                        refine lv_iconst (v := 1) hx hb dX8_spread_49 (by decide +kernel) ?_
                        refine lv_iload_n hx hb dX8_spread_50 rfl (lv_at hl 6 rfl) ?_
                        refine lv_ishl hx hb dX8_spread_51 ?_
                        refine my_eqi (y := 4) (by decide +kernel) ?_
                        refine lv_icmp_ge (tgt := 91) hx hb dX8_spread_52 (by decide) (fun c52 => ?_) (fun c52 => ?_)
                        ·
                          exact absurd c52 (by decide +kernel)
                        ·
                          refine lv_aload_n hx hb dX8_spread_55 rfl (lv_at hl 3 rfl) ?_
                          refine va_get (ci := 8) (v := .ref xf) (C := RX8) (T := TX8) (N := 11) hx hb hts hi8 hown hK hP 0 rfl rfl 5 (by decide) fl41 (fun _ h9 => h9) rfl dX8_spread_56 ?_
                          refine lv_iload_n hx hb dX8_spread_59 rfl (lv_at hl 6 rfl) ?_
                          refine lv_iload hx hb dX8_spread_60 (lv_at hl 0 rfl) ?_
                          refine my_gpI (my_pV (As := [.int 2, .int 3]) (rest := []) (ci := 6) ⟨hx, hb, hml, hown, hts⟩ (cwV 2 hts gX8_spread_X6_inNode rfl rfl rfl (by decide +kernel) ⟨Nat.le_of_ble_eq_true rfl, Nat.le_of_ble_eq_true rfl⟩) hN hK hP [1, 2] rfl 1 rfl rfl rfl rfl hl.1 rfl (Nat.le_of_ble_eq_true rfl) dX8_spread_62 ⟨Nat.le_of_ble_eq_true rfl, Nat.le_of_ble_eq_true rfl⟩  (k0_X6_inNode_2 l D cI cJ xf f1 f2 (0 : Int32) (3 : Int32))) (fun r hp => ?_)
                          obtain rfl := hp
                          refine lv_istore (lv' := [(6, .int 0), (5, .int 3), (4, .int 0), (0, .ref x0), (1, .int 0), (2, .int 0), (3, .int 2)]) hx hb dX8_spread_65 hl (by decide) rfl (fun ls hl => ?_)
                          refine lv_aload_n hx hb dX8_spread_67 rfl (lv_at hl 3 rfl) ?_
                          refine va_get (ci := 8) (v := .ref xo) (C := RX8) (T := TX8) (N := 11) hx hb hts hi8 hown hK hP 0 rfl rfl 4 (by decide) fl34 (fun _ h9 => h9) rfl dX8_spread_68 ?_
                          refine lv_iload hx hb dX8_spread_71 (lv_at hl 0 rfl) ?_
                          refine lv_i2l (v := 0) hx hb dX8_spread_73 (by decide +kernel) ?_
                          refine my_goV (wr := [(x0, .inr (8, [.ref xn, .int 0, .ref xl, .ref xt, .ref xo, .ref xf, .ref xs, .ref xp, .ref xq, .ref xr, .ref xc])), (xf, .inr (6, [.ref f1, .ref f2, .int 0])), (f1, .inl (cI, 512, .inl (fun _ => (0 : Int32)))), (f2, .inl (cI, 64, .inl ff))]) hP hD hS hA [4, 5] [0, 1, 2, 3] rfl rfl (by decide) (by decide) (my_cV (As := [.long 0]) (rest := []) (ci := 7) (wc := [(xo, .inr (7, [.ref o1, .int (nI k_18)])), (o1, .inl (cJ, 64, .inr (.inl f_19)))]) ⟨hx, hb, hml, hown, hts⟩ (cwV 1 hts gX8_spread_X7_add rfl rfl rfl (by decide +kernel) ⟨Nat.le_of_ble_eq_true rfl, Nat.le_of_ble_eq_true rfl⟩) hN hK hP hD [4, 5] rfl (by decide) rfl 4 rfl rfl rfl rfl hl.1 rfl (Nat.le_of_ble_eq_true rfl) dX8_spread_74 ⟨Nat.le_of_ble_eq_true rfl, Nat.le_of_ble_eq_true rfl⟩  ((k_X7_add l D cI cJ xo o1 k_18 f_19 (0 : Int64) (by first | omega | decide +kernel)) _)) (fun u H locs hp hP hD hS => ?_)
                          obtain ⟨k_22, f_23, rfl, ha_24, hb_25⟩ := hp
                          have hP : va_P D vwCl [(x0, .inr (8, [.ref xn, .int 0, .ref xl, .ref xt, .ref xo, .ref xf, .ref xs, .ref xp, .ref xq, .ref xr, .ref xc])), (xf, .inr (6, [.ref f1, .ref f2, .int 0])), (f1, .inl (cI, 512, .inl (fun _ => (0 : Int32)))), (f2, .inl (cI, 64, .inl ff)), (xo, .inr (7, [.ref o1, .int (nI k_22)])), (o1, .inl (cJ, 64, .inr (.inl f_23)))] H := hP
                          have hD : va_D A [(x0, .inr (8, [.ref xn, .int 0, .ref xl, .ref xt, .ref xo, .ref xf, .ref xs, .ref xp, .ref xq, .ref xr, .ref xc])), (xf, .inr (6, [.ref f1, .ref f2, .int 0])), (f1, .inl (cI, 512, .inl (fun _ => (0 : Int32)))), (f2, .inl (cI, 64, .inl ff)), (xo, .inr (7, [.ref o1, .int (nI k_22)])), (o1, .inl (cJ, 64, .inr (.inl f_23)))] := hD
                          refine lv_iload hx hb dX8_spread_77 (lv_at hl 0 rfl) ?_
                          refine lv_if_le (tgt := 85) hx hb dX8_spread_79 (by decide) (fun c79 => ?_) (fun c79 => ?_)
                          ·
                            refine lv_iinc (v := 4) (lv' := [(5, .int 4), (6, .int 0), (4, .int 0), (0, .ref x0), (1, .int 0), (2, .int 0), (3, .int 2)]) hx hb dX8_spread_85 hl (k := 1) rfl (by decide +kernel) (by decide) rfl (fun ls hl => ?_)
                            refine lv_goto (tgt := 47) hx hb dX8_spread_88 (by decide) ?_
                            refine lv_iload hx hb dX8_spread_47 (lv_at hl 0 rfl) ?_
                            refine lv_iconst (v := 1) hx hb dX8_spread_49 (by decide +kernel) ?_
                            refine lv_iload_n hx hb dX8_spread_50 rfl (lv_at hl 6 rfl) ?_
                            refine lv_ishl hx hb dX8_spread_51 ?_
                            refine my_eqi (y := 4) (by decide +kernel) ?_
                            refine lv_icmp_ge (tgt := 91) hx hb dX8_spread_52 (by decide) (fun c52 => ?_) (fun c52 => ?_)
                            ·
                              refine lv_iload hx hb dX8_spread_91 (lv_at hl 2 rfl) ?_
                              exact my_retI hx hb hr hlocks hK hS [] (hP.sub [] rfl) (hD.sub [] (by decide) rfl) (Or.inl ⟨rfl, rfl, (by first | omega | assumption | trivial | decide +kernel), (by first | omega | assumption | trivial | decide +kernel), (by first | omega | assumption | trivial | decide +kernel), (by first | omega | assumption | trivial | decide +kernel)⟩) dX8_spread_93
                            ·
                              exact absurd c52 (by decide +kernel)
                          ·
                            exact absurd c79 (by decide +kernel)
                      ·
                        exact absurd c79 (by decide +kernel)
                  ·
                    exact absurd c79 (by decide +kernel)
              ·
                exact absurd c79 (by decide +kernel)
          ·
            refine lv_aload_n hx hb dX8_spread_21 rfl (lv_at hl 0 rfl) ?_
            refine va_get (ci := 8) (v := .ref xf) (C := RX8) (T := TX8) (N := 11) hx hb hts hi8 hown hK hP 0 rfl rfl 5 (by decide) fl41 (fun _ h9 => h9) rfl dX8_spread_22 ?_
            refine lv_aload_n hx hb dX8_spread_25 rfl (lv_at hl 0 rfl) ?_
            refine va_get (ci := 8) (v := .ref xn) (C := RX8) (T := TX8) (N := 11) hx hb hts hi8 hown hK hP 0 rfl rfl 0 (by decide) fl9 (fun _ h9 => h9) rfl dX8_spread_26 ?_
            refine lv_iload_n hx hb dX8_spread_29 rfl (lv_at hl 1 rfl) ?_
            refine lv_iload_n hx hb dX8_spread_30 rfl (lv_at hl 2 rfl) ?_
            refine my_goV (wr := [(x0, .inr (8, [.ref xn, .int 0, .ref xl, .ref xt, .ref xo, .ref xf, .ref xs, .ref xp, .ref xq, .ref xr, .ref xc])), (xo, .inr (7, [.ref o1, .int o2])), (o1, .inl (cJ, 64, .inr (.inl of)))]) hP hD hS hA [1, 2, 3] [0, 4, 5] rfl rfl (by decide) (by decide) (my_cV (As := [.ref xn, .int 0, .int 0]) (rest := []) (ci := 6) (wc := [(xf, .inr (6, [.ref f1, .ref f2, .int f3])), (f1, .inl (cI, 512, .inl (fun _ => (0 : Int32)))), (f2, .inl (cI, 64, .inl ff))]) ⟨hx, hb, hml, hown, hts⟩ (cwV 3 hts gX8_spread_X6_take rfl rfl rfl (by decide +kernel) ⟨Nat.le_of_ble_eq_true rfl, Nat.le_of_ble_eq_true rfl⟩) hN hK hP hD [1, 2, 3] rfl (by decide) rfl 1 rfl rfl rfl rfl hl.1 rfl (Nat.le_of_ble_eq_true rfl) dX8_spread_31 ⟨Nat.le_of_ble_eq_true rfl, Nat.le_of_ble_eq_true rfl⟩  ((k0_X6_take l D cI cJ xf f1 f2 xn f3 ff) _)) (fun u H locs hp hP hD hS => ?_)
            obtain rfl := hp
            have hP : va_P D vwCl [(x0, .inr (8, [.ref xn, .int 0, .ref xl, .ref xt, .ref xo, .ref xf, .ref xs, .ref xp, .ref xq, .ref xr, .ref xc])), (xo, .inr (7, [.ref o1, .int o2])), (o1, .inl (cJ, 64, .inr (.inl of))), (xf, .inr (6, [.ref f1, .ref f2, .int 0])), (f1, .inl (cI, 512, .inl (fun _ => (0 : Int32)))), (f2, .inl (cI, 64, .inl ff))] H := hP
            have hD : va_D A [(x0, .inr (8, [.ref xn, .int 0, .ref xl, .ref xt, .ref xo, .ref xf, .ref xs, .ref xp, .ref xq, .ref xr, .ref xc])), (xo, .inr (7, [.ref o1, .int o2])), (o1, .inl (cJ, 64, .inr (.inl of))), (xf, .inr (6, [.ref f1, .ref f2, .int 0])), (f1, .inl (cI, 512, .inl (fun _ => (0 : Int32)))), (f2, .inl (cI, 64, .inl ff))] := hD
            refine lv_iconst (v := 0) hx hb dX8_spread_34 (by decide +kernel) ?_
            refine lv_istore (lv' := [(4, .int 0), (0, .ref x0), (1, .int 0), (2, .int 0), (3, .int 3)]) hx hb dX8_spread_35 hl (by decide) rfl (fun ls hl => ?_)
            refine lv_aload_n hx hb dX8_spread_37 rfl (lv_at hl 1 rfl) ?_
            refine va_get (ci := 8) (v := .ref xo) (C := RX8) (T := TX8) (N := 11) hx hb hts hi8 hown hK hP 0 rfl rfl 4 (by decide) fl34 (fun _ h9 => h9) rfl dX8_spread_38 ?_
            refine my_goV (wr := [(x0, .inr (8, [.ref xn, .int 0, .ref xl, .ref xt, .ref xo, .ref xf, .ref xs, .ref xp, .ref xq, .ref xr, .ref xc])), (o1, .inl (cJ, 64, .inr (.inl of))), (xf, .inr (6, [.ref f1, .ref f2, .int 0])), (f1, .inl (cI, 512, .inl (fun _ => (0 : Int32)))), (f2, .inl (cI, 64, .inl ff))]) hP hD hS hA [1] [0, 2, 3, 4, 5] rfl rfl (by decide) (by decide) (my_cV (As := []) (rest := []) (ci := 7) (wc := [(xo, .inr (7, [.ref o1, .int o2]))]) ⟨hx, hb, hml, hown, hts⟩ (cwV 0 hts gX8_spread_X7_begin rfl rfl rfl (by decide +kernel) ⟨Nat.le_of_ble_eq_true rfl, Nat.le_of_ble_eq_true rfl⟩) hN hK hP hD [1] rfl (by decide) rfl 1 rfl rfl rfl rfl hl.1 rfl (Nat.le_of_ble_eq_true rfl) dX8_spread_41 ⟨Nat.le_of_ble_eq_true rfl, Nat.le_of_ble_eq_true rfl⟩  ((k_X7_begin l D cI cJ xo o1 o2) _)) (fun u H locs hp hP hD hS => ?_)
            obtain rfl := hp
            have hP : va_P D vwCl [(x0, .inr (8, [.ref xn, .int 0, .ref xl, .ref xt, .ref xo, .ref xf, .ref xs, .ref xp, .ref xq, .ref xr, .ref xc])), (o1, .inl (cJ, 64, .inr (.inl of))), (xf, .inr (6, [.ref f1, .ref f2, .int 0])), (f1, .inl (cI, 512, .inl (fun _ => (0 : Int32)))), (f2, .inl (cI, 64, .inl ff)), (xo, .inr (7, [.ref o1, .int 0]))] H := hP
            have hD : va_D A [(x0, .inr (8, [.ref xn, .int 0, .ref xl, .ref xt, .ref xo, .ref xf, .ref xs, .ref xp, .ref xq, .ref xr, .ref xc])), (o1, .inl (cJ, 64, .inr (.inl of))), (xf, .inr (6, [.ref f1, .ref f2, .int 0])), (f1, .inl (cI, 512, .inl (fun _ => (0 : Int32)))), (f2, .inl (cI, 64, .inl ff)), (xo, .inr (7, [.ref o1, .int 0]))] := hD
            refine lv_iconst (v := 0) hx hb dX8_spread_44 (by decide +kernel) ?_
            refine lv_istore (lv' := [(5, .int 0), (4, .int 0), (0, .ref x0), (1, .int 0), (2, .int 0), (3, .int 3)]) hx hb dX8_spread_45 hl (by decide) rfl (fun ls hl => ?_)
            refine lv_iload hx hb dX8_spread_47 (lv_at hl 0 rfl) ?_
            refine lv_iconst (v := 1) hx hb dX8_spread_49 (by decide +kernel) ?_
            refine lv_iload_n hx hb dX8_spread_50 rfl (lv_at hl 5 rfl) ?_
            refine lv_ishl hx hb dX8_spread_51 ?_
            refine my_eqi (y := 8) (by decide +kernel) ?_
            refine lv_icmp_ge (tgt := 91) hx hb dX8_spread_52 (by decide) (fun c52 => ?_) (fun c52 => ?_)
            ·
              exact absurd c52 (by decide +kernel)
            ·
              refine lv_aload_n hx hb dX8_spread_55 rfl (lv_at hl 2 rfl) ?_
              refine va_get (ci := 8) (v := .ref xf) (C := RX8) (T := TX8) (N := 11) hx hb hts hi8 hown hK hP 0 rfl rfl 5 (by decide) fl41 (fun _ h9 => h9) rfl dX8_spread_56 ?_
              refine lv_iload_n hx hb dX8_spread_59 rfl (lv_at hl 5 rfl) ?_
              refine lv_iload hx hb dX8_spread_60 (lv_at hl 0 rfl) ?_
              refine my_gpI (my_pV (As := [.int 3, .int 0]) (rest := []) (ci := 6) ⟨hx, hb, hml, hown, hts⟩ (cwV 2 hts gX8_spread_X6_inNode rfl rfl rfl (by decide +kernel) ⟨Nat.le_of_ble_eq_true rfl, Nat.le_of_ble_eq_true rfl⟩) hN hK hP [2, 3] rfl 2 rfl rfl rfl rfl hl.1 rfl (Nat.le_of_ble_eq_true rfl) dX8_spread_62 ⟨Nat.le_of_ble_eq_true rfl, Nat.le_of_ble_eq_true rfl⟩  (k0_X6_inNode_3 l D cI cJ xf f1 f2 (0 : Int32) (0 : Int32))) (fun r hp => ?_)
              obtain rfl := hp
              refine lv_istore (lv' := [(6, .int 0), (5, .int 0), (4, .int 0), (0, .ref x0), (1, .int 0), (2, .int 0), (3, .int 3)]) hx hb dX8_spread_65 hl (by decide) rfl (fun ls hl => ?_)
              refine lv_aload_n hx hb dX8_spread_67 rfl (lv_at hl 3 rfl) ?_
              refine va_get (ci := 8) (v := .ref xo) (C := RX8) (T := TX8) (N := 11) hx hb hts hi8 hown hK hP 0 rfl rfl 4 (by decide) fl34 (fun _ h9 => h9) rfl dX8_spread_68 ?_
              refine lv_iload hx hb dX8_spread_71 (lv_at hl 0 rfl) ?_
              refine lv_i2l (v := 0) hx hb dX8_spread_73 (by decide +kernel) ?_
              refine my_goV (wr := [(x0, .inr (8, [.ref xn, .int 0, .ref xl, .ref xt, .ref xo, .ref xf, .ref xs, .ref xp, .ref xq, .ref xr, .ref xc])), (xf, .inr (6, [.ref f1, .ref f2, .int 0])), (f1, .inl (cI, 512, .inl (fun _ => (0 : Int32)))), (f2, .inl (cI, 64, .inl ff))]) hP hD hS hA [5, 1] [0, 2, 3, 4] rfl rfl (by decide) (by decide) (my_cV (As := [.long 0]) (rest := []) (ci := 7) (wc := [(xo, .inr (7, [.ref o1, .int 0])), (o1, .inl (cJ, 64, .inr (.inl of)))]) ⟨hx, hb, hml, hown, hts⟩ (cwV 1 hts gX8_spread_X7_add rfl rfl rfl (by decide +kernel) ⟨Nat.le_of_ble_eq_true rfl, Nat.le_of_ble_eq_true rfl⟩) hN hK hP hD [5, 1] rfl (by decide) rfl 5 rfl rfl rfl rfl hl.1 rfl (Nat.le_of_ble_eq_true rfl) dX8_spread_74 ⟨Nat.le_of_ble_eq_true rfl, Nat.le_of_ble_eq_true rfl⟩  ((k_X7_add l D cI cJ xo o1 0 of (0 : Int64) (by first | omega | decide +kernel)) _)) (fun u H locs hp hP hD hS => ?_)
              obtain ⟨k_26, f_27, rfl, ha_28, hb_29⟩ := hp
              have hP : va_P D vwCl [(x0, .inr (8, [.ref xn, .int 0, .ref xl, .ref xt, .ref xo, .ref xf, .ref xs, .ref xp, .ref xq, .ref xr, .ref xc])), (xf, .inr (6, [.ref f1, .ref f2, .int 0])), (f1, .inl (cI, 512, .inl (fun _ => (0 : Int32)))), (f2, .inl (cI, 64, .inl ff)), (xo, .inr (7, [.ref o1, .int (nI k_26)])), (o1, .inl (cJ, 64, .inr (.inl f_27)))] H := hP
              have hD : va_D A [(x0, .inr (8, [.ref xn, .int 0, .ref xl, .ref xt, .ref xo, .ref xf, .ref xs, .ref xp, .ref xq, .ref xr, .ref xc])), (xf, .inr (6, [.ref f1, .ref f2, .int 0])), (f1, .inl (cI, 512, .inl (fun _ => (0 : Int32)))), (f2, .inl (cI, 64, .inl ff)), (xo, .inr (7, [.ref o1, .int (nI k_26)])), (o1, .inl (cJ, 64, .inr (.inl f_27)))] := hD
              refine lv_iload hx hb dX8_spread_77 (lv_at hl 0 rfl) ?_
              refine lv_if_le (tgt := 85) hx hb dX8_spread_79 (by decide) (fun c79 => ?_) (fun c79 => ?_)
              ·
                refine lv_iinc (v := 1) (lv' := [(5, .int 1), (6, .int 0), (4, .int 0), (0, .ref x0), (1, .int 0), (2, .int 0), (3, .int 3)]) hx hb dX8_spread_85 hl (k := 1) rfl (by decide +kernel) (by decide) rfl (fun ls hl => ?_)
                refine lv_goto (tgt := 47) hx hb dX8_spread_88 (by decide) ?_
                refine lv_iload hx hb dX8_spread_47 (lv_at hl 0 rfl) ?_
                refine lv_iconst (v := 1) hx hb dX8_spread_49 (by decide +kernel) ?_
                refine lv_iload_n hx hb dX8_spread_50 rfl (lv_at hl 6 rfl) ?_
                refine lv_ishl hx hb dX8_spread_51 ?_
                refine my_eqi (y := 8) (by decide +kernel) ?_
                refine lv_icmp_ge (tgt := 91) hx hb dX8_spread_52 (by decide) (fun c52 => ?_) (fun c52 => ?_)
                ·
                  exact absurd c52 (by decide +kernel)
                ·
                  refine lv_aload_n hx hb dX8_spread_55 rfl (lv_at hl 3 rfl) ?_
                  refine va_get (ci := 8) (v := .ref xf) (C := RX8) (T := TX8) (N := 11) hx hb hts hi8 hown hK hP 0 rfl rfl 5 (by decide) fl41 (fun _ h9 => h9) rfl dX8_spread_56 ?_
                  refine lv_iload_n hx hb dX8_spread_59 rfl (lv_at hl 6 rfl) ?_
                  refine lv_iload hx hb dX8_spread_60 (lv_at hl 0 rfl) ?_
                  refine my_gpI (my_pV (As := [.int 3, .int 1]) (rest := []) (ci := 6) ⟨hx, hb, hml, hown, hts⟩ (cwV 2 hts gX8_spread_X6_inNode rfl rfl rfl (by decide +kernel) ⟨Nat.le_of_ble_eq_true rfl, Nat.le_of_ble_eq_true rfl⟩) hN hK hP [1, 2] rfl 1 rfl rfl rfl rfl hl.1 rfl (Nat.le_of_ble_eq_true rfl) dX8_spread_62 ⟨Nat.le_of_ble_eq_true rfl, Nat.le_of_ble_eq_true rfl⟩  (k0_X6_inNode_3 l D cI cJ xf f1 f2 (0 : Int32) (1 : Int32))) (fun r hp => ?_)
                  obtain rfl := hp
                  refine lv_istore (lv' := [(6, .int 0), (5, .int 1), (4, .int 0), (0, .ref x0), (1, .int 0), (2, .int 0), (3, .int 3)]) hx hb dX8_spread_65 hl (by decide) rfl (fun ls hl => ?_)
                  refine lv_aload_n hx hb dX8_spread_67 rfl (lv_at hl 3 rfl) ?_
                  refine va_get (ci := 8) (v := .ref xo) (C := RX8) (T := TX8) (N := 11) hx hb hts hi8 hown hK hP 0 rfl rfl 4 (by decide) fl34 (fun _ h9 => h9) rfl dX8_spread_68 ?_
                  refine lv_iload hx hb dX8_spread_71 (lv_at hl 0 rfl) ?_
                  refine lv_i2l (v := 0) hx hb dX8_spread_73 (by decide +kernel) ?_
                  refine my_goV (wr := [(x0, .inr (8, [.ref xn, .int 0, .ref xl, .ref xt, .ref xo, .ref xf, .ref xs, .ref xp, .ref xq, .ref xr, .ref xc])), (xf, .inr (6, [.ref f1, .ref f2, .int 0])), (f1, .inl (cI, 512, .inl (fun _ => (0 : Int32)))), (f2, .inl (cI, 64, .inl ff))]) hP hD hS hA [4, 5] [0, 1, 2, 3] rfl rfl (by decide) (by decide) (my_cV (As := [.long 0]) (rest := []) (ci := 7) (wc := [(xo, .inr (7, [.ref o1, .int (nI k_26)])), (o1, .inl (cJ, 64, .inr (.inl f_27)))]) ⟨hx, hb, hml, hown, hts⟩ (cwV 1 hts gX8_spread_X7_add rfl rfl rfl (by decide +kernel) ⟨Nat.le_of_ble_eq_true rfl, Nat.le_of_ble_eq_true rfl⟩) hN hK hP hD [4, 5] rfl (by decide) rfl 4 rfl rfl rfl rfl hl.1 rfl (Nat.le_of_ble_eq_true rfl) dX8_spread_74 ⟨Nat.le_of_ble_eq_true rfl, Nat.le_of_ble_eq_true rfl⟩  ((k_X7_add l D cI cJ xo o1 k_26 f_27 (0 : Int64) (by first | omega | decide +kernel)) _)) (fun u H locs hp hP hD hS => ?_)
                  obtain ⟨k_30, f_31, rfl, ha_32, hb_33⟩ := hp
                  have hP : va_P D vwCl [(x0, .inr (8, [.ref xn, .int 0, .ref xl, .ref xt, .ref xo, .ref xf, .ref xs, .ref xp, .ref xq, .ref xr, .ref xc])), (xf, .inr (6, [.ref f1, .ref f2, .int 0])), (f1, .inl (cI, 512, .inl (fun _ => (0 : Int32)))), (f2, .inl (cI, 64, .inl ff)), (xo, .inr (7, [.ref o1, .int (nI k_30)])), (o1, .inl (cJ, 64, .inr (.inl f_31)))] H := hP
                  have hD : va_D A [(x0, .inr (8, [.ref xn, .int 0, .ref xl, .ref xt, .ref xo, .ref xf, .ref xs, .ref xp, .ref xq, .ref xr, .ref xc])), (xf, .inr (6, [.ref f1, .ref f2, .int 0])), (f1, .inl (cI, 512, .inl (fun _ => (0 : Int32)))), (f2, .inl (cI, 64, .inl ff)), (xo, .inr (7, [.ref o1, .int (nI k_30)])), (o1, .inl (cJ, 64, .inr (.inl f_31)))] := hD
                  refine lv_iload hx hb dX8_spread_77 (lv_at hl 0 rfl) ?_
                  refine lv_if_le (tgt := 85) hx hb dX8_spread_79 (by decide) (fun c79 => ?_) (fun c79 => ?_)
                  ·
                    refine lv_iinc (v := 2) (lv' := [(5, .int 2), (6, .int 0), (4, .int 0), (0, .ref x0), (1, .int 0), (2, .int 0), (3, .int 3)]) hx hb dX8_spread_85 hl (k := 1) rfl (by decide +kernel) (by decide) rfl (fun ls hl => ?_)
                    refine lv_goto (tgt := 47) hx hb dX8_spread_88 (by decide) ?_
                    refine lv_iload hx hb dX8_spread_47 (lv_at hl 0 rfl) ?_
                    refine lv_iconst (v := 1) hx hb dX8_spread_49 (by decide +kernel) ?_
                    refine lv_iload_n hx hb dX8_spread_50 rfl (lv_at hl 6 rfl) ?_
                    refine lv_ishl hx hb dX8_spread_51 ?_
                    refine my_eqi (y := 8) (by decide +kernel) ?_
                    refine lv_icmp_ge (tgt := 91) hx hb dX8_spread_52 (by decide) (fun c52 => ?_) (fun c52 => ?_)
                    ·
                      exact absurd c52 (by decide +kernel)
                    ·
                      refine lv_aload_n hx hb dX8_spread_55 rfl (lv_at hl 3 rfl) ?_
                      refine va_get (ci := 8) (v := .ref xf) (C := RX8) (T := TX8) (N := 11) hx hb hts hi8 hown hK hP 0 rfl rfl 5 (by decide) fl41 (fun _ h9 => h9) rfl dX8_spread_56 ?_
                      refine lv_iload_n hx hb dX8_spread_59 rfl (lv_at hl 6 rfl) ?_
                      refine lv_iload hx hb dX8_spread_60 (lv_at hl 0 rfl) ?_
                      refine my_gpI (my_pV (As := [.int 3, .int 2]) (rest := []) (ci := 6) ⟨hx, hb, hml, hown, hts⟩ (cwV 2 hts gX8_spread_X6_inNode rfl rfl rfl (by decide +kernel) ⟨Nat.le_of_ble_eq_true rfl, Nat.le_of_ble_eq_true rfl⟩) hN hK hP [1, 2] rfl 1 rfl rfl rfl rfl hl.1 rfl (Nat.le_of_ble_eq_true rfl) dX8_spread_62 ⟨Nat.le_of_ble_eq_true rfl, Nat.le_of_ble_eq_true rfl⟩  (k0_X6_inNode_3 l D cI cJ xf f1 f2 (0 : Int32) (2 : Int32))) (fun r hp => ?_)
                      obtain rfl := hp
                      refine lv_istore (lv' := [(6, .int 0), (5, .int 2), (4, .int 0), (0, .ref x0), (1, .int 0), (2, .int 0), (3, .int 3)]) hx hb dX8_spread_65 hl (by decide) rfl (fun ls hl => ?_)
                      refine lv_aload_n hx hb dX8_spread_67 rfl (lv_at hl 3 rfl) ?_
                      refine va_get (ci := 8) (v := .ref xo) (C := RX8) (T := TX8) (N := 11) hx hb hts hi8 hown hK hP 0 rfl rfl 4 (by decide) fl34 (fun _ h9 => h9) rfl dX8_spread_68 ?_
                      refine lv_iload hx hb dX8_spread_71 (lv_at hl 0 rfl) ?_
                      refine lv_i2l (v := 0) hx hb dX8_spread_73 (by decide +kernel) ?_
                      refine my_goV (wr := [(x0, .inr (8, [.ref xn, .int 0, .ref xl, .ref xt, .ref xo, .ref xf, .ref xs, .ref xp, .ref xq, .ref xr, .ref xc])), (xf, .inr (6, [.ref f1, .ref f2, .int 0])), (f1, .inl (cI, 512, .inl (fun _ => (0 : Int32)))), (f2, .inl (cI, 64, .inl ff))]) hP hD hS hA [4, 5] [0, 1, 2, 3] rfl rfl (by decide) (by decide) (my_cV (As := [.long 0]) (rest := []) (ci := 7) (wc := [(xo, .inr (7, [.ref o1, .int (nI k_30)])), (o1, .inl (cJ, 64, .inr (.inl f_31)))]) ⟨hx, hb, hml, hown, hts⟩ (cwV 1 hts gX8_spread_X7_add rfl rfl rfl (by decide +kernel) ⟨Nat.le_of_ble_eq_true rfl, Nat.le_of_ble_eq_true rfl⟩) hN hK hP hD [4, 5] rfl (by decide) rfl 4 rfl rfl rfl rfl hl.1 rfl (Nat.le_of_ble_eq_true rfl) dX8_spread_74 ⟨Nat.le_of_ble_eq_true rfl, Nat.le_of_ble_eq_true rfl⟩  ((k_X7_add l D cI cJ xo o1 k_30 f_31 (0 : Int64) (by first | omega | decide +kernel)) _)) (fun u H locs hp hP hD hS => ?_)
                      obtain ⟨k_34, f_35, rfl, ha_36, hb_37⟩ := hp
                      have hP : va_P D vwCl [(x0, .inr (8, [.ref xn, .int 0, .ref xl, .ref xt, .ref xo, .ref xf, .ref xs, .ref xp, .ref xq, .ref xr, .ref xc])), (xf, .inr (6, [.ref f1, .ref f2, .int 0])), (f1, .inl (cI, 512, .inl (fun _ => (0 : Int32)))), (f2, .inl (cI, 64, .inl ff)), (xo, .inr (7, [.ref o1, .int (nI k_34)])), (o1, .inl (cJ, 64, .inr (.inl f_35)))] H := hP
                      have hD : va_D A [(x0, .inr (8, [.ref xn, .int 0, .ref xl, .ref xt, .ref xo, .ref xf, .ref xs, .ref xp, .ref xq, .ref xr, .ref xc])), (xf, .inr (6, [.ref f1, .ref f2, .int 0])), (f1, .inl (cI, 512, .inl (fun _ => (0 : Int32)))), (f2, .inl (cI, 64, .inl ff)), (xo, .inr (7, [.ref o1, .int (nI k_34)])), (o1, .inl (cJ, 64, .inr (.inl f_35)))] := hD
                      refine lv_iload hx hb dX8_spread_77 (lv_at hl 0 rfl) ?_
                      refine lv_if_le (tgt := 85) hx hb dX8_spread_79 (by decide) (fun c79 => ?_) (fun c79 => ?_)
                      ·
                        refine lv_iinc (v := 3) (lv' := [(5, .int 3), (6, .int 0), (4, .int 0), (0, .ref x0), (1, .int 0), (2, .int 0), (3, .int 3)]) hx hb dX8_spread_85 hl (k := 1) rfl (by decide +kernel) (by decide) rfl (fun ls hl => ?_)
                        refine lv_goto (tgt := 47) hx hb dX8_spread_88 (by decide) ?_
                        refine lv_iload hx hb dX8_spread_47 (lv_at hl 0 rfl) ?_
                        refine lv_iconst (v := 1) hx hb dX8_spread_49 (by decide +kernel) ?_
                        refine lv_iload_n hx hb dX8_spread_50 rfl (lv_at hl 6 rfl) ?_
                        refine lv_ishl hx hb dX8_spread_51 ?_
                        refine my_eqi (y := 8) (by decide +kernel) ?_
                        refine lv_icmp_ge (tgt := 91) hx hb dX8_spread_52 (by decide) (fun c52 => ?_) (fun c52 => ?_)
                        ·
                          exact absurd c52 (by decide +kernel)
                        ·
                          refine lv_aload_n hx hb dX8_spread_55 rfl (lv_at hl 3 rfl) ?_
                          refine va_get (ci := 8) (v := .ref xf) (C := RX8) (T := TX8) (N := 11) hx hb hts hi8 hown hK hP 0 rfl rfl 5 (by decide) fl41 (fun _ h9 => h9) rfl dX8_spread_56 ?_
                          refine lv_iload_n hx hb dX8_spread_59 rfl (lv_at hl 6 rfl) ?_
                          refine lv_iload hx hb dX8_spread_60 (lv_at hl 0 rfl) ?_
                          refine my_gpI (my_pV (As := [.int 3, .int 3]) (rest := []) (ci := 6) ⟨hx, hb, hml, hown, hts⟩ (cwV 2 hts gX8_spread_X6_inNode rfl rfl rfl (by decide +kernel) ⟨Nat.le_of_ble_eq_true rfl, Nat.le_of_ble_eq_true rfl⟩) hN hK hP [1, 2] rfl 1 rfl rfl rfl rfl hl.1 rfl (Nat.le_of_ble_eq_true rfl) dX8_spread_62 ⟨Nat.le_of_ble_eq_true rfl, Nat.le_of_ble_eq_true rfl⟩  (k0_X6_inNode_3 l D cI cJ xf f1 f2 (0 : Int32) (3 : Int32))) (fun r hp => ?_)
                          obtain rfl := hp
                          refine lv_istore (lv' := [(6, .int 0), (5, .int 3), (4, .int 0), (0, .ref x0), (1, .int 0), (2, .int 0), (3, .int 3)]) hx hb dX8_spread_65 hl (by decide) rfl (fun ls hl => ?_)
                          refine lv_aload_n hx hb dX8_spread_67 rfl (lv_at hl 3 rfl) ?_
                          refine va_get (ci := 8) (v := .ref xo) (C := RX8) (T := TX8) (N := 11) hx hb hts hi8 hown hK hP 0 rfl rfl 4 (by decide) fl34 (fun _ h9 => h9) rfl dX8_spread_68 ?_
                          refine lv_iload hx hb dX8_spread_71 (lv_at hl 0 rfl) ?_
                          refine lv_i2l (v := 0) hx hb dX8_spread_73 (by decide +kernel) ?_
                          refine my_goV (wr := [(x0, .inr (8, [.ref xn, .int 0, .ref xl, .ref xt, .ref xo, .ref xf, .ref xs, .ref xp, .ref xq, .ref xr, .ref xc])), (xf, .inr (6, [.ref f1, .ref f2, .int 0])), (f1, .inl (cI, 512, .inl (fun _ => (0 : Int32)))), (f2, .inl (cI, 64, .inl ff))]) hP hD hS hA [4, 5] [0, 1, 2, 3] rfl rfl (by decide) (by decide) (my_cV (As := [.long 0]) (rest := []) (ci := 7) (wc := [(xo, .inr (7, [.ref o1, .int (nI k_34)])), (o1, .inl (cJ, 64, .inr (.inl f_35)))]) ⟨hx, hb, hml, hown, hts⟩ (cwV 1 hts gX8_spread_X7_add rfl rfl rfl (by decide +kernel) ⟨Nat.le_of_ble_eq_true rfl, Nat.le_of_ble_eq_true rfl⟩) hN hK hP hD [4, 5] rfl (by decide) rfl 4 rfl rfl rfl rfl hl.1 rfl (Nat.le_of_ble_eq_true rfl) dX8_spread_74 ⟨Nat.le_of_ble_eq_true rfl, Nat.le_of_ble_eq_true rfl⟩  ((k_X7_add l D cI cJ xo o1 k_34 f_35 (0 : Int64) (by first | omega | decide +kernel)) _)) (fun u H locs hp hP hD hS => ?_)
                          obtain ⟨k_38, f_39, rfl, ha_40, hb_41⟩ := hp
                          have hP : va_P D vwCl [(x0, .inr (8, [.ref xn, .int 0, .ref xl, .ref xt, .ref xo, .ref xf, .ref xs, .ref xp, .ref xq, .ref xr, .ref xc])), (xf, .inr (6, [.ref f1, .ref f2, .int 0])), (f1, .inl (cI, 512, .inl (fun _ => (0 : Int32)))), (f2, .inl (cI, 64, .inl ff)), (xo, .inr (7, [.ref o1, .int (nI k_38)])), (o1, .inl (cJ, 64, .inr (.inl f_39)))] H := hP
                          have hD : va_D A [(x0, .inr (8, [.ref xn, .int 0, .ref xl, .ref xt, .ref xo, .ref xf, .ref xs, .ref xp, .ref xq, .ref xr, .ref xc])), (xf, .inr (6, [.ref f1, .ref f2, .int 0])), (f1, .inl (cI, 512, .inl (fun _ => (0 : Int32)))), (f2, .inl (cI, 64, .inl ff)), (xo, .inr (7, [.ref o1, .int (nI k_38)])), (o1, .inl (cJ, 64, .inr (.inl f_39)))] := hD
                          refine lv_iload hx hb dX8_spread_77 (lv_at hl 0 rfl) ?_
                          refine lv_if_le (tgt := 85) hx hb dX8_spread_79 (by decide) (fun c79 => ?_) (fun c79 => ?_)
                          ·
                            refine lv_iinc (v := 4) (lv' := [(5, .int 4), (6, .int 0), (4, .int 0), (0, .ref x0), (1, .int 0), (2, .int 0), (3, .int 3)]) hx hb dX8_spread_85 hl (k := 1) rfl (by decide +kernel) (by decide) rfl (fun ls hl => ?_)
                            refine lv_goto (tgt := 47) hx hb dX8_spread_88 (by decide) ?_
                            refine lv_iload hx hb dX8_spread_47 (lv_at hl 0 rfl) ?_
                            refine lv_iconst (v := 1) hx hb dX8_spread_49 (by decide +kernel) ?_
                            refine lv_iload_n hx hb dX8_spread_50 rfl (lv_at hl 6 rfl) ?_
                            refine lv_ishl hx hb dX8_spread_51 ?_
                            refine my_eqi (y := 8) (by decide +kernel) ?_
                            refine lv_icmp_ge (tgt := 91) hx hb dX8_spread_52 (by decide) (fun c52 => ?_) (fun c52 => ?_)
                            ·
                              exact absurd c52 (by decide +kernel)
                            ·
                              refine lv_aload_n hx hb dX8_spread_55 rfl (lv_at hl 3 rfl) ?_
                              refine va_get (ci := 8) (v := .ref xf) (C := RX8) (T := TX8) (N := 11) hx hb hts hi8 hown hK hP 0 rfl rfl 5 (by decide) fl41 (fun _ h9 => h9) rfl dX8_spread_56 ?_
                              refine lv_iload_n hx hb dX8_spread_59 rfl (lv_at hl 6 rfl) ?_
                              refine lv_iload hx hb dX8_spread_60 (lv_at hl 0 rfl) ?_
                              refine my_gpI (my_pV (As := [.int 3, .int 4]) (rest := []) (ci := 6) ⟨hx, hb, hml, hown, hts⟩ (cwV 2 hts gX8_spread_X6_inNode rfl rfl rfl (by decide +kernel) ⟨Nat.le_of_ble_eq_true rfl, Nat.le_of_ble_eq_true rfl⟩) hN hK hP [1, 2] rfl 1 rfl rfl rfl rfl hl.1 rfl (Nat.le_of_ble_eq_true rfl) dX8_spread_62 ⟨Nat.le_of_ble_eq_true rfl, Nat.le_of_ble_eq_true rfl⟩  (k0_X6_inNode_3 l D cI cJ xf f1 f2 (0 : Int32) (4 : Int32))) (fun r hp => ?_)
                              obtain rfl := hp
                              refine lv_istore (lv' := [(6, .int 0), (5, .int 4), (4, .int 0), (0, .ref x0), (1, .int 0), (2, .int 0), (3, .int 3)]) hx hb dX8_spread_65 hl (by decide) rfl (fun ls hl => ?_)
                              refine lv_aload_n hx hb dX8_spread_67 rfl (lv_at hl 3 rfl) ?_
                              refine va_get (ci := 8) (v := .ref xo) (C := RX8) (T := TX8) (N := 11) hx hb hts hi8 hown hK hP 0 rfl rfl 4 (by decide) fl34 (fun _ h9 => h9) rfl dX8_spread_68 ?_
                              refine lv_iload hx hb dX8_spread_71 (lv_at hl 0 rfl) ?_
                              refine lv_i2l (v := 0) hx hb dX8_spread_73 (by decide +kernel) ?_
                              refine my_goV (wr := [(x0, .inr (8, [.ref xn, .int 0, .ref xl, .ref xt, .ref xo, .ref xf, .ref xs, .ref xp, .ref xq, .ref xr, .ref xc])), (xf, .inr (6, [.ref f1, .ref f2, .int 0])), (f1, .inl (cI, 512, .inl (fun _ => (0 : Int32)))), (f2, .inl (cI, 64, .inl ff))]) hP hD hS hA [4, 5] [0, 1, 2, 3] rfl rfl (by decide) (by decide) (my_cV (As := [.long 0]) (rest := []) (ci := 7) (wc := [(xo, .inr (7, [.ref o1, .int (nI k_38)])), (o1, .inl (cJ, 64, .inr (.inl f_39)))]) ⟨hx, hb, hml, hown, hts⟩ (cwV 1 hts gX8_spread_X7_add rfl rfl rfl (by decide +kernel) ⟨Nat.le_of_ble_eq_true rfl, Nat.le_of_ble_eq_true rfl⟩) hN hK hP hD [4, 5] rfl (by decide) rfl 4 rfl rfl rfl rfl hl.1 rfl (Nat.le_of_ble_eq_true rfl) dX8_spread_74 ⟨Nat.le_of_ble_eq_true rfl, Nat.le_of_ble_eq_true rfl⟩  ((k_X7_add l D cI cJ xo o1 k_38 f_39 (0 : Int64) (by first | omega | decide +kernel)) _)) (fun u H locs hp hP hD hS => ?_)
                              obtain ⟨k_42, f_43, rfl, ha_44, hb_45⟩ := hp
                              have hP : va_P D vwCl [(x0, .inr (8, [.ref xn, .int 0, .ref xl, .ref xt, .ref xo, .ref xf, .ref xs, .ref xp, .ref xq, .ref xr, .ref xc])), (xf, .inr (6, [.ref f1, .ref f2, .int 0])), (f1, .inl (cI, 512, .inl (fun _ => (0 : Int32)))), (f2, .inl (cI, 64, .inl ff)), (xo, .inr (7, [.ref o1, .int (nI k_42)])), (o1, .inl (cJ, 64, .inr (.inl f_43)))] H := hP
                              have hD : va_D A [(x0, .inr (8, [.ref xn, .int 0, .ref xl, .ref xt, .ref xo, .ref xf, .ref xs, .ref xp, .ref xq, .ref xr, .ref xc])), (xf, .inr (6, [.ref f1, .ref f2, .int 0])), (f1, .inl (cI, 512, .inl (fun _ => (0 : Int32)))), (f2, .inl (cI, 64, .inl ff)), (xo, .inr (7, [.ref o1, .int (nI k_42)])), (o1, .inl (cJ, 64, .inr (.inl f_43)))] := hD
                              refine lv_iload hx hb dX8_spread_77 (lv_at hl 0 rfl) ?_
                              refine lv_if_le (tgt := 85) hx hb dX8_spread_79 (by decide) (fun c79 => ?_) (fun c79 => ?_)
                              ·
                                refine lv_iinc (v := 5) (lv' := [(5, .int 5), (6, .int 0), (4, .int 0), (0, .ref x0), (1, .int 0), (2, .int 0), (3, .int 3)]) hx hb dX8_spread_85 hl (k := 1) rfl (by decide +kernel) (by decide) rfl (fun ls hl => ?_)
                                refine lv_goto (tgt := 47) hx hb dX8_spread_88 (by decide) ?_
                                refine lv_iload hx hb dX8_spread_47 (lv_at hl 0 rfl) ?_
                                refine lv_iconst (v := 1) hx hb dX8_spread_49 (by decide +kernel) ?_
                                refine lv_iload_n hx hb dX8_spread_50 rfl (lv_at hl 6 rfl) ?_
                                refine lv_ishl hx hb dX8_spread_51 ?_
                                refine my_eqi (y := 8) (by decide +kernel) ?_
                                refine lv_icmp_ge (tgt := 91) hx hb dX8_spread_52 (by decide) (fun c52 => ?_) (fun c52 => ?_)
                                ·
                                  exact absurd c52 (by decide +kernel)
                                ·
                                  refine lv_aload_n hx hb dX8_spread_55 rfl (lv_at hl 3 rfl) ?_
                                  refine va_get (ci := 8) (v := .ref xf) (C := RX8) (T := TX8) (N := 11) hx hb hts hi8 hown hK hP 0 rfl rfl 5 (by decide) fl41 (fun _ h9 => h9) rfl dX8_spread_56 ?_
                                  refine lv_iload_n hx hb dX8_spread_59 rfl (lv_at hl 6 rfl) ?_
                                  refine lv_iload hx hb dX8_spread_60 (lv_at hl 0 rfl) ?_
                                  refine my_gpI (my_pV (As := [.int 3, .int 5]) (rest := []) (ci := 6) ⟨hx, hb, hml, hown, hts⟩ (cwV 2 hts gX8_spread_X6_inNode rfl rfl rfl (by decide +kernel) ⟨Nat.le_of_ble_eq_true rfl, Nat.le_of_ble_eq_true rfl⟩) hN hK hP [1, 2] rfl 1 rfl rfl rfl rfl hl.1 rfl (Nat.le_of_ble_eq_true rfl) dX8_spread_62 ⟨Nat.le_of_ble_eq_true rfl, Nat.le_of_ble_eq_true rfl⟩  (k0_X6_inNode_3 l D cI cJ xf f1 f2 (0 : Int32) (5 : Int32))) (fun r hp => ?_)
                                  obtain rfl := hp
                                  refine lv_istore (lv' := [(6, .int 0), (5, .int 5), (4, .int 0), (0, .ref x0), (1, .int 0), (2, .int 0), (3, .int 3)]) hx hb dX8_spread_65 hl (by decide) rfl (fun ls hl => ?_)
                                  refine lv_aload_n hx hb dX8_spread_67 rfl (lv_at hl 3 rfl) ?_
                                  refine va_get (ci := 8) (v := .ref xo) (C := RX8) (T := TX8) (N := 11) hx hb hts hi8 hown hK hP 0 rfl rfl 4 (by decide) fl34 (fun _ h9 => h9) rfl dX8_spread_68 ?_
                                  refine lv_iload hx hb dX8_spread_71 (lv_at hl 0 rfl) ?_
                                  refine lv_i2l (v := 0) hx hb dX8_spread_73 (by decide +kernel) ?_
                                  refine my_goV (wr := [(x0, .inr (8, [.ref xn, .int 0, .ref xl, .ref xt, .ref xo, .ref xf, .ref xs, .ref xp, .ref xq, .ref xr, .ref xc])), (xf, .inr (6, [.ref f1, .ref f2, .int 0])), (f1, .inl (cI, 512, .inl (fun _ => (0 : Int32)))), (f2, .inl (cI, 64, .inl ff))]) hP hD hS hA [4, 5] [0, 1, 2, 3] rfl rfl (by decide) (by decide) (my_cV (As := [.long 0]) (rest := []) (ci := 7) (wc := [(xo, .inr (7, [.ref o1, .int (nI k_42)])), (o1, .inl (cJ, 64, .inr (.inl f_43)))]) ⟨hx, hb, hml, hown, hts⟩ (cwV 1 hts gX8_spread_X7_add rfl rfl rfl (by decide +kernel) ⟨Nat.le_of_ble_eq_true rfl, Nat.le_of_ble_eq_true rfl⟩) hN hK hP hD [4, 5] rfl (by decide) rfl 4 rfl rfl rfl rfl hl.1 rfl (Nat.le_of_ble_eq_true rfl) dX8_spread_74 ⟨Nat.le_of_ble_eq_true rfl, Nat.le_of_ble_eq_true rfl⟩  ((k_X7_add l D cI cJ xo o1 k_42 f_43 (0 : Int64) (by first | omega | decide +kernel)) _)) (fun u H locs hp hP hD hS => ?_)
                                  obtain ⟨k_46, f_47, rfl, ha_48, hb_49⟩ := hp
                                  have hP : va_P D vwCl [(x0, .inr (8, [.ref xn, .int 0, .ref xl, .ref xt, .ref xo, .ref xf, .ref xs, .ref xp, .ref xq, .ref xr, .ref xc])), (xf, .inr (6, [.ref f1, .ref f2, .int 0])), (f1, .inl (cI, 512, .inl (fun _ => (0 : Int32)))), (f2, .inl (cI, 64, .inl ff)), (xo, .inr (7, [.ref o1, .int (nI k_46)])), (o1, .inl (cJ, 64, .inr (.inl f_47)))] H := hP
                                  have hD : va_D A [(x0, .inr (8, [.ref xn, .int 0, .ref xl, .ref xt, .ref xo, .ref xf, .ref xs, .ref xp, .ref xq, .ref xr, .ref xc])), (xf, .inr (6, [.ref f1, .ref f2, .int 0])), (f1, .inl (cI, 512, .inl (fun _ => (0 : Int32)))), (f2, .inl (cI, 64, .inl ff)), (xo, .inr (7, [.ref o1, .int (nI k_46)])), (o1, .inl (cJ, 64, .inr (.inl f_47)))] := hD
                                  refine lv_iload hx hb dX8_spread_77 (lv_at hl 0 rfl) ?_
                                  refine lv_if_le (tgt := 85) hx hb dX8_spread_79 (by decide) (fun c79 => ?_) (fun c79 => ?_)
                                  ·
                                    refine lv_iinc (v := 6) (lv' := [(5, .int 6), (6, .int 0), (4, .int 0), (0, .ref x0), (1, .int 0), (2, .int 0), (3, .int 3)]) hx hb dX8_spread_85 hl (k := 1) rfl (by decide +kernel) (by decide) rfl (fun ls hl => ?_)
                                    refine lv_goto (tgt := 47) hx hb dX8_spread_88 (by decide) ?_
                                    refine lv_iload hx hb dX8_spread_47 (lv_at hl 0 rfl) ?_
                                    refine lv_iconst (v := 1) hx hb dX8_spread_49 (by decide +kernel) ?_
                                    refine lv_iload_n hx hb dX8_spread_50 rfl (lv_at hl 6 rfl) ?_
                                    refine lv_ishl hx hb dX8_spread_51 ?_
                                    refine my_eqi (y := 8) (by decide +kernel) ?_
                                    refine lv_icmp_ge (tgt := 91) hx hb dX8_spread_52 (by decide) (fun c52 => ?_) (fun c52 => ?_)
                                    ·
                                      exact absurd c52 (by decide +kernel)
                                    ·
                                      refine lv_aload_n hx hb dX8_spread_55 rfl (lv_at hl 3 rfl) ?_
                                      refine va_get (ci := 8) (v := .ref xf) (C := RX8) (T := TX8) (N := 11) hx hb hts hi8 hown hK hP 0 rfl rfl 5 (by decide) fl41 (fun _ h9 => h9) rfl dX8_spread_56 ?_
                                      refine lv_iload_n hx hb dX8_spread_59 rfl (lv_at hl 6 rfl) ?_
                                      refine lv_iload hx hb dX8_spread_60 (lv_at hl 0 rfl) ?_
                                      refine my_gpI (my_pV (As := [.int 3, .int 6]) (rest := []) (ci := 6) ⟨hx, hb, hml, hown, hts⟩ (cwV 2 hts gX8_spread_X6_inNode rfl rfl rfl (by decide +kernel) ⟨Nat.le_of_ble_eq_true rfl, Nat.le_of_ble_eq_true rfl⟩) hN hK hP [1, 2] rfl 1 rfl rfl rfl rfl hl.1 rfl (Nat.le_of_ble_eq_true rfl) dX8_spread_62 ⟨Nat.le_of_ble_eq_true rfl, Nat.le_of_ble_eq_true rfl⟩  (k0_X6_inNode_3 l D cI cJ xf f1 f2 (0 : Int32) (6 : Int32))) (fun r hp => ?_)
                                      obtain rfl := hp
                                      refine lv_istore (lv' := [(6, .int 0), (5, .int 6), (4, .int 0), (0, .ref x0), (1, .int 0), (2, .int 0), (3, .int 3)]) hx hb dX8_spread_65 hl (by decide) rfl (fun ls hl => ?_)
                                      refine lv_aload_n hx hb dX8_spread_67 rfl (lv_at hl 3 rfl) ?_
                                      refine va_get (ci := 8) (v := .ref xo) (C := RX8) (T := TX8) (N := 11) hx hb hts hi8 hown hK hP 0 rfl rfl 4 (by decide) fl34 (fun _ h9 => h9) rfl dX8_spread_68 ?_
                                      refine lv_iload hx hb dX8_spread_71 (lv_at hl 0 rfl) ?_
                                      refine lv_i2l (v := 0) hx hb dX8_spread_73 (by decide +kernel) ?_
                                      refine my_goV (wr := [(x0, .inr (8, [.ref xn, .int 0, .ref xl, .ref xt, .ref xo, .ref xf, .ref xs, .ref xp, .ref xq, .ref xr, .ref xc])), (xf, .inr (6, [.ref f1, .ref f2, .int 0])), (f1, .inl (cI, 512, .inl (fun _ => (0 : Int32)))), (f2, .inl (cI, 64, .inl ff))]) hP hD hS hA [4, 5] [0, 1, 2, 3] rfl rfl (by decide) (by decide) (my_cV (As := [.long 0]) (rest := []) (ci := 7) (wc := [(xo, .inr (7, [.ref o1, .int (nI k_46)])), (o1, .inl (cJ, 64, .inr (.inl f_47)))]) ⟨hx, hb, hml, hown, hts⟩ (cwV 1 hts gX8_spread_X7_add rfl rfl rfl (by decide +kernel) ⟨Nat.le_of_ble_eq_true rfl, Nat.le_of_ble_eq_true rfl⟩) hN hK hP hD [4, 5] rfl (by decide) rfl 4 rfl rfl rfl rfl hl.1 rfl (Nat.le_of_ble_eq_true rfl) dX8_spread_74 ⟨Nat.le_of_ble_eq_true rfl, Nat.le_of_ble_eq_true rfl⟩  ((k_X7_add l D cI cJ xo o1 k_46 f_47 (0 : Int64) (by first | omega | decide +kernel)) _)) (fun u H locs hp hP hD hS => ?_)
                                      obtain ⟨k_50, f_51, rfl, ha_52, hb_53⟩ := hp
                                      have hP : va_P D vwCl [(x0, .inr (8, [.ref xn, .int 0, .ref xl, .ref xt, .ref xo, .ref xf, .ref xs, .ref xp, .ref xq, .ref xr, .ref xc])), (xf, .inr (6, [.ref f1, .ref f2, .int 0])), (f1, .inl (cI, 512, .inl (fun _ => (0 : Int32)))), (f2, .inl (cI, 64, .inl ff)), (xo, .inr (7, [.ref o1, .int (nI k_50)])), (o1, .inl (cJ, 64, .inr (.inl f_51)))] H := hP
                                      have hD : va_D A [(x0, .inr (8, [.ref xn, .int 0, .ref xl, .ref xt, .ref xo, .ref xf, .ref xs, .ref xp, .ref xq, .ref xr, .ref xc])), (xf, .inr (6, [.ref f1, .ref f2, .int 0])), (f1, .inl (cI, 512, .inl (fun _ => (0 : Int32)))), (f2, .inl (cI, 64, .inl ff)), (xo, .inr (7, [.ref o1, .int (nI k_50)])), (o1, .inl (cJ, 64, .inr (.inl f_51)))] := hD
                                      refine lv_iload hx hb dX8_spread_77 (lv_at hl 0 rfl) ?_
                                      refine lv_if_le (tgt := 85) hx hb dX8_spread_79 (by decide) (fun c79 => ?_) (fun c79 => ?_)
                                      ·
                                        refine lv_iinc (v := 7) (lv' := [(5, .int 7), (6, .int 0), (4, .int 0), (0, .ref x0), (1, .int 0), (2, .int 0), (3, .int 3)]) hx hb dX8_spread_85 hl (k := 1) rfl (by decide +kernel) (by decide) rfl (fun ls hl => ?_)
                                        refine lv_goto (tgt := 47) hx hb dX8_spread_88 (by decide) ?_
                                        refine lv_iload hx hb dX8_spread_47 (lv_at hl 0 rfl) ?_
                                        refine lv_iconst (v := 1) hx hb dX8_spread_49 (by decide +kernel) ?_
                                        refine lv_iload_n hx hb dX8_spread_50 rfl (lv_at hl 6 rfl) ?_
                                        refine lv_ishl hx hb dX8_spread_51 ?_
                                        refine my_eqi (y := 8) (by decide +kernel) ?_
                                        refine lv_icmp_ge (tgt := 91) hx hb dX8_spread_52 (by decide) (fun c52 => ?_) (fun c52 => ?_)
                                        ·
                                          exact absurd c52 (by decide +kernel)
                                        ·
                                          refine lv_aload_n hx hb dX8_spread_55 rfl (lv_at hl 3 rfl) ?_
                                          refine va_get (ci := 8) (v := .ref xf) (C := RX8) (T := TX8) (N := 11) hx hb hts hi8 hown hK hP 0 rfl rfl 5 (by decide) fl41 (fun _ h9 => h9) rfl dX8_spread_56 ?_
                                          refine lv_iload_n hx hb dX8_spread_59 rfl (lv_at hl 6 rfl) ?_
                                          refine lv_iload hx hb dX8_spread_60 (lv_at hl 0 rfl) ?_
                                          refine my_gpI (my_pV (As := [.int 3, .int 7]) (rest := []) (ci := 6) ⟨hx, hb, hml, hown, hts⟩ (cwV 2 hts gX8_spread_X6_inNode rfl rfl rfl (by decide +kernel) ⟨Nat.le_of_ble_eq_true rfl, Nat.le_of_ble_eq_true rfl⟩) hN hK hP [1, 2] rfl 1 rfl rfl rfl rfl hl.1 rfl (Nat.le_of_ble_eq_true rfl) dX8_spread_62 ⟨Nat.le_of_ble_eq_true rfl, Nat.le_of_ble_eq_true rfl⟩  (k0_X6_inNode_3 l D cI cJ xf f1 f2 (0 : Int32) (7 : Int32))) (fun r hp => ?_)
                                          obtain rfl := hp
                                          refine lv_istore (lv' := [(6, .int 0), (5, .int 7), (4, .int 0), (0, .ref x0), (1, .int 0), (2, .int 0), (3, .int 3)]) hx hb dX8_spread_65 hl (by decide) rfl (fun ls hl => ?_)
                                          refine lv_aload_n hx hb dX8_spread_67 rfl (lv_at hl 3 rfl) ?_
                                          refine va_get (ci := 8) (v := .ref xo) (C := RX8) (T := TX8) (N := 11) hx hb hts hi8 hown hK hP 0 rfl rfl 4 (by decide) fl34 (fun _ h9 => h9) rfl dX8_spread_68 ?_
                                          refine lv_iload hx hb dX8_spread_71 (lv_at hl 0 rfl) ?_
                                          refine lv_i2l (v := 0) hx hb dX8_spread_73 (by decide +kernel) ?_
                                          refine my_goV (wr := [(x0, .inr (8, [.ref xn, .int 0, .ref xl, .ref xt, .ref xo, .ref xf, .ref xs, .ref xp, .ref xq, .ref xr, .ref xc])), (xf, .inr (6, [.ref f1, .ref f2, .int 0])), (f1, .inl (cI, 512, .inl (fun _ => (0 : Int32)))), (f2, .inl (cI, 64, .inl ff))]) hP hD hS hA [4, 5] [0, 1, 2, 3] rfl rfl (by decide) (by decide) (my_cV (As := [.long 0]) (rest := []) (ci := 7) (wc := [(xo, .inr (7, [.ref o1, .int (nI k_50)])), (o1, .inl (cJ, 64, .inr (.inl f_51)))]) ⟨hx, hb, hml, hown, hts⟩ (cwV 1 hts gX8_spread_X7_add rfl rfl rfl (by decide +kernel) ⟨Nat.le_of_ble_eq_true rfl, Nat.le_of_ble_eq_true rfl⟩) hN hK hP hD [4, 5] rfl (by decide) rfl 4 rfl rfl rfl rfl hl.1 rfl (Nat.le_of_ble_eq_true rfl) dX8_spread_74 ⟨Nat.le_of_ble_eq_true rfl, Nat.le_of_ble_eq_true rfl⟩  ((k_X7_add l D cI cJ xo o1 k_50 f_51 (0 : Int64) (by first | omega | decide +kernel)) _)) (fun u H locs hp hP hD hS => ?_)
                                          obtain ⟨k_54, f_55, rfl, ha_56, hb_57⟩ := hp
                                          have hP : va_P D vwCl [(x0, .inr (8, [.ref xn, .int 0, .ref xl, .ref xt, .ref xo, .ref xf, .ref xs, .ref xp, .ref xq, .ref xr, .ref xc])), (xf, .inr (6, [.ref f1, .ref f2, .int 0])), (f1, .inl (cI, 512, .inl (fun _ => (0 : Int32)))), (f2, .inl (cI, 64, .inl ff)), (xo, .inr (7, [.ref o1, .int (nI k_54)])), (o1, .inl (cJ, 64, .inr (.inl f_55)))] H := hP
                                          have hD : va_D A [(x0, .inr (8, [.ref xn, .int 0, .ref xl, .ref xt, .ref xo, .ref xf, .ref xs, .ref xp, .ref xq, .ref xr, .ref xc])), (xf, .inr (6, [.ref f1, .ref f2, .int 0])), (f1, .inl (cI, 512, .inl (fun _ => (0 : Int32)))), (f2, .inl (cI, 64, .inl ff)), (xo, .inr (7, [.ref o1, .int (nI k_54)])), (o1, .inl (cJ, 64, .inr (.inl f_55)))] := hD
                                          refine lv_iload hx hb dX8_spread_77 (lv_at hl 0 rfl) ?_
                                          refine lv_if_le (tgt := 85) hx hb dX8_spread_79 (by decide) (fun c79 => ?_) (fun c79 => ?_)
                                          ·
                                            refine lv_iinc (v := 8) (lv' := [(5, .int 8), (6, .int 0), (4, .int 0), (0, .ref x0), (1, .int 0), (2, .int 0), (3, .int 3)]) hx hb dX8_spread_85 hl (k := 1) rfl (by decide +kernel) (by decide) rfl (fun ls hl => ?_)
                                            refine lv_goto (tgt := 47) hx hb dX8_spread_88 (by decide) ?_
                                            refine lv_iload hx hb dX8_spread_47 (lv_at hl 0 rfl) ?_
                                            refine lv_iconst (v := 1) hx hb dX8_spread_49 (by decide +kernel) ?_
                                            refine lv_iload_n hx hb dX8_spread_50 rfl (lv_at hl 6 rfl) ?_
                                            refine lv_ishl hx hb dX8_spread_51 ?_
                                            refine my_eqi (y := 8) (by decide +kernel) ?_
                                            refine lv_icmp_ge (tgt := 91) hx hb dX8_spread_52 (by decide) (fun c52 => ?_) (fun c52 => ?_)
                                            ·
                                              refine lv_iload hx hb dX8_spread_91 (lv_at hl 2 rfl) ?_
                                              exact my_retI hx hb hr hlocks hK hS [] (hP.sub [] rfl) (hD.sub [] (by decide) rfl) (Or.inl ⟨rfl, rfl, (by first | omega | assumption | trivial | decide +kernel), (by first | omega | assumption | trivial | decide +kernel), (by first | omega | assumption | trivial | decide +kernel), (by first | omega | assumption | trivial | decide +kernel)⟩) dX8_spread_93
                                            ·
                                              exact absurd c52 (by decide +kernel)
                                          ·
                                            exact absurd c79 (by decide +kernel)
                                      ·
                                        exact absurd c79 (by decide +kernel)
                                  ·
                                    exact absurd c79 (by decide +kernel)
                              ·
                                exact absurd c79 (by decide +kernel)
                          ·
                            exact absurd c79 (by decide +kernel)
                      ·
                        exact absurd c79 (by decide +kernel)
                  ·
                    exact absurd c79 (by decide +kernel)
              ·
                exact absurd c79 (by decide +kernel)
          ·
            refine lv_aload_n hx hb dX8_spread_21 rfl (lv_at hl 0 rfl) ?_
            refine va_get (ci := 8) (v := .ref xf) (C := RX8) (T := TX8) (N := 11) hx hb hts hi8 hown hK hP 0 rfl rfl 5 (by decide) fl41 (fun _ h9 => h9) rfl dX8_spread_22 ?_
            refine lv_aload_n hx hb dX8_spread_25 rfl (lv_at hl 0 rfl) ?_
            refine va_get (ci := 8) (v := .ref xn) (C := RX8) (T := TX8) (N := 11) hx hb hts hi8 hown hK hP 0 rfl rfl 0 (by decide) fl9 (fun _ h9 => h9) rfl dX8_spread_26 ?_
            refine lv_iload_n hx hb dX8_spread_29 rfl (lv_at hl 1 rfl) ?_
            refine lv_iload_n hx hb dX8_spread_30 rfl (lv_at hl 2 rfl) ?_
            refine my_goV (wr := [(x0, .inr (8, [.ref xn, .int 0, .ref xl, .ref xt, .ref xo, .ref xf, .ref xs, .ref xp, .ref xq, .ref xr, .ref xc])), (xo, .inr (7, [.ref o1, .int o2])), (o1, .inl (cJ, 64, .inr (.inl of)))]) hP hD hS hA [1, 2, 3] [0, 4, 5] rfl rfl (by decide) (by decide) (my_cV (As := [.ref xn, .int 0, .int 0]) (rest := []) (ci := 6) (wc := [(xf, .inr (6, [.ref f1, .ref f2, .int f3])), (f1, .inl (cI, 512, .inl (fun _ => (0 : Int32)))), (f2, .inl (cI, 64, .inl ff))]) ⟨hx, hb, hml, hown, hts⟩ (cwV 3 hts gX8_spread_X6_take rfl rfl rfl (by decide +kernel) ⟨Nat.le_of_ble_eq_true rfl, Nat.le_of_ble_eq_true rfl⟩) hN hK hP hD [1, 2, 3] rfl (by decide) rfl 1 rfl rfl rfl rfl hl.1 rfl (Nat.le_of_ble_eq_true rfl) dX8_spread_31 ⟨Nat.le_of_ble_eq_true rfl, Nat.le_of_ble_eq_true rfl⟩  ((k0_X6_take l D cI cJ xf f1 f2 xn f3 ff) _)) (fun u H locs hp hP hD hS => ?_)
            obtain rfl := hp
            have hP : va_P D vwCl [(x0, .inr (8, [.ref xn, .int 0, .ref xl, .ref xt, .ref xo, .ref xf, .ref xs, .ref xp, .ref xq, .ref xr, .ref xc])), (xo, .inr (7, [.ref o1, .int o2])), (o1, .inl (cJ, 64, .inr (.inl of))), (xf, .inr (6, [.ref f1, .ref f2, .int 0])), (f1, .inl (cI, 512, .inl (fun _ => (0 : Int32)))), (f2, .inl (cI, 64, .inl ff))] H := hP
            have hD : va_D A [(x0, .inr (8, [.ref xn, .int 0, .ref xl, .ref xt, .ref xo, .ref xf, .ref xs, .ref xp, .ref xq, .ref xr, .ref xc])), (xo, .inr (7, [.ref o1, .int o2])), (o1, .inl (cJ, 64, .inr (.inl of))), (xf, .inr (6, [.ref f1, .ref f2, .int 0])), (f1, .inl (cI, 512, .inl (fun _ => (0 : Int32)))), (f2, .inl (cI, 64, .inl ff))] := hD
            refine lv_iconst (v := 0) hx hb dX8_spread_34 (by decide +kernel) ?_
            refine lv_istore (lv' := [(4, .int 0), (0, .ref x0), (1, .int 0), (2, .int 0), (3, .int 4)]) hx hb dX8_spread_35 hl (by decide) rfl (fun ls hl => ?_)
            refine lv_aload_n hx hb dX8_spread_37 rfl (lv_at hl 1 rfl) ?_
            refine va_get (ci := 8) (v := .ref xo) (C := RX8) (T := TX8) (N := 11) hx hb hts hi8 hown hK hP 0 rfl rfl 4 (by decide) fl34 (fun _ h9 => h9) rfl dX8_spread_38 ?_
            refine my_goV (wr := [(x0, .inr (8, [.ref xn, .int 0, .ref xl, .ref xt, .ref xo, .ref xf, .ref xs, .ref xp, .ref xq, .ref xr, .ref xc])), (o1, .inl (cJ, 64, .inr (.inl of))), (xf, .inr (6, [.ref f1, .ref f2, .int 0])), (f1, .inl (cI, 512, .inl (fun _ => (0 : Int32)))), (f2, .inl (cI, 64, .inl ff))]) hP hD hS hA [1] [0, 2, 3, 4, 5] rfl rfl (by decide) (by decide) (my_cV (As := []) (rest := []) (ci := 7) (wc := [(xo, .inr (7, [.ref o1, .int o2]))]) ⟨hx, hb, hml, hown, hts⟩ (cwV 0 hts gX8_spread_X7_begin rfl rfl rfl (by decide +kernel) ⟨Nat.le_of_ble_eq_true rfl, Nat.le_of_ble_eq_true rfl⟩) hN hK hP hD [1] rfl (by decide) rfl 1 rfl rfl rfl rfl hl.1 rfl (Nat.le_of_ble_eq_true rfl) dX8_spread_41 ⟨Nat.le_of_ble_eq_true rfl, Nat.le_of_ble_eq_true rfl⟩  ((k_X7_begin l D cI cJ xo o1 o2) _)) (fun u H locs hp hP hD hS => ?_)
            obtain rfl := hp
            have hP : va_P D vwCl [(x0, .inr (8, [.ref xn, .int 0, .ref xl, .ref xt, .ref xo, .ref xf, .ref xs, .ref xp, .ref xq, .ref xr, .ref xc])), (o1, .inl (cJ, 64, .inr (.inl of))), (xf, .inr (6, [.ref f1, .ref f2, .int 0])), (f1, .inl (cI, 512, .inl (fun _ => (0 : Int32)))), (f2, .inl (cI, 64, .inl ff)), (xo, .inr (7, [.ref o1, .int 0]))] H := hP
            have hD : va_D A [(x0, .inr (8, [.ref xn, .int 0, .ref xl, .ref xt, .ref xo, .ref xf, .ref xs, .ref xp, .ref xq, .ref xr, .ref xc])), (o1, .inl (cJ, 64, .inr (.inl of))), (xf, .inr (6, [.ref f1, .ref f2, .int 0])), (f1, .inl (cI, 512, .inl (fun _ => (0 : Int32)))), (f2, .inl (cI, 64, .inl ff)), (xo, .inr (7, [.ref o1, .int 0]))] := hD
            refine lv_iconst (v := 0) hx hb dX8_spread_44 (by decide +kernel) ?_
            refine lv_istore (lv' := [(5, .int 0), (4, .int 0), (0, .ref x0), (1, .int 0), (2, .int 0), (3, .int 4)]) hx hb dX8_spread_45 hl (by decide) rfl (fun ls hl => ?_)
            refine lv_iload hx hb dX8_spread_47 (lv_at hl 0 rfl) ?_
            refine lv_iconst (v := 1) hx hb dX8_spread_49 (by decide +kernel) ?_
            refine lv_iload_n hx hb dX8_spread_50 rfl (lv_at hl 5 rfl) ?_
            refine lv_ishl hx hb dX8_spread_51 ?_
            refine my_eqi (y := 16) (by decide +kernel) ?_
            refine lv_icmp_ge (tgt := 91) hx hb dX8_spread_52 (by decide) (fun c52 => ?_) (fun c52 => ?_)
            ·
              exact absurd c52 (by decide +kernel)
            ·
              refine lv_aload_n hx hb dX8_spread_55 rfl (lv_at hl 2 rfl) ?_
              refine va_get (ci := 8) (v := .ref xf) (C := RX8) (T := TX8) (N := 11) hx hb hts hi8 hown hK hP 0 rfl rfl 5 (by decide) fl41 (fun _ h9 => h9) rfl dX8_spread_56 ?_
              refine lv_iload_n hx hb dX8_spread_59 rfl (lv_at hl 5 rfl) ?_
              refine lv_iload hx hb dX8_spread_60 (lv_at hl 0 rfl) ?_
              refine my_gpI (my_pV (As := [.int 4, .int 0]) (rest := []) (ci := 6) ⟨hx, hb, hml, hown, hts⟩ (cwV 2 hts gX8_spread_X6_inNode rfl rfl rfl (by decide +kernel) ⟨Nat.le_of_ble_eq_true rfl, Nat.le_of_ble_eq_true rfl⟩) hN hK hP [2, 3] rfl 2 rfl rfl rfl rfl hl.1 rfl (Nat.le_of_ble_eq_true rfl) dX8_spread_62 ⟨Nat.le_of_ble_eq_true rfl, Nat.le_of_ble_eq_true rfl⟩  (k0_X6_inNode_4 l D cI cJ xf f1 f2 (0 : Int32) (0 : Int32))) (fun r hp => ?_)
              obtain rfl := hp
              refine lv_istore (lv' := [(6, .int 0), (5, .int 0), (4, .int 0), (0, .ref x0), (1, .int 0), (2, .int 0), (3, .int 4)]) hx hb dX8_spread_65 hl (by decide) rfl (fun ls hl => ?_)
              refine lv_aload_n hx hb dX8_spread_67 rfl (lv_at hl 3 rfl) ?_
              refine va_get (ci := 8) (v := .ref xo) (C := RX8) (T := TX8) (N := 11) hx hb hts hi8 hown hK hP 0 rfl rfl 4 (by decide) fl34 (fun _ h9 => h9) rfl dX8_spread_68 ?_
              refine lv_iload hx hb dX8_spread_71 (lv_at hl 0 rfl) ?_
              refine lv_i2l (v := 0) hx hb dX8_spread_73 (by decide +kernel) ?_
              refine my_goV (wr := [(x0, .inr (8, [.ref xn, .int 0, .ref xl, .ref xt, .ref xo, .ref xf, .ref xs, .ref xp, .ref xq, .ref xr, .ref xc])), (xf, .inr (6, [.ref f1, .ref f2, .int 0])), (f1, .inl (cI, 512, .inl (fun _ => (0 : Int32)))), (f2, .inl (cI, 64, .inl ff))]) hP hD hS hA [5, 1] [0, 2, 3, 4] rfl rfl (by decide) (by decide) (my_cV (As := [.long 0]) (rest := []) (ci := 7) (wc := [(xo, .inr (7, [.ref o1, .int 0])), (o1, .inl (cJ, 64, .inr (.inl of)))]) ⟨hx, hb, hml, hown, hts⟩ (cwV 1 hts gX8_spread_X7_add rfl rfl rfl (by decide +kernel) ⟨Nat.le_of_ble_eq_true rfl, Nat.le_of_ble_eq_true rfl⟩) hN hK hP hD [5, 1] rfl (by decide) rfl 5 rfl rfl rfl rfl hl.1 rfl (Nat.le_of_ble_eq_true rfl) dX8_spread_74 ⟨Nat.le_of_ble_eq_true rfl, Nat.le_of_ble_eq_true rfl⟩  ((k_X7_add l D cI cJ xo o1 0 of (0 : Int64) (by first | omega | decide +kernel)) _)) (fun u H locs hp hP hD hS => ?_)
              obtain ⟨k_58, f_59, rfl, ha_60, hb_61⟩ := hp
              have hP : va_P D vwCl [(x0, .inr (8, [.ref xn, .int 0, .ref xl, .ref xt, .ref xo, .ref xf, .ref xs, .ref xp, .ref xq, .ref xr, .ref xc])), (xf, .inr (6, [.ref f1, .ref f2, .int 0])), (f1, .inl (cI, 512, .inl (fun _ => (0 : Int32)))), (f2, .inl (cI, 64, .inl ff)), (xo, .inr (7, [.ref o1, .int (nI k_58)])), (o1, .inl (cJ, 64, .inr (.inl f_59)))] H := hP
              have hD : va_D A [(x0, .inr (8, [.ref xn, .int 0, .ref xl, .ref xt, .ref xo, .ref xf, .ref xs, .ref xp, .ref xq, .ref xr, .ref xc])), (xf, .inr (6, [.ref f1, .ref f2, .int 0])), (f1, .inl (cI, 512, .inl (fun _ => (0 : Int32)))), (f2, .inl (cI, 64, .inl ff)), (xo, .inr (7, [.ref o1, .int (nI k_58)])), (o1, .inl (cJ, 64, .inr (.inl f_59)))] := hD
              refine lv_iload hx hb dX8_spread_77 (lv_at hl 0 rfl) ?_
              refine lv_if_le (tgt := 85) hx hb dX8_spread_79 (by decide) (fun c79 => ?_) (fun c79 => ?_)
              ·
                refine lv_iinc (v := 1) (lv' := [(5, .int 1), (6, .int 0), (4, .int 0), (0, .ref x0), (1, .int 0), (2, .int 0), (3, .int 4)]) hx hb dX8_spread_85 hl (k := 1) rfl (by decide +kernel) (by decide) rfl (fun ls hl => ?_)
                refine lv_goto (tgt := 47) hx hb dX8_spread_88 (by decide) ?_
                refine lv_iload hx hb dX8_spread_47 (lv_at hl 0 rfl) ?_
                refine lv_iconst (v := 1) hx hb dX8_spread_49 (by decide +kernel) ?_
                refine lv_iload_n hx hb dX8_spread_50 rfl (lv_at hl 6 rfl) ?_
                refine lv_ishl hx hb dX8_spread_51 ?_
                refine my_eqi (y := 16) (by decide +kernel) ?_
                refine lv_icmp_ge (tgt := 91) hx hb dX8_spread_52 (by decide) (fun c52 => ?_) (fun c52 => ?_)
                ·
                  exact absurd c52 (by decide +kernel)
                ·
                  refine lv_aload_n hx hb dX8_spread_55 rfl (lv_at hl 3 rfl) ?_
                  refine va_get (ci := 8) (v := .ref xf) (C := RX8) (T := TX8) (N := 11) hx hb hts hi8 hown hK hP 0 rfl rfl 5 (by decide) fl41 (fun _ h9 => h9) rfl dX8_spread_56 ?_
                  refine lv_iload_n hx hb dX8_spread_59 rfl (lv_at hl 6 rfl) ?_
                  refine lv_iload hx hb dX8_spread_60 (lv_at hl 0 rfl) ?_
                  refine my_gpI (my_pV (As := [.int 4, .int 1]) (rest := []) (ci := 6) ⟨hx, hb, hml, hown, hts⟩ (cwV 2 hts gX8_spread_X6_inNode rfl rfl rfl (by decide +kernel) ⟨Nat.le_of_ble_eq_true rfl, Nat.le_of_ble_eq_true rfl⟩) hN hK hP [1, 2] rfl 1 rfl rfl rfl rfl hl.1 rfl (Nat.le_of_ble_eq_true rfl) dX8_spread_62 ⟨Nat.le_of_ble_eq_true rfl, Nat.le_of_ble_eq_true rfl⟩  (k0_X6_inNode_4 l D cI cJ xf f1 f2 (0 : Int32) (1 : Int32))) (fun r hp => ?_)
                  obtain rfl := hp
                  refine lv_istore (lv' := [(6, .int 0), (5, .int 1), (4, .int 0), (0, .ref x0), (1, .int 0), (2, .int 0), (3, .int 4)]) hx hb dX8_spread_65 hl (by decide) rfl (fun ls hl => ?_)
                  refine lv_aload_n hx hb dX8_spread_67 rfl (lv_at hl 3 rfl) ?_
                  refine va_get (ci := 8) (v := .ref xo) (C := RX8) (T := TX8) (N := 11) hx hb hts hi8 hown hK hP 0 rfl rfl 4 (by decide) fl34 (fun _ h9 => h9) rfl dX8_spread_68 ?_
                  refine lv_iload hx hb dX8_spread_71 (lv_at hl 0 rfl) ?_
                  refine lv_i2l (v := 0) hx hb dX8_spread_73 (by decide +kernel) ?_
                  refine my_goV (wr := [(x0, .inr (8, [.ref xn, .int 0, .ref xl, .ref xt, .ref xo, .ref xf, .ref xs, .ref xp, .ref xq, .ref xr, .ref xc])), (xf, .inr (6, [.ref f1, .ref f2, .int 0])), (f1, .inl (cI, 512, .inl (fun _ => (0 : Int32)))), (f2, .inl (cI, 64, .inl ff))]) hP hD hS hA [4, 5] [0, 1, 2, 3] rfl rfl (by decide) (by decide) (my_cV (As := [.long 0]) (rest := []) (ci := 7) (wc := [(xo, .inr (7, [.ref o1, .int (nI k_58)])), (o1, .inl (cJ, 64, .inr (.inl f_59)))]) ⟨hx, hb, hml, hown, hts⟩ (cwV 1 hts gX8_spread_X7_add rfl rfl rfl (by decide +kernel) ⟨Nat.le_of_ble_eq_true rfl, Nat.le_of_ble_eq_true rfl⟩) hN hK hP hD [4, 5] rfl (by decide) rfl 4 rfl rfl rfl rfl hl.1 rfl (Nat.le_of_ble_eq_true rfl) dX8_spread_74 ⟨Nat.le_of_ble_eq_true rfl, Nat.le_of_ble_eq_true rfl⟩  ((k_X7_add l D cI cJ xo o1 k_58 f_59 (0 : Int64) (by first | omega | decide +kernel)) _)) (fun u H locs hp hP hD hS => ?_)
                  obtain ⟨k_62, f_63, rfl, ha_64, hb_65⟩ := hp
                  have hP : va_P D vwCl [(x0, .inr (8, [.ref xn, .int 0, .ref xl, .ref xt, .ref xo, .ref xf, .ref xs, .ref xp, .ref xq, .ref xr, .ref xc])), (xf, .inr (6, [.ref f1, .ref f2, .int 0])), (f1, .inl (cI, 512, .inl (fun _ => (0 : Int32)))), (f2, .inl (cI, 64, .inl ff)), (xo, .inr (7, [.ref o1, .int (nI k_62)])), (o1, .inl (cJ, 64, .inr (.inl f_63)))] H := hP
                  have hD : va_D A [(x0, .inr (8, [.ref xn, .int 0, .ref xl, .ref xt, .ref xo, .ref xf, .ref xs, .ref xp, .ref xq, .ref xr, .ref xc])), (xf, .inr (6, [.ref f1, .ref f2, .int 0])), (f1, .inl (cI, 512, .inl (fun _ => (0 : Int32)))), (f2, .inl (cI, 64, .inl ff)), (xo, .inr (7, [.ref o1, .int (nI k_62)])), (o1, .inl (cJ, 64, .inr (.inl f_63)))] := hD
                  refine lv_iload hx hb dX8_spread_77 (lv_at hl 0 rfl) ?_
                  refine lv_if_le (tgt := 85) hx hb dX8_spread_79 (by decide) (fun c79 => ?_) (fun c79 => ?_)
                  ·
                    refine lv_iinc (v := 2) (lv' := [(5, .int 2), (6, .int 0), (4, .int 0), (0, .ref x0), (1, .int 0), (2, .int 0), (3, .int 4)]) hx hb dX8_spread_85 hl (k := 1) rfl (by decide +kernel) (by decide) rfl (fun ls hl => ?_)
                    refine lv_goto (tgt := 47) hx hb dX8_spread_88 (by decide) ?_
                    refine lv_iload hx hb dX8_spread_47 (lv_at hl 0 rfl) ?_
                    refine lv_iconst (v := 1) hx hb dX8_spread_49 (by decide +kernel) ?_
                    refine lv_iload_n hx hb dX8_spread_50 rfl (lv_at hl 6 rfl) ?_
                    refine lv_ishl hx hb dX8_spread_51 ?_
                    refine my_eqi (y := 16) (by decide +kernel) ?_
                    refine lv_icmp_ge (tgt := 91) hx hb dX8_spread_52 (by decide) (fun c52 => ?_) (fun c52 => ?_)
                    ·
                      exact absurd c52 (by decide +kernel)
                    ·
                      refine lv_aload_n hx hb dX8_spread_55 rfl (lv_at hl 3 rfl) ?_
                      refine va_get (ci := 8) (v := .ref xf) (C := RX8) (T := TX8) (N := 11) hx hb hts hi8 hown hK hP 0 rfl rfl 5 (by decide) fl41 (fun _ h9 => h9) rfl dX8_spread_56 ?_
                      refine lv_iload_n hx hb dX8_spread_59 rfl (lv_at hl 6 rfl) ?_
                      refine lv_iload hx hb dX8_spread_60 (lv_at hl 0 rfl) ?_
                      refine my_gpI (my_pV (As := [.int 4, .int 2]) (rest := []) (ci := 6) ⟨hx, hb, hml, hown, hts⟩ (cwV 2 hts gX8_spread_X6_inNode rfl rfl rfl (by decide +kernel) ⟨Nat.le_of_ble_eq_true rfl, Nat.le_of_ble_eq_true rfl⟩) hN hK hP [1, 2] rfl 1 rfl rfl rfl rfl hl.1 rfl (Nat.le_of_ble_eq_true rfl) dX8_spread_62 ⟨Nat.le_of_ble_eq_true rfl, Nat.le_of_ble_eq_true rfl⟩  (k0_X6_inNode_4 l D cI cJ xf f1 f2 (0 : Int32) (2 : Int32))) (fun r hp => ?_)
                      obtain rfl := hp
                      refine lv_istore (lv' := [(6, .int 0), (5, .int 2), (4, .int 0), (0, .ref x0), (1, .int 0), (2, .int 0), (3, .int 4)]) hx hb dX8_spread_65 hl (by decide) rfl (fun ls hl => ?_)
                      refine lv_aload_n hx hb dX8_spread_67 rfl (lv_at hl 3 rfl) ?_
                      refine va_get (ci := 8) (v := .ref xo) (C := RX8) (T := TX8) (N := 11) hx hb hts hi8 hown hK hP 0 rfl rfl 4 (by decide) fl34 (fun _ h9 => h9) rfl dX8_spread_68 ?_
                      refine lv_iload hx hb dX8_spread_71 (lv_at hl 0 rfl) ?_
                      refine lv_i2l (v := 0) hx hb dX8_spread_73 (by decide +kernel) ?_
                      refine my_goV (wr := [(x0, .inr (8, [.ref xn, .int 0, .ref xl, .ref xt, .ref xo, .ref xf, .ref xs, .ref xp, .ref xq, .ref xr, .ref xc])), (xf, .inr (6, [.ref f1, .ref f2, .int 0])), (f1, .inl (cI, 512, .inl (fun _ => (0 : Int32)))), (f2, .inl (cI, 64, .inl ff))]) hP hD hS hA [4, 5] [0, 1, 2, 3] rfl rfl (by decide) (by decide) (my_cV (As := [.long 0]) (rest := []) (ci := 7) (wc := [(xo, .inr (7, [.ref o1, .int (nI k_62)])), (o1, .inl (cJ, 64, .inr (.inl f_63)))]) ⟨hx, hb, hml, hown, hts⟩ (cwV 1 hts gX8_spread_X7_add rfl rfl rfl (by decide +kernel) ⟨Nat.le_of_ble_eq_true rfl, Nat.le_of_ble_eq_true rfl⟩) hN hK hP hD [4, 5] rfl (by decide) rfl 4 rfl rfl rfl rfl hl.1 rfl (Nat.le_of_ble_eq_true rfl) dX8_spread_74 ⟨Nat.le_of_ble_eq_true rfl, Nat.le_of_ble_eq_true rfl⟩  ((k_X7_add l D cI cJ xo o1 k_62 f_63 (0 : Int64) (by first | omega | decide +kernel)) _)) (fun u H locs hp hP hD hS => ?_)
                      obtain ⟨k_66, f_67, rfl, ha_68, hb_69⟩ := hp
                      have hP : va_P D vwCl [(x0, .inr (8, [.ref xn, .int 0, .ref xl, .ref xt, .ref xo, .ref xf, .ref xs, .ref xp, .ref xq, .ref xr, .ref xc])), (xf, .inr (6, [.ref f1, .ref f2, .int 0])), (f1, .inl (cI, 512, .inl (fun _ => (0 : Int32)))), (f2, .inl (cI, 64, .inl ff)), (xo, .inr (7, [.ref o1, .int (nI k_66)])), (o1, .inl (cJ, 64, .inr (.inl f_67)))] H := hP
                      have hD : va_D A [(x0, .inr (8, [.ref xn, .int 0, .ref xl, .ref xt, .ref xo, .ref xf, .ref xs, .ref xp, .ref xq, .ref xr, .ref xc])), (xf, .inr (6, [.ref f1, .ref f2, .int 0])), (f1, .inl (cI, 512, .inl (fun _ => (0 : Int32)))), (f2, .inl (cI, 64, .inl ff)), (xo, .inr (7, [.ref o1, .int (nI k_66)])), (o1, .inl (cJ, 64, .inr (.inl f_67)))] := hD
                      refine lv_iload hx hb dX8_spread_77 (lv_at hl 0 rfl) ?_
                      refine lv_if_le (tgt := 85) hx hb dX8_spread_79 (by decide) (fun c79 => ?_) (fun c79 => ?_)
                      ·
                        refine lv_iinc (v := 3) (lv' := [(5, .int 3), (6, .int 0), (4, .int 0), (0, .ref x0), (1, .int 0), (2, .int 0), (3, .int 4)]) hx hb dX8_spread_85 hl (k := 1) rfl (by decide +kernel) (by decide) rfl (fun ls hl => ?_)
                        refine lv_goto (tgt := 47) hx hb dX8_spread_88 (by decide) ?_
                        refine lv_iload hx hb dX8_spread_47 (lv_at hl 0 rfl) ?_
                        refine lv_iconst (v := 1) hx hb dX8_spread_49 (by decide +kernel) ?_
                        refine lv_iload_n hx hb dX8_spread_50 rfl (lv_at hl 6 rfl) ?_
                        refine lv_ishl hx hb dX8_spread_51 ?_
                        refine my_eqi (y := 16) (by decide +kernel) ?_
                        refine lv_icmp_ge (tgt := 91) hx hb dX8_spread_52 (by decide) (fun c52 => ?_) (fun c52 => ?_)
                        ·
                          exact absurd c52 (by decide +kernel)
                        ·
                          refine lv_aload_n hx hb dX8_spread_55 rfl (lv_at hl 3 rfl) ?_
                          refine va_get (ci := 8) (v := .ref xf) (C := RX8) (T := TX8) (N := 11) hx hb hts hi8 hown hK hP 0 rfl rfl 5 (by decide) fl41 (fun _ h9 => h9) rfl dX8_spread_56 ?_
                          refine lv_iload_n hx hb dX8_spread_59 rfl (lv_at hl 6 rfl) ?_
                          refine lv_iload hx hb dX8_spread_60 (lv_at hl 0 rfl) ?_
                          refine my_gpI (my_pV (As := [.int 4, .int 3]) (rest := []) (ci := 6) ⟨hx, hb, hml, hown, hts⟩ (cwV 2 hts gX8_spread_X6_inNode rfl rfl rfl (by decide +kernel) ⟨Nat.le_of_ble_eq_true rfl, Nat.le_of_ble_eq_true rfl⟩) hN hK hP [1, 2] rfl 1 rfl rfl rfl rfl hl.1 rfl (Nat.le_of_ble_eq_true rfl) dX8_spread_62 ⟨Nat.le_of_ble_eq_true rfl, Nat.le_of_ble_eq_true rfl⟩  (k0_X6_inNode_4 l D cI cJ xf f1 f2 (0 : Int32) (3 : Int32))) (fun r hp => ?_)
                          obtain rfl := hp
                          refine lv_istore (lv' := [(6, .int 0), (5, .int 3), (4, .int 0), (0, .ref x0), (1, .int 0), (2, .int 0), (3, .int 4)]) hx hb dX8_spread_65 hl (by decide) rfl (fun ls hl => ?_)
                          refine lv_aload_n hx hb dX8_spread_67 rfl (lv_at hl 3 rfl) ?_
                          refine va_get (ci := 8) (v := .ref xo) (C := RX8) (T := TX8) (N := 11) hx hb hts hi8 hown hK hP 0 rfl rfl 4 (by decide) fl34 (fun _ h9 => h9) rfl dX8_spread_68 ?_
                          refine lv_iload hx hb dX8_spread_71 (lv_at hl 0 rfl) ?_
                          refine lv_i2l (v := 0) hx hb dX8_spread_73 (by decide +kernel) ?_
                          refine my_goV (wr := [(x0, .inr (8, [.ref xn, .int 0, .ref xl, .ref xt, .ref xo, .ref xf, .ref xs, .ref xp, .ref xq, .ref xr, .ref xc])), (xf, .inr (6, [.ref f1, .ref f2, .int 0])), (f1, .inl (cI, 512, .inl (fun _ => (0 : Int32)))), (f2, .inl (cI, 64, .inl ff))]) hP hD hS hA [4, 5] [0, 1, 2, 3] rfl rfl (by decide) (by decide) (my_cV (As := [.long 0]) (rest := []) (ci := 7) (wc := [(xo, .inr (7, [.ref o1, .int (nI k_66)])), (o1, .inl (cJ, 64, .inr (.inl f_67)))]) ⟨hx, hb, hml, hown, hts⟩ (cwV 1 hts gX8_spread_X7_add rfl rfl rfl (by decide +kernel) ⟨Nat.le_of_ble_eq_true rfl, Nat.le_of_ble_eq_true rfl⟩) hN hK hP hD [4, 5] rfl (by decide) rfl 4 rfl rfl rfl rfl hl.1 rfl (Nat.le_of_ble_eq_true rfl) dX8_spread_74 ⟨Nat.le_of_ble_eq_true rfl, Nat.le_of_ble_eq_true rfl⟩  ((k_X7_add l D cI cJ xo o1 k_66 f_67 (0 : Int64) (by first | omega | decide +kernel)) _)) (fun u H locs hp hP hD hS => ?_)
                          obtain ⟨k_70, f_71, rfl, ha_72, hb_73⟩ := hp
                          have hP : va_P D vwCl [(x0, .inr (8, [.ref xn, .int 0, .ref xl, .ref xt, .ref xo, .ref xf, .ref xs, .ref xp, .ref xq, .ref xr, .ref xc])), (xf, .inr (6, [.ref f1, .ref f2, .int 0])), (f1, .inl (cI, 512, .inl (fun _ => (0 : Int32)))), (f2, .inl (cI, 64, .inl ff)), (xo, .inr (7, [.ref o1, .int (nI k_70)])), (o1, .inl (cJ, 64, .inr (.inl f_71)))] H := hP
                          have hD : va_D A [(x0, .inr (8, [.ref xn, .int 0, .ref xl, .ref xt, .ref xo, .ref xf, .ref xs, .ref xp, .ref xq, .ref xr, .ref xc])), (xf, .inr (6, [.ref f1, .ref f2, .int 0])), (f1, .inl (cI, 512, .inl (fun _ => (0 : Int32)))), (f2, .inl (cI, 64, .inl ff)), (xo, .inr (7, [.ref o1, .int (nI k_70)])), (o1, .inl (cJ, 64, .inr (.inl f_71)))] := hD
                          refine lv_iload hx hb dX8_spread_77 (lv_at hl 0 rfl) ?_
                          refine lv_if_le (tgt := 85) hx hb dX8_spread_79 (by decide) (fun c79 => ?_) (fun c79 => ?_)
                          ·
                            refine lv_iinc (v := 4) (lv' := [(5, .int 4), (6, .int 0), (4, .int 0), (0, .ref x0), (1, .int 0), (2, .int 0), (3, .int 4)]) hx hb dX8_spread_85 hl (k := 1) rfl (by decide +kernel) (by decide) rfl (fun ls hl => ?_)
                            refine lv_goto (tgt := 47) hx hb dX8_spread_88 (by decide) ?_
                            refine lv_iload hx hb dX8_spread_47 (lv_at hl 0 rfl) ?_
                            refine lv_iconst (v := 1) hx hb dX8_spread_49 (by decide +kernel) ?_
                            refine lv_iload_n hx hb dX8_spread_50 rfl (lv_at hl 6 rfl) ?_
                            refine lv_ishl hx hb dX8_spread_51 ?_
                            refine my_eqi (y := 16) (by decide +kernel) ?_
                            refine lv_icmp_ge (tgt := 91) hx hb dX8_spread_52 (by decide) (fun c52 => ?_) (fun c52 => ?_)
                            ·
                              exact absurd c52 (by decide +kernel)
                            ·
                              refine lv_aload_n hx hb dX8_spread_55 rfl (lv_at hl 3 rfl) ?_
                              refine va_get (ci := 8) (v := .ref xf) (C := RX8) (T := TX8) (N := 11) hx hb hts hi8 hown hK hP 0 rfl rfl 5 (by decide) fl41 (fun _ h9 => h9) rfl dX8_spread_56 ?_
                              refine lv_iload_n hx hb dX8_spread_59 rfl (lv_at hl 6 rfl) ?_
                              refine lv_iload hx hb dX8_spread_60 (lv_at hl 0 rfl) ?_
                              refine my_gpI (my_pV (As := [.int 4, .int 4]) (rest := []) (ci := 6) ⟨hx, hb, hml, hown, hts⟩ (cwV 2 hts gX8_spread_X6_inNode rfl rfl rfl (by decide +kernel) ⟨Nat.le_of_ble_eq_true rfl, Nat.le_of_ble_eq_true rfl⟩) hN hK hP [1, 2] rfl 1 rfl rfl rfl rfl hl.1 rfl (Nat.le_of_ble_eq_true rfl) dX8_spread_62 ⟨Nat.le_of_ble_eq_true rfl, Nat.le_of_ble_eq_true rfl⟩  (k0_X6_inNode_4 l D cI cJ xf f1 f2 (0 : Int32) (4 : Int32))) (fun r hp => ?_)
                              obtain rfl := hp
                              refine lv_istore (lv' := [(6, .int 0), (5, .int 4), (4, .int 0), (0, .ref x0), (1, .int 0), (2, .int 0), (3, .int 4)]) hx hb dX8_spread_65 hl (by decide) rfl (fun ls hl => ?_)
                              refine lv_aload_n hx hb dX8_spread_67 rfl (lv_at hl 3 rfl) ?_
                              refine va_get (ci := 8) (v := .ref xo) (C := RX8) (T := TX8) (N := 11) hx hb hts hi8 hown hK hP 0 rfl rfl 4 (by decide) fl34 (fun _ h9 => h9) rfl dX8_spread_68 ?_
                              refine lv_iload hx hb dX8_spread_71 (lv_at hl 0 rfl) ?_
                              refine lv_i2l (v := 0) hx hb dX8_spread_73 (by decide +kernel) ?_
                              refine my_goV (wr := [(x0, .inr (8, [.ref xn, .int 0, .ref xl, .ref xt, .ref xo, .ref xf, .ref xs, .ref xp, .ref xq, .ref xr, .ref xc])), (xf, .inr (6, [.ref f1, .ref f2, .int 0])), (f1, .inl (cI, 512, .inl (fun _ => (0 : Int32)))), (f2, .inl (cI, 64, .inl ff))]) hP hD hS hA [4, 5] [0, 1, 2, 3] rfl rfl (by decide) (by decide) (my_cV (As := [.long 0]) (rest := []) (ci := 7) (wc := [(xo, .inr (7, [.ref o1, .int (nI k_70)])), (o1, .inl (cJ, 64, .inr (.inl f_71)))]) ⟨hx, hb, hml, hown, hts⟩ (cwV 1 hts gX8_spread_X7_add rfl rfl rfl (by decide +kernel) ⟨Nat.le_of_ble_eq_true rfl, Nat.le_of_ble_eq_true rfl⟩) hN hK hP hD [4, 5] rfl (by decide) rfl 4 rfl rfl rfl rfl hl.1 rfl (Nat.le_of_ble_eq_true rfl) dX8_spread_74 ⟨Nat.le_of_ble_eq_true rfl, Nat.le_of_ble_eq_true rfl⟩  ((k_X7_add l D cI cJ xo o1 k_70 f_71 (0 : Int64) (by first | omega | decide +kernel)) _)) (fun u H locs hp hP hD hS => ?_)
                              obtain ⟨k_74, f_75, rfl, ha_76, hb_77⟩ := hp
                              have hP : va_P D vwCl [(x0, .inr (8, [.ref xn, .int 0, .ref xl, .ref xt, .ref xo, .ref xf, .ref xs, .ref xp, .ref xq, .ref xr, .ref xc])), (xf, .inr (6, [.ref f1, .ref f2, .int 0])), (f1, .inl (cI, 512, .inl (fun _ => (0 : Int32)))), (f2, .inl (cI, 64, .inl ff)), (xo, .inr (7, [.ref o1, .int (nI k_74)])), (o1, .inl (cJ, 64, .inr (.inl f_75)))] H := hP
                              have hD : va_D A [(x0, .inr (8, [.ref xn, .int 0, .ref xl, .ref xt, .ref xo, .ref xf, .ref xs, .ref xp, .ref xq, .ref xr, .ref xc])), (xf, .inr (6, [.ref f1, .ref f2, .int 0])), (f1, .inl (cI, 512, .inl (fun _ => (0 : Int32)))), (f2, .inl (cI, 64, .inl ff)), (xo, .inr (7, [.ref o1, .int (nI k_74)])), (o1, .inl (cJ, 64, .inr (.inl f_75)))] := hD
                              refine lv_iload hx hb dX8_spread_77 (lv_at hl 0 rfl) ?_
                              refine lv_if_le (tgt := 85) hx hb dX8_spread_79 (by decide) (fun c79 => ?_) (fun c79 => ?_)
                              ·
                                refine lv_iinc (v := 5) (lv' := [(5, .int 5), (6, .int 0), (4, .int 0), (0, .ref x0), (1, .int 0), (2, .int 0), (3, .int 4)]) hx hb dX8_spread_85 hl (k := 1) rfl (by decide +kernel) (by decide) rfl (fun ls hl => ?_)
                                refine lv_goto (tgt := 47) hx hb dX8_spread_88 (by decide) ?_
                                refine lv_iload hx hb dX8_spread_47 (lv_at hl 0 rfl) ?_
                                refine lv_iconst (v := 1) hx hb dX8_spread_49 (by decide +kernel) ?_
                                refine lv_iload_n hx hb dX8_spread_50 rfl (lv_at hl 6 rfl) ?_
                                refine lv_ishl hx hb dX8_spread_51 ?_
                                refine my_eqi (y := 16) (by decide +kernel) ?_
                                refine lv_icmp_ge (tgt := 91) hx hb dX8_spread_52 (by decide) (fun c52 => ?_) (fun c52 => ?_)
                                ·
                                  exact absurd c52 (by decide +kernel)
                                ·
                                  refine lv_aload_n hx hb dX8_spread_55 rfl (lv_at hl 3 rfl) ?_
                                  refine va_get (ci := 8) (v := .ref xf) (C := RX8) (T := TX8) (N := 11) hx hb hts hi8 hown hK hP 0 rfl rfl 5 (by decide) fl41 (fun _ h9 => h9) rfl dX8_spread_56 ?_
                                  refine lv_iload_n hx hb dX8_spread_59 rfl (lv_at hl 6 rfl) ?_
                                  refine lv_iload hx hb dX8_spread_60 (lv_at hl 0 rfl) ?_
                                  refine my_gpI (my_pV (As := [.int 4, .int 5]) (rest := []) (ci := 6) ⟨hx, hb, hml, hown, hts⟩ (cwV 2 hts gX8_spread_X6_inNode rfl rfl rfl (by decide +kernel) ⟨Nat.le_of_ble_eq_true rfl, Nat.le_of_ble_eq_true rfl⟩) hN hK hP [1, 2] rfl 1 rfl rfl rfl rfl hl.1 rfl (Nat.le_of_ble_eq_true rfl) dX8_spread_62 ⟨Nat.le_of_ble_eq_true rfl, Nat.le_of_ble_eq_true rfl⟩  (k0_X6_inNode_4 l D cI cJ xf f1 f2 (0 : Int32) (5 : Int32))) (fun r hp => ?_)
                                  obtain rfl := hp
                                  refine lv_istore (lv' := [(6, .int 0), (5, .int 5), (4, .int 0), (0, .ref x0), (1, .int 0), (2, .int 0), (3, .int 4)]) hx hb dX8_spread_65 hl (by decide) rfl (fun ls hl => ?_)
                                  refine lv_aload_n hx hb dX8_spread_67 rfl (lv_at hl 3 rfl) ?_
                                  refine va_get (ci := 8) (v := .ref xo) (C := RX8) (T := TX8) (N := 11) hx hb hts hi8 hown hK hP 0 rfl rfl 4 (by decide) fl34 (fun _ h9 => h9) rfl dX8_spread_68 ?_
                                  refine lv_iload hx hb dX8_spread_71 (lv_at hl 0 rfl) ?_
                                  refine lv_i2l (v := 0) hx hb dX8_spread_73 (by decide +kernel) ?_
                                  refine my_goV (wr := [(x0, .inr (8, [.ref xn, .int 0, .ref xl, .ref xt, .ref xo, .ref xf, .ref xs, .ref xp, .ref xq, .ref xr, .ref xc])), (xf, .inr (6, [.ref f1, .ref f2, .int 0])), (f1, .inl (cI, 512, .inl (fun _ => (0 : Int32)))), (f2, .inl (cI, 64, .inl ff))]) hP hD hS hA [4, 5] [0, 1, 2, 3] rfl rfl (by decide) (by decide) (my_cV (As := [.long 0]) (rest := []) (ci := 7) (wc := [(xo, .inr (7, [.ref o1, .int (nI k_74)])), (o1, .inl (cJ, 64, .inr (.inl f_75)))]) ⟨hx, hb, hml, hown, hts⟩ (cwV 1 hts gX8_spread_X7_add rfl rfl rfl (by decide +kernel) ⟨Nat.le_of_ble_eq_true rfl, Nat.le_of_ble_eq_true rfl⟩) hN hK hP hD [4, 5] rfl (by decide) rfl 4 rfl rfl rfl rfl hl.1 rfl (Nat.le_of_ble_eq_true rfl) dX8_spread_74 ⟨Nat.le_of_ble_eq_true rfl, Nat.le_of_ble_eq_true rfl⟩  ((k_X7_add l D cI cJ xo o1 k_74 f_75 (0 : Int64) (by first | omega | decide +kernel)) _)) (fun u H locs hp hP hD hS => ?_)
                                  obtain ⟨k_78, f_79, rfl, ha_80, hb_81⟩ := hp
                                  have hP : va_P D vwCl [(x0, .inr (8, [.ref xn, .int 0, .ref xl, .ref xt, .ref xo, .ref xf, .ref xs, .ref xp, .ref xq, .ref xr, .ref xc])), (xf, .inr (6, [.ref f1, .ref f2, .int 0])), (f1, .inl (cI, 512, .inl (fun _ => (0 : Int32)))), (f2, .inl (cI, 64, .inl ff)), (xo, .inr (7, [.ref o1, .int (nI k_78)])), (o1, .inl (cJ, 64, .inr (.inl f_79)))] H := hP
                                  have hD : va_D A [(x0, .inr (8, [.ref xn, .int 0, .ref xl, .ref xt, .ref xo, .ref xf, .ref xs, .ref xp, .ref xq, .ref xr, .ref xc])), (xf, .inr (6, [.ref f1, .ref f2, .int 0])), (f1, .inl (cI, 512, .inl (fun _ => (0 : Int32)))), (f2, .inl (cI, 64, .inl ff)), (xo, .inr (7, [.ref o1, .int (nI k_78)])), (o1, .inl (cJ, 64, .inr (.inl f_79)))] := hD
                                  refine lv_iload hx hb dX8_spread_77 (lv_at hl 0 rfl) ?_
                                  refine lv_if_le (tgt := 85) hx hb dX8_spread_79 (by decide) (fun c79 => ?_) (fun c79 => ?_)
                                  ·
                                    refine lv_iinc (v := 6) (lv' := [(5, .int 6), (6, .int 0), (4, .int 0), (0, .ref x0), (1, .int 0), (2, .int 0), (3, .int 4)]) hx hb dX8_spread_85 hl (k := 1) rfl (by decide +kernel) (by decide) rfl (fun ls hl => ?_)
                                    refine lv_goto (tgt := 47) hx hb dX8_spread_88 (by decide) ?_
                                    refine lv_iload hx hb dX8_spread_47 (lv_at hl 0 rfl) ?_
                                    refine lv_iconst (v := 1) hx hb dX8_spread_49 (by decide +kernel) ?_
                                    refine lv_iload_n hx hb dX8_spread_50 rfl (lv_at hl 6 rfl) ?_
                                    refine lv_ishl hx hb dX8_spread_51 ?_
                                    refine my_eqi (y := 16) (by decide +kernel) ?_
                                    refine lv_icmp_ge (tgt := 91) hx hb dX8_spread_52 (by decide) (fun c52 => ?_) (fun c52 => ?_)
                                    ·
                                      exact absurd c52 (by decide +kernel)
                                    ·
                                      refine lv_aload_n hx hb dX8_spread_55 rfl (lv_at hl 3 rfl) ?_
                                      refine va_get (ci := 8) (v := .ref xf) (C := RX8) (T := TX8) (N := 11) hx hb hts hi8 hown hK hP 0 rfl rfl 5 (by decide) fl41 (fun _ h9 => h9) rfl dX8_spread_56 ?_
                                      refine lv_iload_n hx hb dX8_spread_59 rfl (lv_at hl 6 rfl) ?_
                                      refine lv_iload hx hb dX8_spread_60 (lv_at hl 0 rfl) ?_
                                      refine my_gpI (my_pV (As := [.int 4, .int 6]) (rest := []) (ci := 6) ⟨hx, hb, hml, hown, hts⟩ (cwV 2 hts gX8_spread_X6_inNode rfl rfl rfl (by decide +kernel) ⟨Nat.le_of_ble_eq_true rfl, Nat.le_of_ble_eq_true rfl⟩) hN hK hP [1, 2] rfl 1 rfl rfl rfl rfl hl.1 rfl (Nat.le_of_ble_eq_true rfl) dX8_spread_62 ⟨Nat.le_of_ble_eq_true rfl, Nat.le_of_ble_eq_true rfl⟩  (k0_X6_inNode_4 l D cI cJ xf f1 f2 (0 : Int32) (6 : Int32))) (fun r hp => ?_)
                                      obtain rfl := hp
                                      refine lv_istore (lv' := [(6, .int 0), (5, .int 6), (4, .int 0), (0, .ref x0), (1, .int 0), (2, .int 0), (3, .int 4)]) hx hb dX8_spread_65 hl (by decide) rfl (fun ls hl => ?_)
                                      refine lv_aload_n hx hb dX8_spread_67 rfl (lv_at hl 3 rfl) ?_
                                      refine va_get (ci := 8) (v := .ref xo) (C := RX8) (T := TX8) (N := 11) hx hb hts hi8 hown hK hP 0 rfl rfl 4 (by decide) fl34 (fun _ h9 => h9) rfl dX8_spread_68 ?_
                                      refine lv_iload hx hb dX8_spread_71 (lv_at hl 0 rfl) ?_
                                      refine lv_i2l (v := 0) hx hb dX8_spread_73 (by decide +kernel) ?_
                                      refine my_goV (wr := [(x0, .inr (8, [.ref xn, .int 0, .ref xl, .ref xt, .ref xo, .ref xf, .ref xs, .ref xp, .ref xq, .ref xr, .ref xc])), (xf, .inr (6, [.ref f1, .ref f2, .int 0])), (f1, .inl (cI, 512, .inl (fun _ => (0 : Int32)))), (f2, .inl (cI, 64, .inl ff))]) hP hD hS hA [4, 5] [0, 1, 2, 3] rfl rfl (by decide) (by decide) (my_cV (As := [.long 0]) (rest := []) (ci := 7) (wc := [(xo, .inr (7, [.ref o1, .int (nI k_78)])), (o1, .inl (cJ, 64, .inr (.inl f_79)))]) ⟨hx, hb, hml, hown, hts⟩ (cwV 1 hts gX8_spread_X7_add rfl rfl rfl (by decide +kernel) ⟨Nat.le_of_ble_eq_true rfl, Nat.le_of_ble_eq_true rfl⟩) hN hK hP hD [4, 5] rfl (by decide) rfl 4 rfl rfl rfl rfl hl.1 rfl (Nat.le_of_ble_eq_true rfl) dX8_spread_74 ⟨Nat.le_of_ble_eq_true rfl, Nat.le_of_ble_eq_true rfl⟩  ((k_X7_add l D cI cJ xo o1 k_78 f_79 (0 : Int64) (by first | omega | decide +kernel)) _)) (fun u H locs hp hP hD hS => ?_)
                                      obtain ⟨k_82, f_83, rfl, ha_84, hb_85⟩ := hp
                                      have hP : va_P D vwCl [(x0, .inr (8, [.ref xn, .int 0, .ref xl, .ref xt, .ref xo, .ref xf, .ref xs, .ref xp, .ref xq, .ref xr, .ref xc])), (xf, .inr (6, [.ref f1, .ref f2, .int 0])), (f1, .inl (cI, 512, .inl (fun _ => (0 : Int32)))), (f2, .inl (cI, 64, .inl ff)), (xo, .inr (7, [.ref o1, .int (nI k_82)])), (o1, .inl (cJ, 64, .inr (.inl f_83)))] H := hP
                                      have hD : va_D A [(x0, .inr (8, [.ref xn, .int 0, .ref xl, .ref xt, .ref xo, .ref xf, .ref xs, .ref xp, .ref xq, .ref xr, .ref xc])), (xf, .inr (6, [.ref f1, .ref f2, .int 0])), (f1, .inl (cI, 512, .inl (fun _ => (0 : Int32)))), (f2, .inl (cI, 64, .inl ff)), (xo, .inr (7, [.ref o1, .int (nI k_82)])), (o1, .inl (cJ, 64, .inr (.inl f_83)))] := hD
                                      refine lv_iload hx hb dX8_spread_77 (lv_at hl 0 rfl) ?_
                                      refine lv_if_le (tgt := 85) hx hb dX8_spread_79 (by decide) (fun c79 => ?_) (fun c79 => ?_)
                                      ·
                                        refine lv_iinc (v := 7) (lv' := [(5, .int 7), (6, .int 0), (4, .int 0), (0, .ref x0), (1, .int 0), (2, .int 0), (3, .int 4)]) hx hb dX8_spread_85 hl (k := 1) rfl (by decide +kernel) (by decide) rfl (fun ls hl => ?_)
                                        refine lv_goto (tgt := 47) hx hb dX8_spread_88 (by decide) ?_
                                        refine lv_iload hx hb dX8_spread_47 (lv_at hl 0 rfl) ?_
                                        refine lv_iconst (v := 1) hx hb dX8_spread_49 (by decide +kernel) ?_
                                        refine lv_iload_n hx hb dX8_spread_50 rfl (lv_at hl 6 rfl) ?_
                                        refine lv_ishl hx hb dX8_spread_51 ?_
                                        refine my_eqi (y := 16) (by decide +kernel) ?_
                                        refine lv_icmp_ge (tgt := 91) hx hb dX8_spread_52 (by decide) (fun c52 => ?_) (fun c52 => ?_)
                                        ·
                                          exact absurd c52 (by decide +kernel)
                                        ·
                                          refine lv_aload_n hx hb dX8_spread_55 rfl (lv_at hl 3 rfl) ?_
                                          refine va_get (ci := 8) (v := .ref xf) (C := RX8) (T := TX8) (N := 11) hx hb hts hi8 hown hK hP 0 rfl rfl 5 (by decide) fl41 (fun _ h9 => h9) rfl dX8_spread_56 ?_
                                          refine lv_iload_n hx hb dX8_spread_59 rfl (lv_at hl 6 rfl) ?_
                                          refine lv_iload hx hb dX8_spread_60 (lv_at hl 0 rfl) ?_
                                          refine my_gpI (my_pV (As := [.int 4, .int 7]) (rest := []) (ci := 6) ⟨hx, hb, hml, hown, hts⟩ (cwV 2 hts gX8_spread_X6_inNode rfl rfl rfl (by decide +kernel) ⟨Nat.le_of_ble_eq_true rfl, Nat.le_of_ble_eq_true rfl⟩) hN hK hP [1, 2] rfl 1 rfl rfl rfl rfl hl.1 rfl (Nat.le_of_ble_eq_true rfl) dX8_spread_62 ⟨Nat.le_of_ble_eq_true rfl, Nat.le_of_ble_eq_true rfl⟩  (k0_X6_inNode_4 l D cI cJ xf f1 f2 (0 : Int32) (7 : Int32))) (fun r hp => ?_)
                                          obtain rfl := hp
                                          refine lv_istore (lv' := [(6, .int 0), (5, .int 7), (4, .int 0), (0, .ref x0), (1, .int 0), (2, .int 0), (3, .int 4)]) hx hb dX8_spread_65 hl (by decide) rfl (fun ls hl => ?_)
                                          refine lv_aload_n hx hb dX8_spread_67 rfl (lv_at hl 3 rfl) ?_
                                          refine va_get (ci := 8) (v := .ref xo) (C := RX8) (T := TX8) (N := 11) hx hb hts hi8 hown hK hP 0 rfl rfl 4 (by decide) fl34 (fun _ h9 => h9) rfl dX8_spread_68 ?_
                                          refine lv_iload hx hb dX8_spread_71 (lv_at hl 0 rfl) ?_
                                          refine lv_i2l (v := 0) hx hb dX8_spread_73 (by decide +kernel) ?_
                                          refine my_goV (wr := [(x0, .inr (8, [.ref xn, .int 0, .ref xl, .ref xt, .ref xo, .ref xf, .ref xs, .ref xp, .ref xq, .ref xr, .ref xc])), (xf, .inr (6, [.ref f1, .ref f2, .int 0])), (f1, .inl (cI, 512, .inl (fun _ => (0 : Int32)))), (f2, .inl (cI, 64, .inl ff))]) hP hD hS hA [4, 5] [0, 1, 2, 3] rfl rfl (by decide) (by decide) (my_cV (As := [.long 0]) (rest := []) (ci := 7) (wc := [(xo, .inr (7, [.ref o1, .int (nI k_82)])), (o1, .inl (cJ, 64, .inr (.inl f_83)))]) ⟨hx, hb, hml, hown, hts⟩ (cwV 1 hts gX8_spread_X7_add rfl rfl rfl (by decide +kernel) ⟨Nat.le_of_ble_eq_true rfl, Nat.le_of_ble_eq_true rfl⟩) hN hK hP hD [4, 5] rfl (by decide) rfl 4 rfl rfl rfl rfl hl.1 rfl (Nat.le_of_ble_eq_true rfl) dX8_spread_74 ⟨Nat.le_of_ble_eq_true rfl, Nat.le_of_ble_eq_true rfl⟩  ((k_X7_add l D cI cJ xo o1 k_82 f_83 (0 : Int64) (by first | omega | decide +kernel)) _)) (fun u H locs hp hP hD hS => ?_)
                                          obtain ⟨k_86, f_87, rfl, ha_88, hb_89⟩ := hp
                                          have hP : va_P D vwCl [(x0, .inr (8, [.ref xn, .int 0, .ref xl, .ref xt, .ref xo, .ref xf, .ref xs, .ref xp, .ref xq, .ref xr, .ref xc])), (xf, .inr (6, [.ref f1, .ref f2, .int 0])), (f1, .inl (cI, 512, .inl (fun _ => (0 : Int32)))), (f2, .inl (cI, 64, .inl ff)), (xo, .inr (7, [.ref o1, .int (nI k_86)])), (o1, .inl (cJ, 64, .inr (.inl f_87)))] H := hP
                                          have hD : va_D A [(x0, .inr (8, [.ref xn, .int 0, .ref xl, .ref xt, .ref xo, .ref xf, .ref xs, .ref xp, .ref xq, .ref xr, .ref xc])), (xf, .inr (6, [.ref f1, .ref f2, .int 0])), (f1, .inl (cI, 512, .inl (fun _ => (0 : Int32)))), (f2, .inl (cI, 64, .inl ff)), (xo, .inr (7, [.ref o1, .int (nI k_86)])), (o1, .inl (cJ, 64, .inr (.inl f_87)))] := hD
                                          refine lv_iload hx hb dX8_spread_77 (lv_at hl 0 rfl) ?_
                                          refine lv_if_le (tgt := 85) hx hb dX8_spread_79 (by decide) (fun c79 => ?_) (fun c79 => ?_)
                                          ·
                                            refine lv_iinc (v := 8) (lv' := [(5, .int 8), (6, .int 0), (4, .int 0), (0, .ref x0), (1, .int 0), (2, .int 0), (3, .int 4)]) hx hb dX8_spread_85 hl (k := 1) rfl (by decide +kernel) (by decide) rfl (fun ls hl => ?_)
                                            refine lv_goto (tgt := 47) hx hb dX8_spread_88 (by decide) ?_
                                            refine lv_iload hx hb dX8_spread_47 (lv_at hl 0 rfl) ?_
                                            refine lv_iconst (v := 1) hx hb dX8_spread_49 (by decide +kernel) ?_
                                            refine lv_iload_n hx hb dX8_spread_50 rfl (lv_at hl 6 rfl) ?_
                                            refine lv_ishl hx hb dX8_spread_51 ?_
                                            refine my_eqi (y := 16) (by decide +kernel) ?_
                                            refine lv_icmp_ge (tgt := 91) hx hb dX8_spread_52 (by decide) (fun c52 => ?_) (fun c52 => ?_)
                                            ·
                                              exact absurd c52 (by decide +kernel)
                                            ·
                                              refine lv_aload_n hx hb dX8_spread_55 rfl (lv_at hl 3 rfl) ?_
                                              refine va_get (ci := 8) (v := .ref xf) (C := RX8) (T := TX8) (N := 11) hx hb hts hi8 hown hK hP 0 rfl rfl 5 (by decide) fl41 (fun _ h9 => h9) rfl dX8_spread_56 ?_
                                              refine lv_iload_n hx hb dX8_spread_59 rfl (lv_at hl 6 rfl) ?_
                                              refine lv_iload hx hb dX8_spread_60 (lv_at hl 0 rfl) ?_
                                              refine my_gpI (my_pV (As := [.int 4, .int 8]) (rest := []) (ci := 6) ⟨hx, hb, hml, hown, hts⟩ (cwV 2 hts gX8_spread_X6_inNode rfl rfl rfl (by decide +kernel) ⟨Nat.le_of_ble_eq_true rfl, Nat.le_of_ble_eq_true rfl⟩) hN hK hP [1, 2] rfl 1 rfl rfl rfl rfl hl.1 rfl (Nat.le_of_ble_eq_true rfl) dX8_spread_62 ⟨Nat.le_of_ble_eq_true rfl, Nat.le_of_ble_eq_true rfl⟩  (k0_X6_inNode_4 l D cI cJ xf f1 f2 (0 : Int32) (8 : Int32))) (fun r hp => ?_)
                                              obtain rfl := hp
                                              refine lv_istore (lv' := [(6, .int 0), (5, .int 8), (4, .int 0), (0, .ref x0), (1, .int 0), (2, .int 0), (3, .int 4)]) hx hb dX8_spread_65 hl (by decide) rfl (fun ls hl => ?_)
                                              refine lv_aload_n hx hb dX8_spread_67 rfl (lv_at hl 3 rfl) ?_
                                              refine va_get (ci := 8) (v := .ref xo) (C := RX8) (T := TX8) (N := 11) hx hb hts hi8 hown hK hP 0 rfl rfl 4 (by decide) fl34 (fun _ h9 => h9) rfl dX8_spread_68 ?_
                                              refine lv_iload hx hb dX8_spread_71 (lv_at hl 0 rfl) ?_
                                              refine lv_i2l (v := 0) hx hb dX8_spread_73 (by decide +kernel) ?_
                                              refine my_goV (wr := [(x0, .inr (8, [.ref xn, .int 0, .ref xl, .ref xt, .ref xo, .ref xf, .ref xs, .ref xp, .ref xq, .ref xr, .ref xc])), (xf, .inr (6, [.ref f1, .ref f2, .int 0])), (f1, .inl (cI, 512, .inl (fun _ => (0 : Int32)))), (f2, .inl (cI, 64, .inl ff))]) hP hD hS hA [4, 5] [0, 1, 2, 3] rfl rfl (by decide) (by decide) (my_cV (As := [.long 0]) (rest := []) (ci := 7) (wc := [(xo, .inr (7, [.ref o1, .int (nI k_86)])), (o1, .inl (cJ, 64, .inr (.inl f_87)))]) ⟨hx, hb, hml, hown, hts⟩ (cwV 1 hts gX8_spread_X7_add rfl rfl rfl (by decide +kernel) ⟨Nat.le_of_ble_eq_true rfl, Nat.le_of_ble_eq_true rfl⟩) hN hK hP hD [4, 5] rfl (by decide) rfl 4 rfl rfl rfl rfl hl.1 rfl (Nat.le_of_ble_eq_true rfl) dX8_spread_74 ⟨Nat.le_of_ble_eq_true rfl, Nat.le_of_ble_eq_true rfl⟩  ((k_X7_add l D cI cJ xo o1 k_86 f_87 (0 : Int64) (by first | omega | decide +kernel)) _)) (fun u H locs hp hP hD hS => ?_)
                                              obtain ⟨k_90, f_91, rfl, ha_92, hb_93⟩ := hp
                                              have hP : va_P D vwCl [(x0, .inr (8, [.ref xn, .int 0, .ref xl, .ref xt, .ref xo, .ref xf, .ref xs, .ref xp, .ref xq, .ref xr, .ref xc])), (xf, .inr (6, [.ref f1, .ref f2, .int 0])), (f1, .inl (cI, 512, .inl (fun _ => (0 : Int32)))), (f2, .inl (cI, 64, .inl ff)), (xo, .inr (7, [.ref o1, .int (nI k_90)])), (o1, .inl (cJ, 64, .inr (.inl f_91)))] H := hP
                                              have hD : va_D A [(x0, .inr (8, [.ref xn, .int 0, .ref xl, .ref xt, .ref xo, .ref xf, .ref xs, .ref xp, .ref xq, .ref xr, .ref xc])), (xf, .inr (6, [.ref f1, .ref f2, .int 0])), (f1, .inl (cI, 512, .inl (fun _ => (0 : Int32)))), (f2, .inl (cI, 64, .inl ff)), (xo, .inr (7, [.ref o1, .int (nI k_90)])), (o1, .inl (cJ, 64, .inr (.inl f_91)))] := hD
                                              refine lv_iload hx hb dX8_spread_77 (lv_at hl 0 rfl) ?_
                                              refine lv_if_le (tgt := 85) hx hb dX8_spread_79 (by decide) (fun c79 => ?_) (fun c79 => ?_)
                                              ·
                                                refine lv_iinc (v := 9) (lv' := [(5, .int 9), (6, .int 0), (4, .int 0), (0, .ref x0), (1, .int 0), (2, .int 0), (3, .int 4)]) hx hb dX8_spread_85 hl (k := 1) rfl (by decide +kernel) (by decide) rfl (fun ls hl => ?_)
                                                refine lv_goto (tgt := 47) hx hb dX8_spread_88 (by decide) ?_
                                                refine lv_iload hx hb dX8_spread_47 (lv_at hl 0 rfl) ?_
                                                refine lv_iconst (v := 1) hx hb dX8_spread_49 (by decide +kernel) ?_
                                                refine lv_iload_n hx hb dX8_spread_50 rfl (lv_at hl 6 rfl) ?_
                                                refine lv_ishl hx hb dX8_spread_51 ?_
                                                refine my_eqi (y := 16) (by decide +kernel) ?_
                                                refine lv_icmp_ge (tgt := 91) hx hb dX8_spread_52 (by decide) (fun c52 => ?_) (fun c52 => ?_)
                                                ·
                                                  exact absurd c52 (by decide +kernel)
                                                ·
                                                  refine lv_aload_n hx hb dX8_spread_55 rfl (lv_at hl 3 rfl) ?_
                                                  refine va_get (ci := 8) (v := .ref xf) (C := RX8) (T := TX8) (N := 11) hx hb hts hi8 hown hK hP 0 rfl rfl 5 (by decide) fl41 (fun _ h9 => h9) rfl dX8_spread_56 ?_
                                                  refine lv_iload_n hx hb dX8_spread_59 rfl (lv_at hl 6 rfl) ?_
                                                  refine lv_iload hx hb dX8_spread_60 (lv_at hl 0 rfl) ?_
                                                  refine my_gpI (my_pV (As := [.int 4, .int 9]) (rest := []) (ci := 6) ⟨hx, hb, hml, hown, hts⟩ (cwV 2 hts gX8_spread_X6_inNode rfl rfl rfl (by decide +kernel) ⟨Nat.le_of_ble_eq_true rfl, Nat.le_of_ble_eq_true rfl⟩) hN hK hP [1, 2] rfl 1 rfl rfl rfl rfl hl.1 rfl (Nat.le_of_ble_eq_true rfl) dX8_spread_62 ⟨Nat.le_of_ble_eq_true rfl, Nat.le_of_ble_eq_true rfl⟩  (k0_X6_inNode_4 l D cI cJ xf f1 f2 (0 : Int32) (9 : Int32))) (fun r hp => ?_)
                                                  obtain rfl := hp
                                                  refine lv_istore (lv' := [(6, .int 0), (5, .int 9), (4, .int 0), (0, .ref x0), (1, .int 0), (2, .int 0), (3, .int 4)]) hx hb dX8_spread_65 hl (by decide) rfl (fun ls hl => ?_)
                                                  refine lv_aload_n hx hb dX8_spread_67 rfl (lv_at hl 3 rfl) ?_
                                                  refine va_get (ci := 8) (v := .ref xo) (C := RX8) (T := TX8) (N := 11) hx hb hts hi8 hown hK hP 0 rfl rfl 4 (by decide) fl34 (fun _ h9 => h9) rfl dX8_spread_68 ?_
                                                  refine lv_iload hx hb dX8_spread_71 (lv_at hl 0 rfl) ?_
                                                  refine lv_i2l (v := 0) hx hb dX8_spread_73 (by decide +kernel) ?_
                                                  refine my_goV (wr := [(x0, .inr (8, [.ref xn, .int 0, .ref xl, .ref xt, .ref xo, .ref xf, .ref xs, .ref xp, .ref xq, .ref xr, .ref xc])), (xf, .inr (6, [.ref f1, .ref f2, .int 0])), (f1, .inl (cI, 512, .inl (fun _ => (0 : Int32)))), (f2, .inl (cI, 64, .inl ff))]) hP hD hS hA [4, 5] [0, 1, 2, 3] rfl rfl (by decide) (by decide) (my_cV (As := [.long 0]) (rest := []) (ci := 7) (wc := [(xo, .inr (7, [.ref o1, .int (nI k_90)])), (o1, .inl (cJ, 64, .inr (.inl f_91)))]) ⟨hx, hb, hml, hown, hts⟩ (cwV 1 hts gX8_spread_X7_add rfl rfl rfl (by decide +kernel) ⟨Nat.le_of_ble_eq_true rfl, Nat.le_of_ble_eq_true rfl⟩) hN hK hP hD [4, 5] rfl (by decide) rfl 4 rfl rfl rfl rfl hl.1 rfl (Nat.le_of_ble_eq_true rfl) dX8_spread_74 ⟨Nat.le_of_ble_eq_true rfl, Nat.le_of_ble_eq_true rfl⟩  ((k_X7_add l D cI cJ xo o1 k_90 f_91 (0 : Int64) (by first | omega | decide +kernel)) _)) (fun u H locs hp hP hD hS => ?_)
                                                  obtain ⟨k_94, f_95, rfl, ha_96, hb_97⟩ := hp
                                                  have hP : va_P D vwCl [(x0, .inr (8, [.ref xn, .int 0, .ref xl, .ref xt, .ref xo, .ref xf, .ref xs, .ref xp, .ref xq, .ref xr, .ref xc])), (xf, .inr (6, [.ref f1, .ref f2, .int 0])), (f1, .inl (cI, 512, .inl (fun _ => (0 : Int32)))), (f2, .inl (cI, 64, .inl ff)), (xo, .inr (7, [.ref o1, .int (nI k_94)])), (o1, .inl (cJ, 64, .inr (.inl f_95)))] H := hP
                                                  have hD : va_D A [(x0, .inr (8, [.ref xn, .int 0, .ref xl, .ref xt, .ref xo, .ref xf, .ref xs, .ref xp, .ref xq, .ref xr, .ref xc])), (xf, .inr (6, [.ref f1, .ref f2, .int 0])), (f1, .inl (cI, 512, .inl (fun _ => (0 : Int32)))), (f2, .inl (cI, 64, .inl ff)), (xo, .inr (7, [.ref o1, .int (nI k_94)])), (o1, .inl (cJ, 64, .inr (.inl f_95)))] := hD
                                                  refine lv_iload hx hb dX8_spread_77 (lv_at hl 0 rfl) ?_
                                                  refine lv_if_le (tgt := 85) hx hb dX8_spread_79 (by decide) (fun c79 => ?_) (fun c79 => ?_)
                                                  ·
                                                    refine lv_iinc (v := 10) (lv' := [(5, .int 10), (6, .int 0), (4, .int 0), (0, .ref x0), (1, .int 0), (2, .int 0), (3, .int 4)]) hx hb dX8_spread_85 hl (k := 1) rfl (by decide +kernel) (by decide) rfl (fun ls hl => ?_)
                                                    refine lv_goto (tgt := 47) hx hb dX8_spread_88 (by decide) ?_
                                                    refine lv_iload hx hb dX8_spread_47 (lv_at hl 0 rfl) ?_
                                                    refine lv_iconst (v := 1) hx hb dX8_spread_49 (by decide +kernel) ?_
                                                    refine lv_iload_n hx hb dX8_spread_50 rfl (lv_at hl 6 rfl) ?_
                                                    refine lv_ishl hx hb dX8_spread_51 ?_
                                                    refine my_eqi (y := 16) (by decide +kernel) ?_
                                                    refine lv_icmp_ge (tgt := 91) hx hb dX8_spread_52 (by decide) (fun c52 => ?_) (fun c52 => ?_)
                                                    ·
                                                      exact absurd c52 (by decide +kernel)
                                                    ·
                                                      refine lv_aload_n hx hb dX8_spread_55 rfl (lv_at hl 3 rfl) ?_
                                                      refine va_get (ci := 8) (v := .ref xf) (C := RX8) (T := TX8) (N := 11) hx hb hts hi8 hown hK hP 0 rfl rfl 5 (by decide) fl41 (fun _ h9 => h9) rfl dX8_spread_56 ?_
                                                      refine lv_iload_n hx hb dX8_spread_59 rfl (lv_at hl 6 rfl) ?_
                                                      refine lv_iload hx hb dX8_spread_60 (lv_at hl 0 rfl) ?_
                                                      refine my_gpI (my_pV (As := [.int 4, .int 10]) (rest := []) (ci := 6) ⟨hx, hb, hml, hown, hts⟩ (cwV 2 hts gX8_spread_X6_inNode rfl rfl rfl (by decide +kernel) ⟨Nat.le_of_ble_eq_true rfl, Nat.le_of_ble_eq_true rfl⟩) hN hK hP [1, 2] rfl 1 rfl rfl rfl rfl hl.1 rfl (Nat.le_of_ble_eq_true rfl) dX8_spread_62 ⟨Nat.le_of_ble_eq_true rfl, Nat.le_of_ble_eq_true rfl⟩  (k0_X6_inNode_4 l D cI cJ xf f1 f2 (0 : Int32) (10 : Int32))) (fun r hp => ?_)
                                                      obtain rfl := hp
                                                      refine lv_istore (lv' := [(6, .int 0), (5, .int 10), (4, .int 0), (0, .ref x0), (1, .int 0), (2, .int 0), (3, .int 4)]) hx hb dX8_spread_65 hl (by decide) rfl (fun ls hl => ?_)
                                                      refine lv_aload_n hx hb dX8_spread_67 rfl (lv_at hl 3 rfl) ?_
                                                      refine va_get (ci := 8) (v := .ref xo) (C := RX8) (T := TX8) (N := 11) hx hb hts hi8 hown hK hP 0 rfl rfl 4 (by decide) fl34 (fun _ h9 => h9) rfl dX8_spread_68 ?_
                                                      refine lv_iload hx hb dX8_spread_71 (lv_at hl 0 rfl) ?_
                                                      refine lv_i2l (v := 0) hx hb dX8_spread_73 (by decide +kernel) ?_
                                                      refine my_goV (wr := [(x0, .inr (8, [.ref xn, .int 0, .ref xl, .ref xt, .ref xo, .ref xf, .ref xs, .ref xp, .ref xq, .ref xr, .ref xc])), (xf, .inr (6, [.ref f1, .ref f2, .int 0])), (f1, .inl (cI, 512, .inl (fun _ => (0 : Int32)))), (f2, .inl (cI, 64, .inl ff))]) hP hD hS hA [4, 5] [0, 1, 2, 3] rfl rfl (by decide) (by decide) (my_cV (As := [.long 0]) (rest := []) (ci := 7) (wc := [(xo, .inr (7, [.ref o1, .int (nI k_94)])), (o1, .inl (cJ, 64, .inr (.inl f_95)))]) ⟨hx, hb, hml, hown, hts⟩ (cwV 1 hts gX8_spread_X7_add rfl rfl rfl (by decide +kernel) ⟨Nat.le_of_ble_eq_true rfl, Nat.le_of_ble_eq_true rfl⟩) hN hK hP hD [4, 5] rfl (by decide) rfl 4 rfl rfl rfl rfl hl.1 rfl (Nat.le_of_ble_eq_true rfl) dX8_spread_74 ⟨Nat.le_of_ble_eq_true rfl, Nat.le_of_ble_eq_true rfl⟩  ((k_X7_add l D cI cJ xo o1 k_94 f_95 (0 : Int64) (by first | omega | decide +kernel)) _)) (fun u H locs hp hP hD hS => ?_)
                                                      obtain ⟨k_98, f_99, rfl, ha_100, hb_101⟩ := hp
                                                      have hP : va_P D vwCl [(x0, .inr (8, [.ref xn, .int 0, .ref xl, .ref xt, .ref xo, .ref xf, .ref xs, .ref xp, .ref xq, .ref xr, .ref xc])), (xf, .inr (6, [.ref f1, .ref f2, .int 0])), (f1, .inl (cI, 512, .inl (fun _ => (0 : Int32)))), (f2, .inl (cI, 64, .inl ff)), (xo, .inr (7, [.ref o1, .int (nI k_98)])), (o1, .inl (cJ, 64, .inr (.inl f_99)))] H := hP
                                                      have hD : va_D A [(x0, .inr (8, [.ref xn, .int 0, .ref xl, .ref xt, .ref xo, .ref xf, .ref xs, .ref xp, .ref xq, .ref xr, .ref xc])), (xf, .inr (6, [.ref f1, .ref f2, .int 0])), (f1, .inl (cI, 512, .inl (fun _ => (0 : Int32)))), (f2, .inl (cI, 64, .inl ff)), (xo, .inr (7, [.ref o1, .int (nI k_98)])), (o1, .inl (cJ, 64, .inr (.inl f_99)))] := hD
                                                      refine lv_iload hx hb dX8_spread_77 (lv_at hl 0 rfl) ?_
                                                      refine lv_if_le (tgt := 85) hx hb dX8_spread_79 (by decide) (fun c79 => ?_) (fun c79 => ?_)
                                                      ·
                                                        refine lv_iinc (v := 11) (lv' := [(5, .int 11), (6, .int 0), (4, .int 0), (0, .ref x0), (1, .int 0), (2, .int 0), (3, .int 4)]) hx hb dX8_spread_85 hl (k := 1) rfl (by decide +kernel) (by decide) rfl (fun ls hl => ?_)
                                                        refine lv_goto (tgt := 47) hx hb dX8_spread_88 (by decide) ?_
                                                        refine lv_iload hx hb dX8_spread_47 (lv_at hl 0 rfl) ?_
                                                        refine lv_iconst (v := 1) hx hb dX8_spread_49 (by decide +kernel) ?_
                                                        refine lv_iload_n hx hb dX8_spread_50 rfl (lv_at hl 6 rfl) ?_
                                                        refine lv_ishl hx hb dX8_spread_51 ?_
                                                        refine my_eqi (y := 16) (by decide +kernel) ?_
                                                        refine lv_icmp_ge (tgt := 91) hx hb dX8_spread_52 (by decide) (fun c52 => ?_) (fun c52 => ?_)
                                                        ·
                                                          exact absurd c52 (by decide +kernel)
                                                        ·
                                                          refine lv_aload_n hx hb dX8_spread_55 rfl (lv_at hl 3 rfl) ?_
                                                          refine va_get (ci := 8) (v := .ref xf) (C := RX8) (T := TX8) (N := 11) hx hb hts hi8 hown hK hP 0 rfl rfl 5 (by decide) fl41 (fun _ h9 => h9) rfl dX8_spread_56 ?_
                                                          refine lv_iload_n hx hb dX8_spread_59 rfl (lv_at hl 6 rfl) ?_
                                                          refine lv_iload hx hb dX8_spread_60 (lv_at hl 0 rfl) ?_
                                                          refine my_gpI (my_pV (As := [.int 4, .int 11]) (rest := []) (ci := 6) ⟨hx, hb, hml, hown, hts⟩ (cwV 2 hts gX8_spread_X6_inNode rfl rfl rfl (by decide +kernel) ⟨Nat.le_of_ble_eq_true rfl, Nat.le_of_ble_eq_true rfl⟩) hN hK hP [1, 2] rfl 1 rfl rfl rfl rfl hl.1 rfl (Nat.le_of_ble_eq_true rfl) dX8_spread_62 ⟨Nat.le_of_ble_eq_true rfl, Nat.le_of_ble_eq_true rfl⟩  (k0_X6_inNode_4 l D cI cJ xf f1 f2 (0 : Int32) (11 : Int32))) (fun r hp => ?_)
                                                          obtain rfl := hp
                                                          refine lv_istore (lv' := [(6, .int 0), (5, .int 11), (4, .int 0), (0, .ref x0), (1, .int 0), (2, .int 0), (3, .int 4)]) hx hb dX8_spread_65 hl (by decide) rfl (fun ls hl => ?_)
                                                          refine lv_aload_n hx hb dX8_spread_67 rfl (lv_at hl 3 rfl) ?_
                                                          refine va_get (ci := 8) (v := .ref xo) (C := RX8) (T := TX8) (N := 11) hx hb hts hi8 hown hK hP 0 rfl rfl 4 (by decide) fl34 (fun _ h9 => h9) rfl dX8_spread_68 ?_
                                                          refine lv_iload hx hb dX8_spread_71 (lv_at hl 0 rfl) ?_
                                                          refine lv_i2l (v := 0) hx hb dX8_spread_73 (by decide +kernel) ?_
                                                          refine my_goV (wr := [(x0, .inr (8, [.ref xn, .int 0, .ref xl, .ref xt, .ref xo, .ref xf, .ref xs, .ref xp, .ref xq, .ref xr, .ref xc])), (xf, .inr (6, [.ref f1, .ref f2, .int 0])), (f1, .inl (cI, 512, .inl (fun _ => (0 : Int32)))), (f2, .inl (cI, 64, .inl ff))]) hP hD hS hA [4, 5] [0, 1, 2, 3] rfl rfl (by decide) (by decide) (my_cV (As := [.long 0]) (rest := []) (ci := 7) (wc := [(xo, .inr (7, [.ref o1, .int (nI k_98)])), (o1, .inl (cJ, 64, .inr (.inl f_99)))]) ⟨hx, hb, hml, hown, hts⟩ (cwV 1 hts gX8_spread_X7_add rfl rfl rfl (by decide +kernel) ⟨Nat.le_of_ble_eq_true rfl, Nat.le_of_ble_eq_true rfl⟩) hN hK hP hD [4, 5] rfl (by decide) rfl 4 rfl rfl rfl rfl hl.1 rfl (Nat.le_of_ble_eq_true rfl) dX8_spread_74 ⟨Nat.le_of_ble_eq_true rfl, Nat.le_of_ble_eq_true rfl⟩  ((k_X7_add l D cI cJ xo o1 k_98 f_99 (0 : Int64) (by first | omega | decide +kernel)) _)) (fun u H locs hp hP hD hS => ?_)
                                                          obtain ⟨k_102, f_103, rfl, ha_104, hb_105⟩ := hp
                                                          have hP : va_P D vwCl [(x0, .inr (8, [.ref xn, .int 0, .ref xl, .ref xt, .ref xo, .ref xf, .ref xs, .ref xp, .ref xq, .ref xr, .ref xc])), (xf, .inr (6, [.ref f1, .ref f2, .int 0])), (f1, .inl (cI, 512, .inl (fun _ => (0 : Int32)))), (f2, .inl (cI, 64, .inl ff)), (xo, .inr (7, [.ref o1, .int (nI k_102)])), (o1, .inl (cJ, 64, .inr (.inl f_103)))] H := hP
                                                          have hD : va_D A [(x0, .inr (8, [.ref xn, .int 0, .ref xl, .ref xt, .ref xo, .ref xf, .ref xs, .ref xp, .ref xq, .ref xr, .ref xc])), (xf, .inr (6, [.ref f1, .ref f2, .int 0])), (f1, .inl (cI, 512, .inl (fun _ => (0 : Int32)))), (f2, .inl (cI, 64, .inl ff)), (xo, .inr (7, [.ref o1, .int (nI k_102)])), (o1, .inl (cJ, 64, .inr (.inl f_103)))] := hD
                                                          refine lv_iload hx hb dX8_spread_77 (lv_at hl 0 rfl) ?_
                                                          refine lv_if_le (tgt := 85) hx hb dX8_spread_79 (by decide) (fun c79 => ?_) (fun c79 => ?_)
                                                          ·
                                                            refine lv_iinc (v := 12) (lv' := [(5, .int 12), (6, .int 0), (4, .int 0), (0, .ref x0), (1, .int 0), (2, .int 0), (3, .int 4)]) hx hb dX8_spread_85 hl (k := 1) rfl (by decide +kernel) (by decide) rfl (fun ls hl => ?_)
                                                            refine lv_goto (tgt := 47) hx hb dX8_spread_88 (by decide) ?_
                                                            refine lv_iload hx hb dX8_spread_47 (lv_at hl 0 rfl) ?_
                                                            refine lv_iconst (v := 1) hx hb dX8_spread_49 (by decide +kernel) ?_
                                                            refine lv_iload_n hx hb dX8_spread_50 rfl (lv_at hl 6 rfl) ?_
                                                            refine lv_ishl hx hb dX8_spread_51 ?_
                                                            refine my_eqi (y := 16) (by decide +kernel) ?_
                                                            refine lv_icmp_ge (tgt := 91) hx hb dX8_spread_52 (by decide) (fun c52 => ?_) (fun c52 => ?_)
                                                            ·
                                                              exact absurd c52 (by decide +kernel)
                                                            ·
                                                              refine lv_aload_n hx hb dX8_spread_55 rfl (lv_at hl 3 rfl) ?_
                                                              refine va_get (ci := 8) (v := .ref xf) (C := RX8) (T := TX8) (N := 11) hx hb hts hi8 hown hK hP 0 rfl rfl 5 (by decide) fl41 (fun _ h9 => h9) rfl dX8_spread_56 ?_
                                                              refine lv_iload_n hx hb dX8_spread_59 rfl (lv_at hl 6 rfl) ?_
                                                              refine lv_iload hx hb dX8_spread_60 (lv_at hl 0 rfl) ?_
                                                              refine my_gpI (my_pV (As := [.int 4, .int 12]) (rest := []) (ci := 6) ⟨hx, hb, hml, hown, hts⟩ (cwV 2 hts gX8_spread_X6_inNode rfl rfl rfl (by decide +kernel) ⟨Nat.le_of_ble_eq_true rfl, Nat.le_of_ble_eq_true rfl⟩) hN hK hP [1, 2] rfl 1 rfl rfl rfl rfl hl.1 rfl (Nat.le_of_ble_eq_true rfl) dX8_spread_62 ⟨Nat.le_of_ble_eq_true rfl, Nat.le_of_ble_eq_true rfl⟩  (k0_X6_inNode_4 l D cI cJ xf f1 f2 (0 : Int32) (12 : Int32))) (fun r hp => ?_)
                                                              obtain rfl := hp
                                                              refine lv_istore (lv' := [(6, .int 0), (5, .int 12), (4, .int 0), (0, .ref x0), (1, .int 0), (2, .int 0), (3, .int 4)]) hx hb dX8_spread_65 hl (by decide) rfl (fun ls hl => ?_)
                                                              refine lv_aload_n hx hb dX8_spread_67 rfl (lv_at hl 3 rfl) ?_
                                                              refine va_get (ci := 8) (v := .ref xo) (C := RX8) (T := TX8) (N := 11) hx hb hts hi8 hown hK hP 0 rfl rfl 4 (by decide) fl34 (fun _ h9 => h9) rfl dX8_spread_68 ?_
                                                              refine lv_iload hx hb dX8_spread_71 (lv_at hl 0 rfl) ?_
                                                              refine lv_i2l (v := 0) hx hb dX8_spread_73 (by decide +kernel) ?_
                                                              refine my_goV (wr := [(x0, .inr (8, [.ref xn, .int 0, .ref xl, .ref xt, .ref xo, .ref xf, .ref xs, .ref xp, .ref xq, .ref xr, .ref xc])), (xf, .inr (6, [.ref f1, .ref f2, .int 0])), (f1, .inl (cI, 512, .inl (fun _ => (0 : Int32)))), (f2, .inl (cI, 64, .inl ff))]) hP hD hS hA [4, 5] [0, 1, 2, 3] rfl rfl (by decide) (by decide) (my_cV (As := [.long 0]) (rest := []) (ci := 7) (wc := [(xo, .inr (7, [.ref o1, .int (nI k_102)])), (o1, .inl (cJ, 64, .inr (.inl f_103)))]) ⟨hx, hb, hml, hown, hts⟩ (cwV 1 hts gX8_spread_X7_add rfl rfl rfl (by decide +kernel) ⟨Nat.le_of_ble_eq_true rfl, Nat.le_of_ble_eq_true rfl⟩) hN hK hP hD [4, 5] rfl (by decide) rfl 4 rfl rfl rfl rfl hl.1 rfl (Nat.le_of_ble_eq_true rfl) dX8_spread_74 ⟨Nat.le_of_ble_eq_true rfl, Nat.le_of_ble_eq_true rfl⟩  ((k_X7_add l D cI cJ xo o1 k_102 f_103 (0 : Int64) (by first | omega | decide +kernel)) _)) (fun u H locs hp hP hD hS => ?_)
                                                              obtain ⟨k_106, f_107, rfl, ha_108, hb_109⟩ := hp
                                                              have hP : va_P D vwCl [(x0, .inr (8, [.ref xn, .int 0, .ref xl, .ref xt, .ref xo, .ref xf, .ref xs, .ref xp, .ref xq, .ref xr, .ref xc])), (xf, .inr (6, [.ref f1, .ref f2, .int 0])), (f1, .inl (cI, 512, .inl (fun _ => (0 : Int32)))), (f2, .inl (cI, 64, .inl ff)), (xo, .inr (7, [.ref o1, .int (nI k_106)])), (o1, .inl (cJ, 64, .inr (.inl f_107)))] H := hP
                                                              have hD : va_D A [(x0, .inr (8, [.ref xn, .int 0, .ref xl, .ref xt, .ref xo, .ref xf, .ref xs, .ref xp, .ref xq, .ref xr, .ref xc])), (xf, .inr (6, [.ref f1, .ref f2, .int 0])), (f1, .inl (cI, 512, .inl (fun _ => (0 : Int32)))), (f2, .inl (cI, 64, .inl ff)), (xo, .inr (7, [.ref o1, .int (nI k_106)])), (o1, .inl (cJ, 64, .inr (.inl f_107)))] := hD
                                                              refine lv_iload hx hb dX8_spread_77 (lv_at hl 0 rfl) ?_
                                                              refine lv_if_le (tgt := 85) hx hb dX8_spread_79 (by decide) (fun c79 => ?_) (fun c79 => ?_)
                                                              ·
                                                                refine lv_iinc (v := 13) (lv' := [(5, .int 13), (6, .int 0), (4, .int 0), (0, .ref x0), (1, .int 0), (2, .int 0), (3, .int 4)]) hx hb dX8_spread_85 hl (k := 1) rfl (by decide +kernel) (by decide) rfl (fun ls hl => ?_)
                                                                refine lv_goto (tgt := 47) hx hb dX8_spread_88 (by decide) ?_
                                                                refine lv_iload hx hb dX8_spread_47 (lv_at hl 0 rfl) ?_
                                                                refine lv_iconst (v := 1) hx hb dX8_spread_49 (by decide +kernel) ?_
                                                                refine lv_iload_n hx hb dX8_spread_50 rfl (lv_at hl 6 rfl) ?_
                                                                refine lv_ishl hx hb dX8_spread_51 ?_
                                                                refine my_eqi (y := 16) (by decide +kernel) ?_
                                                                refine lv_icmp_ge (tgt := 91) hx hb dX8_spread_52 (by decide) (fun c52 => ?_) (fun c52 => ?_)
                                                                ·
                                                                  exact absurd c52 (by decide +kernel)
                                                                ·
                                                                  refine lv_aload_n hx hb dX8_spread_55 rfl (lv_at hl 3 rfl) ?_
                                                                  refine va_get (ci := 8) (v := .ref xf) (C := RX8) (T := TX8) (N := 11) hx hb hts hi8 hown hK hP 0 rfl rfl 5 (by decide) fl41 (fun _ h9 => h9) rfl dX8_spread_56 ?_
                                                                  refine lv_iload_n hx hb dX8_spread_59 rfl (lv_at hl 6 rfl) ?_
                                                                  refine lv_iload hx hb dX8_spread_60 (lv_at hl 0 rfl) ?_
                                                                  refine my_gpI (my_pV (As := [.int 4, .int 13]) (rest := []) (ci := 6) ⟨hx, hb, hml, hown, hts⟩ (cwV 2 hts gX8_spread_X6_inNode rfl rfl rfl (by decide +kernel) ⟨Nat.le_of_ble_eq_true rfl, Nat.le_of_ble_eq_true rfl⟩) hN hK hP [1, 2] rfl 1 rfl rfl rfl rfl hl.1 rfl (Nat.le_of_ble_eq_true rfl) dX8_spread_62 ⟨Nat.le_of_ble_eq_true rfl, Nat.le_of_ble_eq_true rfl⟩  (k0_X6_inNode_4 l D cI cJ xf f1 f2 (0 : Int32) (13 : Int32))) (fun r hp => ?_)
                                                                  obtain rfl := hp
                                                                  refine lv_istore (lv' := [(6, .int 0), (5, .int 13), (4, .int 0), (0, .ref x0), (1, .int 0), (2, .int 0), (3, .int 4)]) hx hb dX8_spread_65 hl (by decide) rfl (fun ls hl => ?_)
                                                                  refine lv_aload_n hx hb dX8_spread_67 rfl (lv_at hl 3 rfl) ?_
                                                                  refine va_get (ci := 8) (v := .ref xo) (C := RX8) (T := TX8) (N := 11) hx hb hts hi8 hown hK hP 0 rfl rfl 4 (by decide) fl34 (fun _ h9 => h9) rfl dX8_spread_68 ?_
                                                                  refine lv_iload hx hb dX8_spread_71 (lv_at hl 0 rfl) ?_
                                                                  refine lv_i2l (v := 0) hx hb dX8_spread_73 (by decide +kernel) ?_
                                                                  refine my_goV (wr := [(x0, .inr (8, [.ref xn, .int 0, .ref xl, .ref xt, .ref xo, .ref xf, .ref xs, .ref xp, .ref xq, .ref xr, .ref xc])), (xf, .inr (6, [.ref f1, .ref f2, .int 0])), (f1, .inl (cI, 512, .inl (fun _ => (0 : Int32)))), (f2, .inl (cI, 64, .inl ff))]) hP hD hS hA [4, 5] [0, 1, 2, 3] rfl rfl (by decide) (by decide) (my_cV (As := [.long 0]) (rest := []) (ci := 7) (wc := [(xo, .inr (7, [.ref o1, .int (nI k_106)])), (o1, .inl (cJ, 64, .inr (.inl f_107)))]) ⟨hx, hb, hml, hown, hts⟩ (cwV 1 hts gX8_spread_X7_add rfl rfl rfl (by decide +kernel) ⟨Nat.le_of_ble_eq_true rfl, Nat.le_of_ble_eq_true rfl⟩) hN hK hP hD [4, 5] rfl (by decide) rfl 4 rfl rfl rfl rfl hl.1 rfl (Nat.le_of_ble_eq_true rfl) dX8_spread_74 ⟨Nat.le_of_ble_eq_true rfl, Nat.le_of_ble_eq_true rfl⟩  ((k_X7_add l D cI cJ xo o1 k_106 f_107 (0 : Int64) (by first | omega | decide +kernel)) _)) (fun u H locs hp hP hD hS => ?_)
                                                                  obtain ⟨k_110, f_111, rfl, ha_112, hb_113⟩ := hp
                                                                  have hP : va_P D vwCl [(x0, .inr (8, [.ref xn, .int 0, .ref xl, .ref xt, .ref xo, .ref xf, .ref xs, .ref xp, .ref xq, .ref xr, .ref xc])), (xf, .inr (6, [.ref f1, .ref f2, .int 0])), (f1, .inl (cI, 512, .inl (fun _ => (0 : Int32)))), (f2, .inl (cI, 64, .inl ff)), (xo, .inr (7, [.ref o1, .int (nI k_110)])), (o1, .inl (cJ, 64, .inr (.inl f_111)))] H := hP
                                                                  have hD : va_D A [(x0, .inr (8, [.ref xn, .int 0, .ref xl, .ref xt, .ref xo, .ref xf, .ref xs, .ref xp, .ref xq, .ref xr, .ref xc])), (xf, .inr (6, [.ref f1, .ref f2, .int 0])), (f1, .inl (cI, 512, .inl (fun _ => (0 : Int32)))), (f2, .inl (cI, 64, .inl ff)), (xo, .inr (7, [.ref o1, .int (nI k_110)])), (o1, .inl (cJ, 64, .inr (.inl f_111)))] := hD
                                                                  refine lv_iload hx hb dX8_spread_77 (lv_at hl 0 rfl) ?_
                                                                  refine lv_if_le (tgt := 85) hx hb dX8_spread_79 (by decide) (fun c79 => ?_) (fun c79 => ?_)
                                                                  ·
                                                                    refine lv_iinc (v := 14) (lv' := [(5, .int 14), (6, .int 0), (4, .int 0), (0, .ref x0), (1, .int 0), (2, .int 0), (3, .int 4)]) hx hb dX8_spread_85 hl (k := 1) rfl (by decide +kernel) (by decide) rfl (fun ls hl => ?_)
                                                                    refine lv_goto (tgt := 47) hx hb dX8_spread_88 (by decide) ?_
                                                                    refine lv_iload hx hb dX8_spread_47 (lv_at hl 0 rfl) ?_
                                                                    refine lv_iconst (v := 1) hx hb dX8_spread_49 (by decide +kernel) ?_
                                                                    refine lv_iload_n hx hb dX8_spread_50 rfl (lv_at hl 6 rfl) ?_
                                                                    refine lv_ishl hx hb dX8_spread_51 ?_
                                                                    refine my_eqi (y := 16) (by decide +kernel) ?_
                                                                    refine lv_icmp_ge (tgt := 91) hx hb dX8_spread_52 (by decide) (fun c52 => ?_) (fun c52 => ?_)
                                                                    ·
                                                                      exact absurd c52 (by decide +kernel)
                                                                    ·
                                                                      refine lv_aload_n hx hb dX8_spread_55 rfl (lv_at hl 3 rfl) ?_
                                                                      refine va_get (ci := 8) (v := .ref xf) (C := RX8) (T := TX8) (N := 11) hx hb hts hi8 hown hK hP 0 rfl rfl 5 (by decide) fl41 (fun _ h9 => h9) rfl dX8_spread_56 ?_
                                                                      refine lv_iload_n hx hb dX8_spread_59 rfl (lv_at hl 6 rfl) ?_
                                                                      refine lv_iload hx hb dX8_spread_60 (lv_at hl 0 rfl) ?_
                                                                      refine my_gpI (my_pV (As := [.int 4, .int 14]) (rest := []) (ci := 6) ⟨hx, hb, hml, hown, hts⟩ (cwV 2 hts gX8_spread_X6_inNode rfl rfl rfl (by decide +kernel) ⟨Nat.le_of_ble_eq_true rfl, Nat.le_of_ble_eq_true rfl⟩) hN hK hP [1, 2] rfl 1 rfl rfl rfl rfl hl.1 rfl (Nat.le_of_ble_eq_true rfl) dX8_spread_62 ⟨Nat.le_of_ble_eq_true rfl, Nat.le_of_ble_eq_true rfl⟩  (k0_X6_inNode_4 l D cI cJ xf f1 f2 (0 : Int32) (14 : Int32))) (fun r hp => ?_)
                                                                      obtain rfl := hp
                                                                      refine lv_istore (lv' := [(6, .int 0), (5, .int 14), (4, .int 0), (0, .ref x0), (1, .int 0), (2, .int 0), (3, .int 4)]) hx hb dX8_spread_65 hl (by decide) rfl (fun ls hl => ?_)
                                                                      refine lv_aload_n hx hb dX8_spread_67 rfl (lv_at hl 3 rfl) ?_
                                                                      refine va_get (ci := 8) (v := .ref xo) (C := RX8) (T := TX8) (N := 11) hx hb hts hi8 hown hK hP 0 rfl rfl 4 (by decide) fl34 (fun _ h9 => h9) rfl dX8_spread_68 ?_
                                                                      refine lv_iload hx hb dX8_spread_71 (lv_at hl 0 rfl) ?_
                                                                      refine lv_i2l (v := 0) hx hb dX8_spread_73 (by decide +kernel) ?_
                                                                      refine my_goV (wr := [(x0, .inr (8, [.ref xn, .int 0, .ref xl, .ref xt, .ref xo, .ref xf, .ref xs, .ref xp, .ref xq, .ref xr, .ref xc])), (xf, .inr (6, [.ref f1, .ref f2, .int 0])), (f1, .inl (cI, 512, .inl (fun _ => (0 : Int32)))), (f2, .inl (cI, 64, .inl ff))]) hP hD hS hA [4, 5] [0, 1, 2, 3] rfl rfl (by decide) (by decide) (my_cV (As := [.long 0]) (rest := []) (ci := 7) (wc := [(xo, .inr (7, [.ref o1, .int (nI k_110)])), (o1, .inl (cJ, 64, .inr (.inl f_111)))]) ⟨hx, hb, hml, hown, hts⟩ (cwV 1 hts gX8_spread_X7_add rfl rfl rfl (by decide +kernel) ⟨Nat.le_of_ble_eq_true rfl, Nat.le_of_ble_eq_true rfl⟩) hN hK hP hD [4, 5] rfl (by decide) rfl 4 rfl rfl rfl rfl hl.1 rfl (Nat.le_of_ble_eq_true rfl) dX8_spread_74 ⟨Nat.le_of_ble_eq_true rfl, Nat.le_of_ble_eq_true rfl⟩  ((k_X7_add l D cI cJ xo o1 k_110 f_111 (0 : Int64) (by first | omega | decide +kernel)) _)) (fun u H locs hp hP hD hS => ?_)
                                                                      obtain ⟨k_114, f_115, rfl, ha_116, hb_117⟩ := hp
                                                                      have hP : va_P D vwCl [(x0, .inr (8, [.ref xn, .int 0, .ref xl, .ref xt, .ref xo, .ref xf, .ref xs, .ref xp, .ref xq, .ref xr, .ref xc])), (xf, .inr (6, [.ref f1, .ref f2, .int 0])), (f1, .inl (cI, 512, .inl (fun _ => (0 : Int32)))), (f2, .inl (cI, 64, .inl ff)), (xo, .inr (7, [.ref o1, .int (nI k_114)])), (o1, .inl (cJ, 64, .inr (.inl f_115)))] H := hP
                                                                      have hD : va_D A [(x0, .inr (8, [.ref xn, .int 0, .ref xl, .ref xt, .ref xo, .ref xf, .ref xs, .ref xp, .ref xq, .ref xr, .ref xc])), (xf, .inr (6, [.ref f1, .ref f2, .int 0])), (f1, .inl (cI, 512, .inl (fun _ => (0 : Int32)))), (f2, .inl (cI, 64, .inl ff)), (xo, .inr (7, [.ref o1, .int (nI k_114)])), (o1, .inl (cJ, 64, .inr (.inl f_115)))] := hD
                                                                      refine lv_iload hx hb dX8_spread_77 (lv_at hl 0 rfl) ?_
                                                                      refine lv_if_le (tgt := 85) hx hb dX8_spread_79 (by decide) (fun c79 => ?_) (fun c79 => ?_)
                                                                      ·
                                                                        refine lv_iinc (v := 15) (lv' := [(5, .int 15), (6, .int 0), (4, .int 0), (0, .ref x0), (1, .int 0), (2, .int 0), (3, .int 4)]) hx hb dX8_spread_85 hl (k := 1) rfl (by decide +kernel) (by decide) rfl (fun ls hl => ?_)
                                                                        refine lv_goto (tgt := 47) hx hb dX8_spread_88 (by decide) ?_
                                                                        refine lv_iload hx hb dX8_spread_47 (lv_at hl 0 rfl) ?_
                                                                        refine lv_iconst (v := 1) hx hb dX8_spread_49 (by decide +kernel) ?_
                                                                        refine lv_iload_n hx hb dX8_spread_50 rfl (lv_at hl 6 rfl) ?_
                                                                        refine lv_ishl hx hb dX8_spread_51 ?_
                                                                        refine my_eqi (y := 16) (by decide +kernel) ?_
                                                                        refine lv_icmp_ge (tgt := 91) hx hb dX8_spread_52 (by decide) (fun c52 => ?_) (fun c52 => ?_)
                                                                        ·
                                                                          exact absurd c52 (by decide +kernel)
                                                                        ·
                                                                          refine lv_aload_n hx hb dX8_spread_55 rfl (lv_at hl 3 rfl) ?_
                                                                          refine va_get (ci := 8) (v := .ref xf) (C := RX8) (T := TX8) (N := 11) hx hb hts hi8 hown hK hP 0 rfl rfl 5 (by decide) fl41 (fun _ h9 => h9) rfl dX8_spread_56 ?_
                                                                          refine lv_iload_n hx hb dX8_spread_59 rfl (lv_at hl 6 rfl) ?_
                                                                          refine lv_iload hx hb dX8_spread_60 (lv_at hl 0 rfl) ?_
                                                                          refine my_gpI (my_pV (As := [.int 4, .int 15]) (rest := []) (ci := 6) ⟨hx, hb, hml, hown, hts⟩ (cwV 2 hts gX8_spread_X6_inNode rfl rfl rfl (by decide +kernel) ⟨Nat.le_of_ble_eq_true rfl, Nat.le_of_ble_eq_true rfl⟩) hN hK hP [1, 2] rfl 1 rfl rfl rfl rfl hl.1 rfl (Nat.le_of_ble_eq_true rfl) dX8_spread_62 ⟨Nat.le_of_ble_eq_true rfl, Nat.le_of_ble_eq_true rfl⟩  (k0_X6_inNode_4 l D cI cJ xf f1 f2 (0 : Int32) (15 : Int32))) (fun r hp => ?_)
                                                                          obtain rfl := hp
                                                                          refine lv_istore (lv' := [(6, .int 0), (5, .int 15), (4, .int 0), (0, .ref x0), (1, .int 0), (2, .int 0), (3, .int 4)]) hx hb dX8_spread_65 hl (by decide) rfl (fun ls hl => ?_)
                                                                          refine lv_aload_n hx hb dX8_spread_67 rfl (lv_at hl 3 rfl) ?_
                                                                          refine va_get (ci := 8) (v := .ref xo) (C := RX8) (T := TX8) (N := 11) hx hb hts hi8 hown hK hP 0 rfl rfl 4 (by decide) fl34 (fun _ h9 => h9) rfl dX8_spread_68 ?_
                                                                          refine lv_iload hx hb dX8_spread_71 (lv_at hl 0 rfl) ?_
                                                                          refine lv_i2l (v := 0) hx hb dX8_spread_73 (by decide +kernel) ?_
                                                                          refine my_goV (wr := [(x0, .inr (8, [.ref xn, .int 0, .ref xl, .ref xt, .ref xo, .ref xf, .ref xs, .ref xp, .ref xq, .ref xr, .ref xc])), (xf, .inr (6, [.ref f1, .ref f2, .int 0])), (f1, .inl (cI, 512, .inl (fun _ => (0 : Int32)))), (f2, .inl (cI, 64, .inl ff))]) hP hD hS hA [4, 5] [0, 1, 2, 3] rfl rfl (by decide) (by decide) (my_cV (As := [.long 0]) (rest := []) (ci := 7) (wc := [(xo, .inr (7, [.ref o1, .int (nI k_114)])), (o1, .inl (cJ, 64, .inr (.inl f_115)))]) ⟨hx, hb, hml, hown, hts⟩ (cwV 1 hts gX8_spread_X7_add rfl rfl rfl (by decide +kernel) ⟨Nat.le_of_ble_eq_true rfl, Nat.le_of_ble_eq_true rfl⟩) hN hK hP hD [4, 5] rfl (by decide) rfl 4 rfl rfl rfl rfl hl.1 rfl (Nat.le_of_ble_eq_true rfl) dX8_spread_74 ⟨Nat.le_of_ble_eq_true rfl, Nat.le_of_ble_eq_true rfl⟩  ((k_X7_add l D cI cJ xo o1 k_114 f_115 (0 : Int64) (by first | omega | decide +kernel)) _)) (fun u H locs hp hP hD hS => ?_)
                                                                          obtain ⟨k_118, f_119, rfl, ha_120, hb_121⟩ := hp
                                                                          have hP : va_P D vwCl [(x0, .inr (8, [.ref xn, .int 0, .ref xl, .ref xt, .ref xo, .ref xf, .ref xs, .ref xp, .ref xq, .ref xr, .ref xc])), (xf, .inr (6, [.ref f1, .ref f2, .int 0])), (f1, .inl (cI, 512, .inl (fun _ => (0 : Int32)))), (f2, .inl (cI, 64, .inl ff)), (xo, .inr (7, [.ref o1, .int (nI k_118)])), (o1, .inl (cJ, 64, .inr (.inl f_119)))] H := hP
                                                                          have hD : va_D A [(x0, .inr (8, [.ref xn, .int 0, .ref xl, .ref xt, .ref xo, .ref xf, .ref xs, .ref xp, .ref xq, .ref xr, .ref xc])), (xf, .inr (6, [.ref f1, .ref f2, .int 0])), (f1, .inl (cI, 512, .inl (fun _ => (0 : Int32)))), (f2, .inl (cI, 64, .inl ff)), (xo, .inr (7, [.ref o1, .int (nI k_118)])), (o1, .inl (cJ, 64, .inr (.inl f_119)))] := hD
                                                                          refine lv_iload hx hb dX8_spread_77 (lv_at hl 0 rfl) ?_
                                                                          refine lv_if_le (tgt := 85) hx hb dX8_spread_79 (by decide) (fun c79 => ?_) (fun c79 => ?_)
                                                                          ·
                                                                            refine lv_iinc (v := 16) (lv' := [(5, .int 16), (6, .int 0), (4, .int 0), (0, .ref x0), (1, .int 0), (2, .int 0), (3, .int 4)]) hx hb dX8_spread_85 hl (k := 1) rfl (by decide +kernel) (by decide) rfl (fun ls hl => ?_)
                                                                            refine lv_goto (tgt := 47) hx hb dX8_spread_88 (by decide) ?_
                                                                            refine lv_iload hx hb dX8_spread_47 (lv_at hl 0 rfl) ?_
                                                                            refine lv_iconst (v := 1) hx hb dX8_spread_49 (by decide +kernel) ?_
                                                                            refine lv_iload_n hx hb dX8_spread_50 rfl (lv_at hl 6 rfl) ?_
                                                                            refine lv_ishl hx hb dX8_spread_51 ?_
                                                                            refine my_eqi (y := 16) (by decide +kernel) ?_
                                                                            refine lv_icmp_ge (tgt := 91) hx hb dX8_spread_52 (by decide) (fun c52 => ?_) (fun c52 => ?_)
                                                                            ·
                                                                              refine lv_iload hx hb dX8_spread_91 (lv_at hl 2 rfl) ?_
                                                                              exact my_retI hx hb hr hlocks hK hS [] (hP.sub [] rfl) (hD.sub [] (by decide) rfl) (Or.inl ⟨rfl, rfl, (by first | omega | assumption | trivial | decide +kernel), (by first | omega | assumption | trivial | decide +kernel), (by first | omega | assumption | trivial | decide +kernel), (by first | omega | assumption | trivial | decide +kernel)⟩) dX8_spread_93
                                                                            ·
                                                                              exact absurd c52 (by decide +kernel)
                                                                          ·
                                                                            exact absurd c79 (by decide +kernel)
                                                                      ·
                                                                        exact absurd c79 (by decide +kernel)
                                                                  ·
                                                                    exact absurd c79 (by decide +kernel)
                                                              ·
                                                                exact absurd c79 (by decide +kernel)
                                                          ·
                                                            exact absurd c79 (by decide +kernel)
                                                      ·
                                                        exact absurd c79 (by decide +kernel)
                                                  ·
                                                    exact absurd c79 (by decide +kernel)
                                              ·
                                                exact absurd c79 (by decide +kernel)
                                          ·
                                            exact absurd c79 (by decide +kernel)
                                      ·
                                        exact absurd c79 (by decide +kernel)
                                  ·
                                    exact absurd c79 (by decide +kernel)
                              ·
                                exact absurd c79 (by decide +kernel)
                          ·
                            exact absurd c79 (by decide +kernel)
                      ·
                        exact absurd c79 (by decide +kernel)
                  ·
                    exact absurd c79 (by decide +kernel)
              ·
                exact absurd c79 (by decide +kernel)
        ·
          have d16 : p9.toInt > (4 : Int) := my_nle c16 rfl (by decide +kernel)
          refine lv_iconst (v := (-1)) hx hb dX8_spread_19 (by decide +kernel) ?_
          exact my_retI hx hb hr hlocks hK hS [] (hP.sub [] rfl) (hD.sub [] (by decide) rfl) (Or.inr (⟨rfl, rfl, (by first | omega | assumption | trivial | decide +kernel)⟩)) dX8_spread_20
  ·
    refine lv_if_eq (tgt := 19) hx hb dX8_spread_6 (by decide) (fun c6 => ?_) (fun c6 => ?_)
    ·
      refine lv_iconst (v := (-1)) hx hb dX8_spread_19 (by decide +kernel) ?_
      exact my_retI hx hb hr hlocks hK hS [] (hP.sub [] rfl) (hD.sub [] (by decide) rfl) (Or.inr (⟨rfl, rfl, (by first | omega | assumption | trivial | decide +kernel)⟩)) dX8_spread_20
    ·
      exact absurd c6 (by decide +kernel)
