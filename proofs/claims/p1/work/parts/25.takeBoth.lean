set_option maxHeartbeats 4000000 in
set_option maxRecDepth 100000 in
theorem k0_X8_takeBoth (l : Launch) (D : va_G) (cI cJ : ClassId) (x0 : Nat) (xn : Nat) (xl : Nat) (xt : Nat) (xo : Nat) (xf : Nat) (xs : Nat) (xp : Nat) (xq : Nat) (xr : Nat) (xc : Nat) (f1 : Nat) (f2 : Nat) (f3 : Int32) (ff : Nat → Int32) (s1 : Nat) (s2 : Nat) (s3 : Int32) (sf : Nat → Int32) (l9 : Int32) (r9 : Int32) (s9 : Int32) (t9 : Int32) : ctI l yX8_takeBoth wsX8_takeBoth ({ frames := 4, cells := 0, slots := 0, locals := 240 } : Room) D (tyIJ cI cJ) [.ref x0, .int l9, .int r9, .int s9, .int t9] [(x0, .inr (8, [.ref xn, .int 0, .ref xl, .ref xt, .ref xo, .ref xf, .ref xs, .ref xp, .ref xq, .ref xr, .ref xc])), (xf, .inr (6, [.ref f1, .ref f2, .int f3])), (f1, .inl (cI, 512, .inl (fun _ => (0 : Int32)))), (f2, .inl (cI, 64, .inl ff)), (xs, .inr (6, [.ref s1, .ref s2, .int s3])), (s1, .inl (cI, 512, .inl (fun _ => (0 : Int32)))), (s2, .inl (cI, 64, .inl sf))] (fun (r : Int32) (u : va_W) => (u = [(x0, .inr (8, [.ref xn, .int 0, .ref xl, .ref xt, .ref xo, .ref xf, .ref xs, .ref xp, .ref xq, .ref xr, .ref xc])), (xf, .inr (6, [.ref f1, .ref f2, .int 0])), (f1, .inl (cI, 512, .inl (fun _ => (0 : Int32)))), (xs, .inr (6, [.ref s1, .ref s2, .int 0])), (s1, .inl (cI, 512, .inl (fun _ => (0 : Int32))))] ∧ r = 1 ∧ l9 = 0 ∧ r9 = 0 ∧ s9 = 0 ∧ t9 = 0) ∨ (u = [] ∧ r = 0 ∧ (l9.toInt < 0 ∨ r9.toInt < l9.toInt ∨ 0 < r9.toInt ∨ s9.toInt < 0 ∨ t9.toInt < s9.toInt ∨ 0 < t9.toInt))) := by
  refine ctI.of (cc := cX8_takeBoth) (maxL := 5) (ret := (some .boolean)) (by decide) rfl (Nat.le_of_ble_eq_true rfl) ?_
  intro p e s m below meth c ls A hx hb hr hts hown hml hlocks hname hA hK hN hP hD hS hl
  have hl : lv_has ls 5 [(0, .ref x0), (1, .int l9), (2, .int r9), (3, .int s9), (4, .int t9)] := hl
  have hown : s.vm.findClass RX8 = some m.cls := hown
  have hi8 : ∀ w ∈ u_ws RX8 TX8 11, w ∈ wsX8_takeBoth := by decide +kernel
  have fl41 := hts (.fieldLink RX8 41 "PlaneColumn" "first" "LPlaneColumn$Tally;") (by decide +kernel)
  have fl45 := hts (.fieldLink RX8 45 "PlaneColumn" "second" "LPlaneColumn$Tally;") (by decide +kernel)
  have fl9 := hts (.fieldLink RX8 9 "PlaneColumn" "numbers" "[I") (by decide +kernel)
  refine lv_aload_n hx hb dX8_takeBoth_0 rfl (lv_at hl 0 rfl) ?_
  refine lv_iload_n hx hb dX8_takeBoth_1 rfl (lv_at hl 1 rfl) ?_
  refine lv_iload_n hx hb dX8_takeBoth_2 rfl (lv_at hl 2 rfl) ?_
  refine my_gpI (my_pV (As := [.int l9, .int r9]) (rest := []) (ci := 8) ⟨hx, hb, hml, hown, hts⟩ (cwV 2 hts gX8_takeBoth_X8_isSpan rfl rfl rfl (by decide +kernel) ⟨Nat.le_of_ble_eq_true rfl, Nat.le_of_ble_eq_true rfl⟩) hN hK hP [0] rfl 0 rfl rfl rfl rfl hl.1 rfl (Nat.le_of_ble_eq_true rfl) dX8_takeBoth_3 ⟨Nat.le_of_ble_eq_true rfl, Nat.le_of_ble_eq_true rfl⟩  (k0_X8_isSpan l D cI cJ x0 xn xl xt xo xf xs xp xq xr xc l9 r9)) (fun r hp => ?_)
  rcases hp with ⟨rfl, rfl, rfl⟩ | ⟨rfl, ha_1⟩
  ·
    refine lv_if_eq (tgt := 19) hx hb dX8_takeBoth_6 (by decide) (fun c6 => ?_) (fun c6 => ?_)
    ·
      exact absurd c6 (by decide +kernel)
    ·
      refine lv_aload_n hx hb dX8_takeBoth_9 rfl (lv_at hl 0 rfl) ?_
      refine lv_iload_n hx hb dX8_takeBoth_10 rfl (lv_at hl 3 rfl) ?_
      refine lv_iload hx hb dX8_takeBoth_11 (lv_at hl 4 rfl) ?_
      refine my_gpI (my_pV (As := [.int s9, .int t9]) (rest := []) (ci := 8) ⟨hx, hb, hml, hown, hts⟩ (cwV 2 hts gX8_takeBoth_X8_isSpan rfl rfl rfl (by decide +kernel) ⟨Nat.le_of_ble_eq_true rfl, Nat.le_of_ble_eq_true rfl⟩) hN hK hP [0] rfl 0 rfl rfl rfl rfl hl.1 rfl (Nat.le_of_ble_eq_true rfl) dX8_takeBoth_13 ⟨Nat.le_of_ble_eq_true rfl, Nat.le_of_ble_eq_true rfl⟩  (k0_X8_isSpan l D cI cJ x0 xn xl xt xo xf xs xp xq xr xc s9 t9)) (fun r hp => ?_)
      rcases hp with ⟨rfl, rfl, rfl⟩ | ⟨rfl, ha_2⟩
      ·
        refine lv_if_ne (tgt := 21) hx hb dX8_takeBoth_16 (by decide) (fun c16 => ?_) (fun c16 => ?_)
        ·
          refine lv_aload_n hx hb dX8_takeBoth_21 rfl (lv_at hl 0 rfl) ?_
          refine va_get (ci := 8) (v := .ref xf) (C := RX8) (T := TX8) (N := 11) hx hb hts hi8 hown hK hP 0 rfl rfl 5 (by decide) fl41 (fun _ h9 => h9) rfl dX8_takeBoth_22 ?_
          refine lv_aload_n hx hb dX8_takeBoth_25 rfl (lv_at hl 0 rfl) ?_
          refine va_get (ci := 8) (v := .ref xn) (C := RX8) (T := TX8) (N := 11) hx hb hts hi8 hown hK hP 0 rfl rfl 0 (by decide) fl9 (fun _ h9 => h9) rfl dX8_takeBoth_26 ?_
          refine lv_iload_n hx hb dX8_takeBoth_29 rfl (lv_at hl 1 rfl) ?_
          refine lv_iload_n hx hb dX8_takeBoth_30 rfl (lv_at hl 2 rfl) ?_
          refine my_goV (wr := [(x0, .inr (8, [.ref xn, .int 0, .ref xl, .ref xt, .ref xo, .ref xf, .ref xs, .ref xp, .ref xq, .ref xr, .ref xc])), (xs, .inr (6, [.ref s1, .ref s2, .int s3])), (s1, .inl (cI, 512, .inl (fun _ => (0 : Int32)))), (s2, .inl (cI, 64, .inl sf))]) hP hD hS hA [1, 2, 3] [0, 4, 5, 6] rfl rfl (by decide) (by decide) (my_cV (As := [.ref xn, .int 0, .int 0]) (rest := []) (ci := 6) (wc := [(xf, .inr (6, [.ref f1, .ref f2, .int f3])), (f1, .inl (cI, 512, .inl (fun _ => (0 : Int32)))), (f2, .inl (cI, 64, .inl ff))]) ⟨hx, hb, hml, hown, hts⟩ (cwV 3 hts gX8_takeBoth_X6_take rfl rfl rfl (by decide +kernel) ⟨Nat.le_of_ble_eq_true rfl, Nat.le_of_ble_eq_true rfl⟩) hN hK hP hD [1, 2, 3] rfl (by decide) rfl 1 rfl rfl rfl rfl hl.1 rfl (Nat.le_of_ble_eq_true rfl) dX8_takeBoth_31 ⟨Nat.le_of_ble_eq_true rfl, Nat.le_of_ble_eq_true rfl⟩  ((k0_X6_take l D cI cJ xf f1 f2 xn f3 ff) _)) (fun u H locs hp hP hD hS => ?_)
          obtain rfl := hp
          have hP : va_P D vwCl [(x0, .inr (8, [.ref xn, .int 0, .ref xl, .ref xt, .ref xo, .ref xf, .ref xs, .ref xp, .ref xq, .ref xr, .ref xc])), (xs, .inr (6, [.ref s1, .ref s2, .int s3])), (s1, .inl (cI, 512, .inl (fun _ => (0 : Int32)))), (s2, .inl (cI, 64, .inl sf)), (xf, .inr (6, [.ref f1, .ref f2, .int 0])), (f1, .inl (cI, 512, .inl (fun _ => (0 : Int32)))), (f2, .inl (cI, 64, .inl ff))] H := hP
          have hD : va_D A [(x0, .inr (8, [.ref xn, .int 0, .ref xl, .ref xt, .ref xo, .ref xf, .ref xs, .ref xp, .ref xq, .ref xr, .ref xc])), (xs, .inr (6, [.ref s1, .ref s2, .int s3])), (s1, .inl (cI, 512, .inl (fun _ => (0 : Int32)))), (s2, .inl (cI, 64, .inl sf)), (xf, .inr (6, [.ref f1, .ref f2, .int 0])), (f1, .inl (cI, 512, .inl (fun _ => (0 : Int32)))), (f2, .inl (cI, 64, .inl ff))] := hD
          refine lv_aload_n hx hb dX8_takeBoth_34 rfl (lv_at hl 0 rfl) ?_
          refine va_get (ci := 8) (v := .ref xs) (C := RX8) (T := TX8) (N := 11) hx hb hts hi8 hown hK hP 0 rfl rfl 6 (by decide) fl45 (fun _ h9 => h9) rfl dX8_takeBoth_35 ?_
          refine lv_aload_n hx hb dX8_takeBoth_38 rfl (lv_at hl 0 rfl) ?_
          refine va_get (ci := 8) (v := .ref xn) (C := RX8) (T := TX8) (N := 11) hx hb hts hi8 hown hK hP 0 rfl rfl 0 (by decide) fl9 (fun _ h9 => h9) rfl dX8_takeBoth_39 ?_
          refine lv_iload_n hx hb dX8_takeBoth_42 rfl (lv_at hl 3 rfl) ?_
          refine lv_iload hx hb dX8_takeBoth_43 (lv_at hl 4 rfl) ?_
          refine my_goV (wr := [(x0, .inr (8, [.ref xn, .int 0, .ref xl, .ref xt, .ref xo, .ref xf, .ref xs, .ref xp, .ref xq, .ref xr, .ref xc])), (xf, .inr (6, [.ref f1, .ref f2, .int 0])), (f1, .inl (cI, 512, .inl (fun _ => (0 : Int32)))), (f2, .inl (cI, 64, .inl ff))]) hP hD hS hA [1, 2, 3] [0, 4, 5, 6] rfl rfl (by decide) (by decide) (my_cV (As := [.ref xn, .int 0, .int 0]) (rest := []) (ci := 6) (wc := [(xs, .inr (6, [.ref s1, .ref s2, .int s3])), (s1, .inl (cI, 512, .inl (fun _ => (0 : Int32)))), (s2, .inl (cI, 64, .inl sf))]) ⟨hx, hb, hml, hown, hts⟩ (cwV 3 hts gX8_takeBoth_X6_take rfl rfl rfl (by decide +kernel) ⟨Nat.le_of_ble_eq_true rfl, Nat.le_of_ble_eq_true rfl⟩) hN hK hP hD [1, 2, 3] rfl (by decide) rfl 1 rfl rfl rfl rfl hl.1 rfl (Nat.le_of_ble_eq_true rfl) dX8_takeBoth_45 ⟨Nat.le_of_ble_eq_true rfl, Nat.le_of_ble_eq_true rfl⟩  ((k0_X6_take l D cI cJ xs s1 s2 xn s3 sf) _)) (fun u H locs hp hP hD hS => ?_)
          obtain rfl := hp
          have hP : va_P D vwCl [(x0, .inr (8, [.ref xn, .int 0, .ref xl, .ref xt, .ref xo, .ref xf, .ref xs, .ref xp, .ref xq, .ref xr, .ref xc])), (xf, .inr (6, [.ref f1, .ref f2, .int 0])), (f1, .inl (cI, 512, .inl (fun _ => (0 : Int32)))), (f2, .inl (cI, 64, .inl ff)), (xs, .inr (6, [.ref s1, .ref s2, .int 0])), (s1, .inl (cI, 512, .inl (fun _ => (0 : Int32)))), (s2, .inl (cI, 64, .inl sf))] H := hP
          have hD : va_D A [(x0, .inr (8, [.ref xn, .int 0, .ref xl, .ref xt, .ref xo, .ref xf, .ref xs, .ref xp, .ref xq, .ref xr, .ref xc])), (xf, .inr (6, [.ref f1, .ref f2, .int 0])), (f1, .inl (cI, 512, .inl (fun _ => (0 : Int32)))), (f2, .inl (cI, 64, .inl ff)), (xs, .inr (6, [.ref s1, .ref s2, .int 0])), (s1, .inl (cI, 512, .inl (fun _ => (0 : Int32)))), (s2, .inl (cI, 64, .inl sf))] := hD
          refine lv_iconst (v := 1) hx hb dX8_takeBoth_48 (by decide +kernel) ?_
          exact my_retZ hx hb hr hlocks (by decide +kernel) hK hS [(x0, .inr (8, [.ref xn, .int 0, .ref xl, .ref xt, .ref xo, .ref xf, .ref xs, .ref xp, .ref xq, .ref xr, .ref xc])), (xf, .inr (6, [.ref f1, .ref f2, .int 0])), (f1, .inl (cI, 512, .inl (fun _ => (0 : Int32)))), (xs, .inr (6, [.ref s1, .ref s2, .int 0])), (s1, .inl (cI, 512, .inl (fun _ => (0 : Int32))))] (hP.sub [0, 1, 2, 4, 5] rfl) (hD.sub [0, 1, 2, 4, 5] (by decide) rfl) (Or.inl ⟨rfl, rfl, (by first | rfl | exact my_eqI (a := 0) (by omega) (by decide +kernel)), (by first | rfl | exact my_eqI (a := 0) (by omega) (by decide +kernel)), (by first | rfl | exact my_eqI (a := 0) (by omega) (by decide +kernel)), (by first | rfl | exact my_eqI (a := 0) (by omega) (by decide +kernel))⟩) dX8_takeBoth_49
        ·
          exact absurd c16 (by decide +kernel)
      ·
        refine lv_if_ne (tgt := 21) hx hb dX8_takeBoth_16 (by decide) (fun c16 => ?_) (fun c16 => ?_)
        ·
          exact absurd c16 (by decide +kernel)
        ·
          refine lv_iconst (v := 0) hx hb dX8_takeBoth_19 (by decide +kernel) ?_
          exact my_retZ hx hb hr hlocks (by decide +kernel) hK hS [] (hP.sub [] rfl) (hD.sub [] (by decide) rfl) (Or.inr (⟨rfl, rfl, (by first | omega | assumption | trivial | decide +kernel)⟩)) dX8_takeBoth_20
  ·
    refine lv_if_eq (tgt := 19) hx hb dX8_takeBoth_6 (by decide) (fun c6 => ?_) (fun c6 => ?_)
    ·
      refine lv_iconst (v := 0) hx hb dX8_takeBoth_19 (by decide +kernel) ?_
      exact my_retZ hx hb hr hlocks (by decide +kernel) hK hS [] (hP.sub [] rfl) (hD.sub [] (by decide) rfl) (Or.inr (⟨rfl, rfl, (by first | omega | assumption | trivial | decide +kernel)⟩)) dX8_takeBoth_20
    ·
      exact absurd c6 (by decide +kernel)
