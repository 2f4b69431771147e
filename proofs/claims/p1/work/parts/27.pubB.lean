set_option maxHeartbeats 4000000 in
set_option maxRecDepth 100000 in
theorem k0_X8_band (l : Launch) (D : va_G) (cI cJ : ClassId) (x0 : Nat) (xn : Nat) (xl : Nat) (xt : Nat) (xo : Nat) (xf : Nat) (xs : Nat) (xp : Nat) (xq : Nat) (xr : Nat) (xc : Nat) (f1 : Nat) (f2 : Nat) (f3 : Int32) (ff : Nat → Int32) (o1 : Nat) (o2 : Int32) (of : Nat → Int64) (l9 : Int32) (r9 : Int32) (a9 : Int32) (b9 : Int32) : ctI l yX8_band wsX8_band ({ frames := 4, cells := 0, slots := 0, locals := 240 } : Room) D (tyIJ cI cJ) [.ref x0, .int l9, .int r9, .int a9, .int b9] [(x0, .inr (8, [.ref xn, .int 0, .ref xl, .ref xt, .ref xo, .ref xf, .ref xs, .ref xp, .ref xq, .ref xr, .ref xc])), (xf, .inr (6, [.ref f1, .ref f2, .int f3])), (f1, .inl (cI, 512, .inl (fun _ => (0 : Int32)))), (f2, .inl (cI, 64, .inl ff)), (xo, .inr (7, [.ref o1, .int o2])), (o1, .inl (cJ, 64, .inr (.inl of)))] (fun (r : Int32) (u : va_W) => (u = [] ∧ r = 0 ∧ l9.toInt = 0 ∧ r9.toInt = 0 ∧ 0 ≤ a9.toInt ∧ b9.toInt ≤ 255 ∧ a9.toInt ≤ b9.toInt) ∨ (u = [] ∧ r = (-1) ∧ (l9.toInt < 0 ∨ r9.toInt < l9.toInt ∨ 0 < r9.toInt ∨ a9.toInt < 0 ∨ 255 < a9.toInt ∨ b9.toInt < 0 ∨ 255 < b9.toInt ∨ b9.toInt < a9.toInt))) := by
  refine ctI.of (cc := cX8_band) (maxL := 7) (ret := (some .int)) (by decide) rfl (Nat.le_of_ble_eq_true rfl) ?_
  intro p e s m below meth c ls A hx hb hr hts hown hml hlocks hname hA hK hN hP hD hS hl
  have hl : lv_has ls 7 [(0, .ref x0), (1, .int l9), (2, .int r9), (3, .int a9), (4, .int b9)] := hl
  have hown : s.vm.findClass RX8 = some m.cls := hown
  have hi8 : ∀ w ∈ u_ws RX8 TX8 11, w ∈ wsX8_band := by decide +kernel
  have fl41 := hts (.fieldLink RX8 41 "PlaneColumn" "first" "LPlaneColumn$Tally;") (by decide +kernel)
  have fl9 := hts (.fieldLink RX8 9 "PlaneColumn" "numbers" "[I") (by decide +kernel)
  refine lv_aload_n hx hb dX8_band_0 rfl (lv_at hl 0 rfl) ?_
  refine lv_iload_n hx hb dX8_band_1 rfl (lv_at hl 1 rfl) ?_
  refine lv_iload_n hx hb dX8_band_2 rfl (lv_at hl 2 rfl) ?_
  refine my_gpI (my_pV (As := [.int l9, .int r9]) (rest := []) (ci := 8) ⟨hx, hb, hml, hown, hts⟩ (cwV 2 hts gX8_band_X8_isSpan rfl rfl rfl (by decide +kernel) ⟨Nat.le_of_ble_eq_true rfl, Nat.le_of_ble_eq_true rfl⟩) hN hK hP [0] rfl 0 rfl rfl rfl rfl hl.1 rfl (Nat.le_of_ble_eq_true rfl) dX8_band_3 ⟨Nat.le_of_ble_eq_true rfl, Nat.le_of_ble_eq_true rfl⟩  (k0_X8_isSpan l D cI cJ x0 xn xl xt xo xf xs xp xq xr xc l9 r9)) (fun r hp => ?_)
  rcases hp with ⟨rfl, rfl, rfl⟩ | ⟨rfl, ha_1⟩
  ·
    refine lv_if_eq (tgt := 30) hx hb dX8_band_6 (by decide) (fun c6 => ?_) (fun c6 => ?_)
    ·
      exact absurd c6 (by decide +kernel)
    ·
      refine lv_iload_n hx hb dX8_band_9 rfl (lv_at hl 3 rfl) ?_
      refine my_gpI (my_pS (As := [.int a9]) (rest := []) ⟨hx, hb, hml, hown, hts⟩ (va_cwS 1 hts gX8_band_X8_isNumber rfl rfl rfl (by decide +kernel) ⟨Nat.le_of_ble_eq_true rfl, Nat.le_of_ble_eq_true rfl⟩) hN hK hP [] rfl rfl hl.1 rfl (Nat.le_of_ble_eq_true rfl) dX8_band_10 ⟨Nat.le_of_ble_eq_true rfl, Nat.le_of_ble_eq_true rfl⟩  (k_X8_isNumber l D cI cJ a9)) (fun r hp => ?_)
      rcases hp with ⟨rfl, hgv_2, hlv_3⟩ | ⟨rfl, ho_4⟩
      ·
        refine lv_if_eq (tgt := 30) hx hb dX8_band_13 (by decide) (fun c13 => ?_) (fun c13 => ?_)
        ·
          exact absurd c13 (by decide +kernel)
        ·
          refine lv_iload hx hb dX8_band_16 (lv_at hl 4 rfl) ?_
          refine my_gpI (my_pS (As := [.int b9]) (rest := []) ⟨hx, hb, hml, hown, hts⟩ (va_cwS 1 hts gX8_band_X8_isNumber rfl rfl rfl (by decide +kernel) ⟨Nat.le_of_ble_eq_true rfl, Nat.le_of_ble_eq_true rfl⟩) hN hK hP [] rfl rfl hl.1 rfl (Nat.le_of_ble_eq_true rfl) dX8_band_18 ⟨Nat.le_of_ble_eq_true rfl, Nat.le_of_ble_eq_true rfl⟩  (k_X8_isNumber l D cI cJ b9)) (fun r hp => ?_)
          rcases hp with ⟨rfl, hgv_5, hlv_6⟩ | ⟨rfl, ho_7⟩
          ·
            refine lv_if_eq (tgt := 30) hx hb dX8_band_21 (by decide) (fun c21 => ?_) (fun c21 => ?_)
            ·
              exact absurd c21 (by decide +kernel)
            ·
              refine lv_iload_n hx hb dX8_band_24 rfl (lv_at hl 3 rfl) ?_
              refine lv_iload hx hb dX8_band_25 (lv_at hl 4 rfl) ?_
              refine lv_icmp_le (tgt := 32) hx hb dX8_band_27 (by decide) (fun c27 => ?_) (fun c27 => ?_)
              ·
                have d27 : a9.toInt ≤ b9.toInt := my_le c27 rfl rfl
                refine lv_aload_n hx hb dX8_band_32 rfl (lv_at hl 0 rfl) ?_
                refine va_get (ci := 8) (v := .ref xf) (C := RX8) (T := TX8) (N := 11) hx hb hts hi8 hown hK hP 0 rfl rfl 5 (by decide) fl41 (fun _ h9 => h9) rfl dX8_band_33 ?_
                refine lv_aload_n hx hb dX8_band_36 rfl (lv_at hl 0 rfl) ?_
                refine va_get (ci := 8) (v := .ref xn) (C := RX8) (T := TX8) (N := 11) hx hb hts hi8 hown hK hP 0 rfl rfl 0 (by decide) fl9 (fun _ h9 => h9) rfl dX8_band_37 ?_
                refine lv_iload_n hx hb dX8_band_40 rfl (lv_at hl 1 rfl) ?_
                refine lv_iload_n hx hb dX8_band_41 rfl (lv_at hl 2 rfl) ?_
                refine my_goV (wr := [(x0, .inr (8, [.ref xn, .int 0, .ref xl, .ref xt, .ref xo, .ref xf, .ref xs, .ref xp, .ref xq, .ref xr, .ref xc])), (xo, .inr (7, [.ref o1, .int o2])), (o1, .inl (cJ, 64, .inr (.inl of)))]) hP hD hS hA [1, 2, 3] [0, 4, 5] rfl rfl (by decide) (by decide) (my_cV (As := [.ref xn, .int 0, .int 0]) (rest := []) (ci := 6) (wc := [(xf, .inr (6, [.ref f1, .ref f2, .int f3])), (f1, .inl (cI, 512, .inl (fun _ => (0 : Int32)))), (f2, .inl (cI, 64, .inl ff))]) ⟨hx, hb, hml, hown, hts⟩ (cwV 3 hts gX8_band_X6_take rfl rfl rfl (by decide +kernel) ⟨Nat.le_of_ble_eq_true rfl, Nat.le_of_ble_eq_true rfl⟩) hN hK hP hD [1, 2, 3] rfl (by decide) rfl 1 rfl rfl rfl rfl hl.1 rfl (Nat.le_of_ble_eq_true rfl) dX8_band_42 ⟨Nat.le_of_ble_eq_true rfl, Nat.le_of_ble_eq_true rfl⟩  ((k0_X6_take l D cI cJ xf f1 f2 xn f3 ff) _)) (fun u H locs hp hP hD hS => ?_)
                obtain rfl := hp
                have hP : va_P D vwCl [(x0, .inr (8, [.ref xn, .int 0, .ref xl, .ref xt, .ref xo, .ref xf, .ref xs, .ref xp, .ref xq, .ref xr, .ref xc])), (xo, .inr (7, [.ref o1, .int o2])), (o1, .inl (cJ, 64, .inr (.inl of))), (xf, .inr (6, [.ref f1, .ref f2, .int 0])), (f1, .inl (cI, 512, .inl (fun _ => (0 : Int32)))), (f2, .inl (cI, 64, .inl ff))] H := hP
                have hD : va_D A [(x0, .inr (8, [.ref xn, .int 0, .ref xl, .ref xt, .ref xo, .ref xf, .ref xs, .ref xp, .ref xq, .ref xr, .ref xc])), (xo, .inr (7, [.ref o1, .int o2])), (o1, .inl (cJ, 64, .inr (.inl of))), (xf, .inr (6, [.ref f1, .ref f2, .int 0])), (f1, .inl (cI, 512, .inl (fun _ => (0 : Int32)))), (f2, .inl (cI, 64, .inl ff))] := hD
                refine lv_iconst (v := 0) hx hb dX8_band_45 (by decide +kernel) ?_
                refine lv_istore (lv' := [(5, .int 0), (0, .ref x0), (1, .int 0), (2, .int 0), (3, .int a9), (4, .int b9)]) hx hb dX8_band_46 hl (by decide) rfl (fun ls hl => ?_)
                refine lv_iload_n hx hb dX8_band_48 rfl (lv_at hl 4 rfl) ?_
                refine lv_istore (lv' := [(6, .int a9), (5, .int 0), (0, .ref x0), (1, .int 0), (2, .int 0), (3, .int a9), (4, .int b9)]) hx hb dX8_band_49 hl (by decide) rfl (fun ls hl => ?_)
                have loop51 : ∀ (n9 : Nat) (x : Int32), (256 - x.toInt).toNat < n9 → (0 ≤ x.toInt) → (x.toInt ≤ 256) → ∀ (H : Heap) (locs : List Loc) (ls : Array Slot), va_P D vwCl [(x0, .inr (8, [.ref xn, .int 0, .ref xl, .ref xt, .ref xo, .ref xf, .ref xs, .ref xp, .ref xq, .ref xr, .ref xc])), (xf, .inr (6, [.ref f1, .ref f2, .int 0])), (f1, .inl (cI, 512, .inl (fun _ => (0 : Int32)))), (xo, .inr (7, [.ref o1, .int o2])), (o1, .inl (cJ, 64, .inr (.inl of)))] H → va_D A [(x0, .inr (8, [.ref xn, .int 0, .ref xl, .ref xt, .ref xo, .ref xf, .ref xs, .ref xp, .ref xq, .ref xr, .ref xc])), (xf, .inr (6, [.ref f1, .ref f2, .int 0])), (f1, .inl (cI, 512, .inl (fun _ => (0 : Int32)))), (xo, .inr (7, [.ref o1, .int o2])), (o1, .inl (cJ, 64, .inr (.inl of)))] → va_S A s.heap H locs → lv_has ls 7 [(6, .int x), (5, .int 0), (4, .int b9), (3, .int a9), (0, .ref x0)] → W p l e ({ frames := 4, cells := 0, slots := 0, locals := 240 } : Room) s m [.ref x0, .int (0 : Int32), .int (0 : Int32), .int a9, .int b9].toArray below meth c H locs 0 0 (MQ below (va_Qi (fun (r : Int32) (u : va_W) => (u = [] ∧ r = 0 ∧ (0 : Int32).toInt = 0 ∧ (0 : Int32).toInt = 0 ∧ 0 ≤ a9.toInt ∧ b9.toInt ≤ 255 ∧ a9.toInt ≤ b9.toInt) ∨ (u = [] ∧ r = (-1) ∧ ((0 : Int32).toInt < 0 ∨ (0 : Int32).toInt < (0 : Int32).toInt ∨ 0 < (0 : Int32).toInt ∨ a9.toInt < 0 ∨ 255 < a9.toInt ∨ b9.toInt < 0 ∨ 255 < b9.toInt ∨ b9.toInt < a9.toInt))) (my_B D (tyIJ cI cJ) A) A) [.ref x0, .int (0 : Int32), .int (0 : Int32), .int a9, .int b9].toArray s 0 0 A) (F0 m 51 ls []) := by
                  intro n9
                  induction n9 with
                  | zero =>
                    intro x hn9
                    exact absurd hn9 (Nat.not_lt_zero _)
                  | succ n9 ih51 =>
                    intro x hn9 hx0 hx1 H locs ls hP hD hS hl
                    refine lv_iload hx hb dX8_band_51 (lv_at hl 0 rfl) ?_
                    refine lv_iload hx hb dX8_band_53 (lv_at hl 2 rfl) ?_
                    refine lv_icmp_gt (tgt := 78) hx hb dX8_band_55 (by decide) (fun c55 => ?_) (fun c55 => ?_)
                    ·
                      have d55 : x.toInt > b9.toInt := my_gt c55 rfl rfl
                      refine lv_aload_n hx hb dX8_band_78 rfl (lv_at hl 4 rfl) ?_
                      refine lv_aload_n hx hb dX8_band_79 rfl (lv_at hl 4 rfl) ?_
                      refine va_get (ci := 8) (v := .ref xf) (C := RX8) (T := TX8) (N := 11) hx hb hts hi8 hown hK hP 0 rfl rfl 5 (by decide) fl41 (fun _ h9 => h9) rfl dX8_band_80 ?_
                      refine lv_iload_n hx hb dX8_band_83 rfl (lv_at hl 3 rfl) ?_
                      refine lv_iload hx hb dX8_band_84 (lv_at hl 2 rfl) ?_
                      refine my_gpI (my_pV (As := [.int a9, .int b9]) (rest := [.ref x0]) (ci := 6) ⟨hx, hb, hml, hown, hts⟩ (cwV 2 hts gX8_band_X6_visitsOfBand rfl rfl rfl (by decide +kernel) ⟨Nat.le_of_ble_eq_true rfl, Nat.le_of_ble_eq_true rfl⟩) hN hK hP [1, 2] rfl 1 rfl rfl rfl rfl hl.1 rfl (Nat.le_of_ble_eq_true rfl) dX8_band_86 ⟨Nat.le_of_ble_eq_true rfl, Nat.le_of_ble_eq_true rfl⟩  (k0_X6_visitsOfBand l D cI cJ xf f1 f2 (0 : Int32) a9 b9 (by first | omega | decide +kernel) (by first | omega | decide +kernel) (by first | omega | decide +kernel))) (fun r hp => ?_)
                      obtain rfl := hp
                      refine lv_i2l (v := 0) hx hb dX8_band_89 (by decide +kernel) ?_
                      refine my_goV (wr := [(xf, .inr (6, [.ref f1, .ref f2, .int 0])), (f1, .inl (cI, 512, .inl (fun _ => (0 : Int32))))]) hP hD hS hA [0, 3, 4] [1, 2] rfl rfl (by decide) (by decide) (my_cV (As := [.long 0]) (rest := []) (ci := 8) (wc := [(x0, .inr (8, [.ref xn, .int 0, .ref xl, .ref xt, .ref xo, .ref xf, .ref xs, .ref xp, .ref xq, .ref xr, .ref xc])), (xo, .inr (7, [.ref o1, .int o2])), (o1, .inl (cJ, 64, .inr (.inl of)))]) ⟨hx, hb, hml, hown, hts⟩ (cwV 1 hts gX8_band_X8_tell rfl rfl rfl (by decide +kernel) ⟨Nat.le_of_ble_eq_true rfl, Nat.le_of_ble_eq_true rfl⟩) hN hK hP hD [0, 3, 4] rfl (by decide) rfl 0 rfl rfl rfl rfl hl.1 rfl (Nat.le_of_ble_eq_true rfl) dX8_band_90 ⟨Nat.le_of_ble_eq_true rfl, Nat.le_of_ble_eq_true rfl⟩  ((k_X8_tell l D cI cJ x0 xn xl xt xo xf xs xp xq xr xc o1 (0 : Int32) o2 of (0 : Int64)) _)) (fun u H locs hp hP hD hS => ?_)
                      obtain ⟨k_8, f_9, rfl, ha_10⟩ := hp
                      have hP : va_P D vwCl [(xf, .inr (6, [.ref f1, .ref f2, .int 0])), (f1, .inl (cI, 512, .inl (fun _ => (0 : Int32)))), (x0, .inr (8, [.ref xn, .int 0, .ref xl, .ref xt, .ref xo, .ref xf, .ref xs, .ref xp, .ref xq, .ref xr, .ref xc])), (xo, .inr (7, [.ref o1, .int (nI k_8)])), (o1, .inl (cJ, 64, .inr (.inl f_9)))] H := hP
                      have hD : va_D A [(xf, .inr (6, [.ref f1, .ref f2, .int 0])), (f1, .inl (cI, 512, .inl (fun _ => (0 : Int32)))), (x0, .inr (8, [.ref xn, .int 0, .ref xl, .ref xt, .ref xo, .ref xf, .ref xs, .ref xp, .ref xq, .ref xr, .ref xc])), (xo, .inr (7, [.ref o1, .int (nI k_8)])), (o1, .inl (cJ, 64, .inr (.inl f_9)))] := hD
                      refine lv_iload hx hb dX8_band_93 (lv_at hl 1 rfl) ?_
                      exact my_retI hx hb hr hlocks hK hS [] (hP.sub [] rfl) (hD.sub [] (by decide) rfl) (Or.inl ⟨rfl, rfl, (by first | omega | assumption | trivial | decide +kernel), (by first | omega | assumption | trivial | decide +kernel), (by first | omega | assumption | trivial | decide +kernel), (by first | omega | assumption | trivial | decide +kernel), (by first | omega | assumption | trivial | decide +kernel)⟩) dX8_band_95
                    ·
                      have d55 : x.toInt ≤ b9.toInt := my_ngt c55 rfl rfl
                      refine lv_iload hx hb dX8_band_58 (lv_at hl 1 rfl) ?_
                      refine lv_aload_n hx hb dX8_band_60 rfl (lv_at hl 4 rfl) ?_
                      refine va_get (ci := 8) (v := .ref xf) (C := RX8) (T := TX8) (N := 11) hx hb hts hi8 hown hK hP 0 rfl rfl 5 (by decide) fl41 (fun _ h9 => h9) rfl dX8_band_61 ?_
                      refine lv_iload hx hb dX8_band_64 (lv_at hl 0 rfl) ?_
                      refine my_gpI (my_pV (As := [.int x]) (rest := [.int 0]) (ci := 6) ⟨hx, hb, hml, hown, hts⟩ (cwV 1 hts gX8_band_X6_timesOf rfl rfl rfl (by decide +kernel) ⟨Nat.le_of_ble_eq_true rfl, Nat.le_of_ble_eq_true rfl⟩) hN hK hP [1, 2] rfl 1 rfl rfl rfl rfl hl.1 rfl (Nat.le_of_ble_eq_true rfl) dX8_band_66 ⟨Nat.le_of_ble_eq_true rfl, Nat.le_of_ble_eq_true rfl⟩  (k0_X6_timesOf l D cI cJ xf f1 f2 (0 : Int32) x)) (fun r hp => ?_)
                      obtain rfl := hp
                      refine lv_iadd hx hb dX8_band_69 ?_
                      refine my_eqi (y := 0) (by decide +kernel) ?_
                      refine lv_istore (lv' := [(5, .int 0), (6, .int x), (4, .int b9), (3, .int a9), (0, .ref x0)]) hx hb dX8_band_70 hl (by decide) rfl (fun ls hl => ?_)
                      obtain ⟨z_11, ez_11⟩ : ∃ y : Int32, y = x + (1) := ⟨_, rfl⟩
                      have tz_11 : z_11.toInt = x.toInt + (1) := by rw [ez_11]; exact my_addI rfl (by decide +kernel) (by omega) (by omega)
                      refine lv_iinc (v := z_11) (lv' := [(6, .int z_11), (5, .int 0), (4, .int b9), (3, .int a9), (0, .ref x0)]) hx hb dX8_band_72 hl (k := 1) rfl (by rw [ez_11]; rfl) (by decide) rfl (fun ls hl => ?_)
                      refine lv_goto (tgt := 51) hx hb dX8_band_75 (by decide) ?_
                      exact ih51  z_11 (by omega) (by omega) (by omega) _ _ ls (hP.sub [0, 1, 2, 3, 4] rfl) (hD.sub [0, 1, 2, 3, 4] (by decide) rfl) hS (lv_sub hl [0, 1, 2, 3, 4] rfl)
                exact loop51 (((256 - a9.toInt).toNat) + 1) a9 (Nat.lt_succ_self _) (by first | omega | decide +kernel) (by first | omega | decide +kernel) _ _ ls (hP.sub [0, 3, 4, 1, 2] rfl) (hD.sub [0, 3, 4, 1, 2] (by decide) rfl) hS (lv_sub hl [0, 1, 6, 5, 2] rfl)
              ·
                have d27 : a9.toInt > b9.toInt := my_nle c27 rfl rfl
                refine lv_iconst (v := (-1)) hx hb dX8_band_30 (by decide +kernel) ?_
                exact my_retI hx hb hr hlocks hK hS [] (hP.sub [] rfl) (hD.sub [] (by decide) rfl) (Or.inr (⟨rfl, rfl, (by first | omega | assumption | trivial | decide +kernel)⟩)) dX8_band_31
          ·
            refine lv_if_eq (tgt := 30) hx hb dX8_band_21 (by decide) (fun c21 => ?_) (fun c21 => ?_)
            ·
              refine lv_iconst (v := (-1)) hx hb dX8_band_30 (by decide +kernel) ?_
              exact my_retI hx hb hr hlocks hK hS [] (hP.sub [] rfl) (hD.sub [] (by decide) rfl) (Or.inr (⟨rfl, rfl, (by first | omega | assumption | trivial | decide +kernel)⟩)) dX8_band_31
            ·
              exact absurd c21 (by decide +kernel)
      ·
        refine lv_if_eq (tgt := 30) hx hb dX8_band_13 (by decide) (fun c13 => ?_) (fun c13 => ?_)
        ·
          refine lv_iconst (v := (-1)) hx hb dX8_band_30 (by decide +kernel) ?_
          exact my_retI hx hb hr hlocks hK hS [] (hP.sub [] rfl) (hD.sub [] (by decide) rfl) (Or.inr (⟨rfl, rfl, (by first | omega | assumption | trivial | decide +kernel)⟩)) dX8_band_31
        ·
          exact absurd c13 (by decide +kernel)
  ·
    refine lv_if_eq (tgt := 30) hx hb dX8_band_6 (by decide) (fun c6 => ?_) (fun c6 => ?_)
    ·
      refine lv_iconst (v := (-1)) hx hb dX8_band_30 (by decide +kernel) ?_
      exact my_retI hx hb hr hlocks hK hS [] (hP.sub [] rfl) (hD.sub [] (by decide) rfl) (Or.inr (⟨rfl, rfl, (by first | omega | assumption | trivial | decide +kernel)⟩)) dX8_band_31
    ·
      exact absurd c6 (by decide +kernel)
set_option maxHeartbeats 4000000 in
set_option maxRecDepth 100000 in
theorem k0_X8_below (l : Launch) (D : va_G) (cI cJ : ClassId) (x0 : Nat) (xn : Nat) (xl : Nat) (xt : Nat) (xo : Nat) (xf : Nat) (xs : Nat) (xp : Nat) (xq : Nat) (xr : Nat) (xc : Nat) (f1 : Nat) (f2 : Nat) (f3 : Int32) (ff : Nat → Int32) (o1 : Nat) (o2 : Int32) (of : Nat → Int64) (l9 : Int32) (r9 : Int32) (v9 : Int32) : ctI l yX8_below wsX8_below ({ frames := 4, cells := 0, slots := 0, locals := 240 } : Room) D (tyIJ cI cJ) [.ref x0, .int l9, .int r9, .int v9] [(x0, .inr (8, [.ref xn, .int 0, .ref xl, .ref xt, .ref xo, .ref xf, .ref xs, .ref xp, .ref xq, .ref xr, .ref xc])), (xf, .inr (6, [.ref f1, .ref f2, .int f3])), (f1, .inl (cI, 512, .inl (fun _ => (0 : Int32)))), (f2, .inl (cI, 64, .inl ff)), (xo, .inr (7, [.ref o1, .int o2])), (o1, .inl (cJ, 64, .inr (.inl of)))] (fun (r : Int32) (u : va_W) => (u = [] ∧ r = (-2) ∧ l9.toInt = 0 ∧ r9.toInt = 0 ∧ 1 ≤ v9.toInt ∧ v9.toInt ≤ 256) ∨ (u = [] ∧ r = (-1) ∧ (l9.toInt < 0 ∨ r9.toInt < l9.toInt ∨ 0 < r9.toInt ∨ v9.toInt < 1 ∨ 256 < v9.toInt))) := by
  refine ctI.of (cc := cX8_below) (maxL := 5) (ret := (some .int)) (by decide) rfl (Nat.le_of_ble_eq_true rfl) ?_
  intro p e s m below meth c ls A hx hb hr hts hown hml hlocks hname hA hK hN hP hD hS hl
  have hl : lv_has ls 5 [(0, .ref x0), (1, .int l9), (2, .int r9), (3, .int v9)] := hl
  have hown : s.vm.findClass RX8 = some m.cls := hown
  have hi8 : ∀ w ∈ u_ws RX8 TX8 11, w ∈ wsX8_below := by decide +kernel
  have fl41 := hts (.fieldLink RX8 41 "PlaneColumn" "first" "LPlaneColumn$Tally;") (by decide +kernel)
  have fl9 := hts (.fieldLink RX8 9 "PlaneColumn" "numbers" "[I") (by decide +kernel)
  refine lv_aload_n hx hb dX8_below_0 rfl (lv_at hl 0 rfl) ?_
  refine lv_iload_n hx hb dX8_below_1 rfl (lv_at hl 1 rfl) ?_
  refine lv_iload_n hx hb dX8_below_2 rfl (lv_at hl 2 rfl) ?_
  refine my_gpI (my_pV (As := [.int l9, .int r9]) (rest := []) (ci := 8) ⟨hx, hb, hml, hown, hts⟩ (cwV 2 hts gX8_below_X8_isSpan rfl rfl rfl (by decide +kernel) ⟨Nat.le_of_ble_eq_true rfl, Nat.le_of_ble_eq_true rfl⟩) hN hK hP [0] rfl 0 rfl rfl rfl rfl hl.1 rfl (Nat.le_of_ble_eq_true rfl) dX8_below_3 ⟨Nat.le_of_ble_eq_true rfl, Nat.le_of_ble_eq_true rfl⟩  (k0_X8_isSpan l D cI cJ x0 xn xl xt xo xf xs xp xq xr xc l9 r9)) (fun r hp => ?_)
  rcases hp with ⟨rfl, rfl, rfl⟩ | ⟨rfl, ha_1⟩
  ·
    refine lv_if_eq (tgt := 21) hx hb dX8_below_6 (by decide) (fun c6 => ?_) (fun c6 => ?_)
    ·
      exact absurd c6 (by decide +kernel)
    ·
      refine lv_iload_n hx hb dX8_below_9 rfl (lv_at hl 3 rfl) ?_
      refine lv_iconst (v := 1) hx hb dX8_below_10 (by decide +kernel) ?_
      refine lv_icmp_lt (tgt := 21) hx hb dX8_below_11 (by decide) (fun c11 => ?_) (fun c11 => ?_)
      ·
        have d11 : v9.toInt < (1 : Int) := my_lt c11 rfl (by decide +kernel)
        refine lv_iconst (v := (-1)) hx hb dX8_below_21 (by decide +kernel) ?_
        exact my_retI hx hb hr hlocks hK hS [] (hP.sub [] rfl) (hD.sub [] (by decide) rfl) (Or.inr (⟨rfl, rfl, (by first | omega | assumption | trivial | decide +kernel)⟩)) dX8_below_22
      ·
        have d11 : v9.toInt ≥ (1 : Int) := my_nlt c11 rfl (by decide +kernel)
        refine lv_iload_n hx hb dX8_below_14 rfl (lv_at hl 3 rfl) ?_
        refine lv_sipush (v := 256) hx hb dX8_below_15 (by decide +kernel) ?_
        refine lv_icmp_le (tgt := 23) hx hb dX8_below_18 (by decide) (fun c18 => ?_) (fun c18 => ?_)
        ·
          have d18 : v9.toInt ≤ (256 : Int) := my_le c18 rfl (by decide +kernel)
          refine lv_aload_n hx hb dX8_below_23 rfl (lv_at hl 0 rfl) ?_
          refine va_get (ci := 8) (v := .ref xf) (C := RX8) (T := TX8) (N := 11) hx hb hts hi8 hown hK hP 0 rfl rfl 5 (by decide) fl41 (fun _ h9 => h9) rfl dX8_below_24 ?_
          refine lv_aload_n hx hb dX8_below_27 rfl (lv_at hl 0 rfl) ?_
          refine va_get (ci := 8) (v := .ref xn) (C := RX8) (T := TX8) (N := 11) hx hb hts hi8 hown hK hP 0 rfl rfl 0 (by decide) fl9 (fun _ h9 => h9) rfl dX8_below_28 ?_
          refine lv_iload_n hx hb dX8_below_31 rfl (lv_at hl 1 rfl) ?_
          refine lv_iload_n hx hb dX8_below_32 rfl (lv_at hl 2 rfl) ?_
          refine my_goV (wr := [(x0, .inr (8, [.ref xn, .int 0, .ref xl, .ref xt, .ref xo, .ref xf, .ref xs, .ref xp, .ref xq, .ref xr, .ref xc])), (xo, .inr (7, [.ref o1, .int o2])), (o1, .inl (cJ, 64, .inr (.inl of)))]) hP hD hS hA [1, 2, 3] [0, 4, 5] rfl rfl (by decide) (by decide) (my_cV (As := [.ref xn, .int 0, .int 0]) (rest := []) (ci := 6) (wc := [(xf, .inr (6, [.ref f1, .ref f2, .int f3])), (f1, .inl (cI, 512, .inl (fun _ => (0 : Int32)))), (f2, .inl (cI, 64, .inl ff))]) ⟨hx, hb, hml, hown, hts⟩ (cwV 3 hts gX8_below_X6_take rfl rfl rfl (by decide +kernel) ⟨Nat.le_of_ble_eq_true rfl, Nat.le_of_ble_eq_true rfl⟩) hN hK hP hD [1, 2, 3] rfl (by decide) rfl 1 rfl rfl rfl rfl hl.1 rfl (Nat.le_of_ble_eq_true rfl) dX8_below_33 ⟨Nat.le_of_ble_eq_true rfl, Nat.le_of_ble_eq_true rfl⟩  ((k0_X6_take l D cI cJ xf f1 f2 xn f3 ff) _)) (fun u H locs hp hP hD hS => ?_)
          obtain rfl := hp
          have hP : va_P D vwCl [(x0, .inr (8, [.ref xn, .int 0, .ref xl, .ref xt, .ref xo, .ref xf, .ref xs, .ref xp, .ref xq, .ref xr, .ref xc])), (xo, .inr (7, [.ref o1, .int o2])), (o1, .inl (cJ, 64, .inr (.inl of))), (xf, .inr (6, [.ref f1, .ref f2, .int 0])), (f1, .inl (cI, 512, .inl (fun _ => (0 : Int32)))), (f2, .inl (cI, 64, .inl ff))] H := hP
          have hD : va_D A [(x0, .inr (8, [.ref xn, .int 0, .ref xl, .ref xt, .ref xo, .ref xf, .ref xs, .ref xp, .ref xq, .ref xr, .ref xc])), (xo, .inr (7, [.ref o1, .int o2])), (o1, .inl (cJ, 64, .inr (.inl of))), (xf, .inr (6, [.ref f1, .ref f2, .int 0])), (f1, .inl (cI, 512, .inl (fun _ => (0 : Int32)))), (f2, .inl (cI, 64, .inl ff))] := hD
          refine lv_iload_n hx hb dX8_below_36 rfl (lv_at hl 3 rfl) ?_
          refine lv_iconst (v := 1) hx hb dX8_below_37 (by decide +kernel) ?_
          refine lv_isub hx hb dX8_below_38 ?_
          refine lv_topi (fun z_2 ez_2 => ?_)
          have tz_2 : z_2.toInt = v9.toInt - (1 : Int) := by rw [ez_2]; exact my_subI rfl (by decide +kernel) (by omega) (by omega)
          refine lv_istore (lv' := [(4, .int z_2), (0, .ref x0), (1, .int 0), (2, .int 0), (3, .int v9)]) hx hb dX8_below_39 hl (by decide) rfl (fun ls hl => ?_)
          have loop41 : ∀ (n9 : Nat) (x : Int32), (x.toInt + 1).toNat < n9 → (-1 ≤ x.toInt) → (x.toInt ≤ 256) → ∀ (H : Heap) (locs : List Loc) (ls : Array Slot), va_P D vwCl [(x0, .inr (8, [.ref xn, .int 0, .ref xl, .ref xt, .ref xo, .ref xf, .ref xs, .ref xp, .ref xq, .ref xr, .ref xc])), (xf, .inr (6, [.ref f1, .ref f2, .int 0])), (f1, .inl (cI, 512, .inl (fun _ => (0 : Int32)))), (xo, .inr (7, [.ref o1, .int o2])), (o1, .inl (cJ, 64, .inr (.inl of)))] H → va_D A [(x0, .inr (8, [.ref xn, .int 0, .ref xl, .ref xt, .ref xo, .ref xf, .ref xs, .ref xp, .ref xq, .ref xr, .ref xc])), (xf, .inr (6, [.ref f1, .ref f2, .int 0])), (f1, .inl (cI, 512, .inl (fun _ => (0 : Int32)))), (xo, .inr (7, [.ref o1, .int o2])), (o1, .inl (cJ, 64, .inr (.inl of)))] → va_S A s.heap H locs → lv_has ls 5 [(4, .int x), (0, .ref x0)] → W p l e ({ frames := 4, cells := 0, slots := 0, locals := 240 } : Room) s m [.ref x0, .int (0 : Int32), .int (0 : Int32), .int v9].toArray below meth c H locs 0 0 (MQ below (va_Qi (fun (r : Int32) (u : va_W) => (u = [] ∧ r = (-2) ∧ (0 : Int32).toInt = 0 ∧ (0 : Int32).toInt = 0 ∧ 1 ≤ v9.toInt ∧ v9.toInt ≤ 256) ∨ (u = [] ∧ r = (-1) ∧ ((0 : Int32).toInt < 0 ∨ (0 : Int32).toInt < (0 : Int32).toInt ∨ 0 < (0 : Int32).toInt ∨ v9.toInt < 1 ∨ 256 < v9.toInt))) (my_B D (tyIJ cI cJ) A) A) [.ref x0, .int (0 : Int32), .int (0 : Int32), .int v9].toArray s 0 0 A) (F0 m 41 ls []) := by
            intro n9
            induction n9 with
            | zero =>
              intro x hn9
              exact absurd hn9 (Nat.not_lt_zero _)
            | succ n9 ih41 =>
              intro x hn9 hx0 hx1 H locs ls hP hD hS hl
              refine lv_iload hx hb dX8_below_41 (lv_at hl 0 rfl) ?_
              refine lv_if_lt (tgt := 81) hx hb dX8_below_43 (by decide) (fun c43 => ?_) (fun c43 => ?_)
              ·
                have d43 : x.toInt < (0 : Int) := my_lt c43 rfl (by decide +kernel)
                refine lv_bipush (v := (-2)) hx hb dX8_below_81 (by decide +kernel) ?_
                exact my_retI hx hb hr hlocks hK hS [] (hP.sub [] rfl) (hD.sub [] (by decide) rfl) (Or.inl ⟨rfl, rfl, (by first | omega | assumption | trivial | decide +kernel), (by first | omega | assumption | trivial | decide +kernel), (by first | omega | assumption | trivial | decide +kernel), (by first | omega | assumption | trivial | decide +kernel)⟩) dX8_below_83
              ·
                have d43 : x.toInt ≥ (0 : Int) := my_nlt c43 rfl (by decide +kernel)
                refine lv_aload_n hx hb dX8_below_46 rfl (lv_at hl 1 rfl) ?_
                refine va_get (ci := 8) (v := .ref xf) (C := RX8) (T := TX8) (N := 11) hx hb hts hi8 hown hK hP 0 rfl rfl 5 (by decide) fl41 (fun _ h9 => h9) rfl dX8_below_47 ?_
                refine lv_iload hx hb dX8_below_50 (lv_at hl 0 rfl) ?_
                refine my_gpI (my_pV (As := [.int x]) (rest := []) (ci := 6) ⟨hx, hb, hml, hown, hts⟩ (cwV 1 hts gX8_below_X6_timesOf rfl rfl rfl (by decide +kernel) ⟨Nat.le_of_ble_eq_true rfl, Nat.le_of_ble_eq_true rfl⟩) hN hK hP [1, 2] rfl 1 rfl rfl rfl rfl hl.1 rfl (Nat.le_of_ble_eq_true rfl) dX8_below_52 ⟨Nat.le_of_ble_eq_true rfl, Nat.le_of_ble_eq_true rfl⟩  (k0_X6_timesOf l D cI cJ xf f1 f2 (0 : Int32) x)) (fun r hp => ?_)
                obtain rfl := hp
                refine lv_if_le (tgt := 75) hx hb dX8_below_55 (by decide) (fun c55 => ?_) (fun c55 => ?_)
                ·
                  obtain ⟨z_3, ez_3⟩ : ∃ y : Int32, y = x + (-1) := ⟨_, rfl⟩
                  have tz_3 : z_3.toInt = x.toInt + (-1) := by rw [ez_3]; exact my_addI rfl (by decide +kernel) (by omega) (by omega)
                  refine lv_iinc (v := z_3) (lv' := [(4, .int z_3), (0, .ref x0)]) hx hb dX8_below_75 hl (k := 0) rfl (by rw [ez_3]; rfl) (by decide) rfl (fun ls hl => ?_)
                  refine lv_goto (tgt := 41) hx hb dX8_below_78 (by decide) ?_
                  exact ih41  z_3 (by omega) (by omega) (by omega) _ _ ls (hP.sub [0, 1, 2, 3, 4] rfl) (hD.sub [0, 1, 2, 3, 4] (by decide) rfl) hS (lv_sub hl [0, 1] rfl)
                ·
                  exact absurd c55 (by decide +kernel)
          exact loop41 (((z_2.toInt + 1).toNat) + 1) z_2 (Nat.lt_succ_self _) (by first | omega | decide +kernel) (by first | omega | decide +kernel) _ _ ls (hP.sub [0, 3, 4, 1, 2] rfl) (hD.sub [0, 3, 4, 1, 2] (by decide) rfl) hS (lv_sub hl [0, 1] rfl)
        ·
          have d18 : v9.toInt > (256 : Int) := my_nle c18 rfl (by decide +kernel)
          refine lv_iconst (v := (-1)) hx hb dX8_below_21 (by decide +kernel) ?_
          exact my_retI hx hb hr hlocks hK hS [] (hP.sub [] rfl) (hD.sub [] (by decide) rfl) (Or.inr (⟨rfl, rfl, (by first | omega | assumption | trivial | decide +kernel)⟩)) dX8_below_22
  ·
    refine lv_if_eq (tgt := 21) hx hb dX8_below_6 (by decide) (fun c6 => ?_) (fun c6 => ?_)
    ·
      refine lv_iconst (v := (-1)) hx hb dX8_below_21 (by decide +kernel) ?_
      exact my_retI hx hb hr hlocks hK hS [] (hP.sub [] rfl) (hD.sub [] (by decide) rfl) (Or.inr (⟨rfl, rfl, (by first | omega | assumption | trivial | decide +kernel)⟩)) dX8_below_22
    ·
      exact absurd c6 (by decide +kernel)
set_option maxHeartbeats 4000000 in
set_option maxRecDepth 100000 in
theorem k0_X8_above (l : Launch) (D : va_G) (cI cJ : ClassId) (x0 : Nat) (xn : Nat) (xl : Nat) (xt : Nat) (xo : Nat) (xf : Nat) (xs : Nat) (xp : Nat) (xq : Nat) (xr : Nat) (xc : Nat) (f1 : Nat) (f2 : Nat) (f3 : Int32) (ff : Nat → Int32) (o1 : Nat) (o2 : Int32) (of : Nat → Int64) (l9 : Int32) (r9 : Int32) (v9 : Int32) : ctI l yX8_above wsX8_above ({ frames := 4, cells := 0, slots := 0, locals := 240 } : Room) D (tyIJ cI cJ) [.ref x0, .int l9, .int r9, .int v9] [(x0, .inr (8, [.ref xn, .int 0, .ref xl, .ref xt, .ref xo, .ref xf, .ref xs, .ref xp, .ref xq, .ref xr, .ref xc])), (xf, .inr (6, [.ref f1, .ref f2, .int f3])), (f1, .inl (cI, 512, .inl (fun _ => (0 : Int32)))), (f2, .inl (cI, 64, .inl ff)), (xo, .inr (7, [.ref o1, .int o2])), (o1, .inl (cJ, 64, .inr (.inl of)))] (fun (r : Int32) (u : va_W) => (u = [] ∧ r = (-2) ∧ l9.toInt = 0 ∧ r9.toInt = 0 ∧ -1 ≤ v9.toInt ∧ v9.toInt ≤ 254) ∨ (u = [] ∧ r = (-1) ∧ (l9.toInt < 0 ∨ r9.toInt < l9.toInt ∨ 0 < r9.toInt ∨ v9.toInt < -1 ∨ 254 < v9.toInt))) := by
  refine ctI.of (cc := cX8_above) (maxL := 5) (ret := (some .int)) (by decide) rfl (Nat.le_of_ble_eq_true rfl) ?_
  intro p e s m below meth c ls A hx hb hr hts hown hml hlocks hname hA hK hN hP hD hS hl
  have hl : lv_has ls 5 [(0, .ref x0), (1, .int l9), (2, .int r9), (3, .int v9)] := hl
  have hown : s.vm.findClass RX8 = some m.cls := hown
  have hi8 : ∀ w ∈ u_ws RX8 TX8 11, w ∈ wsX8_above := by decide +kernel
  have fl41 := hts (.fieldLink RX8 41 "PlaneColumn" "first" "LPlaneColumn$Tally;") (by decide +kernel)
  have fl9 := hts (.fieldLink RX8 9 "PlaneColumn" "numbers" "[I") (by decide +kernel)
  refine lv_aload_n hx hb dX8_above_0 rfl (lv_at hl 0 rfl) ?_
  refine lv_iload_n hx hb dX8_above_1 rfl (lv_at hl 1 rfl) ?_
  refine lv_iload_n hx hb dX8_above_2 rfl (lv_at hl 2 rfl) ?_
  refine my_gpI (my_pV (As := [.int l9, .int r9]) (rest := []) (ci := 8) ⟨hx, hb, hml, hown, hts⟩ (cwV 2 hts gX8_above_X8_isSpan rfl rfl rfl (by decide +kernel) ⟨Nat.le_of_ble_eq_true rfl, Nat.le_of_ble_eq_true rfl⟩) hN hK hP [0] rfl 0 rfl rfl rfl rfl hl.1 rfl (Nat.le_of_ble_eq_true rfl) dX8_above_3 ⟨Nat.le_of_ble_eq_true rfl, Nat.le_of_ble_eq_true rfl⟩  (k0_X8_isSpan l D cI cJ x0 xn xl xt xo xf xs xp xq xr xc l9 r9)) (fun r hp => ?_)
  rcases hp with ⟨rfl, rfl, rfl⟩ | ⟨rfl, ha_1⟩
  ·
    refine lv_if_eq (tgt := 21) hx hb dX8_above_6 (by decide) (fun c6 => ?_) (fun c6 => ?_)
    ·
      exact absurd c6 (by decide +kernel)
    ·
      refine lv_iload_n hx hb dX8_above_9 rfl (lv_at hl 3 rfl) ?_
      refine lv_iconst (v := (-1)) hx hb dX8_above_10 (by decide +kernel) ?_
      refine lv_icmp_lt (tgt := 21) hx hb dX8_above_11 (by decide) (fun c11 => ?_) (fun c11 => ?_)
      ·
        have d11 : v9.toInt < (-1 : Int) := my_lt c11 rfl (by decide +kernel)
        refine lv_iconst (v := (-1)) hx hb dX8_above_21 (by decide +kernel) ?_
        exact my_retI hx hb hr hlocks hK hS [] (hP.sub [] rfl) (hD.sub [] (by decide) rfl) (Or.inr (⟨rfl, rfl, (by first | omega | assumption | trivial | decide +kernel)⟩)) dX8_above_22
      ·
        have d11 : v9.toInt ≥ (-1 : Int) := my_nlt c11 rfl (by decide +kernel)
        refine lv_iload_n hx hb dX8_above_14 rfl (lv_at hl 3 rfl) ?_
        refine lv_sipush (v := 254) hx hb dX8_above_15 (by decide +kernel) ?_
        refine lv_icmp_le (tgt := 23) hx hb dX8_above_18 (by decide) (fun c18 => ?_) (fun c18 => ?_)
        ·
          have d18 : v9.toInt ≤ (254 : Int) := my_le c18 rfl (by decide +kernel)
          refine lv_aload_n hx hb dX8_above_23 rfl (lv_at hl 0 rfl) ?_
          refine va_get (ci := 8) (v := .ref xf) (C := RX8) (T := TX8) (N := 11) hx hb hts hi8 hown hK hP 0 rfl rfl 5 (by decide) fl41 (fun _ h9 => h9) rfl dX8_above_24 ?_
          refine lv_aload_n hx hb dX8_above_27 rfl (lv_at hl 0 rfl) ?_
          refine va_get (ci := 8) (v := .ref xn) (C := RX8) (T := TX8) (N := 11) hx hb hts hi8 hown hK hP 0 rfl rfl 0 (by decide) fl9 (fun _ h9 => h9) rfl dX8_above_28 ?_
          refine lv_iload_n hx hb dX8_above_31 rfl (lv_at hl 1 rfl) ?_
          refine lv_iload_n hx hb dX8_above_32 rfl (lv_at hl 2 rfl) ?_
          refine my_goV (wr := [(x0, .inr (8, [.ref xn, .int 0, .ref xl, .ref xt, .ref xo, .ref xf, .ref xs, .ref xp, .ref xq, .ref xr, .ref xc])), (xo, .inr (7, [.ref o1, .int o2])), (o1, .inl (cJ, 64, .inr (.inl of)))]) hP hD hS hA [1, 2, 3] [0, 4, 5] rfl rfl (by decide) (by decide) (my_cV (As := [.ref xn, .int 0, .int 0]) (rest := []) (ci := 6) (wc := [(xf, .inr (6, [.ref f1, .ref f2, .int f3])), (f1, .inl (cI, 512, .inl (fun _ => (0 : Int32)))), (f2, .inl (cI, 64, .inl ff))]) ⟨hx, hb, hml, hown, hts⟩ (cwV 3 hts gX8_above_X6_take rfl rfl rfl (by decide +kernel) ⟨Nat.le_of_ble_eq_true rfl, Nat.le_of_ble_eq_true rfl⟩) hN hK hP hD [1, 2, 3] rfl (by decide) rfl 1 rfl rfl rfl rfl hl.1 rfl (Nat.le_of_ble_eq_true rfl) dX8_above_33 ⟨Nat.le_of_ble_eq_true rfl, Nat.le_of_ble_eq_true rfl⟩  ((k0_X6_take l D cI cJ xf f1 f2 xn f3 ff) _)) (fun u H locs hp hP hD hS => ?_)
          obtain rfl := hp
          have hP : va_P D vwCl [(x0, .inr (8, [.ref xn, .int 0, .ref xl, .ref xt, .ref xo, .ref xf, .ref xs, .ref xp, .ref xq, .ref xr, .ref xc])), (xo, .inr (7, [.ref o1, .int o2])), (o1, .inl (cJ, 64, .inr (.inl of))), (xf, .inr (6, [.ref f1, .ref f2, .int 0])), (f1, .inl (cI, 512, .inl (fun _ => (0 : Int32)))), (f2, .inl (cI, 64, .inl ff))] H := hP
          have hD : va_D A [(x0, .inr (8, [.ref xn, .int 0, .ref xl, .ref xt, .ref xo, .ref xf, .ref xs, .ref xp, .ref xq, .ref xr, .ref xc])), (xo, .inr (7, [.ref o1, .int o2])), (o1, .inl (cJ, 64, .inr (.inl of))), (xf, .inr (6, [.ref f1, .ref f2, .int 0])), (f1, .inl (cI, 512, .inl (fun _ => (0 : Int32)))), (f2, .inl (cI, 64, .inl ff))] := hD
          refine lv_iload_n hx hb dX8_above_36 rfl (lv_at hl 3 rfl) ?_
          refine lv_iconst (v := 1) hx hb dX8_above_37 (by decide +kernel) ?_
          refine lv_iadd hx hb dX8_above_38 ?_
          refine lv_topi (fun z_2 ez_2 => ?_)
          have tz_2 : z_2.toInt = v9.toInt + (1 : Int) := by rw [ez_2]; exact my_addI rfl (by decide +kernel) (by omega) (by omega)
          refine lv_istore (lv' := [(4, .int z_2), (0, .ref x0), (1, .int 0), (2, .int 0), (3, .int v9)]) hx hb dX8_above_39 hl (by decide) rfl (fun ls hl => ?_)
          have loop41 : ∀ (n9 : Nat) (x : Int32), (256 - x.toInt).toNat < n9 → (0 ≤ x.toInt) → (x.toInt ≤ 256) → ∀ (H : Heap) (locs : List Loc) (ls : Array Slot), va_P D vwCl [(x0, .inr (8, [.ref xn, .int 0, .ref xl, .ref xt, .ref xo, .ref xf, .ref xs, .ref xp, .ref xq, .ref xr, .ref xc])), (xf, .inr (6, [.ref f1, .ref f2, .int 0])), (f1, .inl (cI, 512, .inl (fun _ => (0 : Int32)))), (xo, .inr (7, [.ref o1, .int o2])), (o1, .inl (cJ, 64, .inr (.inl of)))] H → va_D A [(x0, .inr (8, [.ref xn, .int 0, .ref xl, .ref xt, .ref xo, .ref xf, .ref xs, .ref xp, .ref xq, .ref xr, .ref xc])), (xf, .inr (6, [.ref f1, .ref f2, .int 0])), (f1, .inl (cI, 512, .inl (fun _ => (0 : Int32)))), (xo, .inr (7, [.ref o1, .int o2])), (o1, .inl (cJ, 64, .inr (.inl of)))] → va_S A s.heap H locs → lv_has ls 5 [(4, .int x), (0, .ref x0)] → W p l e ({ frames := 4, cells := 0, slots := 0, locals := 240 } : Room) s m [.ref x0, .int (0 : Int32), .int (0 : Int32), .int v9].toArray below meth c H locs 0 0 (MQ below (va_Qi (fun (r : Int32) (u : va_W) => (u = [] ∧ r = (-2) ∧ (0 : Int32).toInt = 0 ∧ (0 : Int32).toInt = 0 ∧ -1 ≤ v9.toInt ∧ v9.toInt ≤ 254) ∨ (u = [] ∧ r = (-1) ∧ ((0 : Int32).toInt < 0 ∨ (0 : Int32).toInt < (0 : Int32).toInt ∨ 0 < (0 : Int32).toInt ∨ v9.toInt < -1 ∨ 254 < v9.toInt))) (my_B D (tyIJ cI cJ) A) A) [.ref x0, .int (0 : Int32), .int (0 : Int32), .int v9].toArray s 0 0 A) (F0 m 41 ls []) := by
            intro n9
            induction n9 with
            | zero =>
              intro x hn9
              exact absurd hn9 (Nat.not_lt_zero _)
            | succ n9 ih41 =>
              intro x hn9 hx0 hx1 H locs ls hP hD hS hl
              refine lv_iload hx hb dX8_above_41 (lv_at hl 0 rfl) ?_
              refine lv_sipush (v := 255) hx hb dX8_above_43 (by decide +kernel) ?_
              refine lv_icmp_gt (tgt := 84) hx hb dX8_above_46 (by decide) (fun c46 => ?_) (fun c46 => ?_)
              ·
                have d46 : x.toInt > (255 : Int) := my_gt c46 rfl (by decide +kernel)
                refine lv_bipush (v := (-2)) hx hb dX8_above_84 (by decide +kernel) ?_
                exact my_retI hx hb hr hlocks hK hS [] (hP.sub [] rfl) (hD.sub [] (by decide) rfl) (Or.inl ⟨rfl, rfl, (by first | omega | assumption | trivial | decide +kernel), (by first | omega | assumption | trivial | decide +kernel), (by first | omega | assumption | trivial | decide +kernel), (by first | omega | assumption | trivial | decide +kernel)⟩) dX8_above_86
              ·
                have d46 : x.toInt ≤ (255 : Int) := my_ngt c46 rfl (by decide +kernel)
                refine lv_aload_n hx hb dX8_above_49 rfl (lv_at hl 1 rfl) ?_
                refine va_get (ci := 8) (v := .ref xf) (C := RX8) (T := TX8) (N := 11) hx hb hts hi8 hown hK hP 0 rfl rfl 5 (by decide) fl41 (fun _ h9 => h9) rfl dX8_above_50 ?_
                refine lv_iload hx hb dX8_above_53 (lv_at hl 0 rfl) ?_
                refine my_gpI (my_pV (As := [.int x]) (rest := []) (ci := 6) ⟨hx, hb, hml, hown, hts⟩ (cwV 1 hts gX8_above_X6_timesOf rfl rfl rfl (by decide +kernel) ⟨Nat.le_of_ble_eq_true rfl, Nat.le_of_ble_eq_true rfl⟩) hN hK hP [1, 2] rfl 1 rfl rfl rfl rfl hl.1 rfl (Nat.le_of_ble_eq_true rfl) dX8_above_55 ⟨Nat.le_of_ble_eq_true rfl, Nat.le_of_ble_eq_true rfl⟩  (k0_X6_timesOf l D cI cJ xf f1 f2 (0 : Int32) x)) (fun r hp => ?_)
                obtain rfl := hp
                refine lv_if_le (tgt := 78) hx hb dX8_above_58 (by decide) (fun c58 => ?_) (fun c58 => ?_)
                ·
                  obtain ⟨z_3, ez_3⟩ : ∃ y : Int32, y = x + (1) := ⟨_, rfl⟩
                  have tz_3 : z_3.toInt = x.toInt + (1) := by rw [ez_3]; exact my_addI rfl (by decide +kernel) (by omega) (by omega)
                  refine lv_iinc (v := z_3) (lv' := [(4, .int z_3), (0, .ref x0)]) hx hb dX8_above_78 hl (k := 0) rfl (by rw [ez_3]; rfl) (by decide) rfl (fun ls hl => ?_)
                  refine lv_goto (tgt := 41) hx hb dX8_above_81 (by decide) ?_
                  exact ih41  z_3 (by omega) (by omega) (by omega) _ _ ls (hP.sub [0, 1, 2, 3, 4] rfl) (hD.sub [0, 1, 2, 3, 4] (by decide) rfl) hS (lv_sub hl [0, 1] rfl)
                ·
                  exact absurd c58 (by decide +kernel)
          exact loop41 (((256 - z_2.toInt).toNat) + 1) z_2 (Nat.lt_succ_self _) (by first | omega | decide +kernel) (by first | omega | decide +kernel) _ _ ls (hP.sub [0, 3, 4, 1, 2] rfl) (hD.sub [0, 3, 4, 1, 2] (by decide) rfl) hS (lv_sub hl [0, 1] rfl)
        ·
          have d18 : v9.toInt > (254 : Int) := my_nle c18 rfl (by decide +kernel)
          refine lv_iconst (v := (-1)) hx hb dX8_above_21 (by decide +kernel) ?_
          exact my_retI hx hb hr hlocks hK hS [] (hP.sub [] rfl) (hD.sub [] (by decide) rfl) (Or.inr (⟨rfl, rfl, (by first | omega | assumption | trivial | decide +kernel)⟩)) dX8_above_22
  ·
    refine lv_if_eq (tgt := 21) hx hb dX8_above_6 (by decide) (fun c6 => ?_) (fun c6 => ?_)
    ·
      refine lv_iconst (v := (-1)) hx hb dX8_above_21 (by decide +kernel) ?_
      exact my_retI hx hb hr hlocks hK hS [] (hP.sub [] rfl) (hD.sub [] (by decide) rfl) (Or.inr (⟨rfl, rfl, (by first | omega | assumption | trivial | decide +kernel)⟩)) dX8_above_22
    ·
      exact absurd c6 (by decide +kernel)
set_option maxHeartbeats 4000000 in
set_option maxRecDepth 100000 in
theorem k0_X8_sums (l : Launch) (D : va_G) (cI cJ : ClassId) (x0 : Nat) (xn : Nat) (xl : Nat) (xt : Nat) (xo : Nat) (xf : Nat) (xs : Nat) (xp : Nat) (xq : Nat) (xr : Nat) (xc : Nat) (f1 : Nat) (f2 : Nat) (f3 : Int32) (ff : Nat → Int32) (o1 : Nat) (o2 : Int32) (of : Nat → Int64) (l9 : Int32) (r9 : Int32) (k9 : Int32) : ctI l yX8_sums wsX8_sums ({ frames := 4, cells := 0, slots := 0, locals := 240 } : Room) D (tyIJ cI cJ) [.ref x0, .int l9, .int r9, .int k9] [(x0, .inr (8, [.ref xn, .int 0, .ref xl, .ref xt, .ref xo, .ref xf, .ref xs, .ref xp, .ref xq, .ref xr, .ref xc])), (xf, .inr (6, [.ref f1, .ref f2, .int f3])), (f1, .inl (cI, 512, .inl (fun _ => (0 : Int32)))), (f2, .inl (cI, 64, .inl ff)), (xo, .inr (7, [.ref o1, .int o2])), (o1, .inl (cJ, 64, .inr (.inl of)))] (fun (r : Int32) (u : va_W) => (u = [] ∧ r = 0 ∧ l9.toInt = 0 ∧ r9.toInt = 0 ∧ k9.toInt = 0) ∨ (u = [] ∧ r = (-2) ∧ l9.toInt = 0 ∧ r9.toInt = 0 ∧ 1 ≤ k9.toInt) ∨ (u = [] ∧ r = (-1) ∧ (l9.toInt < 0 ∨ r9.toInt < l9.toInt ∨ 0 < r9.toInt ∨ k9.toInt < 0))) := by
  refine ctI.of (cc := cX8_sums) (maxL := 7) (ret := (some .int)) (by decide) rfl (Nat.le_of_ble_eq_true rfl) ?_
  intro p e s m below meth c ls A hx hb hr hts hown hml hlocks hname hA hK hN hP hD hS hl
  have hl : lv_has ls 7 [(0, .ref x0), (1, .int l9), (2, .int r9), (3, .int k9)] := hl
  have hown : s.vm.findClass RX8 = some m.cls := hown
  have hi8 : ∀ w ∈ u_ws RX8 TX8 11, w ∈ wsX8_sums := by decide +kernel
  have fl41 := hts (.fieldLink RX8 41 "PlaneColumn" "first" "LPlaneColumn$Tally;") (by decide +kernel)
  have fl9 := hts (.fieldLink RX8 9 "PlaneColumn" "numbers" "[I") (by decide +kernel)
  refine lv_aload_n hx hb dX8_sums_0 rfl (lv_at hl 0 rfl) ?_
  refine lv_iload_n hx hb dX8_sums_1 rfl (lv_at hl 1 rfl) ?_
  refine lv_iload_n hx hb dX8_sums_2 rfl (lv_at hl 2 rfl) ?_
  refine my_gpI (my_pV (As := [.int l9, .int r9]) (rest := []) (ci := 8) ⟨hx, hb, hml, hown, hts⟩ (cwV 2 hts gX8_sums_X8_isSpan rfl rfl rfl (by decide +kernel) ⟨Nat.le_of_ble_eq_true rfl, Nat.le_of_ble_eq_true rfl⟩) hN hK hP [0] rfl 0 rfl rfl rfl rfl hl.1 rfl (Nat.le_of_ble_eq_true rfl) dX8_sums_3 ⟨Nat.le_of_ble_eq_true rfl, Nat.le_of_ble_eq_true rfl⟩  (k0_X8_isSpan l D cI cJ x0 xn xl xt xo xf xs xp xq xr xc l9 r9)) (fun r hp => ?_)
  rcases hp with ⟨rfl, rfl, rfl⟩ | ⟨rfl, ha_1⟩
  ·
    refine lv_if_eq (tgt := 13) hx hb dX8_sums_6 (by decide) (fun c6 => ?_) (fun c6 => ?_)
    ·
      exact absurd c6 (by decide +kernel)
    ·
      refine lv_iload_n hx hb dX8_sums_9 rfl (lv_at hl 3 rfl) ?_
      refine lv_if_ge (tgt := 15) hx hb dX8_sums_10 (by decide) (fun c10 => ?_) (fun c10 => ?_)
      ·
        have d10 : k9.toInt ≥ (0 : Int) := my_ge c10 rfl (by decide +kernel)
        refine lv_iload_n hx hb dX8_sums_15 rfl (lv_at hl 3 rfl) ?_
        refine lv_iload_n hx hb dX8_sums_16 rfl (lv_at hl 2 rfl) ?_
        refine lv_iload_n hx hb dX8_sums_17 rfl (lv_at hl 1 rfl) ?_
        refine lv_isub hx hb dX8_sums_18 ?_
        refine my_eqi (y := 0) (by decide +kernel) ?_
        refine lv_icmp_le (tgt := 25) hx hb dX8_sums_19 (by decide) (fun c19 => ?_) (fun c19 => ?_)
        ·
          have d19 : k9.toInt ≤ (0 : Int) := my_le c19 rfl (by decide +kernel)
          refine lv_aload_n hx hb dX8_sums_25 rfl (lv_at hl 0 rfl) ?_
          refine va_get (ci := 8) (v := .ref xf) (C := RX8) (T := TX8) (N := 11) hx hb hts hi8 hown hK hP 0 rfl rfl 5 (by decide) fl41 (fun _ h9 => h9) rfl dX8_sums_26 ?_
          refine lv_aload_n hx hb dX8_sums_29 rfl (lv_at hl 0 rfl) ?_
          refine va_get (ci := 8) (v := .ref xn) (C := RX8) (T := TX8) (N := 11) hx hb hts hi8 hown hK hP 0 rfl rfl 0 (by decide) fl9 (fun _ h9 => h9) rfl dX8_sums_30 ?_
          refine lv_iload_n hx hb dX8_sums_33 rfl (lv_at hl 1 rfl) ?_
          refine lv_iload_n hx hb dX8_sums_34 rfl (lv_at hl 2 rfl) ?_
          refine my_goV (wr := [(x0, .inr (8, [.ref xn, .int 0, .ref xl, .ref xt, .ref xo, .ref xf, .ref xs, .ref xp, .ref xq, .ref xr, .ref xc])), (xo, .inr (7, [.ref o1, .int o2])), (o1, .inl (cJ, 64, .inr (.inl of)))]) hP hD hS hA [1, 2, 3] [0, 4, 5] rfl rfl (by decide) (by decide) (my_cV (As := [.ref xn, .int 0, .int 0]) (rest := []) (ci := 6) (wc := [(xf, .inr (6, [.ref f1, .ref f2, .int f3])), (f1, .inl (cI, 512, .inl (fun _ => (0 : Int32)))), (f2, .inl (cI, 64, .inl ff))]) ⟨hx, hb, hml, hown, hts⟩ (cwV 3 hts gX8_sums_X6_take rfl rfl rfl (by decide +kernel) ⟨Nat.le_of_ble_eq_true rfl, Nat.le_of_ble_eq_true rfl⟩) hN hK hP hD [1, 2, 3] rfl (by decide) rfl 1 rfl rfl rfl rfl hl.1 rfl (Nat.le_of_ble_eq_true rfl) dX8_sums_35 ⟨Nat.le_of_ble_eq_true rfl, Nat.le_of_ble_eq_true rfl⟩  ((k0_X6_take l D cI cJ xf f1 f2 xn f3 ff) _)) (fun u H locs hp hP hD hS => ?_)
          obtain rfl := hp
          have hP : va_P D vwCl [(x0, .inr (8, [.ref xn, .int 0, .ref xl, .ref xt, .ref xo, .ref xf, .ref xs, .ref xp, .ref xq, .ref xr, .ref xc])), (xo, .inr (7, [.ref o1, .int o2])), (o1, .inl (cJ, 64, .inr (.inl of))), (xf, .inr (6, [.ref f1, .ref f2, .int 0])), (f1, .inl (cI, 512, .inl (fun _ => (0 : Int32)))), (f2, .inl (cI, 64, .inl ff))] H := hP
          have hD : va_D A [(x0, .inr (8, [.ref xn, .int 0, .ref xl, .ref xt, .ref xo, .ref xf, .ref xs, .ref xp, .ref xq, .ref xr, .ref xc])), (xo, .inr (7, [.ref o1, .int o2])), (o1, .inl (cJ, 64, .inr (.inl of))), (xf, .inr (6, [.ref f1, .ref f2, .int 0])), (f1, .inl (cI, 512, .inl (fun _ => (0 : Int32)))), (f2, .inl (cI, 64, .inl ff))] := hD
          refine lv_iconst (v := 0) hx hb dX8_sums_38 (by decide +kernel) ?_
          refine lv_istore (lv' := [(4, .int 0), (0, .ref x0), (1, .int 0), (2, .int 0), (3, .int k9)]) hx hb dX8_sums_39 hl (by decide) rfl (fun ls hl => ?_)
          refine lv_iconst (v := 0) hx hb dX8_sums_41 (by decide +kernel) ?_
          refine lv_istore (lv' := [(5, .int 0), (4, .int 0), (0, .ref x0), (1, .int 0), (2, .int 0), (3, .int k9)]) hx hb dX8_sums_42 hl (by decide) rfl (fun ls hl => ?_)
          refine lv_iconst (v := 0) hx hb dX8_sums_44 (by decide +kernel) ?_
          refine lv_istore (lv' := [(6, .int 0), (5, .int 0), (4, .int 0), (0, .ref x0), (1, .int 0), (2, .int 0), (3, .int k9)]) hx hb dX8_sums_45 hl (by decide) rfl (fun ls hl => ?_)
          refine lv_iload hx hb dX8_sums_47 (lv_at hl 0 rfl) ?_
          refine lv_iload_n hx hb dX8_sums_49 rfl (lv_at hl 6 rfl) ?_
          refine lv_icmp_ge (tgt := 93) hx hb dX8_sums_50 (by decide) (fun c50 => ?_) (fun c50 => ?_)
          ·
            have d50 : (0 : Int) ≥ k9.toInt := my_ge c50 (by decide +kernel) rfl
            refine lv_aload_n hx hb dX8_sums_93 rfl (lv_at hl 3 rfl) ?_
            refine lv_iload hx hb dX8_sums_94 (lv_at hl 1 rfl) ?_
            refine lv_i2l (v := 0) hx hb dX8_sums_96 (by decide +kernel) ?_
            refine my_goV (wr := [(xf, .inr (6, [.ref f1, .ref f2, .int 0])), (f1, .inl (cI, 512, .inl (fun _ => (0 : Int32)))), (f2, .inl (cI, 64, .inl ff))]) hP hD hS hA [0, 1, 2] [3, 4, 5] rfl rfl (by decide) (by decide) (my_cV (As := [.long 0]) (rest := []) (ci := 8) (wc := [(x0, .inr (8, [.ref xn, .int 0, .ref xl, .ref xt, .ref xo, .ref xf, .ref xs, .ref xp, .ref xq, .ref xr, .ref xc])), (xo, .inr (7, [.ref o1, .int o2])), (o1, .inl (cJ, 64, .inr (.inl of)))]) ⟨hx, hb, hml, hown, hts⟩ (cwV 1 hts gX8_sums_X8_tell rfl rfl rfl (by decide +kernel) ⟨Nat.le_of_ble_eq_true rfl, Nat.le_of_ble_eq_true rfl⟩) hN hK hP hD [0, 1, 2] rfl (by decide) rfl 0 rfl rfl rfl rfl hl.1 rfl (Nat.le_of_ble_eq_true rfl) dX8_sums_97 ⟨Nat.le_of_ble_eq_true rfl, Nat.le_of_ble_eq_true rfl⟩  ((k_X8_tell l D cI cJ x0 xn xl xt xo xf xs xp xq xr xc o1 (0 : Int32) o2 of (0 : Int64)) _)) (fun u H locs hp hP hD hS => ?_)
            obtain ⟨k_2, f_3, rfl, ha_4⟩ := hp
            have hP : va_P D vwCl [(xf, .inr (6, [.ref f1, .ref f2, .int 0])), (f1, .inl (cI, 512, .inl (fun _ => (0 : Int32)))), (f2, .inl (cI, 64, .inl ff)), (x0, .inr (8, [.ref xn, .int 0, .ref xl, .ref xt, .ref xo, .ref xf, .ref xs, .ref xp, .ref xq, .ref xr, .ref xc])), (xo, .inr (7, [.ref o1, .int (nI k_2)])), (o1, .inl (cJ, 64, .inr (.inl f_3)))] H := hP
            have hD : va_D A [(xf, .inr (6, [.ref f1, .ref f2, .int 0])), (f1, .inl (cI, 512, .inl (fun _ => (0 : Int32)))), (f2, .inl (cI, 64, .inl ff)), (x0, .inr (8, [.ref xn, .int 0, .ref xl, .ref xt, .ref xo, .ref xf, .ref xs, .ref xp, .ref xq, .ref xr, .ref xc])), (xo, .inr (7, [.ref o1, .int (nI k_2)])), (o1, .inl (cJ, 64, .inr (.inl f_3)))] := hD
            refine lv_iload hx hb dX8_sums_100 (lv_at hl 2 rfl) ?_
            exact my_retI hx hb hr hlocks hK hS [] (hP.sub [] rfl) (hD.sub [] (by decide) rfl) (Or.inl ⟨rfl, rfl, (by first | omega | assumption | trivial | decide +kernel), (by first | omega | assumption | trivial | decide +kernel), (by first | omega | assumption | trivial | decide +kernel)⟩) dX8_sums_102
          ·
            have d50 : (0 : Int) < k9.toInt := my_nge c50 (by decide +kernel) rfl
            exact absurd d50 (by omega)
        ·
          have d19 : k9.toInt > (0 : Int) := my_nle c19 rfl (by decide +kernel)
          refine lv_bipush (v := (-2)) hx hb dX8_sums_22 (by decide +kernel) ?_
          exact my_retI hx hb hr hlocks hK hS [] (hP.sub [] rfl) (hD.sub [] (by decide) rfl) (Or.inr (Or.inl ⟨rfl, rfl, (by first | omega | assumption | trivial | decide +kernel), (by first | omega | assumption | trivial | decide +kernel), (by first | omega | assumption | trivial | decide +kernel)⟩)) dX8_sums_24
      ·
        have d10 : k9.toInt < (0 : Int) := my_nge c10 rfl (by decide +kernel)
        refine lv_iconst (v := (-1)) hx hb dX8_sums_13 (by decide +kernel) ?_
        exact my_retI hx hb hr hlocks hK hS [] (hP.sub [] rfl) (hD.sub [] (by decide) rfl) (Or.inr (Or.inr (⟨rfl, rfl, (by first | omega | assumption | trivial | decide +kernel)⟩))) dX8_sums_14
  ·
    refine lv_if_eq (tgt := 13) hx hb dX8_sums_6 (by decide) (fun c6 => ?_) (fun c6 => ?_)
    ·
      refine lv_iconst (v := (-1)) hx hb dX8_sums_13 (by decide +kernel) ?_
      exact my_retI hx hb hr hlocks hK hS [] (hP.sub [] rfl) (hD.sub [] (by decide) rfl) (Or.inr (Or.inr (⟨rfl, rfl, (by first | omega | assumption | trivial | decide +kernel)⟩))) dX8_sums_14
    ·
      exact absurd c6 (by decide +kernel)
set_option maxHeartbeats 4000000 in
set_option maxRecDepth 100000 in
theorem k0_X8_often (l : Launch) (D : va_G) (cI cJ : ClassId) (x0 : Nat) (xn : Nat) (xl : Nat) (xt : Nat) (xo : Nat) (xf : Nat) (xs : Nat) (xp : Nat) (xq : Nat) (xr : Nat) (xc : Nat) (f1 : Nat) (f2 : Nat) (f3 : Int32) (ff : Nat → Int32) (o1 : Nat) (o2 : Int32) (of : Nat → Int64) (l9 : Int32) (r9 : Int32) (m9 : Int32) : ctI l yX8_often wsX8_often ({ frames := 4, cells := 0, slots := 0, locals := 240 } : Room) D (tyIJ cI cJ) [.ref x0, .int l9, .int r9, .int m9] [(x0, .inr (8, [.ref xn, .int 0, .ref xl, .ref xt, .ref xo, .ref xf, .ref xs, .ref xp, .ref xq, .ref xr, .ref xc])), (xf, .inr (6, [.ref f1, .ref f2, .int f3])), (f1, .inl (cI, 512, .inl (fun _ => (0 : Int32)))), (f2, .inl (cI, 64, .inl ff)), (xo, .inr (7, [.ref o1, .int o2])), (o1, .inl (cJ, 64, .inr (.inl of)))] (fun (r : Int32) (u : va_W) => (u = [] ∧ r = 0 ∧ l9.toInt = 0 ∧ r9.toInt = 0 ∧ 1 ≤ m9.toInt ∧ m9.toInt ≤ 64) ∨ (u = [] ∧ r = (-1) ∧ (l9.toInt < 0 ∨ r9.toInt < l9.toInt ∨ 0 < r9.toInt ∨ m9.toInt < 1 ∨ 64 < m9.toInt))) := by
  refine ctI.of (cc := cX8_often) (maxL := 6) (ret := (some .int)) (by decide) rfl (Nat.le_of_ble_eq_true rfl) ?_
  intro p e s m below meth c ls A hx hb hr hts hown hml hlocks hname hA hK hN hP hD hS hl
  have hl : lv_has ls 6 [(0, .ref x0), (1, .int l9), (2, .int r9), (3, .int m9)] := hl
  have hown : s.vm.findClass RX8 = some m.cls := hown
  have hi8 : ∀ w ∈ u_ws RX8 TX8 11, w ∈ wsX8_often := by decide +kernel
  have fl41 := hts (.fieldLink RX8 41 "PlaneColumn" "first" "LPlaneColumn$Tally;") (by decide +kernel)
  have fl9 := hts (.fieldLink RX8 9 "PlaneColumn" "numbers" "[I") (by decide +kernel)
  refine lv_aload_n hx hb dX8_often_0 rfl (lv_at hl 0 rfl) ?_
  refine lv_iload_n hx hb dX8_often_1 rfl (lv_at hl 1 rfl) ?_
  refine lv_iload_n hx hb dX8_often_2 rfl (lv_at hl 2 rfl) ?_
  refine my_gpI (my_pV (As := [.int l9, .int r9]) (rest := []) (ci := 8) ⟨hx, hb, hml, hown, hts⟩ (cwV 2 hts gX8_often_X8_isSpan rfl rfl rfl (by decide +kernel) ⟨Nat.le_of_ble_eq_true rfl, Nat.le_of_ble_eq_true rfl⟩) hN hK hP [0] rfl 0 rfl rfl rfl rfl hl.1 rfl (Nat.le_of_ble_eq_true rfl) dX8_often_3 ⟨Nat.le_of_ble_eq_true rfl, Nat.le_of_ble_eq_true rfl⟩  (k0_X8_isSpan l D cI cJ x0 xn xl xt xo xf xs xp xq xr xc l9 r9)) (fun r hp => ?_)
  rcases hp with ⟨rfl, rfl, rfl⟩ | ⟨rfl, ha_1⟩
  ·
    refine lv_if_eq (tgt := 16) hx hb dX8_often_6 (by decide) (fun c6 => ?_) (fun c6 => ?_)
    ·
      exact absurd c6 (by decide +kernel)
    ·
      refine lv_iload_n hx hb dX8_often_9 rfl (lv_at hl 3 rfl) ?_
      refine my_gpI (my_pS (As := [.int m9]) (rest := []) ⟨hx, hb, hml, hown, hts⟩ (va_cwS 1 hts gX8_often_X8_isTimes rfl rfl rfl (by decide +kernel) ⟨Nat.le_of_ble_eq_true rfl, Nat.le_of_ble_eq_true rfl⟩) hN hK hP [] rfl rfl hl.1 rfl (Nat.le_of_ble_eq_true rfl) dX8_often_10 ⟨Nat.le_of_ble_eq_true rfl, Nat.le_of_ble_eq_true rfl⟩  (k_X8_isTimes l D cI cJ m9)) (fun r hp => ?_)
      rcases hp with ⟨rfl, hgv_2, hlv_3⟩ | ⟨rfl, ho_4⟩
      ·
        refine lv_if_ne (tgt := 18) hx hb dX8_often_13 (by decide) (fun c13 => ?_) (fun c13 => ?_)
        ·
          refine lv_aload_n hx hb dX8_often_18 rfl (lv_at hl 0 rfl) ?_
          refine va_get (ci := 8) (v := .ref xf) (C := RX8) (T := TX8) (N := 11) hx hb hts hi8 hown hK hP 0 rfl rfl 5 (by decide) fl41 (fun _ h9 => h9) rfl dX8_often_19 ?_
          refine lv_aload_n hx hb dX8_often_22 rfl (lv_at hl 0 rfl) ?_
          refine va_get (ci := 8) (v := .ref xn) (C := RX8) (T := TX8) (N := 11) hx hb hts hi8 hown hK hP 0 rfl rfl 0 (by decide) fl9 (fun _ h9 => h9) rfl dX8_often_23 ?_
          refine lv_iload_n hx hb dX8_often_26 rfl (lv_at hl 1 rfl) ?_
          refine lv_iload_n hx hb dX8_often_27 rfl (lv_at hl 2 rfl) ?_
          refine my_goV (wr := [(x0, .inr (8, [.ref xn, .int 0, .ref xl, .ref xt, .ref xo, .ref xf, .ref xs, .ref xp, .ref xq, .ref xr, .ref xc])), (xo, .inr (7, [.ref o1, .int o2])), (o1, .inl (cJ, 64, .inr (.inl of)))]) hP hD hS hA [1, 2, 3] [0, 4, 5] rfl rfl (by decide) (by decide) (my_cV (As := [.ref xn, .int 0, .int 0]) (rest := []) (ci := 6) (wc := [(xf, .inr (6, [.ref f1, .ref f2, .int f3])), (f1, .inl (cI, 512, .inl (fun _ => (0 : Int32)))), (f2, .inl (cI, 64, .inl ff))]) ⟨hx, hb, hml, hown, hts⟩ (cwV 3 hts gX8_often_X6_take rfl rfl rfl (by decide +kernel) ⟨Nat.le_of_ble_eq_true rfl, Nat.le_of_ble_eq_true rfl⟩) hN hK hP hD [1, 2, 3] rfl (by decide) rfl 1 rfl rfl rfl rfl hl.1 rfl (Nat.le_of_ble_eq_true rfl) dX8_often_28 ⟨Nat.le_of_ble_eq_true rfl, Nat.le_of_ble_eq_true rfl⟩  ((k0_X6_take l D cI cJ xf f1 f2 xn f3 ff) _)) (fun u H locs hp hP hD hS => ?_)
          obtain rfl := hp
          have hP : va_P D vwCl [(x0, .inr (8, [.ref xn, .int 0, .ref xl, .ref xt, .ref xo, .ref xf, .ref xs, .ref xp, .ref xq, .ref xr, .ref xc])), (xo, .inr (7, [.ref o1, .int o2])), (o1, .inl (cJ, 64, .inr (.inl of))), (xf, .inr (6, [.ref f1, .ref f2, .int 0])), (f1, .inl (cI, 512, .inl (fun _ => (0 : Int32)))), (f2, .inl (cI, 64, .inl ff))] H := hP
          have hD : va_D A [(x0, .inr (8, [.ref xn, .int 0, .ref xl, .ref xt, .ref xo, .ref xf, .ref xs, .ref xp, .ref xq, .ref xr, .ref xc])), (xo, .inr (7, [.ref o1, .int o2])), (o1, .inl (cJ, 64, .inr (.inl of))), (xf, .inr (6, [.ref f1, .ref f2, .int 0])), (f1, .inl (cI, 512, .inl (fun _ => (0 : Int32)))), (f2, .inl (cI, 64, .inl ff))] := hD
          refine lv_aload_n hx hb dX8_often_31 rfl (lv_at hl 0 rfl) ?_
          refine lv_aload_n hx hb dX8_often_32 rfl (lv_at hl 0 rfl) ?_
          refine va_get (ci := 8) (v := .ref xf) (C := RX8) (T := TX8) (N := 11) hx hb hts hi8 hown hK hP 0 rfl rfl 5 (by decide) fl41 (fun _ h9 => h9) rfl dX8_often_33 ?_
          refine lv_iload_n hx hb dX8_often_36 rfl (lv_at hl 3 rfl) ?_
          refine my_gpI (my_pV (As := [.int m9]) (rest := [.ref x0]) (ci := 6) ⟨hx, hb, hml, hown, hts⟩ (cwV 1 hts gX8_often_X6_nodesWith rfl rfl rfl (by decide +kernel) ⟨Nat.le_of_ble_eq_true rfl, Nat.le_of_ble_eq_true rfl⟩) hN hK hP [3, 4] rfl 3 rfl rfl rfl rfl hl.1 rfl (Nat.le_of_ble_eq_true rfl) dX8_often_37 ⟨Nat.le_of_ble_eq_true rfl, Nat.le_of_ble_eq_true rfl⟩  (k0_X6_nodesWith l D cI cJ xf f1 f2 (0 : Int32) m9 (by first | omega | decide +kernel))) (fun r hp => ?_)
          obtain rfl := hp
          refine lv_i2l (v := 0) hx hb dX8_often_40 (by decide +kernel) ?_
          refine my_goV (wr := [(xf, .inr (6, [.ref f1, .ref f2, .int 0])), (f1, .inl (cI, 512, .inl (fun _ => (0 : Int32)))), (f2, .inl (cI, 64, .inl ff))]) hP hD hS hA [0, 1, 2] [3, 4, 5] rfl rfl (by decide) (by decide) (my_cV (As := [.long 0]) (rest := []) (ci := 8) (wc := [(x0, .inr (8, [.ref xn, .int 0, .ref xl, .ref xt, .ref xo, .ref xf, .ref xs, .ref xp, .ref xq, .ref xr, .ref xc])), (xo, .inr (7, [.ref o1, .int o2])), (o1, .inl (cJ, 64, .inr (.inl of)))]) ⟨hx, hb, hml, hown, hts⟩ (cwV 1 hts gX8_often_X8_tell rfl rfl rfl (by decide +kernel) ⟨Nat.le_of_ble_eq_true rfl, Nat.le_of_ble_eq_true rfl⟩) hN hK hP hD [0, 1, 2] rfl (by decide) rfl 0 rfl rfl rfl rfl hl.1 rfl (Nat.le_of_ble_eq_true rfl) dX8_often_41 ⟨Nat.le_of_ble_eq_true rfl, Nat.le_of_ble_eq_true rfl⟩  ((k_X8_tell l D cI cJ x0 xn xl xt xo xf xs xp xq xr xc o1 (0 : Int32) o2 of (0 : Int64)) _)) (fun u H locs hp hP hD hS => ?_)
          obtain ⟨k_5, f_6, rfl, ha_7⟩ := hp
          have hP : va_P D vwCl [(xf, .inr (6, [.ref f1, .ref f2, .int 0])), (f1, .inl (cI, 512, .inl (fun _ => (0 : Int32)))), (f2, .inl (cI, 64, .inl ff)), (x0, .inr (8, [.ref xn, .int 0, .ref xl, .ref xt, .ref xo, .ref xf, .ref xs, .ref xp, .ref xq, .ref xr, .ref xc])), (xo, .inr (7, [.ref o1, .int (nI k_5)])), (o1, .inl (cJ, 64, .inr (.inl f_6)))] H := hP
          have hD : va_D A [(xf, .inr (6, [.ref f1, .ref f2, .int 0])), (f1, .inl (cI, 512, .inl (fun _ => (0 : Int32)))), (f2, .inl (cI, 64, .inl ff)), (x0, .inr (8, [.ref xn, .int 0, .ref xl, .ref xt, .ref xo, .ref xf, .ref xs, .ref xp, .ref xq, .ref xr, .ref xc])), (xo, .inr (7, [.ref o1, .int (nI k_5)])), (o1, .inl (cJ, 64, .inr (.inl f_6)))] := hD
          refine lv_iconst (v := 0) hx hb dX8_often_44 (by decide +kernel) ?_
          refine lv_istore (lv' := [(4, .int 0), (0, .ref x0), (1, .int 0), (2, .int 0), (3, .int m9)]) hx hb dX8_often_45 hl (by decide) rfl (fun ls hl => ?_)
          refine lv_iconst (v := 0) hx hb dX8_often_47 (by decide +kernel) ?_
          refine lv_istore (lv' := [(5, .int 0), (4, .int 0), (0, .ref x0), (1, .int 0), (2, .int 0), (3, .int m9)]) hx hb dX8_often_48 hl (by decide) rfl (fun ls hl => ?_)
          have loop50 : ∀ (n9 : Nat) (k : Nat), 256 - k < n9 → (k ≤ 256) → ∀ (H : Heap) (locs : List Loc) (ls : Array Slot), va_P D vwCl [(x0, .inr (8, [.ref xn, .int 0, .ref xl, .ref xt, .ref xo, .ref xf, .ref xs, .ref xp, .ref xq, .ref xr, .ref xc])), (xf, .inr (6, [.ref f1, .ref f2, .int 0])), (f1, .inl (cI, 512, .inl (fun _ => (0 : Int32))))] H → va_D A [(x0, .inr (8, [.ref xn, .int 0, .ref xl, .ref xt, .ref xo, .ref xf, .ref xs, .ref xp, .ref xq, .ref xr, .ref xc])), (xf, .inr (6, [.ref f1, .ref f2, .int 0])), (f1, .inl (cI, 512, .inl (fun _ => (0 : Int32))))] → va_S A s.heap H locs → lv_has ls 6 [(5, .int (nI k)), (4, .int 0), (3, .int m9), (0, .ref x0)] → W p l e ({ frames := 4, cells := 0, slots := 0, locals := 240 } : Room) s m [.ref x0, .int (0 : Int32), .int (0 : Int32), .int m9].toArray below meth c H locs 0 0 (MQ below (va_Qi (fun (r : Int32) (u : va_W) => (u = [] ∧ r = 0 ∧ (0 : Int32).toInt = 0 ∧ (0 : Int32).toInt = 0 ∧ 1 ≤ m9.toInt ∧ m9.toInt ≤ 64) ∨ (u = [] ∧ r = (-1) ∧ ((0 : Int32).toInt < 0 ∨ (0 : Int32).toInt < (0 : Int32).toInt ∨ 0 < (0 : Int32).toInt ∨ m9.toInt < 1 ∨ 64 < m9.toInt))) (my_B D (tyIJ cI cJ) A) A) [.ref x0, .int (0 : Int32), .int (0 : Int32), .int m9].toArray s 0 0 A) (F0 m 50 ls []) := by
            intro n9
            induction n9 with
            | zero =>
              intro k hn9
              exact absurd hn9 (Nat.not_lt_zero _)
            | succ n9 ih50 =>
              intro k hn9 hk H locs ls hP hD hS hl
              refine lv_iload hx hb dX8_often_50 (lv_at hl 0 rfl) ?_
              refine lv_sipush (v := 255) hx hb dX8_often_52 (by decide +kernel) ?_
              refine lv_icmp_gt (tgt := 114) hx hb dX8_often_55 (by decide) (fun c55 => ?_) (fun c55 => ?_)
              ·
                have d55 : ((k : Nat) : Int) > (255 : Int) := my_gt c55 (nI_toInt (by omega)) (by decide +kernel)
                refine lv_iload hx hb dX8_often_114 (lv_at hl 1 rfl) ?_
                exact my_retI hx hb hr hlocks hK hS [] (hP.sub [] rfl) (hD.sub [] (by decide) rfl) (Or.inl ⟨rfl, rfl, (by first | omega | assumption | trivial | decide +kernel), (by first | omega | assumption | trivial | decide +kernel), (by first | omega | assumption | trivial | decide +kernel), (by first | omega | assumption | trivial | decide +kernel)⟩) dX8_often_116
              ·
                have d55 : ((k : Nat) : Int) ≤ (255 : Int) := my_ngt c55 (nI_toInt (by omega)) (by decide +kernel)
                refine lv_aload_n hx hb dX8_often_58 rfl (lv_at hl 3 rfl) ?_
                refine va_get (ci := 8) (v := .ref xf) (C := RX8) (T := TX8) (N := 11) hx hb hts hi8 hown hK hP 0 rfl rfl 5 (by decide) fl41 (fun _ h9 => h9) rfl dX8_often_59 ?_
                refine lv_iload hx hb dX8_often_62 (lv_at hl 0 rfl) ?_
                refine my_gpI (my_pV (As := [.int (nI k)]) (rest := []) (ci := 6) ⟨hx, hb, hml, hown, hts⟩ (cwV 1 hts gX8_often_X6_timesOf rfl rfl rfl (by decide +kernel) ⟨Nat.le_of_ble_eq_true rfl, Nat.le_of_ble_eq_true rfl⟩) hN hK hP [1, 2] rfl 1 rfl rfl rfl rfl hl.1 rfl (Nat.le_of_ble_eq_true rfl) dX8_often_64 ⟨Nat.le_of_ble_eq_true rfl, Nat.le_of_ble_eq_true rfl⟩  (k0_X6_timesOf l D cI cJ xf f1 f2 (0 : Int32) (nI k))) (fun r hp => ?_)
                obtain rfl := hp
                refine lv_iload_n hx hb dX8_often_67 rfl (lv_at hl 2 rfl) ?_
                refine lv_icmp_lt (tgt := 108) hx hb dX8_often_68 (by decide) (fun c68 => ?_) (fun c68 => ?_)
                ·
                  have d68 : (0 : Int) < m9.toInt := my_lt c68 (by decide +kernel) rfl
                  refine lv_iinc (v := nI (k + 1)) (lv' := [(5, .int (nI (k + 1))), (4, .int 0), (3, .int m9), (0, .ref x0)]) hx hb dX8_often_108 hl (k := 0) rfl (my_incN k 1 (by decide +kernel)) (by decide) rfl (fun ls hl => ?_)
                  refine lv_goto (tgt := 50) hx hb dX8_often_111 (by decide) ?_
                  exact ih50  (k + 1) (by omega) (by omega) _ _ ls (hP.sub [0, 1, 2] rfl) (hD.sub [0, 1, 2] (by decide) rfl) hS (lv_sub hl [0, 1, 2, 3] rfl)
                ·
                  have d68 : (0 : Int) ≥ m9.toInt := my_nlt c68 (by decide +kernel) rfl
                  exact absurd d68 (by omega)
          exact loop50 ((256 - 0) + 1) 0 (Nat.lt_succ_self _) (by first | omega | decide +kernel) _ _ ls (hP.sub [3, 0, 1] rfl) (hD.sub [3, 0, 1] (by decide) rfl) hS (lv_sub hl [0, 1, 5, 2] rfl)
        ·
          exact absurd c13 (by decide +kernel)
      ·
        refine lv_if_ne (tgt := 18) hx hb dX8_often_13 (by decide) (fun c13 => ?_) (fun c13 => ?_)
        ·
          exact absurd c13 (by decide +kernel)
        ·
          refine lv_iconst (v := (-1)) hx hb dX8_often_16 (by decide +kernel) ?_
          exact my_retI hx hb hr hlocks hK hS [] (hP.sub [] rfl) (hD.sub [] (by decide) rfl) (Or.inr (⟨rfl, rfl, (by first | omega | assumption | trivial | decide +kernel)⟩)) dX8_often_17
  ·
    refine lv_if_eq (tgt := 16) hx hb dX8_often_6 (by decide) (fun c6 => ?_) (fun c6 => ?_)
    ·
      refine lv_iconst (v := (-1)) hx hb dX8_often_16 (by decide +kernel) ?_
      exact my_retI hx hb hr hlocks hK hS [] (hP.sub [] rfl) (hD.sub [] (by decide) rfl) (Or.inr (⟨rfl, rfl, (by first | omega | assumption | trivial | decide +kernel)⟩)) dX8_often_17
    ·
      exact absurd c6 (by decide +kernel)
set_option maxHeartbeats 4000000 in
set_option maxRecDepth 100000 in
theorem k0_X8_mode (l : Launch) (D : va_G) (cI cJ : ClassId) (x0 : Nat) (xn : Nat) (xl : Nat) (xt : Nat) (xo : Nat) (xf : Nat) (xs : Nat) (xp : Nat) (xq : Nat) (xr : Nat) (xc : Nat) (l9 : Int32) (r9 : Int32) : ctI l yX8_mode wsX8_mode ({ frames := 1, cells := 0, slots := 0, locals := 60 } : Room) D (tyIJ cI cJ) [.ref x0, .int l9, .int r9] [(x0, .inr (8, [.ref xn, .int 0, .ref xl, .ref xt, .ref xo, .ref xf, .ref xs, .ref xp, .ref xq, .ref xr, .ref xc]))] (fun (r : Int32) (u : va_W) => (u = [] ∧ r = (-2) ∧ l9.toInt = 0 ∧ r9.toInt = 0) ∨ (u = [] ∧ r = (-1) ∧ (l9.toInt < 0 ∨ r9.toInt < l9.toInt ∨ 0 < r9.toInt))) := by
  refine ctI.of (cc := cX8_mode) (maxL := 5) (ret := (some .int)) (by decide) rfl (Nat.le_of_ble_eq_true rfl) ?_
  intro p e s m below meth c ls A hx hb hr hts hown hml hlocks hname hA hK hN hP hD hS hl
  have hl : lv_has ls 5 [(0, .ref x0), (1, .int l9), (2, .int r9)] := hl
  have hown : s.vm.findClass RX8 = some m.cls := hown
  refine lv_aload_n hx hb dX8_mode_0 rfl (lv_at hl 0 rfl) ?_
  refine lv_iload_n hx hb dX8_mode_1 rfl (lv_at hl 1 rfl) ?_
  refine lv_iload_n hx hb dX8_mode_2 rfl (lv_at hl 2 rfl) ?_
  refine my_gpI (my_pV (As := [.int l9, .int r9]) (rest := []) (ci := 8) ⟨hx, hb, hml, hown, hts⟩ (cwV 2 hts gX8_mode_X8_isSpan rfl rfl rfl (by decide +kernel) ⟨Nat.le_of_ble_eq_true rfl, Nat.le_of_ble_eq_true rfl⟩) hN hK hP [0] rfl 0 rfl rfl rfl rfl hl.1 rfl (Nat.le_of_ble_eq_true rfl) dX8_mode_3 ⟨Nat.le_of_ble_eq_true rfl, Nat.le_of_ble_eq_true rfl⟩  (k0_X8_isSpan l D cI cJ x0 xn xl xt xo xf xs xp xq xr xc l9 r9)) (fun r hp => ?_)
  rcases hp with ⟨rfl, rfl, rfl⟩ | ⟨rfl, ha_1⟩
  ·
    refine lv_if_ne (tgt := 11) hx hb dX8_mode_6 (by decide) (fun c6 => ?_) (fun c6 => ?_)
    ·
      refine lv_iload_n hx hb dX8_mode_11 rfl (lv_at hl 1 rfl) ?_
      refine lv_iload_n hx hb dX8_mode_12 rfl (lv_at hl 2 rfl) ?_
      refine lv_icmp_ne (tgt := 19) hx hb dX8_mode_13 (by decide) (fun c13 => ?_) (fun c13 => ?_)
      ·
        exact absurd c13 (by decide +kernel)
      ·
        refine lv_bipush (v := (-2)) hx hb dX8_mode_16 (by decide +kernel) ?_
        exact my_retI hx hb hr hlocks hK hS [] (hP.sub [] rfl) (hD.sub [] (by decide) rfl) (Or.inl ⟨rfl, rfl, (by first | omega | assumption | trivial | decide +kernel), (by first | omega | assumption | trivial | decide +kernel)⟩) dX8_mode_18
    ·
      exact absurd c6 (by decide +kernel)
  ·
    refine lv_if_ne (tgt := 11) hx hb dX8_mode_6 (by decide) (fun c6 => ?_) (fun c6 => ?_)
    ·
      exact absurd c6 (by decide +kernel)
    ·
      refine lv_iconst (v := (-1)) hx hb dX8_mode_9 (by decide +kernel) ?_
      exact my_retI hx hb hr hlocks hK hS [] (hP.sub [] rfl) (hD.sub [] (by decide) rfl) (Or.inr (⟨rfl, rfl, (by first | omega | assumption | trivial | decide +kernel)⟩)) dX8_mode_10
set_option maxHeartbeats 4000000 in
set_option maxRecDepth 100000 in
theorem k0_X8_across (l : Launch) (D : va_G) (cI cJ : ClassId) (x0 : Nat) (xn : Nat) (xl : Nat) (xt : Nat) (xo : Nat) (xf : Nat) (xs : Nat) (xp : Nat) (xq : Nat) (xr : Nat) (xc : Nat) (f1 : Nat) (f2 : Nat) (f3 : Int32) (ff : Nat → Int32) (o1 : Nat) (o2 : Int32) (of : Nat → Int64) (l9 : Int32) (r9 : Int32) (w9 : Int32) (k9 : Int32) : ctI l yX8_across wsX8_across ({ frames := 4, cells := 0, slots := 0, locals := 240 } : Room) D (tyIJ cI cJ) [.ref x0, .int l9, .int r9, .int w9, .int k9] [(x0, .inr (8, [.ref xn, .int 0, .ref xl, .ref xt, .ref xo, .ref xf, .ref xs, .ref xp, .ref xq, .ref xr, .ref xc])), (xf, .inr (6, [.ref f1, .ref f2, .int f3])), (f1, .inl (cI, 512, .inl (fun _ => (0 : Int32)))), (f2, .inl (cI, 64, .inl ff)), (xo, .inr (7, [.ref o1, .int o2])), (o1, .inl (cJ, 64, .inr (.inl of)))] (fun (r : Int32) (u : va_W) => (u = [] ∧ r = (-2) ∧ l9.toInt = 0 ∧ r9.toInt = 0 ∧ 0 ≤ w9.toInt ∧ w9.toInt ≤ 255 ∧ 0 ≤ k9.toInt) ∨ (u = [] ∧ r = (-1) ∧ (l9.toInt < 0 ∨ r9.toInt < l9.toInt ∨ 0 < r9.toInt ∨ w9.toInt < 0 ∨ 255 < w9.toInt ∨ k9.toInt < 0))) := by
  refine ctI.of (cc := cX8_across) (maxL := 7) (ret := (some .int)) (by decide) rfl (Nat.le_of_ble_eq_true rfl) ?_
  intro p e s m below meth c ls A hx hb hr hts hown hml hlocks hname hA hK hN hP hD hS hl
  have hl : lv_has ls 7 [(0, .ref x0), (1, .int l9), (2, .int r9), (3, .int w9), (4, .int k9)] := hl
  have hown : s.vm.findClass RX8 = some m.cls := hown
  have hi8 : ∀ w ∈ u_ws RX8 TX8 11, w ∈ wsX8_across := by decide +kernel
  have fl41 := hts (.fieldLink RX8 41 "PlaneColumn" "first" "LPlaneColumn$Tally;") (by decide +kernel)
  have fl9 := hts (.fieldLink RX8 9 "PlaneColumn" "numbers" "[I") (by decide +kernel)
  refine lv_aload_n hx hb dX8_across_0 rfl (lv_at hl 0 rfl) ?_
  refine lv_iload_n hx hb dX8_across_1 rfl (lv_at hl 1 rfl) ?_
  refine lv_iload_n hx hb dX8_across_2 rfl (lv_at hl 2 rfl) ?_
  refine my_gpI (my_pV (As := [.int l9, .int r9]) (rest := []) (ci := 8) ⟨hx, hb, hml, hown, hts⟩ (cwV 2 hts gX8_across_X8_isSpan rfl rfl rfl (by decide +kernel) ⟨Nat.le_of_ble_eq_true rfl, Nat.le_of_ble_eq_true rfl⟩) hN hK hP [0] rfl 0 rfl rfl rfl rfl hl.1 rfl (Nat.le_of_ble_eq_true rfl) dX8_across_3 ⟨Nat.le_of_ble_eq_true rfl, Nat.le_of_ble_eq_true rfl⟩  (k0_X8_isSpan l D cI cJ x0 xn xl xt xo xf xs xp xq xr xc l9 r9)) (fun r hp => ?_)
  rcases hp with ⟨rfl, rfl, rfl⟩ | ⟨rfl, ha_1⟩
  ·
    refine lv_if_eq (tgt := 21) hx hb dX8_across_6 (by decide) (fun c6 => ?_) (fun c6 => ?_)
    ·
      exact absurd c6 (by decide +kernel)
    ·
      refine lv_iload_n hx hb dX8_across_9 rfl (lv_at hl 3 rfl) ?_
      refine my_gpI (my_pS (As := [.int w9]) (rest := []) ⟨hx, hb, hml, hown, hts⟩ (va_cwS 1 hts gX8_across_X8_isNumber rfl rfl rfl (by decide +kernel) ⟨Nat.le_of_ble_eq_true rfl, Nat.le_of_ble_eq_true rfl⟩) hN hK hP [] rfl rfl hl.1 rfl (Nat.le_of_ble_eq_true rfl) dX8_across_10 ⟨Nat.le_of_ble_eq_true rfl, Nat.le_of_ble_eq_true rfl⟩  (k_X8_isNumber l D cI cJ w9)) (fun r hp => ?_)
      rcases hp with ⟨rfl, hgv_2, hlv_3⟩ | ⟨rfl, ho_4⟩
      ·
        refine lv_if_eq (tgt := 21) hx hb dX8_across_13 (by decide) (fun c13 => ?_) (fun c13 => ?_)
        ·
          exact absurd c13 (by decide +kernel)
        ·
          refine lv_iload hx hb dX8_across_16 (lv_at hl 4 rfl) ?_
          refine lv_if_ge (tgt := 23) hx hb dX8_across_18 (by decide) (fun c18 => ?_) (fun c18 => ?_)
          ·
            have d18 : k9.toInt ≥ (0 : Int) := my_ge c18 rfl (by decide +kernel)
            refine lv_aload_n hx hb dX8_across_23 rfl (lv_at hl 0 rfl) ?_
            refine va_get (ci := 8) (v := .ref xf) (C := RX8) (T := TX8) (N := 11) hx hb hts hi8 hown hK hP 0 rfl rfl 5 (by decide) fl41 (fun _ h9 => h9) rfl dX8_across_24 ?_
            refine lv_aload_n hx hb dX8_across_27 rfl (lv_at hl 0 rfl) ?_
            refine va_get (ci := 8) (v := .ref xn) (C := RX8) (T := TX8) (N := 11) hx hb hts hi8 hown hK hP 0 rfl rfl 0 (by decide) fl9 (fun _ h9 => h9) rfl dX8_across_28 ?_
            refine lv_iload_n hx hb dX8_across_31 rfl (lv_at hl 1 rfl) ?_
            refine lv_iload_n hx hb dX8_across_32 rfl (lv_at hl 2 rfl) ?_
            refine my_goV (wr := [(x0, .inr (8, [.ref xn, .int 0, .ref xl, .ref xt, .ref xo, .ref xf, .ref xs, .ref xp, .ref xq, .ref xr, .ref xc])), (xo, .inr (7, [.ref o1, .int o2])), (o1, .inl (cJ, 64, .inr (.inl of)))]) hP hD hS hA [1, 2, 3] [0, 4, 5] rfl rfl (by decide) (by decide) (my_cV (As := [.ref xn, .int 0, .int 0]) (rest := []) (ci := 6) (wc := [(xf, .inr (6, [.ref f1, .ref f2, .int f3])), (f1, .inl (cI, 512, .inl (fun _ => (0 : Int32)))), (f2, .inl (cI, 64, .inl ff))]) ⟨hx, hb, hml, hown, hts⟩ (cwV 3 hts gX8_across_X6_take rfl rfl rfl (by decide +kernel) ⟨Nat.le_of_ble_eq_true rfl, Nat.le_of_ble_eq_true rfl⟩) hN hK hP hD [1, 2, 3] rfl (by decide) rfl 1 rfl rfl rfl rfl hl.1 rfl (Nat.le_of_ble_eq_true rfl) dX8_across_33 ⟨Nat.le_of_ble_eq_true rfl, Nat.le_of_ble_eq_true rfl⟩  ((k0_X6_take l D cI cJ xf f1 f2 xn f3 ff) _)) (fun u H locs hp hP hD hS => ?_)
            obtain rfl := hp
            have hP : va_P D vwCl [(x0, .inr (8, [.ref xn, .int 0, .ref xl, .ref xt, .ref xo, .ref xf, .ref xs, .ref xp, .ref xq, .ref xr, .ref xc])), (xo, .inr (7, [.ref o1, .int o2])), (o1, .inl (cJ, 64, .inr (.inl of))), (xf, .inr (6, [.ref f1, .ref f2, .int 0])), (f1, .inl (cI, 512, .inl (fun _ => (0 : Int32)))), (f2, .inl (cI, 64, .inl ff))] H := hP
            have hD : va_D A [(x0, .inr (8, [.ref xn, .int 0, .ref xl, .ref xt, .ref xo, .ref xf, .ref xs, .ref xp, .ref xq, .ref xr, .ref xc])), (xo, .inr (7, [.ref o1, .int o2])), (o1, .inl (cJ, 64, .inr (.inl of))), (xf, .inr (6, [.ref f1, .ref f2, .int 0])), (f1, .inl (cI, 512, .inl (fun _ => (0 : Int32)))), (f2, .inl (cI, 64, .inl ff))] := hD
            refine lv_iconst (v := 0) hx hb dX8_across_36 (by decide +kernel) ?_
            refine lv_istore (lv' := [(5, .int 0), (0, .ref x0), (1, .int 0), (2, .int 0), (3, .int w9), (4, .int k9)]) hx hb dX8_across_37 hl (by decide) rfl (fun ls hl => ?_)
            refine lv_iconst (v := 0) hx hb dX8_across_39 (by decide +kernel) ?_
            refine lv_istore (lv' := [(6, .int 0), (5, .int 0), (0, .ref x0), (1, .int 0), (2, .int 0), (3, .int w9), (4, .int k9)]) hx hb dX8_across_40 hl (by decide) rfl (fun ls hl => ?_)
            have loop42 : ∀ (n9 : Nat) (k : Nat), 256 - k < n9 → (k ≤ 256) → ∀ (H : Heap) (locs : List Loc) (ls : Array Slot), va_P D vwCl [(x0, .inr (8, [.ref xn, .int 0, .ref xl, .ref xt, .ref xo, .ref xf, .ref xs, .ref xp, .ref xq, .ref xr, .ref xc])), (xf, .inr (6, [.ref f1, .ref f2, .int 0])), (f1, .inl (cI, 512, .inl (fun _ => (0 : Int32))))] H → va_D A [(x0, .inr (8, [.ref xn, .int 0, .ref xl, .ref xt, .ref xo, .ref xf, .ref xs, .ref xp, .ref xq, .ref xr, .ref xc])), (xf, .inr (6, [.ref f1, .ref f2, .int 0])), (f1, .inl (cI, 512, .inl (fun _ => (0 : Int32))))] → va_S A s.heap H locs → lv_has ls 7 [(6, .int (nI k)), (5, .int 0), (4, .int k9), (3, .int w9), (0, .ref x0)] → W p l e ({ frames := 4, cells := 0, slots := 0, locals := 240 } : Room) s m [.ref x0, .int (0 : Int32), .int (0 : Int32), .int w9, .int k9].toArray below meth c H locs 0 0 (MQ below (va_Qi (fun (r : Int32) (u : va_W) => (u = [] ∧ r = (-2) ∧ (0 : Int32).toInt = 0 ∧ (0 : Int32).toInt = 0 ∧ 0 ≤ w9.toInt ∧ w9.toInt ≤ 255 ∧ 0 ≤ k9.toInt) ∨ (u = [] ∧ r = (-1) ∧ ((0 : Int32).toInt < 0 ∨ (0 : Int32).toInt < (0 : Int32).toInt ∨ 0 < (0 : Int32).toInt ∨ w9.toInt < 0 ∨ 255 < w9.toInt ∨ k9.toInt < 0))) (my_B D (tyIJ cI cJ) A) A) [.ref x0, .int (0 : Int32), .int (0 : Int32), .int w9, .int k9].toArray s 0 0 A) (F0 m 42 ls []) := by
              intro n9
              induction n9 with
              | zero =>
                intro k hn9
                exact absurd hn9 (Nat.not_lt_zero _)
              | succ n9 ih42 =>
                intro k hn9 hk H locs ls hP hD hS hl
                refine lv_iload hx hb dX8_across_42 (lv_at hl 0 rfl) ?_
                refine lv_sipush (v := 255) hx hb dX8_across_44 (by decide +kernel) ?_
                refine lv_icmp_gt (tgt := 91) hx hb dX8_across_47 (by decide) (fun c47 => ?_) (fun c47 => ?_)
                ·
                  have d47 : ((k : Nat) : Int) > (255 : Int) := my_gt c47 (nI_toInt (by omega)) (by decide +kernel)
                  refine lv_bipush (v := (-2)) hx hb dX8_across_91 (by decide +kernel) ?_
                  exact my_retI hx hb hr hlocks hK hS [] (hP.sub [] rfl) (hD.sub [] (by decide) rfl) (Or.inl ⟨rfl, rfl, (by first | omega | assumption | trivial | decide +kernel), (by first | omega | assumption | trivial | decide +kernel), (by first | omega | assumption | trivial | decide +kernel), (by first | omega | assumption | trivial | decide +kernel), (by first | omega | assumption | trivial | decide +kernel)⟩) dX8_across_93
                ·
                  have d47 : ((k : Nat) : Int) ≤ (255 : Int) := my_ngt c47 (nI_toInt (by omega)) (by decide +kernel)
                  refine lv_iload hx hb dX8_across_50 (lv_at hl 1 rfl) ?_
                  refine lv_aload_n hx hb dX8_across_52 rfl (lv_at hl 4 rfl) ?_
                  refine va_get (ci := 8) (v := .ref xf) (C := RX8) (T := TX8) (N := 11) hx hb hts hi8 hown hK hP 0 rfl rfl 5 (by decide) fl41 (fun _ h9 => h9) rfl dX8_across_53 ?_
                  refine lv_iload hx hb dX8_across_56 (lv_at hl 0 rfl) ?_
                  refine lv_iload_n hx hb dX8_across_58 rfl (lv_at hl 3 rfl) ?_
                  refine lv_ixor hx hb dX8_across_59 ?_
                  refine lv_topi (fun z_5 ez_5 => ?_)
                  refine my_gpI (my_pV (As := [.int z_5]) (rest := [.int 0]) (ci := 6) ⟨hx, hb, hml, hown, hts⟩ (cwV 1 hts gX8_across_X6_timesOf rfl rfl rfl (by decide +kernel) ⟨Nat.le_of_ble_eq_true rfl, Nat.le_of_ble_eq_true rfl⟩) hN hK hP [1, 2] rfl 1 rfl rfl rfl rfl hl.1 rfl (Nat.le_of_ble_eq_true rfl) dX8_across_60 ⟨Nat.le_of_ble_eq_true rfl, Nat.le_of_ble_eq_true rfl⟩  (k0_X6_timesOf l D cI cJ xf f1 f2 (0 : Int32) z_5)) (fun r hp => ?_)
                  obtain rfl := hp
                  refine lv_iadd hx hb dX8_across_63 ?_
                  refine my_eqi (y := 0) (by decide +kernel) ?_
                  refine lv_istore (lv' := [(5, .int 0), (6, .int (nI k)), (4, .int k9), (3, .int w9), (0, .ref x0)]) hx hb dX8_across_64 hl (by decide) rfl (fun ls hl => ?_)
                  refine lv_iload hx hb dX8_across_66 (lv_at hl 2 rfl) ?_
                  refine lv_iload hx hb dX8_across_68 (lv_at hl 0 rfl) ?_
                  refine lv_icmp_ge (tgt := 85) hx hb dX8_across_70 (by decide) (fun c70 => ?_) (fun c70 => ?_)
                  ·
                    have d70 : k9.toInt ≥ (0 : Int) := my_ge c70 rfl (by decide +kernel)
                    refine lv_iinc (v := nI (k + 1)) (lv' := [(6, .int (nI (k + 1))), (5, .int 0), (4, .int k9), (3, .int w9), (0, .ref x0)]) hx hb dX8_across_85 hl (k := 1) rfl (my_incN k 1 (by decide +kernel)) (by decide) rfl (fun ls hl => ?_)
                    refine lv_goto (tgt := 42) hx hb dX8_across_88 (by decide) ?_
                    exact ih42  (k + 1) (by omega) (by omega) _ _ ls (hP.sub [0, 1, 2] rfl) (hD.sub [0, 1, 2] (by decide) rfl) hS (lv_sub hl [0, 1, 2, 3, 4] rfl)
                  ·
                    have d70 : k9.toInt < (0 : Int) := my_nge c70 rfl (by decide +kernel)
                    exact absurd d70 (by omega)
            exact loop42 ((256 - 0) + 1) 0 (Nat.lt_succ_self _) (by first | omega | decide +kernel) _ _ ls (hP.sub [0, 3, 4] rfl) (hD.sub [0, 3, 4] (by decide) rfl) hS (lv_sub hl [0, 1, 6, 5, 2] rfl)
          ·
            have d18 : k9.toInt < (0 : Int) := my_nge c18 rfl (by decide +kernel)
            refine lv_iconst (v := (-1)) hx hb dX8_across_21 (by decide +kernel) ?_
            exact my_retI hx hb hr hlocks hK hS [] (hP.sub [] rfl) (hD.sub [] (by decide) rfl) (Or.inr (⟨rfl, rfl, (by first | omega | assumption | trivial | decide +kernel)⟩)) dX8_across_22
      ·
        refine lv_if_eq (tgt := 21) hx hb dX8_across_13 (by decide) (fun c13 => ?_) (fun c13 => ?_)
        ·
          refine lv_iconst (v := (-1)) hx hb dX8_across_21 (by decide +kernel) ?_
          exact my_retI hx hb hr hlocks hK hS [] (hP.sub [] rfl) (hD.sub [] (by decide) rfl) (Or.inr (⟨rfl, rfl, (by first | omega | assumption | trivial | decide +kernel)⟩)) dX8_across_22
        ·
          exact absurd c13 (by decide +kernel)
  ·
    refine lv_if_eq (tgt := 21) hx hb dX8_across_6 (by decide) (fun c6 => ?_) (fun c6 => ?_)
    ·
      refine lv_iconst (v := (-1)) hx hb dX8_across_21 (by decide +kernel) ?_
      exact my_retI hx hb hr hlocks hK hS [] (hP.sub [] rfl) (hD.sub [] (by decide) rfl) (Or.inr (⟨rfl, rfl, (by first | omega | assumption | trivial | decide +kernel)⟩)) dX8_across_22
    ·
      exact absurd c6 (by decide +kernel)
set_option maxHeartbeats 4000000 in
set_option maxRecDepth 100000 in
theorem k0_X8_turned (l : Launch) (D : va_G) (cI cJ : ClassId) (x0 : Nat) (xn : Nat) (xl : Nat) (xt : Nat) (xo : Nat) (xf : Nat) (xs : Nat) (xp : Nat) (xq : Nat) (xr : Nat) (xc : Nat) (o1 : Nat) (o2 : Int32) (of : Nat → Int64) (l9 : Int32) (r9 : Int32) : ctI l yX8_turned wsX8_turned ({ frames := 2, cells := 0, slots := 0, locals := 120 } : Room) D (tyIJ cI cJ) [.ref x0, .int l9, .int r9] [(x0, .inr (8, [.ref xn, .int 0, .ref xl, .ref xt, .ref xo, .ref xf, .ref xs, .ref xp, .ref xq, .ref xr, .ref xc])), (xo, .inr (7, [.ref o1, .int o2])), (o1, .inl (cJ, 64, .inr (.inl of)))] (fun (r : Int32) (u : va_W) => (u = [] ∧ r = 0 ∧ l9.toInt = 0 ∧ r9.toInt = 0) ∨ (u = [] ∧ r = (-1) ∧ (l9.toInt < 0 ∨ r9.toInt < l9.toInt ∨ 0 < r9.toInt))) := by
  refine ctI.of (cc := cX8_turned) (maxL := 7) (ret := (some .int)) (by decide) rfl (Nat.le_of_ble_eq_true rfl) ?_
  intro p e s m below meth c ls A hx hb hr hts hown hml hlocks hname hA hK hN hP hD hS hl
  have hl : lv_has ls 7 [(0, .ref x0), (1, .int l9), (2, .int r9)] := hl
  have hown : s.vm.findClass RX8 = some m.cls := hown
  refine lv_aload_n hx hb dX8_turned_0 rfl (lv_at hl 0 rfl) ?_
  refine lv_iload_n hx hb dX8_turned_1 rfl (lv_at hl 1 rfl) ?_
  refine lv_iload_n hx hb dX8_turned_2 rfl (lv_at hl 2 rfl) ?_
  refine my_gpI (my_pV (As := [.int l9, .int r9]) (rest := []) (ci := 8) ⟨hx, hb, hml, hown, hts⟩ (cwV 2 hts gX8_turned_X8_isSpan rfl rfl rfl (by decide +kernel) ⟨Nat.le_of_ble_eq_true rfl, Nat.le_of_ble_eq_true rfl⟩) hN hK hP [0] rfl 0 rfl rfl rfl rfl hl.1 rfl (Nat.le_of_ble_eq_true rfl) dX8_turned_3 ⟨Nat.le_of_ble_eq_true rfl, Nat.le_of_ble_eq_true rfl⟩  (k0_X8_isSpan l D cI cJ x0 xn xl xt xo xf xs xp xq xr xc l9 r9)) (fun r hp => ?_)
  rcases hp with ⟨rfl, rfl, rfl⟩ | ⟨rfl, ha_1⟩
  ·
    refine lv_if_ne (tgt := 11) hx hb dX8_turned_6 (by decide) (fun c6 => ?_) (fun c6 => ?_)
    ·
      refine lv_iconst (v := 0) hx hb dX8_turned_11 (by decide +kernel) ?_
      refine lv_istore_n (lv' := [(3, .int 0), (0, .ref x0), (1, .int 0), (2, .int 0)]) hx hb dX8_turned_12 rfl hl (by decide) rfl (fun ls hl => ?_)
      refine lv_iconst (v := 0) hx hb dX8_turned_13 (by decide +kernel) ?_
      refine lv_istore (lv' := [(4, .int 0), (3, .int 0), (0, .ref x0), (1, .int 0), (2, .int 0)]) hx hb dX8_turned_14 hl (by decide) rfl (fun ls hl => ?_)
      refine lv_iload_n hx hb dX8_turned_16 rfl (lv_at hl 3 rfl) ?_
      refine lv_istore (lv' := [(5, .int 0), (4, .int 0), (3, .int 0), (0, .ref x0), (1, .int 0), (2, .int 0)]) hx hb dX8_turned_17 hl (by decide) rfl (fun ls hl => ?_)
      refine lv_iload hx hb dX8_turned_19 (lv_at hl 0 rfl) ?_
      refine lv_iload_n hx hb dX8_turned_21 rfl (lv_at hl 5 rfl) ?_
      refine lv_icmp_ge (tgt := 92) hx hb dX8_turned_22 (by decide) (fun c22 => ?_) (fun c22 => ?_)
      ·
        refine lv_aload_n hx hb dX8_turned_92 rfl (lv_at hl 3 rfl) ?_
        refine lv_iload hx hb dX8_turned_93 (lv_at hl 1 rfl) ?_
        refine lv_i2l (v := 0) hx hb dX8_turned_95 (by decide +kernel) ?_
        refine my_goV (wr := []) hP hD hS hA [0, 1, 2] [] rfl rfl (by decide) (by decide) (my_cV (As := [.long 0]) (rest := []) (ci := 8) (wc := [(x0, .inr (8, [.ref xn, .int 0, .ref xl, .ref xt, .ref xo, .ref xf, .ref xs, .ref xp, .ref xq, .ref xr, .ref xc])), (xo, .inr (7, [.ref o1, .int o2])), (o1, .inl (cJ, 64, .inr (.inl of)))]) ⟨hx, hb, hml, hown, hts⟩ (cwV 1 hts gX8_turned_X8_tell rfl rfl rfl (by decide +kernel) ⟨Nat.le_of_ble_eq_true rfl, Nat.le_of_ble_eq_true rfl⟩) hN hK hP hD [0, 1, 2] rfl (by decide) rfl 0 rfl rfl rfl rfl hl.1 rfl (Nat.le_of_ble_eq_true rfl) dX8_turned_96 ⟨Nat.le_of_ble_eq_true rfl, Nat.le_of_ble_eq_true rfl⟩  ((k_X8_tell l D cI cJ x0 xn xl xt xo xf xs xp xq xr xc o1 (0 : Int32) o2 of (0 : Int64)) _)) (fun u H locs hp hP hD hS => ?_)
        obtain ⟨k_2, f_3, rfl, ha_4⟩ := hp
        have hP : va_P D vwCl [(x0, .inr (8, [.ref xn, .int 0, .ref xl, .ref xt, .ref xo, .ref xf, .ref xs, .ref xp, .ref xq, .ref xr, .ref xc])), (xo, .inr (7, [.ref o1, .int (nI k_2)])), (o1, .inl (cJ, 64, .inr (.inl f_3)))] H := hP
        have hD : va_D A [(x0, .inr (8, [.ref xn, .int 0, .ref xl, .ref xt, .ref xo, .ref xf, .ref xs, .ref xp, .ref xq, .ref xr, .ref xc])), (xo, .inr (7, [.ref o1, .int (nI k_2)])), (o1, .inl (cJ, 64, .inr (.inl f_3)))] := hD
        refine lv_iload_n hx hb dX8_turned_99 rfl (lv_at hl 2 rfl) ?_
        exact my_retI hx hb hr hlocks hK hS [] (hP.sub [] rfl) (hD.sub [] (by decide) rfl) (Or.inl ⟨rfl, rfl, (by first | omega | assumption | trivial | decide +kernel), (by first | omega | assumption | trivial | decide +kernel)⟩) dX8_turned_100
      ·
        exact absurd c22 (by decide +kernel)
    ·
      exact absurd c6 (by decide +kernel)
  ·
    refine lv_if_ne (tgt := 11) hx hb dX8_turned_6 (by decide) (fun c6 => ?_) (fun c6 => ?_)
    ·
      exact absurd c6 (by decide +kernel)
    ·
      refine lv_iconst (v := (-1)) hx hb dX8_turned_9 (by decide +kernel) ?_
      exact my_retI hx hb hr hlocks hK hS [] (hP.sub [] rfl) (hD.sub [] (by decide) rfl) (Or.inr (⟨rfl, rfl, (by first | omega | assumption | trivial | decide +kernel)⟩)) dX8_turned_10
set_option maxHeartbeats 4000000 in
set_option maxRecDepth 100000 in
theorem k0_X8_nearest (l : Launch) (D : va_G) (cI cJ : ClassId) (x0 : Nat) (xn : Nat) (xl : Nat) (xt : Nat) (xo : Nat) (xf : Nat) (xs : Nat) (xp : Nat) (xq : Nat) (xr : Nat) (xc : Nat) (l9 : Int32) (r9 : Int32) : ctI l yX8_nearest wsX8_nearest ({ frames := 1, cells := 0, slots := 0, locals := 60 } : Room) D (tyIJ cI cJ) [.ref x0, .int l9, .int r9] [(x0, .inr (8, [.ref xn, .int 0, .ref xl, .ref xt, .ref xo, .ref xf, .ref xs, .ref xp, .ref xq, .ref xr, .ref xc]))] (fun (r : Int32) (u : va_W) => (u = [] ∧ r = (-2) ∧ l9.toInt = 0 ∧ r9.toInt = 0) ∨ (u = [] ∧ r = (-1) ∧ (l9.toInt < 0 ∨ r9.toInt < l9.toInt ∨ 0 < r9.toInt))) := by
  refine ctI.of (cc := cX8_nearest) (maxL := 5) (ret := (some .int)) (by decide) rfl (Nat.le_of_ble_eq_true rfl) ?_
  intro p e s m below meth c ls A hx hb hr hts hown hml hlocks hname hA hK hN hP hD hS hl
  have hl : lv_has ls 5 [(0, .ref x0), (1, .int l9), (2, .int r9)] := hl
  have hown : s.vm.findClass RX8 = some m.cls := hown
  refine lv_aload_n hx hb dX8_nearest_0 rfl (lv_at hl 0 rfl) ?_
  refine lv_iload_n hx hb dX8_nearest_1 rfl (lv_at hl 1 rfl) ?_
  refine lv_iload_n hx hb dX8_nearest_2 rfl (lv_at hl 2 rfl) ?_
  refine my_gpI (my_pV (As := [.int l9, .int r9]) (rest := []) (ci := 8) ⟨hx, hb, hml, hown, hts⟩ (cwV 2 hts gX8_nearest_X8_isSpan rfl rfl rfl (by decide +kernel) ⟨Nat.le_of_ble_eq_true rfl, Nat.le_of_ble_eq_true rfl⟩) hN hK hP [0] rfl 0 rfl rfl rfl rfl hl.1 rfl (Nat.le_of_ble_eq_true rfl) dX8_nearest_3 ⟨Nat.le_of_ble_eq_true rfl, Nat.le_of_ble_eq_true rfl⟩  (k0_X8_isSpan l D cI cJ x0 xn xl xt xo xf xs xp xq xr xc l9 r9)) (fun r hp => ?_)
  rcases hp with ⟨rfl, rfl, rfl⟩ | ⟨rfl, ha_1⟩
  ·
    refine lv_if_ne (tgt := 11) hx hb dX8_nearest_6 (by decide) (fun c6 => ?_) (fun c6 => ?_)
    ·
      refine lv_iload_n hx hb dX8_nearest_11 rfl (lv_at hl 2 rfl) ?_
      refine lv_iload_n hx hb dX8_nearest_12 rfl (lv_at hl 1 rfl) ?_
      refine lv_isub hx hb dX8_nearest_13 ?_
      refine my_eqi (y := 0) (by decide +kernel) ?_
      refine lv_iconst (v := 2) hx hb dX8_nearest_14 (by decide +kernel) ?_
      refine lv_icmp_ge (tgt := 21) hx hb dX8_nearest_15 (by decide) (fun c15 => ?_) (fun c15 => ?_)
      ·
        exact absurd c15 (by decide +kernel)
      ·
        refine lv_bipush (v := (-2)) hx hb dX8_nearest_18 (by decide +kernel) ?_
        exact my_retI hx hb hr hlocks hK hS [] (hP.sub [] rfl) (hD.sub [] (by decide) rfl) (Or.inl ⟨rfl, rfl, (by first | omega | assumption | trivial | decide +kernel), (by first | omega | assumption | trivial | decide +kernel)⟩) dX8_nearest_20
    ·
      exact absurd c6 (by decide +kernel)
  ·
    refine lv_if_ne (tgt := 11) hx hb dX8_nearest_6 (by decide) (fun c6 => ?_) (fun c6 => ?_)
    ·
      exact absurd c6 (by decide +kernel)
    ·
      refine lv_iconst (v := (-1)) hx hb dX8_nearest_9 (by decide +kernel) ?_
      exact my_retI hx hb hr hlocks hK hS [] (hP.sub [] rfl) (hD.sub [] (by decide) rfl) (Or.inr (⟨rfl, rfl, (by first | omega | assumption | trivial | decide +kernel)⟩)) dX8_nearest_10
set_option maxHeartbeats 4000000 in
set_option maxRecDepth 100000 in
theorem k0_X8_dense (l : Launch) (D : va_G) (cI cJ : ClassId) (x0 : Nat) (xn : Nat) (xl : Nat) (xt : Nat) (xo : Nat) (xf : Nat) (xs : Nat) (xp : Nat) (xq : Nat) (xr : Nat) (xc : Nat) (f1 : Nat) (f2 : Nat) (f3 : Int32) (ff : Nat → Int32) (o1 : Nat) (o2 : Int32) (of : Nat → Int64) (l9 : Int32) (r9 : Int32) (w9 : Int32) : ctI l yX8_dense wsX8_dense ({ frames := 4, cells := 0, slots := 0, locals := 240 } : Room) D (tyIJ cI cJ) [.ref x0, .int l9, .int r9, .int w9] [(x0, .inr (8, [.ref xn, .int 0, .ref xl, .ref xt, .ref xo, .ref xf, .ref xs, .ref xp, .ref xq, .ref xr, .ref xc])), (xf, .inr (6, [.ref f1, .ref f2, .int f3])), (f1, .inl (cI, 512, .inl (fun _ => (0 : Int32)))), (f2, .inl (cI, 64, .inl ff)), (xo, .inr (7, [.ref o1, .int o2])), (o1, .inl (cJ, 64, .inr (.inl of)))] (fun (r : Int32) (u : va_W) => (u = [] ∧ r = 0 ∧ l9.toInt = 0 ∧ r9.toInt = 0 ∧ 0 ≤ w9.toInt ∧ w9.toInt ≤ 255) ∨ (u = [] ∧ r = (-1) ∧ (l9.toInt < 0 ∨ r9.toInt < l9.toInt ∨ 0 < r9.toInt ∨ w9.toInt < 0 ∨ 255 < w9.toInt))) := by
  refine ctI.of (cc := cX8_dense) (maxL := 8) (ret := (some .int)) (by decide) rfl (Nat.le_of_ble_eq_true rfl) ?_
  intro p e s m below meth c ls A hx hb hr hts hown hml hlocks hname hA hK hN hP hD hS hl
  have hl : lv_has ls 8 [(0, .ref x0), (1, .int l9), (2, .int r9), (3, .int w9)] := hl
  have hown : s.vm.findClass RX8 = some m.cls := hown
  have hi8 : ∀ w ∈ u_ws RX8 TX8 11, w ∈ wsX8_dense := by decide +kernel
  have fl41 := hts (.fieldLink RX8 41 "PlaneColumn" "first" "LPlaneColumn$Tally;") (by decide +kernel)
  have fl9 := hts (.fieldLink RX8 9 "PlaneColumn" "numbers" "[I") (by decide +kernel)
  refine lv_aload_n hx hb dX8_dense_0 rfl (lv_at hl 0 rfl) ?_
  refine lv_iload_n hx hb dX8_dense_1 rfl (lv_at hl 1 rfl) ?_
  refine lv_iload_n hx hb dX8_dense_2 rfl (lv_at hl 2 rfl) ?_
  refine my_gpI (my_pV (As := [.int l9, .int r9]) (rest := []) (ci := 8) ⟨hx, hb, hml, hown, hts⟩ (cwV 2 hts gX8_dense_X8_isSpan rfl rfl rfl (by decide +kernel) ⟨Nat.le_of_ble_eq_true rfl, Nat.le_of_ble_eq_true rfl⟩) hN hK hP [0] rfl 0 rfl rfl rfl rfl hl.1 rfl (Nat.le_of_ble_eq_true rfl) dX8_dense_3 ⟨Nat.le_of_ble_eq_true rfl, Nat.le_of_ble_eq_true rfl⟩  (k0_X8_isSpan l D cI cJ x0 xn xl xt xo xf xs xp xq xr xc l9 r9)) (fun r hp => ?_)
  rcases hp with ⟨rfl, rfl, rfl⟩ | ⟨rfl, ha_1⟩
  ·
    refine lv_if_eq (tgt := 16) hx hb dX8_dense_6 (by decide) (fun c6 => ?_) (fun c6 => ?_)
    ·
      exact absurd c6 (by decide +kernel)
    ·
      refine lv_iload_n hx hb dX8_dense_9 rfl (lv_at hl 3 rfl) ?_
      refine my_gpI (my_pS (As := [.int w9]) (rest := []) ⟨hx, hb, hml, hown, hts⟩ (va_cwS 1 hts gX8_dense_X8_isNumber rfl rfl rfl (by decide +kernel) ⟨Nat.le_of_ble_eq_true rfl, Nat.le_of_ble_eq_true rfl⟩) hN hK hP [] rfl rfl hl.1 rfl (Nat.le_of_ble_eq_true rfl) dX8_dense_10 ⟨Nat.le_of_ble_eq_true rfl, Nat.le_of_ble_eq_true rfl⟩  (k_X8_isNumber l D cI cJ w9)) (fun r hp => ?_)
      rcases hp with ⟨rfl, hgv_2, hlv_3⟩ | ⟨rfl, ho_4⟩
      ·
        refine lv_if_ne (tgt := 18) hx hb dX8_dense_13 (by decide) (fun c13 => ?_) (fun c13 => ?_)
        ·
          refine lv_aload_n hx hb dX8_dense_18 rfl (lv_at hl 0 rfl) ?_
          refine va_get (ci := 8) (v := .ref xf) (C := RX8) (T := TX8) (N := 11) hx hb hts hi8 hown hK hP 0 rfl rfl 5 (by decide) fl41 (fun _ h9 => h9) rfl dX8_dense_19 ?_
          refine lv_aload_n hx hb dX8_dense_22 rfl (lv_at hl 0 rfl) ?_
          refine va_get (ci := 8) (v := .ref xn) (C := RX8) (T := TX8) (N := 11) hx hb hts hi8 hown hK hP 0 rfl rfl 0 (by decide) fl9 (fun _ h9 => h9) rfl dX8_dense_23 ?_
          refine lv_iload_n hx hb dX8_dense_26 rfl (lv_at hl 1 rfl) ?_
          refine lv_iload_n hx hb dX8_dense_27 rfl (lv_at hl 2 rfl) ?_
          refine my_goV (wr := [(x0, .inr (8, [.ref xn, .int 0, .ref xl, .ref xt, .ref xo, .ref xf, .ref xs, .ref xp, .ref xq, .ref xr, .ref xc])), (xo, .inr (7, [.ref o1, .int o2])), (o1, .inl (cJ, 64, .inr (.inl of)))]) hP hD hS hA [1, 2, 3] [0, 4, 5] rfl rfl (by decide) (by decide) (my_cV (As := [.ref xn, .int 0, .int 0]) (rest := []) (ci := 6) (wc := [(xf, .inr (6, [.ref f1, .ref f2, .int f3])), (f1, .inl (cI, 512, .inl (fun _ => (0 : Int32)))), (f2, .inl (cI, 64, .inl ff))]) ⟨hx, hb, hml, hown, hts⟩ (cwV 3 hts gX8_dense_X6_take rfl rfl rfl (by decide +kernel) ⟨Nat.le_of_ble_eq_true rfl, Nat.le_of_ble_eq_true rfl⟩) hN hK hP hD [1, 2, 3] rfl (by decide) rfl 1 rfl rfl rfl rfl hl.1 rfl (Nat.le_of_ble_eq_true rfl) dX8_dense_28 ⟨Nat.le_of_ble_eq_true rfl, Nat.le_of_ble_eq_true rfl⟩  ((k0_X6_take l D cI cJ xf f1 f2 xn f3 ff) _)) (fun u H locs hp hP hD hS => ?_)
          obtain rfl := hp
          have hP : va_P D vwCl [(x0, .inr (8, [.ref xn, .int 0, .ref xl, .ref xt, .ref xo, .ref xf, .ref xs, .ref xp, .ref xq, .ref xr, .ref xc])), (xo, .inr (7, [.ref o1, .int o2])), (o1, .inl (cJ, 64, .inr (.inl of))), (xf, .inr (6, [.ref f1, .ref f2, .int 0])), (f1, .inl (cI, 512, .inl (fun _ => (0 : Int32)))), (f2, .inl (cI, 64, .inl ff))] H := hP
          have hD : va_D A [(x0, .inr (8, [.ref xn, .int 0, .ref xl, .ref xt, .ref xo, .ref xf, .ref xs, .ref xp, .ref xq, .ref xr, .ref xc])), (xo, .inr (7, [.ref o1, .int o2])), (o1, .inl (cJ, 64, .inr (.inl of))), (xf, .inr (6, [.ref f1, .ref f2, .int 0])), (f1, .inl (cI, 512, .inl (fun _ => (0 : Int32)))), (f2, .inl (cI, 64, .inl ff))] := hD
          refine lv_iconst (v := 0) hx hb dX8_dense_31 (by decide +kernel) ?_
          refine lv_istore (lv' := [(4, .int 0), (0, .ref x0), (1, .int 0), (2, .int 0), (3, .int w9)]) hx hb dX8_dense_32 hl (by decide) rfl (fun ls hl => ?_)
          refine lv_iconst (v := (-1)) hx hb dX8_dense_34 (by decide +kernel) ?_
          refine lv_istore (lv' := [(5, .int (-1)), (4, .int 0), (0, .ref x0), (1, .int 0), (2, .int 0), (3, .int w9)]) hx hb dX8_dense_35 hl (by decide) rfl (fun ls hl => ?_)
          refine lv_iconst (v := 0) hx hb dX8_dense_37 (by decide +kernel) ?_
          refine lv_istore (lv' := [(6, .int 0), (5, .int (-1)), (4, .int 0), (0, .ref x0), (1, .int 0), (2, .int 0), (3, .int w9)]) hx hb dX8_dense_38 hl (by decide) rfl (fun ls hl => ?_)
          refine lv_iload hx hb dX8_dense_40 (lv_at hl 0 rfl) ?_
          refine lv_iload_n hx hb dX8_dense_42 rfl (lv_at hl 5 rfl) ?_
          refine lv_iload_n hx hb dX8_dense_43 rfl (lv_at hl 4 rfl) ?_
          refine lv_isub hx hb dX8_dense_44 ?_
          refine my_eqi (y := 0) (by decide +kernel) ?_
          refine lv_icmp_ge (tgt := 85) hx hb dX8_dense_45 (by decide) (fun c45 => ?_) (fun c45 => ?_)
          ·
            refine lv_aload_n hx hb dX8_dense_85 rfl (lv_at hl 3 rfl) ?_
            refine lv_iload hx hb dX8_dense_86 (lv_at hl 1 rfl) ?_
            refine lv_i2l (v := (-1)) hx hb dX8_dense_88 (by decide +kernel) ?_
            refine my_goV (wr := [(xf, .inr (6, [.ref f1, .ref f2, .int 0])), (f1, .inl (cI, 512, .inl (fun _ => (0 : Int32)))), (f2, .inl (cI, 64, .inl ff))]) hP hD hS hA [0, 1, 2] [3, 4, 5] rfl rfl (by decide) (by decide) (my_cV (As := [.long (-1)]) (rest := []) (ci := 8) (wc := [(x0, .inr (8, [.ref xn, .int 0, .ref xl, .ref xt, .ref xo, .ref xf, .ref xs, .ref xp, .ref xq, .ref xr, .ref xc])), (xo, .inr (7, [.ref o1, .int o2])), (o1, .inl (cJ, 64, .inr (.inl of)))]) ⟨hx, hb, hml, hown, hts⟩ (cwV 1 hts gX8_dense_X8_tell rfl rfl rfl (by decide +kernel) ⟨Nat.le_of_ble_eq_true rfl, Nat.le_of_ble_eq_true rfl⟩) hN hK hP hD [0, 1, 2] rfl (by decide) rfl 0 rfl rfl rfl rfl hl.1 rfl (Nat.le_of_ble_eq_true rfl) dX8_dense_89 ⟨Nat.le_of_ble_eq_true rfl, Nat.le_of_ble_eq_true rfl⟩  ((k_X8_tell l D cI cJ x0 xn xl xt xo xf xs xp xq xr xc o1 (0 : Int32) o2 of (-1 : Int64)) _)) (fun u H locs hp hP hD hS => ?_)
            obtain ⟨k_5, f_6, rfl, ha_7⟩ := hp
            have hP : va_P D vwCl [(xf, .inr (6, [.ref f1, .ref f2, .int 0])), (f1, .inl (cI, 512, .inl (fun _ => (0 : Int32)))), (f2, .inl (cI, 64, .inl ff)), (x0, .inr (8, [.ref xn, .int 0, .ref xl, .ref xt, .ref xo, .ref xf, .ref xs, .ref xp, .ref xq, .ref xr, .ref xc])), (xo, .inr (7, [.ref o1, .int (nI k_5)])), (o1, .inl (cJ, 64, .inr (.inl f_6)))] H := hP
            have hD : va_D A [(xf, .inr (6, [.ref f1, .ref f2, .int 0])), (f1, .inl (cI, 512, .inl (fun _ => (0 : Int32)))), (f2, .inl (cI, 64, .inl ff)), (x0, .inr (8, [.ref xn, .int 0, .ref xl, .ref xt, .ref xo, .ref xf, .ref xs, .ref xp, .ref xq, .ref xr, .ref xc])), (xo, .inr (7, [.ref o1, .int (nI k_5)])), (o1, .inl (cJ, 64, .inr (.inl f_6)))] := hD
            refine lv_iload hx hb dX8_dense_92 (lv_at hl 2 rfl) ?_
            exact my_retI hx hb hr hlocks hK hS [] (hP.sub [] rfl) (hD.sub [] (by decide) rfl) (Or.inl ⟨rfl, rfl, (by first | omega | assumption | trivial | decide +kernel), (by first | omega | assumption | trivial | decide +kernel), (by first | omega | assumption | trivial | decide +kernel), (by first | omega | assumption | trivial | decide +kernel)⟩) dX8_dense_94
          ·
            exact absurd c45 (by decide +kernel)
        ·
          exact absurd c13 (by decide +kernel)
      ·
        refine lv_if_ne (tgt := 18) hx hb dX8_dense_13 (by decide) (fun c13 => ?_) (fun c13 => ?_)
        ·
          exact absurd c13 (by decide +kernel)
        ·
          refine lv_iconst (v := (-1)) hx hb dX8_dense_16 (by decide +kernel) ?_
          exact my_retI hx hb hr hlocks hK hS [] (hP.sub [] rfl) (hD.sub [] (by decide) rfl) (Or.inr (⟨rfl, rfl, (by first | omega | assumption | trivial | decide +kernel)⟩)) dX8_dense_17
  ·
    refine lv_if_eq (tgt := 16) hx hb dX8_dense_6 (by decide) (fun c6 => ?_) (fun c6 => ?_)
    ·
      refine lv_iconst (v := (-1)) hx hb dX8_dense_16 (by decide +kernel) ?_
      exact my_retI hx hb hr hlocks hK hS [] (hP.sub [] rfl) (hD.sub [] (by decide) rfl) (Or.inr (⟨rfl, rfl, (by first | omega | assumption | trivial | decide +kernel)⟩)) dX8_dense_17
    ·
      exact absurd c6 (by decide +kernel)
set_option maxHeartbeats 4000000 in
set_option maxRecDepth 100000 in
theorem k0_X8_farthest (l : Launch) (D : va_G) (cI cJ : ClassId) (x0 : Nat) (xn : Nat) (xl : Nat) (xt : Nat) (xo : Nat) (xf : Nat) (xs : Nat) (xp : Nat) (xq : Nat) (xr : Nat) (xc : Nat) (f1 : Nat) (f2 : Nat) (f3 : Int32) (ff : Nat → Int32) (o1 : Nat) (o2 : Int32) (of : Nat → Int64) (l9 : Int32) (r9 : Int32) (w9 : Int32) : ctI l yX8_farthest wsX8_farthest ({ frames := 4, cells := 0, slots := 0, locals := 240 } : Room) D (tyIJ cI cJ) [.ref x0, .int l9, .int r9, .int w9] [(x0, .inr (8, [.ref xn, .int 0, .ref xl, .ref xt, .ref xo, .ref xf, .ref xs, .ref xp, .ref xq, .ref xr, .ref xc])), (xf, .inr (6, [.ref f1, .ref f2, .int f3])), (f1, .inl (cI, 512, .inl (fun _ => (0 : Int32)))), (f2, .inl (cI, 64, .inl ff)), (xo, .inr (7, [.ref o1, .int o2])), (o1, .inl (cJ, 64, .inr (.inl of)))] (fun (r : Int32) (u : va_W) => (u = [] ∧ r = (-2) ∧ l9.toInt = 0 ∧ r9.toInt = 0 ∧ 0 ≤ w9.toInt ∧ w9.toInt ≤ 255) ∨ (u = [] ∧ r = (-1) ∧ (l9.toInt < 0 ∨ r9.toInt < l9.toInt ∨ 0 < r9.toInt ∨ w9.toInt < 0 ∨ 255 < w9.toInt))) := by
  refine ctI.of (cc := cX8_farthest) (maxL := 6) (ret := (some .int)) (by decide) rfl (Nat.le_of_ble_eq_true rfl) ?_
  intro p e s m below meth c ls A hx hb hr hts hown hml hlocks hname hA hK hN hP hD hS hl
  have hl : lv_has ls 6 [(0, .ref x0), (1, .int l9), (2, .int r9), (3, .int w9)] := hl
  have hown : s.vm.findClass RX8 = some m.cls := hown
  have hi8 : ∀ w ∈ u_ws RX8 TX8 11, w ∈ wsX8_farthest := by decide +kernel
  have fl41 := hts (.fieldLink RX8 41 "PlaneColumn" "first" "LPlaneColumn$Tally;") (by decide +kernel)
  have fl9 := hts (.fieldLink RX8 9 "PlaneColumn" "numbers" "[I") (by decide +kernel)
  refine lv_aload_n hx hb dX8_farthest_0 rfl (lv_at hl 0 rfl) ?_
  refine lv_iload_n hx hb dX8_farthest_1 rfl (lv_at hl 1 rfl) ?_
  refine lv_iload_n hx hb dX8_farthest_2 rfl (lv_at hl 2 rfl) ?_
  refine my_gpI (my_pV (As := [.int l9, .int r9]) (rest := []) (ci := 8) ⟨hx, hb, hml, hown, hts⟩ (cwV 2 hts gX8_farthest_X8_isSpan rfl rfl rfl (by decide +kernel) ⟨Nat.le_of_ble_eq_true rfl, Nat.le_of_ble_eq_true rfl⟩) hN hK hP [0] rfl 0 rfl rfl rfl rfl hl.1 rfl (Nat.le_of_ble_eq_true rfl) dX8_farthest_3 ⟨Nat.le_of_ble_eq_true rfl, Nat.le_of_ble_eq_true rfl⟩  (k0_X8_isSpan l D cI cJ x0 xn xl xt xo xf xs xp xq xr xc l9 r9)) (fun r hp => ?_)
  rcases hp with ⟨rfl, rfl, rfl⟩ | ⟨rfl, ha_1⟩
  ·
    refine lv_if_eq (tgt := 16) hx hb dX8_farthest_6 (by decide) (fun c6 => ?_) (fun c6 => ?_)
    ·
      exact absurd c6 (by decide +kernel)
    ·
      refine lv_iload_n hx hb dX8_farthest_9 rfl (lv_at hl 3 rfl) ?_
      refine my_gpI (my_pS (As := [.int w9]) (rest := []) ⟨hx, hb, hml, hown, hts⟩ (va_cwS 1 hts gX8_farthest_X8_isNumber rfl rfl rfl (by decide +kernel) ⟨Nat.le_of_ble_eq_true rfl, Nat.le_of_ble_eq_true rfl⟩) hN hK hP [] rfl rfl hl.1 rfl (Nat.le_of_ble_eq_true rfl) dX8_farthest_10 ⟨Nat.le_of_ble_eq_true rfl, Nat.le_of_ble_eq_true rfl⟩  (k_X8_isNumber l D cI cJ w9)) (fun r hp => ?_)
      rcases hp with ⟨rfl, hgv_2, hlv_3⟩ | ⟨rfl, ho_4⟩
      ·
        refine lv_if_ne (tgt := 18) hx hb dX8_farthest_13 (by decide) (fun c13 => ?_) (fun c13 => ?_)
        ·
          refine lv_aload_n hx hb dX8_farthest_18 rfl (lv_at hl 0 rfl) ?_
          refine va_get (ci := 8) (v := .ref xf) (C := RX8) (T := TX8) (N := 11) hx hb hts hi8 hown hK hP 0 rfl rfl 5 (by decide) fl41 (fun _ h9 => h9) rfl dX8_farthest_19 ?_
          refine lv_aload_n hx hb dX8_farthest_22 rfl (lv_at hl 0 rfl) ?_
          refine va_get (ci := 8) (v := .ref xn) (C := RX8) (T := TX8) (N := 11) hx hb hts hi8 hown hK hP 0 rfl rfl 0 (by decide) fl9 (fun _ h9 => h9) rfl dX8_farthest_23 ?_
          refine lv_iload_n hx hb dX8_farthest_26 rfl (lv_at hl 1 rfl) ?_
          refine lv_iload_n hx hb dX8_farthest_27 rfl (lv_at hl 2 rfl) ?_
          refine my_goV (wr := [(x0, .inr (8, [.ref xn, .int 0, .ref xl, .ref xt, .ref xo, .ref xf, .ref xs, .ref xp, .ref xq, .ref xr, .ref xc])), (xo, .inr (7, [.ref o1, .int o2])), (o1, .inl (cJ, 64, .inr (.inl of)))]) hP hD hS hA [1, 2, 3] [0, 4, 5] rfl rfl (by decide) (by decide) (my_cV (As := [.ref xn, .int 0, .int 0]) (rest := []) (ci := 6) (wc := [(xf, .inr (6, [.ref f1, .ref f2, .int f3])), (f1, .inl (cI, 512, .inl (fun _ => (0 : Int32)))), (f2, .inl (cI, 64, .inl ff))]) ⟨hx, hb, hml, hown, hts⟩ (cwV 3 hts gX8_farthest_X6_take rfl rfl rfl (by decide +kernel) ⟨Nat.le_of_ble_eq_true rfl, Nat.le_of_ble_eq_true rfl⟩) hN hK hP hD [1, 2, 3] rfl (by decide) rfl 1 rfl rfl rfl rfl hl.1 rfl (Nat.le_of_ble_eq_true rfl) dX8_farthest_28 ⟨Nat.le_of_ble_eq_true rfl, Nat.le_of_ble_eq_true rfl⟩  ((k0_X6_take l D cI cJ xf f1 f2 xn f3 ff) _)) (fun u H locs hp hP hD hS => ?_)
          obtain rfl := hp
          have hP : va_P D vwCl [(x0, .inr (8, [.ref xn, .int 0, .ref xl, .ref xt, .ref xo, .ref xf, .ref xs, .ref xp, .ref xq, .ref xr, .ref xc])), (xo, .inr (7, [.ref o1, .int o2])), (o1, .inl (cJ, 64, .inr (.inl of))), (xf, .inr (6, [.ref f1, .ref f2, .int 0])), (f1, .inl (cI, 512, .inl (fun _ => (0 : Int32)))), (f2, .inl (cI, 64, .inl ff))] H := hP
          have hD : va_D A [(x0, .inr (8, [.ref xn, .int 0, .ref xl, .ref xt, .ref xo, .ref xf, .ref xs, .ref xp, .ref xq, .ref xr, .ref xc])), (xo, .inr (7, [.ref o1, .int o2])), (o1, .inl (cJ, 64, .inr (.inl of))), (xf, .inr (6, [.ref f1, .ref f2, .int 0])), (f1, .inl (cI, 512, .inl (fun _ => (0 : Int32)))), (f2, .inl (cI, 64, .inl ff))] := hD
          refine lv_sipush (v := 255) hx hb dX8_farthest_31 (by decide +kernel) ?_
          refine lv_istore (lv' := [(4, .int 255), (0, .ref x0), (1, .int 0), (2, .int 0), (3, .int w9)]) hx hb dX8_farthest_34 hl (by decide) rfl (fun ls hl => ?_)
          have loop36 : ∀ (n9 : Nat) (x : Int32), (x.toInt + 1).toNat < n9 → (-1 ≤ x.toInt) → (x.toInt ≤ 256) → ∀ (H : Heap) (locs : List Loc) (ls : Array Slot), va_P D vwCl [(x0, .inr (8, [.ref xn, .int 0, .ref xl, .ref xt, .ref xo, .ref xf, .ref xs, .ref xp, .ref xq, .ref xr, .ref xc])), (xf, .inr (6, [.ref f1, .ref f2, .int 0])), (f1, .inl (cI, 512, .inl (fun _ => (0 : Int32)))), (xo, .inr (7, [.ref o1, .int o2])), (o1, .inl (cJ, 64, .inr (.inl of)))] H → va_D A [(x0, .inr (8, [.ref xn, .int 0, .ref xl, .ref xt, .ref xo, .ref xf, .ref xs, .ref xp, .ref xq, .ref xr, .ref xc])), (xf, .inr (6, [.ref f1, .ref f2, .int 0])), (f1, .inl (cI, 512, .inl (fun _ => (0 : Int32)))), (xo, .inr (7, [.ref o1, .int o2])), (o1, .inl (cJ, 64, .inr (.inl of)))] → va_S A s.heap H locs → lv_has ls 6 [(4, .int x), (3, .int w9), (0, .ref x0)] → W p l e ({ frames := 4, cells := 0, slots := 0, locals := 240 } : Room) s m [.ref x0, .int (0 : Int32), .int (0 : Int32), .int w9].toArray below meth c H locs 0 0 (MQ below (va_Qi (fun (r : Int32) (u : va_W) => (u = [] ∧ r = (-2) ∧ (0 : Int32).toInt = 0 ∧ (0 : Int32).toInt = 0 ∧ 0 ≤ w9.toInt ∧ w9.toInt ≤ 255) ∨ (u = [] ∧ r = (-1) ∧ ((0 : Int32).toInt < 0 ∨ (0 : Int32).toInt < (0 : Int32).toInt ∨ 0 < (0 : Int32).toInt ∨ w9.toInt < 0 ∨ 255 < w9.toInt))) (my_B D (tyIJ cI cJ) A) A) [.ref x0, .int (0 : Int32), .int (0 : Int32), .int w9].toArray s 0 0 A) (F0 m 36 ls []) := by
            intro n9
            induction n9 with
            | zero =>
              intro x hn9
              exact absurd hn9 (Nat.not_lt_zero _)
            | succ n9 ih36 =>
              intro x hn9 hx0 hx1 H locs ls hP hD hS hl
              refine lv_iload hx hb dX8_farthest_36 (lv_at hl 0 rfl) ?_
              refine lv_if_lt (tgt := 80) hx hb dX8_farthest_38 (by decide) (fun c38 => ?_) (fun c38 => ?_)
              ·
                have d38 : x.toInt < (0 : Int) := my_lt c38 rfl (by decide +kernel)
                refine lv_bipush (v := (-2)) hx hb dX8_farthest_80 (by decide +kernel) ?_
                exact my_retI hx hb hr hlocks hK hS [] (hP.sub [] rfl) (hD.sub [] (by decide) rfl) (Or.inl ⟨rfl, rfl, (by first | omega | assumption | trivial | decide +kernel), (by first | omega | assumption | trivial | decide +kernel), (by first | omega | assumption | trivial | decide +kernel), (by first | omega | assumption | trivial | decide +kernel)⟩) dX8_farthest_82
              ·
                have d38 : x.toInt ≥ (0 : Int) := my_nlt c38 rfl (by decide +kernel)
                refine lv_aload_n hx hb dX8_farthest_41 rfl (lv_at hl 2 rfl) ?_
                refine va_get (ci := 8) (v := .ref xf) (C := RX8) (T := TX8) (N := 11) hx hb hts hi8 hown hK hP 0 rfl rfl 5 (by decide) fl41 (fun _ h9 => h9) rfl dX8_farthest_42 ?_
                refine lv_iload hx hb dX8_farthest_45 (lv_at hl 0 rfl) ?_
                refine lv_iload_n hx hb dX8_farthest_47 rfl (lv_at hl 1 rfl) ?_
                refine lv_ixor hx hb dX8_farthest_48 ?_
                refine lv_topi (fun z_5 ez_5 => ?_)
                refine my_gpI (my_pV (As := [.int z_5]) (rest := []) (ci := 6) ⟨hx, hb, hml, hown, hts⟩ (cwV 1 hts gX8_farthest_X6_timesOf rfl rfl rfl (by decide +kernel) ⟨Nat.le_of_ble_eq_true rfl, Nat.le_of_ble_eq_true rfl⟩) hN hK hP [1, 2] rfl 1 rfl rfl rfl rfl hl.1 rfl (Nat.le_of_ble_eq_true rfl) dX8_farthest_49 ⟨Nat.le_of_ble_eq_true rfl, Nat.le_of_ble_eq_true rfl⟩  (k0_X6_timesOf l D cI cJ xf f1 f2 (0 : Int32) z_5)) (fun r hp => ?_)
                obtain rfl := hp
                refine lv_istore (lv' := [(5, .int 0), (4, .int x), (3, .int w9), (0, .ref x0)]) hx hb dX8_farthest_52 hl (by decide) rfl (fun ls hl => ?_)
                refine lv_iload hx hb dX8_farthest_54 (lv_at hl 0 rfl) ?_
                refine lv_if_le (tgt := 74) hx hb dX8_farthest_56 (by decide) (fun c56 => ?_) (fun c56 => ?_)
                ·
                  obtain ⟨z_6, ez_6⟩ : ∃ y : Int32, y = x + (-1) := ⟨_, rfl⟩
                  have tz_6 : z_6.toInt = x.toInt + (-1) := by rw [ez_6]; exact my_addI rfl (by decide +kernel) (by omega) (by omega)
                  refine lv_iinc (v := z_6) (lv' := [(4, .int z_6), (5, .int 0), (3, .int w9), (0, .ref x0)]) hx hb dX8_farthest_74 hl (k := 1) rfl (by rw [ez_6]; rfl) (by decide) rfl (fun ls hl => ?_)
                  refine lv_goto (tgt := 36) hx hb dX8_farthest_77 (by decide) ?_
                  exact ih36  z_6 (by omega) (by omega) (by omega) _ _ ls (hP.sub [0, 1, 2, 3, 4] rfl) (hD.sub [0, 1, 2, 3, 4] (by decide) rfl) hS (lv_sub hl [0, 2, 3] rfl)
                ·
                  exact absurd c56 (by decide +kernel)
          exact loop36 ((((255 : Int32).toInt + 1).toNat) + 1) (255 : Int32) (Nat.lt_succ_self _) (by first | omega | decide +kernel) (by first | omega | decide +kernel) _ _ ls (hP.sub [0, 3, 4, 1, 2] rfl) (hD.sub [0, 3, 4, 1, 2] (by decide) rfl) hS (lv_sub hl [0, 4, 1] rfl)
        ·
          exact absurd c13 (by decide +kernel)
      ·
        refine lv_if_ne (tgt := 18) hx hb dX8_farthest_13 (by decide) (fun c13 => ?_) (fun c13 => ?_)
        ·
          exact absurd c13 (by decide +kernel)
        ·
          refine lv_iconst (v := (-1)) hx hb dX8_farthest_16 (by decide +kernel) ?_
          exact my_retI hx hb hr hlocks hK hS [] (hP.sub [] rfl) (hD.sub [] (by decide) rfl) (Or.inr (⟨rfl, rfl, (by first | omega | assumption | trivial | decide +kernel)⟩)) dX8_farthest_17
  ·
    refine lv_if_eq (tgt := 16) hx hb dX8_farthest_6 (by decide) (fun c6 => ?_) (fun c6 => ?_)
    ·
      refine lv_iconst (v := (-1)) hx hb dX8_farthest_16 (by decide +kernel) ?_
      exact my_retI hx hb hr hlocks hK hS [] (hP.sub [] rfl) (hD.sub [] (by decide) rfl) (Or.inr (⟨rfl, rfl, (by first | omega | assumption | trivial | decide +kernel)⟩)) dX8_farthest_17
    ·
      exact absurd c6 (by decide +kernel)
set_option maxHeartbeats 4000000 in
set_option maxRecDepth 100000 in
theorem k0_X8_fit (l : Launch) (D : va_G) (cI cJ : ClassId) (x0 : Nat) (xn : Nat) (xl : Nat) (xt : Nat) (xo : Nat) (xf : Nat) (xs : Nat) (xp : Nat) (xq : Nat) (xr : Nat) (xc : Nat) (f1 : Nat) (f2 : Nat) (f3 : Int32) (ff : Nat → Int32) (o1 : Nat) (o2 : Int32) (of : Nat → Int64) (l9 : Int32) (r9 : Int32) (k9 : Int32) : ctI l yX8_fit wsX8_fit ({ frames := 4, cells := 0, slots := 0, locals := 240 } : Room) D (tyIJ cI cJ) [.ref x0, .int l9, .int r9, .int k9] [(x0, .inr (8, [.ref xn, .int 0, .ref xl, .ref xt, .ref xo, .ref xf, .ref xs, .ref xp, .ref xq, .ref xr, .ref xc])), (xf, .inr (6, [.ref f1, .ref f2, .int f3])), (f1, .inl (cI, 512, .inl (fun _ => (0 : Int32)))), (f2, .inl (cI, 64, .inl ff)), (xo, .inr (7, [.ref o1, .int o2])), (o1, .inl (cJ, 64, .inr (.inl of)))] (fun (r : Int32) (u : va_W) => (u = [] ∧ r = 0 ∧ l9.toInt = 0 ∧ r9.toInt = 0 ∧ 0 ≤ k9.toInt) ∨ (u = [] ∧ r = (-1) ∧ (l9.toInt < 0 ∨ r9.toInt < l9.toInt ∨ 0 < r9.toInt ∨ k9.toInt < 0))) := by
  refine ctI.of (cc := cX8_fit) (maxL := 6) (ret := (some .int)) (by decide) rfl (Nat.le_of_ble_eq_true rfl) ?_
  intro p e s m below meth c ls A hx hb hr hts hown hml hlocks hname hA hK hN hP hD hS hl
  have hl : lv_has ls 6 [(0, .ref x0), (1, .int l9), (2, .int r9), (3, .int k9)] := hl
  have hown : s.vm.findClass RX8 = some m.cls := hown
  have hi8 : ∀ w ∈ u_ws RX8 TX8 11, w ∈ wsX8_fit := by decide +kernel
  have fl41 := hts (.fieldLink RX8 41 "PlaneColumn" "first" "LPlaneColumn$Tally;") (by decide +kernel)
  have fl9 := hts (.fieldLink RX8 9 "PlaneColumn" "numbers" "[I") (by decide +kernel)
  refine lv_aload_n hx hb dX8_fit_0 rfl (lv_at hl 0 rfl) ?_
  refine lv_iload_n hx hb dX8_fit_1 rfl (lv_at hl 1 rfl) ?_
  refine lv_iload_n hx hb dX8_fit_2 rfl (lv_at hl 2 rfl) ?_
  refine my_gpI (my_pV (As := [.int l9, .int r9]) (rest := []) (ci := 8) ⟨hx, hb, hml, hown, hts⟩ (cwV 2 hts gX8_fit_X8_isSpan rfl rfl rfl (by decide +kernel) ⟨Nat.le_of_ble_eq_true rfl, Nat.le_of_ble_eq_true rfl⟩) hN hK hP [0] rfl 0 rfl rfl rfl rfl hl.1 rfl (Nat.le_of_ble_eq_true rfl) dX8_fit_3 ⟨Nat.le_of_ble_eq_true rfl, Nat.le_of_ble_eq_true rfl⟩  (k0_X8_isSpan l D cI cJ x0 xn xl xt xo xf xs xp xq xr xc l9 r9)) (fun r hp => ?_)
  rcases hp with ⟨rfl, rfl, rfl⟩ | ⟨rfl, ha_1⟩
  ·
    refine lv_if_eq (tgt := 13) hx hb dX8_fit_6 (by decide) (fun c6 => ?_) (fun c6 => ?_)
    ·
      exact absurd c6 (by decide +kernel)
    ·
      refine lv_iload_n hx hb dX8_fit_9 rfl (lv_at hl 3 rfl) ?_
      refine lv_if_ge (tgt := 15) hx hb dX8_fit_10 (by decide) (fun c10 => ?_) (fun c10 => ?_)
      ·
        have d10 : k9.toInt ≥ (0 : Int) := my_ge c10 rfl (by decide +kernel)
        refine lv_aload_n hx hb dX8_fit_15 rfl (lv_at hl 0 rfl) ?_
        refine va_get (ci := 8) (v := .ref xf) (C := RX8) (T := TX8) (N := 11) hx hb hts hi8 hown hK hP 0 rfl rfl 5 (by decide) fl41 (fun _ h9 => h9) rfl dX8_fit_16 ?_
        refine lv_aload_n hx hb dX8_fit_19 rfl (lv_at hl 0 rfl) ?_
        refine va_get (ci := 8) (v := .ref xn) (C := RX8) (T := TX8) (N := 11) hx hb hts hi8 hown hK hP 0 rfl rfl 0 (by decide) fl9 (fun _ h9 => h9) rfl dX8_fit_20 ?_
        refine lv_iload_n hx hb dX8_fit_23 rfl (lv_at hl 1 rfl) ?_
        refine lv_iload_n hx hb dX8_fit_24 rfl (lv_at hl 2 rfl) ?_
        refine my_goV (wr := [(x0, .inr (8, [.ref xn, .int 0, .ref xl, .ref xt, .ref xo, .ref xf, .ref xs, .ref xp, .ref xq, .ref xr, .ref xc])), (xo, .inr (7, [.ref o1, .int o2])), (o1, .inl (cJ, 64, .inr (.inl of)))]) hP hD hS hA [1, 2, 3] [0, 4, 5] rfl rfl (by decide) (by decide) (my_cV (As := [.ref xn, .int 0, .int 0]) (rest := []) (ci := 6) (wc := [(xf, .inr (6, [.ref f1, .ref f2, .int f3])), (f1, .inl (cI, 512, .inl (fun _ => (0 : Int32)))), (f2, .inl (cI, 64, .inl ff))]) ⟨hx, hb, hml, hown, hts⟩ (cwV 3 hts gX8_fit_X6_take rfl rfl rfl (by decide +kernel) ⟨Nat.le_of_ble_eq_true rfl, Nat.le_of_ble_eq_true rfl⟩) hN hK hP hD [1, 2, 3] rfl (by decide) rfl 1 rfl rfl rfl rfl hl.1 rfl (Nat.le_of_ble_eq_true rfl) dX8_fit_25 ⟨Nat.le_of_ble_eq_true rfl, Nat.le_of_ble_eq_true rfl⟩  ((k0_X6_take l D cI cJ xf f1 f2 xn f3 ff) _)) (fun u H locs hp hP hD hS => ?_)
        obtain rfl := hp
        have hP : va_P D vwCl [(x0, .inr (8, [.ref xn, .int 0, .ref xl, .ref xt, .ref xo, .ref xf, .ref xs, .ref xp, .ref xq, .ref xr, .ref xc])), (xo, .inr (7, [.ref o1, .int o2])), (o1, .inl (cJ, 64, .inr (.inl of))), (xf, .inr (6, [.ref f1, .ref f2, .int 0])), (f1, .inl (cI, 512, .inl (fun _ => (0 : Int32)))), (f2, .inl (cI, 64, .inl ff))] H := hP
        have hD : va_D A [(x0, .inr (8, [.ref xn, .int 0, .ref xl, .ref xt, .ref xo, .ref xf, .ref xs, .ref xp, .ref xq, .ref xr, .ref xc])), (xo, .inr (7, [.ref o1, .int o2])), (o1, .inl (cJ, 64, .inr (.inl of))), (xf, .inr (6, [.ref f1, .ref f2, .int 0])), (f1, .inl (cI, 512, .inl (fun _ => (0 : Int32)))), (f2, .inl (cI, 64, .inl ff))] := hD
        refine lv_iconst (v := 0) hx hb dX8_fit_28 (by decide +kernel) ?_
        refine lv_istore (lv' := [(4, .int 0), (0, .ref x0), (1, .int 0), (2, .int 0), (3, .int k9)]) hx hb dX8_fit_29 hl (by decide) rfl (fun ls hl => ?_)
        refine lv_iconst (v := 0) hx hb dX8_fit_31 (by decide +kernel) ?_
        refine lv_istore (lv' := [(5, .int 0), (4, .int 0), (0, .ref x0), (1, .int 0), (2, .int 0), (3, .int k9)]) hx hb dX8_fit_32 hl (by decide) rfl (fun ls hl => ?_)
        refine lv_iload hx hb dX8_fit_34 (lv_at hl 1 rfl) ?_
        refine lv_iload_n hx hb dX8_fit_36 rfl (lv_at hl 4 rfl) ?_
        refine lv_iload_n hx hb dX8_fit_37 rfl (lv_at hl 3 rfl) ?_
        refine lv_isub hx hb dX8_fit_38 ?_
        refine my_eqi (y := 0) (by decide +kernel) ?_
        refine lv_icmp_ge (tgt := 78) hx hb dX8_fit_39 (by decide) (fun c39 => ?_) (fun c39 => ?_)
        ·
          refine lv_aload_n hx hb dX8_fit_78 rfl (lv_at hl 2 rfl) ?_
          refine lv_iload hx hb dX8_fit_79 (lv_at hl 0 rfl) ?_
          refine lv_i2l (v := 0) hx hb dX8_fit_81 (by decide +kernel) ?_
          refine my_goV (wr := [(xf, .inr (6, [.ref f1, .ref f2, .int 0])), (f1, .inl (cI, 512, .inl (fun _ => (0 : Int32)))), (f2, .inl (cI, 64, .inl ff))]) hP hD hS hA [0, 1, 2] [3, 4, 5] rfl rfl (by decide) (by decide) (my_cV (As := [.long 0]) (rest := []) (ci := 8) (wc := [(x0, .inr (8, [.ref xn, .int 0, .ref xl, .ref xt, .ref xo, .ref xf, .ref xs, .ref xp, .ref xq, .ref xr, .ref xc])), (xo, .inr (7, [.ref o1, .int o2])), (o1, .inl (cJ, 64, .inr (.inl of)))]) ⟨hx, hb, hml, hown, hts⟩ (cwV 1 hts gX8_fit_X8_tell rfl rfl rfl (by decide +kernel) ⟨Nat.le_of_ble_eq_true rfl, Nat.le_of_ble_eq_true rfl⟩) hN hK hP hD [0, 1, 2] rfl (by decide) rfl 0 rfl rfl rfl rfl hl.1 rfl (Nat.le_of_ble_eq_true rfl) dX8_fit_82 ⟨Nat.le_of_ble_eq_true rfl, Nat.le_of_ble_eq_true rfl⟩  ((k_X8_tell l D cI cJ x0 xn xl xt xo xf xs xp xq xr xc o1 (0 : Int32) o2 of (0 : Int64)) _)) (fun u H locs hp hP hD hS => ?_)
          obtain ⟨k_2, f_3, rfl, ha_4⟩ := hp
          have hP : va_P D vwCl [(xf, .inr (6, [.ref f1, .ref f2, .int 0])), (f1, .inl (cI, 512, .inl (fun _ => (0 : Int32)))), (f2, .inl (cI, 64, .inl ff)), (x0, .inr (8, [.ref xn, .int 0, .ref xl, .ref xt, .ref xo, .ref xf, .ref xs, .ref xp, .ref xq, .ref xr, .ref xc])), (xo, .inr (7, [.ref o1, .int (nI k_2)])), (o1, .inl (cJ, 64, .inr (.inl f_3)))] H := hP
          have hD : va_D A [(xf, .inr (6, [.ref f1, .ref f2, .int 0])), (f1, .inl (cI, 512, .inl (fun _ => (0 : Int32)))), (f2, .inl (cI, 64, .inl ff)), (x0, .inr (8, [.ref xn, .int 0, .ref xl, .ref xt, .ref xo, .ref xf, .ref xs, .ref xp, .ref xq, .ref xr, .ref xc])), (xo, .inr (7, [.ref o1, .int (nI k_2)])), (o1, .inl (cJ, 64, .inr (.inl f_3)))] := hD
          refine lv_iload hx hb dX8_fit_85 (lv_at hl 1 rfl) ?_
          exact my_retI hx hb hr hlocks hK hS [] (hP.sub [] rfl) (hD.sub [] (by decide) rfl) (Or.inl ⟨rfl, rfl, (by first | omega | assumption | trivial | decide +kernel), (by first | omega | assumption | trivial | decide +kernel), (by first | omega | assumption | trivial | decide +kernel)⟩) dX8_fit_87
        ·
          exact absurd c39 (by decide +kernel)
      ·
        have d10 : k9.toInt < (0 : Int) := my_nge c10 rfl (by decide +kernel)
        refine lv_iconst (v := (-1)) hx hb dX8_fit_13 (by decide +kernel) ?_
        exact my_retI hx hb hr hlocks hK hS [] (hP.sub [] rfl) (hD.sub [] (by decide) rfl) (Or.inr (⟨rfl, rfl, (by first | omega | assumption | trivial | decide +kernel)⟩)) dX8_fit_14
  ·
    refine lv_if_eq (tgt := 13) hx hb dX8_fit_6 (by decide) (fun c6 => ?_) (fun c6 => ?_)
    ·
      refine lv_iconst (v := (-1)) hx hb dX8_fit_13 (by decide +kernel) ?_
      exact my_retI hx hb hr hlocks hK hS [] (hP.sub [] rfl) (hD.sub [] (by decide) rfl) (Or.inr (⟨rfl, rfl, (by first | omega | assumption | trivial | decide +kernel)⟩)) dX8_fit_14
    ·
      exact absurd c6 (by decide +kernel)
set_option maxHeartbeats 4000000 in
set_option maxRecDepth 100000 in
theorem k0_X8_gap (l : Launch) (D : va_G) (cI cJ : ClassId) (x0 : Nat) (xn : Nat) (xl : Nat) (xt : Nat) (xo : Nat) (xf : Nat) (xs : Nat) (xp : Nat) (xq : Nat) (xr : Nat) (xc : Nat) (l9 : Int32) (r9 : Int32) : ctI l yX8_gap wsX8_gap ({ frames := 1, cells := 0, slots := 0, locals := 60 } : Room) D (tyIJ cI cJ) [.ref x0, .int l9, .int r9] [(x0, .inr (8, [.ref xn, .int 0, .ref xl, .ref xt, .ref xo, .ref xf, .ref xs, .ref xp, .ref xq, .ref xr, .ref xc]))] (fun (r : Int32) (u : va_W) => (u = [] ∧ r = (-2) ∧ l9.toInt = 0 ∧ r9.toInt = 0) ∨ (u = [] ∧ r = (-1) ∧ (l9.toInt < 0 ∨ r9.toInt < l9.toInt ∨ 0 < r9.toInt))) := by
  refine ctI.of (cc := cX8_gap) (maxL := 5) (ret := (some .int)) (by decide) rfl (Nat.le_of_ble_eq_true rfl) ?_
  intro p e s m below meth c ls A hx hb hr hts hown hml hlocks hname hA hK hN hP hD hS hl
  have hl : lv_has ls 5 [(0, .ref x0), (1, .int l9), (2, .int r9)] := hl
  have hown : s.vm.findClass RX8 = some m.cls := hown
  refine lv_aload_n hx hb dX8_gap_0 rfl (lv_at hl 0 rfl) ?_
  refine lv_iload_n hx hb dX8_gap_1 rfl (lv_at hl 1 rfl) ?_
  refine lv_iload_n hx hb dX8_gap_2 rfl (lv_at hl 2 rfl) ?_
  refine my_gpI (my_pV (As := [.int l9, .int r9]) (rest := []) (ci := 8) ⟨hx, hb, hml, hown, hts⟩ (cwV 2 hts gX8_gap_X8_isSpan rfl rfl rfl (by decide +kernel) ⟨Nat.le_of_ble_eq_true rfl, Nat.le_of_ble_eq_true rfl⟩) hN hK hP [0] rfl 0 rfl rfl rfl rfl hl.1 rfl (Nat.le_of_ble_eq_true rfl) dX8_gap_3 ⟨Nat.le_of_ble_eq_true rfl, Nat.le_of_ble_eq_true rfl⟩  (k0_X8_isSpan l D cI cJ x0 xn xl xt xo xf xs xp xq xr xc l9 r9)) (fun r hp => ?_)
  rcases hp with ⟨rfl, rfl, rfl⟩ | ⟨rfl, ha_1⟩
  ·
    refine lv_if_ne (tgt := 11) hx hb dX8_gap_6 (by decide) (fun c6 => ?_) (fun c6 => ?_)
    ·
      refine lv_iload_n hx hb dX8_gap_11 rfl (lv_at hl 2 rfl) ?_
      refine lv_iload_n hx hb dX8_gap_12 rfl (lv_at hl 1 rfl) ?_
      refine lv_isub hx hb dX8_gap_13 ?_
      refine my_eqi (y := 0) (by decide +kernel) ?_
      refine lv_iconst (v := 2) hx hb dX8_gap_14 (by decide +kernel) ?_
      refine lv_icmp_ge (tgt := 21) hx hb dX8_gap_15 (by decide) (fun c15 => ?_) (fun c15 => ?_)
      ·
        exact absurd c15 (by decide +kernel)
      ·
        refine lv_bipush (v := (-2)) hx hb dX8_gap_18 (by decide +kernel) ?_
        exact my_retI hx hb hr hlocks hK hS [] (hP.sub [] rfl) (hD.sub [] (by decide) rfl) (Or.inl ⟨rfl, rfl, (by first | omega | assumption | trivial | decide +kernel), (by first | omega | assumption | trivial | decide +kernel)⟩) dX8_gap_20
    ·
      exact absurd c6 (by decide +kernel)
  ·
    refine lv_if_ne (tgt := 11) hx hb dX8_gap_6 (by decide) (fun c6 => ?_) (fun c6 => ?_)
    ·
      exact absurd c6 (by decide +kernel)
    ·
      refine lv_iconst (v := (-1)) hx hb dX8_gap_9 (by decide +kernel) ?_
      exact my_retI hx hb hr hlocks hK hS [] (hP.sub [] rfl) (hD.sub [] (by decide) rfl) (Or.inr (⟨rfl, rfl, (by first | omega | assumption | trivial | decide +kernel)⟩)) dX8_gap_10
set_option maxHeartbeats 4000000 in
set_option maxRecDepth 100000 in
theorem k0_X8_narrow (l : Launch) (D : va_G) (cI cJ : ClassId) (x0 : Nat) (xn : Nat) (xl : Nat) (xt : Nat) (xo : Nat) (xf : Nat) (xs : Nat) (xp : Nat) (xq : Nat) (xr : Nat) (xc : Nat) (v9 : Int32) (m9 : Int32) : ctI l yX8_narrow wsX8_narrow ({ frames := 1, cells := 0, slots := 0, locals := 60 } : Room) D (tyIJ cI cJ) [.ref x0, .int v9, .int m9] [(x0, .inr (8, [.ref xn, .int 0, .ref xl, .ref xt, .ref xo, .ref xf, .ref xs, .ref xp, .ref xq, .ref xr, .ref xc]))] (fun (r : Int32) (u : va_W) => (u = [] ∧ r = (-2) ∧ 0 ≤ v9.toInt ∧ v9.toInt ≤ 255 ∧ 1 ≤ m9.toInt ∧ m9.toInt ≤ 64) ∨ (u = [] ∧ r = (-1) ∧ (v9.toInt < 0 ∨ 255 < v9.toInt ∨ m9.toInt < 1 ∨ 64 < m9.toInt))) := by
  refine ctI.of (cc := cX8_narrow) (maxL := 8) (ret := (some .int)) (by decide) rfl (Nat.le_of_ble_eq_true rfl) ?_
  intro p e s m below meth c ls A hx hb hr hts hown hml hlocks hname hA hK hN hP hD hS hl
  have hl : lv_has ls 8 [(0, .ref x0), (1, .int v9), (2, .int m9)] := hl
  have hown : s.vm.findClass RX8 = some m.cls := hown
  have hi8 : ∀ w ∈ u_ws RX8 TX8 11, w ∈ wsX8_narrow := by decide +kernel
  have fl13 := hts (.fieldLink RX8 13 "PlaneColumn" "size" "I") (by decide +kernel)
  refine lv_iload_n hx hb dX8_narrow_0 rfl (lv_at hl 1 rfl) ?_
  refine my_gpI (my_pS (As := [.int v9]) (rest := []) ⟨hx, hb, hml, hown, hts⟩ (va_cwS 1 hts gX8_narrow_X8_isNumber rfl rfl rfl (by decide +kernel) ⟨Nat.le_of_ble_eq_true rfl, Nat.le_of_ble_eq_true rfl⟩) hN hK hP [] rfl rfl hl.1 rfl (Nat.le_of_ble_eq_true rfl) dX8_narrow_1 ⟨Nat.le_of_ble_eq_true rfl, Nat.le_of_ble_eq_true rfl⟩  (k_X8_isNumber l D cI cJ v9)) (fun r hp => ?_)
  rcases hp with ⟨rfl, hgv_1, hlv_2⟩ | ⟨rfl, ho_3⟩
  ·
    refine lv_if_eq (tgt := 14) hx hb dX8_narrow_4 (by decide) (fun c4 => ?_) (fun c4 => ?_)
    ·
      exact absurd c4 (by decide +kernel)
    ·
      refine lv_iload_n hx hb dX8_narrow_7 rfl (lv_at hl 2 rfl) ?_
      refine my_gpI (my_pS (As := [.int m9]) (rest := []) ⟨hx, hb, hml, hown, hts⟩ (va_cwS 1 hts gX8_narrow_X8_isTimes rfl rfl rfl (by decide +kernel) ⟨Nat.le_of_ble_eq_true rfl, Nat.le_of_ble_eq_true rfl⟩) hN hK hP [] rfl rfl hl.1 rfl (Nat.le_of_ble_eq_true rfl) dX8_narrow_8 ⟨Nat.le_of_ble_eq_true rfl, Nat.le_of_ble_eq_true rfl⟩  (k_X8_isTimes l D cI cJ m9)) (fun r hp => ?_)
      rcases hp with ⟨rfl, hgv_4, hlv_5⟩ | ⟨rfl, ho_6⟩
      ·
        refine lv_if_ne (tgt := 16) hx hb dX8_narrow_11 (by decide) (fun c11 => ?_) (fun c11 => ?_)
        ·
          refine lv_bipush (v := 65) hx hb dX8_narrow_16 (by decide +kernel) ?_
          refine lv_istore_n (lv' := [(3, .int 65), (0, .ref x0), (1, .int v9), (2, .int m9)]) hx hb dX8_narrow_18 rfl hl (by decide) rfl (fun ls hl => ?_)
          refine lv_iconst (v := 0) hx hb dX8_narrow_19 (by decide +kernel) ?_
          refine lv_istore (lv' := [(4, .int 0), (3, .int 65), (0, .ref x0), (1, .int v9), (2, .int m9)]) hx hb dX8_narrow_20 hl (by decide) rfl (fun ls hl => ?_)
          refine lv_iconst (v := 0) hx hb dX8_narrow_22 (by decide +kernel) ?_
          refine lv_istore (lv' := [(5, .int 0), (4, .int 0), (3, .int 65), (0, .ref x0), (1, .int v9), (2, .int m9)]) hx hb dX8_narrow_23 hl (by decide) rfl (fun ls hl => ?_)
          refine lv_iconst (v := 0) hx hb dX8_narrow_25 (by decide +kernel) ?_
          refine lv_istore (lv' := [(6, .int 0), (5, .int 0), (4, .int 0), (3, .int 65), (0, .ref x0), (1, .int v9), (2, .int m9)]) hx hb dX8_narrow_26 hl (by decide) rfl (fun ls hl => ?_)
          refine lv_iload hx hb dX8_narrow_28 (lv_at hl 0 rfl) ?_
          refine lv_aload_n hx hb dX8_narrow_30 rfl (lv_at hl 4 rfl) ?_
          refine va_get (ci := 8) (v := .int 0) (C := RX8) (T := TX8) (N := 11) hx hb hts hi8 hown hK hP 0 rfl rfl 1 (by decide) fl13 (fun _ h9 => h9) rfl dX8_narrow_31 ?_
          refine lv_icmp_ge (tgt := 87) hx hb dX8_narrow_34 (by decide) (fun c34 => ?_) (fun c34 => ?_)
          ·
            refine lv_iload hx hb dX8_narrow_87 (lv_at hl 1 rfl) ?_
            refine lv_if_ne (tgt := 95) hx hb dX8_narrow_89 (by decide) (fun c89 => ?_) (fun c89 => ?_)
            ·
              exact absurd c89 (by decide +kernel)
            ·
              refine lv_bipush (v := (-2)) hx hb dX8_narrow_92 (by decide +kernel) ?_
              exact my_retI hx hb hr hlocks hK hS [] (hP.sub [] rfl) (hD.sub [] (by decide) rfl) (Or.inl ⟨rfl, rfl, (by first | omega | assumption | trivial | decide +kernel), (by first | omega | assumption | trivial | decide +kernel), (by first | omega | assumption | trivial | decide +kernel), (by first | omega | assumption | trivial | decide +kernel)⟩) dX8_narrow_94
          ·
            exact absurd c34 (by decide +kernel)
        ·
          exact absurd c11 (by decide +kernel)
      ·
        refine lv_if_ne (tgt := 16) hx hb dX8_narrow_11 (by decide) (fun c11 => ?_) (fun c11 => ?_)
        ·
          exact absurd c11 (by decide +kernel)
        ·
          refine lv_iconst (v := (-1)) hx hb dX8_narrow_14 (by decide +kernel) ?_
          exact my_retI hx hb hr hlocks hK hS [] (hP.sub [] rfl) (hD.sub [] (by decide) rfl) (Or.inr (⟨rfl, rfl, (by first | omega | assumption | trivial | decide +kernel)⟩)) dX8_narrow_15
  ·
    refine lv_if_eq (tgt := 14) hx hb dX8_narrow_4 (by decide) (fun c4 => ?_) (fun c4 => ?_)
    ·
      refine lv_iconst (v := (-1)) hx hb dX8_narrow_14 (by decide +kernel) ?_
      exact my_retI hx hb hr hlocks hK hS [] (hP.sub [] rfl) (hD.sub [] (by decide) rfl) (Or.inr (⟨rfl, rfl, (by first | omega | assumption | trivial | decide +kernel)⟩)) dX8_narrow_15
    ·
      exact absurd c4 (by decide +kernel)
set_option maxHeartbeats 4000000 in
set_option maxRecDepth 100000 in
theorem k0_X8_lone (l : Launch) (D : va_G) (cI cJ : ClassId) (x0 : Nat) (xn : Nat) (xl : Nat) (xt : Nat) (xo : Nat) (xf : Nat) (xs : Nat) (xp : Nat) (xq : Nat) (xr : Nat) (xc : Nat) (f1 : Nat) (f2 : Nat) (f3 : Int32) (ff : Nat → Int32) (o1 : Nat) (o2 : Int32) (of : Nat → Int64) (l9 : Int32) (r9 : Int32) : ctI l yX8_lone wsX8_lone ({ frames := 4, cells := 0, slots := 0, locals := 240 } : Room) D (tyIJ cI cJ) [.ref x0, .int l9, .int r9] [(x0, .inr (8, [.ref xn, .int 0, .ref xl, .ref xt, .ref xo, .ref xf, .ref xs, .ref xp, .ref xq, .ref xr, .ref xc])), (xf, .inr (6, [.ref f1, .ref f2, .int f3])), (f1, .inl (cI, 512, .inl (fun _ => (0 : Int32)))), (f2, .inl (cI, 64, .inl ff)), (xo, .inr (7, [.ref o1, .int o2])), (o1, .inl (cJ, 64, .inr (.inl of)))] (fun (r : Int32) (u : va_W) => (u = [] ∧ r = 0 ∧ l9.toInt = 0 ∧ r9.toInt = 0) ∨ (u = [] ∧ r = (-1) ∧ (l9.toInt < 0 ∨ r9.toInt < l9.toInt ∨ 0 < r9.toInt))) := by
  refine ctI.of (cc := cX8_lone) (maxL := 7) (ret := (some .int)) (by decide) rfl (Nat.le_of_ble_eq_true rfl) ?_
  intro p e s m below meth c ls A hx hb hr hts hown hml hlocks hname hA hK hN hP hD hS hl
  have hl : lv_has ls 7 [(0, .ref x0), (1, .int l9), (2, .int r9)] := hl
  have hown : s.vm.findClass RX8 = some m.cls := hown
  have hi8 : ∀ w ∈ u_ws RX8 TX8 11, w ∈ wsX8_lone := by decide +kernel
  have fl41 := hts (.fieldLink RX8 41 "PlaneColumn" "first" "LPlaneColumn$Tally;") (by decide +kernel)
  have fl9 := hts (.fieldLink RX8 9 "PlaneColumn" "numbers" "[I") (by decide +kernel)
  refine lv_aload_n hx hb dX8_lone_0 rfl (lv_at hl 0 rfl) ?_
  refine lv_iload_n hx hb dX8_lone_1 rfl (lv_at hl 1 rfl) ?_
  refine lv_iload_n hx hb dX8_lone_2 rfl (lv_at hl 2 rfl) ?_
  refine my_gpI (my_pV (As := [.int l9, .int r9]) (rest := []) (ci := 8) ⟨hx, hb, hml, hown, hts⟩ (cwV 2 hts gX8_lone_X8_isSpan rfl rfl rfl (by decide +kernel) ⟨Nat.le_of_ble_eq_true rfl, Nat.le_of_ble_eq_true rfl⟩) hN hK hP [0] rfl 0 rfl rfl rfl rfl hl.1 rfl (Nat.le_of_ble_eq_true rfl) dX8_lone_3 ⟨Nat.le_of_ble_eq_true rfl, Nat.le_of_ble_eq_true rfl⟩  (k0_X8_isSpan l D cI cJ x0 xn xl xt xo xf xs xp xq xr xc l9 r9)) (fun r hp => ?_)
  rcases hp with ⟨rfl, rfl, rfl⟩ | ⟨rfl, ha_1⟩
  ·
    refine lv_if_ne (tgt := 11) hx hb dX8_lone_6 (by decide) (fun c6 => ?_) (fun c6 => ?_)
    ·
      refine lv_aload_n hx hb dX8_lone_11 rfl (lv_at hl 0 rfl) ?_
      refine va_get (ci := 8) (v := .ref xf) (C := RX8) (T := TX8) (N := 11) hx hb hts hi8 hown hK hP 0 rfl rfl 5 (by decide) fl41 (fun _ h9 => h9) rfl dX8_lone_12 ?_
      refine lv_aload_n hx hb dX8_lone_15 rfl (lv_at hl 0 rfl) ?_
      refine va_get (ci := 8) (v := .ref xn) (C := RX8) (T := TX8) (N := 11) hx hb hts hi8 hown hK hP 0 rfl rfl 0 (by decide) fl9 (fun _ h9 => h9) rfl dX8_lone_16 ?_
      refine lv_iload_n hx hb dX8_lone_19 rfl (lv_at hl 1 rfl) ?_
      refine lv_iload_n hx hb dX8_lone_20 rfl (lv_at hl 2 rfl) ?_
      refine my_goV (wr := [(x0, .inr (8, [.ref xn, .int 0, .ref xl, .ref xt, .ref xo, .ref xf, .ref xs, .ref xp, .ref xq, .ref xr, .ref xc])), (xo, .inr (7, [.ref o1, .int o2])), (o1, .inl (cJ, 64, .inr (.inl of)))]) hP hD hS hA [1, 2, 3] [0, 4, 5] rfl rfl (by decide) (by decide) (my_cV (As := [.ref xn, .int 0, .int 0]) (rest := []) (ci := 6) (wc := [(xf, .inr (6, [.ref f1, .ref f2, .int f3])), (f1, .inl (cI, 512, .inl (fun _ => (0 : Int32)))), (f2, .inl (cI, 64, .inl ff))]) ⟨hx, hb, hml, hown, hts⟩ (cwV 3 hts gX8_lone_X6_take rfl rfl rfl (by decide +kernel) ⟨Nat.le_of_ble_eq_true rfl, Nat.le_of_ble_eq_true rfl⟩) hN hK hP hD [1, 2, 3] rfl (by decide) rfl 1 rfl rfl rfl rfl hl.1 rfl (Nat.le_of_ble_eq_true rfl) dX8_lone_21 ⟨Nat.le_of_ble_eq_true rfl, Nat.le_of_ble_eq_true rfl⟩  ((k0_X6_take l D cI cJ xf f1 f2 xn f3 ff) _)) (fun u H locs hp hP hD hS => ?_)
      obtain rfl := hp
      have hP : va_P D vwCl [(x0, .inr (8, [.ref xn, .int 0, .ref xl, .ref xt, .ref xo, .ref xf, .ref xs, .ref xp, .ref xq, .ref xr, .ref xc])), (xo, .inr (7, [.ref o1, .int o2])), (o1, .inl (cJ, 64, .inr (.inl of))), (xf, .inr (6, [.ref f1, .ref f2, .int 0])), (f1, .inl (cI, 512, .inl (fun _ => (0 : Int32)))), (f2, .inl (cI, 64, .inl ff))] H := hP
      have hD : va_D A [(x0, .inr (8, [.ref xn, .int 0, .ref xl, .ref xt, .ref xo, .ref xf, .ref xs, .ref xp, .ref xq, .ref xr, .ref xc])), (xo, .inr (7, [.ref o1, .int o2])), (o1, .inl (cJ, 64, .inr (.inl of))), (xf, .inr (6, [.ref f1, .ref f2, .int 0])), (f1, .inl (cI, 512, .inl (fun _ => (0 : Int32)))), (f2, .inl (cI, 64, .inl ff))] := hD
      refine lv_iconst (v := 0) hx hb dX8_lone_24 (by decide +kernel) ?_
      refine lv_istore_n (lv' := [(3, .int 0), (0, .ref x0), (1, .int 0), (2, .int 0)]) hx hb dX8_lone_25 rfl hl (by decide) rfl (fun ls hl => ?_)
      refine lv_iconst (v := (-1)) hx hb dX8_lone_26 (by decide +kernel) ?_
      refine lv_istore (lv' := [(4, .int (-1)), (3, .int 0), (0, .ref x0), (1, .int 0), (2, .int 0)]) hx hb dX8_lone_27 hl (by decide) rfl (fun ls hl => ?_)
      refine lv_iconst (v := (-1)) hx hb dX8_lone_29 (by decide +kernel) ?_
      refine lv_istore (lv' := [(5, .int (-1)), (4, .int (-1)), (3, .int 0), (0, .ref x0), (1, .int 0), (2, .int 0)]) hx hb dX8_lone_30 hl (by decide) rfl (fun ls hl => ?_)
      refine lv_iconst (v := 0) hx hb dX8_lone_32 (by decide +kernel) ?_
      refine lv_istore (lv' := [(6, .int 0), (5, .int (-1)), (4, .int (-1)), (3, .int 0), (0, .ref x0), (1, .int 0), (2, .int 0)]) hx hb dX8_lone_33 hl (by decide) rfl (fun ls hl => ?_)
      have loop35 : ∀ (n9 : Nat) (k : Nat), 256 - k < n9 → (k ≤ 256) → ∀ (H : Heap) (locs : List Loc) (ls : Array Slot), va_P D vwCl [(x0, .inr (8, [.ref xn, .int 0, .ref xl, .ref xt, .ref xo, .ref xf, .ref xs, .ref xp, .ref xq, .ref xr, .ref xc])), (xf, .inr (6, [.ref f1, .ref f2, .int 0])), (f1, .inl (cI, 512, .inl (fun _ => (0 : Int32)))), (xo, .inr (7, [.ref o1, .int o2])), (o1, .inl (cJ, 64, .inr (.inl of)))] H → va_D A [(x0, .inr (8, [.ref xn, .int 0, .ref xl, .ref xt, .ref xo, .ref xf, .ref xs, .ref xp, .ref xq, .ref xr, .ref xc])), (xf, .inr (6, [.ref f1, .ref f2, .int 0])), (f1, .inl (cI, 512, .inl (fun _ => (0 : Int32)))), (xo, .inr (7, [.ref o1, .int o2])), (o1, .inl (cJ, 64, .inr (.inl of)))] → va_S A s.heap H locs → lv_has ls 7 [(6, .int (nI k)), (5, .int (-1)), (4, .int (-1)), (3, .int 0), (0, .ref x0)] → W p l e ({ frames := 4, cells := 0, slots := 0, locals := 240 } : Room) s m [.ref x0, .int (0 : Int32), .int (0 : Int32)].toArray below meth c H locs 0 0 (MQ below (va_Qi (fun (r : Int32) (u : va_W) => (u = [] ∧ r = 0 ∧ (0 : Int32).toInt = 0 ∧ (0 : Int32).toInt = 0) ∨ (u = [] ∧ r = (-1) ∧ ((0 : Int32).toInt < 0 ∨ (0 : Int32).toInt < (0 : Int32).toInt ∨ 0 < (0 : Int32).toInt))) (my_B D (tyIJ cI cJ) A) A) [.ref x0, .int (0 : Int32), .int (0 : Int32)].toArray s 0 0 A) (F0 m 35 ls []) := by
        intro n9
        induction n9 with
        | zero =>
          intro k hn9
          exact absurd hn9 (Nat.not_lt_zero _)
        | succ n9 ih35 =>
          intro k hn9 hk H locs ls hP hD hS hl
          refine lv_iload hx hb dX8_lone_35 (lv_at hl 0 rfl) ?_
          refine lv_sipush (v := 255) hx hb dX8_lone_37 (by decide +kernel) ?_
          refine lv_icmp_gt (tgt := 84) hx hb dX8_lone_40 (by decide) (fun c40 => ?_) (fun c40 => ?_)
          ·
            have d40 : ((k : Nat) : Int) > (255 : Int) := my_gt c40 (nI_toInt (by omega)) (by decide +kernel)
            refine lv_aload_n hx hb dX8_lone_84 rfl (lv_at hl 4 rfl) ?_
            refine lv_iload hx hb dX8_lone_85 (lv_at hl 2 rfl) ?_
            refine lv_i2l (v := (-1)) hx hb dX8_lone_87 (by decide +kernel) ?_
            refine lv_iload hx hb dX8_lone_88 (lv_at hl 1 rfl) ?_
            refine lv_i2l (v := (-1)) hx hb dX8_lone_90 (by decide +kernel) ?_
            refine my_goV (wr := [(xf, .inr (6, [.ref f1, .ref f2, .int 0])), (f1, .inl (cI, 512, .inl (fun _ => (0 : Int32))))]) hP hD hS hA [0, 3, 4] [1, 2] rfl rfl (by decide) (by decide) (my_cV (As := [.long (-1), .long (-1)]) (rest := []) (ci := 8) (wc := [(x0, .inr (8, [.ref xn, .int 0, .ref xl, .ref xt, .ref xo, .ref xf, .ref xs, .ref xp, .ref xq, .ref xr, .ref xc])), (xo, .inr (7, [.ref o1, .int o2])), (o1, .inl (cJ, 64, .inr (.inl of)))]) ⟨hx, hb, hml, hown, hts⟩ (cwV 2 hts gX8_lone_X8_tell_ rfl rfl rfl (by decide +kernel) ⟨Nat.le_of_ble_eq_true rfl, Nat.le_of_ble_eq_true rfl⟩) hN hK hP hD [0, 3, 4] rfl (by decide) rfl 0 rfl rfl rfl rfl hl.1 rfl (Nat.le_of_ble_eq_true rfl) dX8_lone_91 ⟨Nat.le_of_ble_eq_true rfl, Nat.le_of_ble_eq_true rfl⟩  ((k_X8_tell_ l D cI cJ x0 xn xl xt xo xf xs xp xq xr xc o1 (0 : Int32) o2 of (-1 : Int64) (-1 : Int64)) _)) (fun u H locs hp hP hD hS => ?_)
            obtain ⟨k_2, f_3, rfl, ha_4⟩ := hp
            have hP : va_P D vwCl [(xf, .inr (6, [.ref f1, .ref f2, .int 0])), (f1, .inl (cI, 512, .inl (fun _ => (0 : Int32)))), (x0, .inr (8, [.ref xn, .int 0, .ref xl, .ref xt, .ref xo, .ref xf, .ref xs, .ref xp, .ref xq, .ref xr, .ref xc])), (xo, .inr (7, [.ref o1, .int (nI k_2)])), (o1, .inl (cJ, 64, .inr (.inl f_3)))] H := hP
            have hD : va_D A [(xf, .inr (6, [.ref f1, .ref f2, .int 0])), (f1, .inl (cI, 512, .inl (fun _ => (0 : Int32)))), (x0, .inr (8, [.ref xn, .int 0, .ref xl, .ref xt, .ref xo, .ref xf, .ref xs, .ref xp, .ref xq, .ref xr, .ref xc])), (xo, .inr (7, [.ref o1, .int (nI k_2)])), (o1, .inl (cJ, 64, .inr (.inl f_3)))] := hD
            refine lv_iload_n hx hb dX8_lone_94 rfl (lv_at hl 3 rfl) ?_
            exact my_retI hx hb hr hlocks hK hS [] (hP.sub [] rfl) (hD.sub [] (by decide) rfl) (Or.inl ⟨rfl, rfl, (by first | omega | assumption | trivial | decide +kernel), (by first | omega | assumption | trivial | decide +kernel)⟩) dX8_lone_95
          ·
            have d40 : ((k : Nat) : Int) ≤ (255 : Int) := my_ngt c40 (nI_toInt (by omega)) (by decide +kernel)
            refine lv_aload_n hx hb dX8_lone_43 rfl (lv_at hl 4 rfl) ?_
            refine va_get (ci := 8) (v := .ref xf) (C := RX8) (T := TX8) (N := 11) hx hb hts hi8 hown hK hP 0 rfl rfl 5 (by decide) fl41 (fun _ h9 => h9) rfl dX8_lone_44 ?_
            refine lv_iload hx hb dX8_lone_47 (lv_at hl 0 rfl) ?_
            refine my_gpI (my_pV (As := [.int (nI k)]) (rest := []) (ci := 6) ⟨hx, hb, hml, hown, hts⟩ (cwV 1 hts gX8_lone_X6_timesOf rfl rfl rfl (by decide +kernel) ⟨Nat.le_of_ble_eq_true rfl, Nat.le_of_ble_eq_true rfl⟩) hN hK hP [1, 2] rfl 1 rfl rfl rfl rfl hl.1 rfl (Nat.le_of_ble_eq_true rfl) dX8_lone_49 ⟨Nat.le_of_ble_eq_true rfl, Nat.le_of_ble_eq_true rfl⟩  (k0_X6_timesOf l D cI cJ xf f1 f2 (0 : Int32) (nI k))) (fun r hp => ?_)
            obtain rfl := hp
            refine lv_iconst (v := 1) hx hb dX8_lone_52 (by decide +kernel) ?_
            refine lv_icmp_ne (tgt := 78) hx hb dX8_lone_53 (by decide) (fun c53 => ?_) (fun c53 => ?_)
            ·
              refine lv_iinc (v := nI (k + 1)) (lv' := [(6, .int (nI (k + 1))), (5, .int (-1)), (4, .int (-1)), (3, .int 0), (0, .ref x0)]) hx hb dX8_lone_78 hl (k := 0) rfl (my_incN k 1 (by decide +kernel)) (by decide) rfl (fun ls hl => ?_)
              refine lv_goto (tgt := 35) hx hb dX8_lone_81 (by decide) ?_
              exact ih35  (k + 1) (by omega) (by omega) _ _ ls (hP.sub [0, 1, 2, 3, 4] rfl) (hD.sub [0, 1, 2, 3, 4] (by decide) rfl) hS (lv_sub hl [0, 1, 2, 3, 4] rfl)
            ·
              exact absurd c53 (by decide +kernel)
      exact loop35 ((256 - 0) + 1) 0 (Nat.lt_succ_self _) (by first | omega | decide +kernel) _ _ ls (hP.sub [0, 3, 4, 1, 2] rfl) (hD.sub [0, 3, 4, 1, 2] (by decide) rfl) hS (lv_sub hl [0, 1, 2, 3, 4] rfl)
    ·
      exact absurd c6 (by decide +kernel)
  ·
    refine lv_if_ne (tgt := 11) hx hb dX8_lone_6 (by decide) (fun c6 => ?_) (fun c6 => ?_)
    ·
      exact absurd c6 (by decide +kernel)
    ·
      refine lv_iconst (v := (-1)) hx hb dX8_lone_9 (by decide +kernel) ?_
      exact my_retI hx hb hr hlocks hK hS [] (hP.sub [] rfl) (hD.sub [] (by decide) rfl) (Or.inr (⟨rfl, rfl, (by first | omega | assumption | trivial | decide +kernel)⟩)) dX8_lone_10
set_option maxHeartbeats 4000000 in
set_option maxRecDepth 100000 in
theorem k0_X8_rises (l : Launch) (D : va_G) (cI cJ : ClassId) (x0 : Nat) (xn : Nat) (xl : Nat) (xt : Nat) (xo : Nat) (xf : Nat) (xs : Nat) (xp : Nat) (xq : Nat) (xr : Nat) (xc : Nat) (c1 : Nat) (c2 : Nat) (c3 : Int32) (o1 : Nat) (o2 : Int32) (of : Nat → Int64) (l9 : Int32) (r9 : Int32) : ctI l yX8_rises wsX8_rises ({ frames := 2, cells := 0, slots := 0, locals := 120 } : Room) D (tyIJ cI cJ) [.ref x0, .int l9, .int r9] [(x0, .inr (8, [.ref xn, .int 0, .ref xl, .ref xt, .ref xo, .ref xf, .ref xs, .ref xp, .ref xq, .ref xr, .ref xc])), (xc, .inr (0, [.ref c1, .ref c2, .int c3])), (xo, .inr (7, [.ref o1, .int o2])), (o1, .inl (cJ, 64, .inr (.inl of)))] (fun (r : Int32) (u : va_W) => (u = [] ∧ r = 0 ∧ l9.toInt = 0 ∧ r9.toInt = 0) ∨ (u = [] ∧ r = (-1) ∧ (l9.toInt < 0 ∨ r9.toInt < l9.toInt ∨ 0 < r9.toInt))) := by
  refine ctI.of (cc := cX8_rises) (maxL := 4) (ret := (some .int)) (by decide) rfl (Nat.le_of_ble_eq_true rfl) ?_
  intro p e s m below meth c ls A hx hb hr hts hown hml hlocks hname hA hK hN hP hD hS hl
  have hl : lv_has ls 4 [(0, .ref x0), (1, .int l9), (2, .int r9)] := hl
  have hown : s.vm.findClass RX8 = some m.cls := hown
  have hi0 : ∀ w ∈ u_ws RX0 TX0 3, w ∈ wsX8_rises := by decide +kernel
  have hi8 : ∀ w ∈ u_ws RX8 TX8 11, w ∈ wsX8_rises := by decide +kernel
  have fl72 := hts (.fieldLink RX8 72 "PlaneColumn" "climbs" "LPlaneColumn$Climbs;") (by decide +kernel)
  have fl9 := hts (.fieldLink RX8 9 "PlaneColumn" "numbers" "[I") (by decide +kernel)
  refine lv_aload_n hx hb dX8_rises_0 rfl (lv_at hl 0 rfl) ?_
  refine lv_iload_n hx hb dX8_rises_1 rfl (lv_at hl 1 rfl) ?_
  refine lv_iload_n hx hb dX8_rises_2 rfl (lv_at hl 2 rfl) ?_
  refine my_gpI (my_pV (As := [.int l9, .int r9]) (rest := []) (ci := 8) ⟨hx, hb, hml, hown, hts⟩ (cwV 2 hts gX8_rises_X8_isSpan rfl rfl rfl (by decide +kernel) ⟨Nat.le_of_ble_eq_true rfl, Nat.le_of_ble_eq_true rfl⟩) hN hK hP [0] rfl 0 rfl rfl rfl rfl hl.1 rfl (Nat.le_of_ble_eq_true rfl) dX8_rises_3 ⟨Nat.le_of_ble_eq_true rfl, Nat.le_of_ble_eq_true rfl⟩  (k0_X8_isSpan l D cI cJ x0 xn xl xt xo xf xs xp xq xr xc l9 r9)) (fun r hp => ?_)
  rcases hp with ⟨rfl, rfl, rfl⟩ | ⟨rfl, ha_1⟩
  ·
    refine lv_if_ne (tgt := 11) hx hb dX8_rises_6 (by decide) (fun c6 => ?_) (fun c6 => ?_)
    ·
      refine lv_aload_n hx hb dX8_rises_11 rfl (lv_at hl 0 rfl) ?_
      refine va_get (ci := 8) (v := .ref xc) (C := RX8) (T := TX8) (N := 11) hx hb hts hi8 hown hK hP 0 rfl rfl 10 (by decide) fl72 (fun _ h9 => h9) rfl dX8_rises_12 ?_
      refine lv_aload_n hx hb dX8_rises_15 rfl (lv_at hl 0 rfl) ?_
      refine va_get (ci := 8) (v := .ref xn) (C := RX8) (T := TX8) (N := 11) hx hb hts hi8 hown hK hP 0 rfl rfl 0 (by decide) fl9 (fun _ h9 => h9) rfl dX8_rises_16 ?_
      refine lv_iload_n hx hb dX8_rises_19 rfl (lv_at hl 1 rfl) ?_
      refine lv_iload_n hx hb dX8_rises_20 rfl (lv_at hl 2 rfl) ?_
      refine my_goV (wr := [(x0, .inr (8, [.ref xn, .int 0, .ref xl, .ref xt, .ref xo, .ref xf, .ref xs, .ref xp, .ref xq, .ref xr, .ref xc])), (xo, .inr (7, [.ref o1, .int o2])), (o1, .inl (cJ, 64, .inr (.inl of)))]) hP hD hS hA [1] [0, 2, 3] rfl rfl (by decide) (by decide) (my_cV (As := [.ref xn, .int 0, .int 0]) (rest := []) (ci := 0) (wc := [(xc, .inr (0, [.ref c1, .ref c2, .int c3]))]) ⟨hx, hb, hml, hown, hts⟩ (cwV 3 hts gX8_rises_X0_take rfl rfl rfl (by decide +kernel) ⟨Nat.le_of_ble_eq_true rfl, Nat.le_of_ble_eq_true rfl⟩) hN hK hP hD [1] rfl (by decide) rfl 1 rfl rfl rfl rfl hl.1 rfl (Nat.le_of_ble_eq_true rfl) dX8_rises_21 ⟨Nat.le_of_ble_eq_true rfl, Nat.le_of_ble_eq_true rfl⟩  ((k0_X0_take l D cI cJ xc c1 c2 xn c3) _)) (fun u H locs hp hP hD hS => ?_)
      obtain rfl := hp
      have hP : va_P D vwCl [(x0, .inr (8, [.ref xn, .int 0, .ref xl, .ref xt, .ref xo, .ref xf, .ref xs, .ref xp, .ref xq, .ref xr, .ref xc])), (xo, .inr (7, [.ref o1, .int o2])), (o1, .inl (cJ, 64, .inr (.inl of))), (xc, .inr (0, [.ref c1, .ref c2, .int 0]))] H := hP
      have hD : va_D A [(x0, .inr (8, [.ref xn, .int 0, .ref xl, .ref xt, .ref xo, .ref xf, .ref xs, .ref xp, .ref xq, .ref xr, .ref xc])), (xo, .inr (7, [.ref o1, .int o2])), (o1, .inl (cJ, 64, .inr (.inl of))), (xc, .inr (0, [.ref c1, .ref c2, .int 0]))] := hD
      refine lv_aload_n hx hb dX8_rises_24 rfl (lv_at hl 0 rfl) ?_
      refine va_get (ci := 8) (v := .ref xc) (C := RX8) (T := TX8) (N := 11) hx hb hts hi8 hown hK hP 0 rfl rfl 10 (by decide) fl72 (fun _ h9 => h9) rfl dX8_rises_25 ?_
      refine va_getN (ci := 0) (v := .int 0) (C := RX0) (T := TX0) (N := 3) hx hb hts hi0 hown hK hP 3 rfl rfl 2 (by decide) (nw_f_RX8_207 hN) (fun _ h9 => h9) rfl dX8_rises_28 ?_
      refine lv_istore_n (lv' := [(3, .int 0), (0, .ref x0), (1, .int 0), (2, .int 0)]) hx hb dX8_rises_31 rfl hl (by decide) rfl (fun ls hl => ?_)
      refine lv_aload_n hx hb dX8_rises_32 rfl (lv_at hl 1 rfl) ?_
      refine lv_aload_n hx hb dX8_rises_33 rfl (lv_at hl 1 rfl) ?_
      refine va_get (ci := 8) (v := .ref xc) (C := RX8) (T := TX8) (N := 11) hx hb hts hi8 hown hK hP 0 rfl rfl 10 (by decide) fl72 (fun _ h9 => h9) rfl dX8_rises_34 ?_
      refine lv_aload_n hx hb dX8_rises_37 rfl (lv_at hl 1 rfl) ?_
      refine va_get (ci := 8) (v := .ref xn) (C := RX8) (T := TX8) (N := 11) hx hb hts hi8 hown hK hP 0 rfl rfl 0 (by decide) fl9 (fun _ h9 => h9) rfl dX8_rises_38 ?_
      refine lv_iload_n hx hb dX8_rises_41 rfl (lv_at hl 2 rfl) ?_
      refine lv_iload_n hx hb dX8_rises_42 rfl (lv_at hl 3 rfl) ?_
      refine my_gpI (my_pV (As := [.ref xn, .int 0, .int 0]) (rest := [.ref x0]) (ci := 0) ⟨hx, hb, hml, hown, hts⟩ (cwV 3 hts gX8_rises_X0_leastEnd rfl rfl rfl (by decide +kernel) ⟨Nat.le_of_ble_eq_true rfl, Nat.le_of_ble_eq_true rfl⟩) hN hK hP [3] rfl 3 rfl rfl rfl rfl hl.1 rfl (Nat.le_of_ble_eq_true rfl) dX8_rises_43 ⟨Nat.le_of_ble_eq_true rfl, Nat.le_of_ble_eq_true rfl⟩  (k0_X0_leastEnd l D cI cJ xc c1 c2 xn (0 : Int32))) (fun r hp => ?_)
      obtain rfl := hp
      refine lv_i2l (v := (-1)) hx hb dX8_rises_46 (by decide +kernel) ?_
      refine lv_aload_n hx hb dX8_rises_47 rfl (lv_at hl 1 rfl) ?_
      refine va_get (ci := 8) (v := .ref xc) (C := RX8) (T := TX8) (N := 11) hx hb hts hi8 hown hK hP 0 rfl rfl 10 (by decide) fl72 (fun _ h9 => h9) rfl dX8_rises_48 ?_
      refine lv_iload_n hx hb dX8_rises_51 rfl (lv_at hl 2 rfl) ?_
      refine lv_iload_n hx hb dX8_rises_52 rfl (lv_at hl 3 rfl) ?_
      refine my_gpL (my_pV (As := [.int 0, .int 0]) (rest := [.long (-1), .ref x0]) (ci := 0) ⟨hx, hb, hml, hown, hts⟩ (cwV 2 hts gX8_rises_X0_waysToLongest rfl rfl rfl (by decide +kernel) ⟨Nat.le_of_ble_eq_true rfl, Nat.le_of_ble_eq_true rfl⟩) hN hK hP [3] rfl 3 rfl rfl rfl rfl hl.1 rfl (Nat.le_of_ble_eq_true rfl) dX8_rises_53 ⟨Nat.le_of_ble_eq_true rfl, Nat.le_of_ble_eq_true rfl⟩  (k0_X0_waysToLongest l D cI cJ xc c1 c2 (0 : Int32))) (fun r hp => ?_)
      obtain rfl := hp
      refine lv_ldc2 (v := 1000000000) hx hb hown (hts (.constantLong RX8 218 (1000000000)) (by decide +kernel)) dX8_rises_56 ?_
      refine va_mmin_long hx hb (hml.trans hl.1.symm) hown (hts (.methodLink RX8 220 Lib.MathLoose.min_long.x) (by decide +kernel)) (hts (.static Lib.MathLoose.min_long.x) (by decide +kernel)) (hts (.initialized "java/lang/Math") (by decide +kernel)) (hts (.code Lib.MathLoose.min_long.x Lib.MathLoose.min_long.code 4 (some .long)) (by decide +kernel)) (Nat.le_of_ble_eq_true rfl) (Nat.le_of_ble_eq_true rfl) (Nat.le_of_ble_eq_true rfl) (Nat.le_of_ble_eq_true rfl) dX8_rises_59 ?_
      refine lv_topl (fun z_2 ez_2 => ?_)
      refine my_goV (wr := [(xc, .inr (0, [.ref c1, .ref c2, .int 0]))]) hP hD hS hA [0, 1, 2] [3] rfl rfl (by decide) (by decide) (my_cV (As := [.long (-1), .long z_2]) (rest := []) (ci := 8) (wc := [(x0, .inr (8, [.ref xn, .int 0, .ref xl, .ref xt, .ref xo, .ref xf, .ref xs, .ref xp, .ref xq, .ref xr, .ref xc])), (xo, .inr (7, [.ref o1, .int o2])), (o1, .inl (cJ, 64, .inr (.inl of)))]) ⟨hx, hb, hml, hown, hts⟩ (cwV 2 hts gX8_rises_X8_tell_ rfl rfl rfl (by decide +kernel) ⟨Nat.le_of_ble_eq_true rfl, Nat.le_of_ble_eq_true rfl⟩) hN hK hP hD [0, 1, 2] rfl (by decide) rfl 0 rfl rfl rfl rfl hl.1 rfl (Nat.le_of_ble_eq_true rfl) dX8_rises_62 ⟨Nat.le_of_ble_eq_true rfl, Nat.le_of_ble_eq_true rfl⟩  ((k_X8_tell_ l D cI cJ x0 xn xl xt xo xf xs xp xq xr xc o1 (0 : Int32) o2 of (-1 : Int64) z_2) _)) (fun u H locs hp hP hD hS => ?_)
      obtain ⟨k_3, f_4, rfl, ha_5⟩ := hp
      have hP : va_P D vwCl [(xc, .inr (0, [.ref c1, .ref c2, .int 0])), (x0, .inr (8, [.ref xn, .int 0, .ref xl, .ref xt, .ref xo, .ref xf, .ref xs, .ref xp, .ref xq, .ref xr, .ref xc])), (xo, .inr (7, [.ref o1, .int (nI k_3)])), (o1, .inl (cJ, 64, .inr (.inl f_4)))] H := hP
      have hD : va_D A [(xc, .inr (0, [.ref c1, .ref c2, .int 0])), (x0, .inr (8, [.ref xn, .int 0, .ref xl, .ref xt, .ref xo, .ref xf, .ref xs, .ref xp, .ref xq, .ref xr, .ref xc])), (xo, .inr (7, [.ref o1, .int (nI k_3)])), (o1, .inl (cJ, 64, .inr (.inl f_4)))] := hD
      refine lv_iload_n hx hb dX8_rises_65 rfl (lv_at hl 0 rfl) ?_
      exact my_retI hx hb hr hlocks hK hS [] (hP.sub [] rfl) (hD.sub [] (by decide) rfl) (Or.inl ⟨rfl, rfl, (by first | omega | assumption | trivial | decide +kernel), (by first | omega | assumption | trivial | decide +kernel)⟩) dX8_rises_66
    ·
      exact absurd c6 (by decide +kernel)
  ·
    refine lv_if_ne (tgt := 11) hx hb dX8_rises_6 (by decide) (fun c6 => ?_) (fun c6 => ?_)
    ·
      exact absurd c6 (by decide +kernel)
    ·
      refine lv_iconst (v := (-1)) hx hb dX8_rises_9 (by decide +kernel) ?_
      exact my_retI hx hb hr hlocks hK hS [] (hP.sub [] rfl) (hD.sub [] (by decide) rfl) (Or.inr (⟨rfl, rfl, (by first | omega | assumption | trivial | decide +kernel)⟩)) dX8_rises_10
set_option maxHeartbeats 4000000 in
set_option maxRecDepth 100000 in
theorem k0_X8_marks (l : Launch) (D : va_G) (cI cJ : ClassId) (x0 : Nat) (xn : Nat) (xl : Nat) (xt : Nat) (xo : Nat) (xf : Nat) (xs : Nat) (xp : Nat) (xq : Nat) (xr : Nat) (xc : Nat) (o1 : Nat) (o2 : Int32) (of : Nat → Int64) (l9 : Int32) (r9 : Int32) (v9 : Int32) : ctI l yX8_marks wsX8_marks ({ frames := 1, cells := 0, slots := 0, locals := 60 } : Room) D (tyIJ cI cJ) [.ref x0, .int l9, .int r9, .int v9] [(x0, .inr (8, [.ref xn, .int 0, .ref xl, .ref xt, .ref xo, .ref xf, .ref xs, .ref xp, .ref xq, .ref xr, .ref xc])), (xo, .inr (7, [.ref o1, .int o2])), (o1, .inl (cJ, 64, .inr (.inl of)))] (fun (r : Int32) (u : va_W) => (u = [] ∧ r = 0 ∧ l9.toInt = 0 ∧ r9.toInt = 0 ∧ 0 ≤ v9.toInt ∧ v9.toInt ≤ 255) ∨ (u = [] ∧ r = (-1) ∧ (l9.toInt < 0 ∨ r9.toInt < l9.toInt ∨ 0 < r9.toInt ∨ v9.toInt < 0 ∨ 255 < v9.toInt))) := by
  refine ctI.of (cc := cX8_marks) (maxL := 6) (ret := (some .int)) (by decide) rfl (Nat.le_of_ble_eq_true rfl) ?_
  intro p e s m below meth c ls A hx hb hr hts hown hml hlocks hname hA hK hN hP hD hS hl
  have hl : lv_has ls 6 [(0, .ref x0), (1, .int l9), (2, .int r9), (3, .int v9)] := hl
  have hown : s.vm.findClass RX8 = some m.cls := hown
  have hi8 : ∀ w ∈ u_ws RX8 TX8 11, w ∈ wsX8_marks := by decide +kernel
  have fl34 := hts (.fieldLink RX8 34 "PlaneColumn" "told" "LPlaneColumn$Told;") (by decide +kernel)
  refine lv_aload_n hx hb dX8_marks_0 rfl (lv_at hl 0 rfl) ?_
  refine lv_iload_n hx hb dX8_marks_1 rfl (lv_at hl 1 rfl) ?_
  refine lv_iload_n hx hb dX8_marks_2 rfl (lv_at hl 2 rfl) ?_
  refine my_gpI (my_pV (As := [.int l9, .int r9]) (rest := []) (ci := 8) ⟨hx, hb, hml, hown, hts⟩ (cwV 2 hts gX8_marks_X8_isSpan rfl rfl rfl (by decide +kernel) ⟨Nat.le_of_ble_eq_true rfl, Nat.le_of_ble_eq_true rfl⟩) hN hK hP [0] rfl 0 rfl rfl rfl rfl hl.1 rfl (Nat.le_of_ble_eq_true rfl) dX8_marks_3 ⟨Nat.le_of_ble_eq_true rfl, Nat.le_of_ble_eq_true rfl⟩  (k0_X8_isSpan l D cI cJ x0 xn xl xt xo xf xs xp xq xr xc l9 r9)) (fun r hp => ?_)
  rcases hp with ⟨rfl, rfl, rfl⟩ | ⟨rfl, ha_1⟩
  ·
    refine lv_if_eq (tgt := 16) hx hb dX8_marks_6 (by decide) (fun c6 => ?_) (fun c6 => ?_)
    ·
      exact absurd c6 (by decide +kernel)
    ·
      refine lv_iload_n hx hb dX8_marks_9 rfl (lv_at hl 3 rfl) ?_
      refine my_gpI (my_pS (As := [.int v9]) (rest := []) ⟨hx, hb, hml, hown, hts⟩ (va_cwS 1 hts gX8_marks_X8_isNumber rfl rfl rfl (by decide +kernel) ⟨Nat.le_of_ble_eq_true rfl, Nat.le_of_ble_eq_true rfl⟩) hN hK hP [] rfl rfl hl.1 rfl (Nat.le_of_ble_eq_true rfl) dX8_marks_10 ⟨Nat.le_of_ble_eq_true rfl, Nat.le_of_ble_eq_true rfl⟩  (k_X8_isNumber l D cI cJ v9)) (fun r hp => ?_)
      rcases hp with ⟨rfl, hgv_2, hlv_3⟩ | ⟨rfl, ho_4⟩
      ·
        refine lv_if_ne (tgt := 18) hx hb dX8_marks_13 (by decide) (fun c13 => ?_) (fun c13 => ?_)
        ·
          refine lv_iconst (v := 0) hx hb dX8_marks_18 (by decide +kernel) ?_
          refine lv_istore (lv' := [(4, .int 0), (0, .ref x0), (1, .int 0), (2, .int 0), (3, .int v9)]) hx hb dX8_marks_19 hl (by decide) rfl (fun ls hl => ?_)
          refine lv_aload_n hx hb dX8_marks_21 rfl (lv_at hl 1 rfl) ?_
          refine va_get (ci := 8) (v := .ref xo) (C := RX8) (T := TX8) (N := 11) hx hb hts hi8 hown hK hP 0 rfl rfl 4 (by decide) fl34 (fun _ h9 => h9) rfl dX8_marks_22 ?_
          refine my_goV (wr := [(x0, .inr (8, [.ref xn, .int 0, .ref xl, .ref xt, .ref xo, .ref xf, .ref xs, .ref xp, .ref xq, .ref xr, .ref xc])), (o1, .inl (cJ, 64, .inr (.inl of)))]) hP hD hS hA [1] [0, 2] rfl rfl (by decide) (by decide) (my_cV (As := []) (rest := []) (ci := 7) (wc := [(xo, .inr (7, [.ref o1, .int o2]))]) ⟨hx, hb, hml, hown, hts⟩ (cwV 0 hts gX8_marks_X7_begin rfl rfl rfl (by decide +kernel) ⟨Nat.le_of_ble_eq_true rfl, Nat.le_of_ble_eq_true rfl⟩) hN hK hP hD [1] rfl (by decide) rfl 1 rfl rfl rfl rfl hl.1 rfl (Nat.le_of_ble_eq_true rfl) dX8_marks_25 ⟨Nat.le_of_ble_eq_true rfl, Nat.le_of_ble_eq_true rfl⟩  ((k_X7_begin l D cI cJ xo o1 o2) _)) (fun u H locs hp hP hD hS => ?_)
          obtain rfl := hp
          have hP : va_P D vwCl [(x0, .inr (8, [.ref xn, .int 0, .ref xl, .ref xt, .ref xo, .ref xf, .ref xs, .ref xp, .ref xq, .ref xr, .ref xc])), (o1, .inl (cJ, 64, .inr (.inl of))), (xo, .inr (7, [.ref o1, .int 0]))] H := hP
          have hD : va_D A [(x0, .inr (8, [.ref xn, .int 0, .ref xl, .ref xt, .ref xo, .ref xf, .ref xs, .ref xp, .ref xq, .ref xr, .ref xc])), (o1, .inl (cJ, 64, .inr (.inl of))), (xo, .inr (7, [.ref o1, .int 0]))] := hD
          refine lv_iload_n hx hb dX8_marks_28 rfl (lv_at hl 2 rfl) ?_
          refine lv_istore (lv' := [(5, .int 0), (4, .int 0), (0, .ref x0), (1, .int 0), (2, .int 0), (3, .int v9)]) hx hb dX8_marks_29 hl (by decide) rfl (fun ls hl => ?_)
          refine lv_iload hx hb dX8_marks_31 (lv_at hl 0 rfl) ?_
          refine lv_iload_n hx hb dX8_marks_33 rfl (lv_at hl 4 rfl) ?_
          refine lv_icmp_ge (tgt := 74) hx hb dX8_marks_34 (by decide) (fun c34 => ?_) (fun c34 => ?_)
          ·
            refine lv_iload hx hb dX8_marks_74 (lv_at hl 1 rfl) ?_
            exact my_retI hx hb hr hlocks hK hS [] (hP.sub [] rfl) (hD.sub [] (by decide) rfl) (Or.inl ⟨rfl, rfl, (by first | omega | assumption | trivial | decide +kernel), (by first | omega | assumption | trivial | decide +kernel), (by first | omega | assumption | trivial | decide +kernel), (by first | omega | assumption | trivial | decide +kernel)⟩) dX8_marks_76
          ·
            exact absurd c34 (by decide +kernel)
        ·
          exact absurd c13 (by decide +kernel)
      ·
        refine lv_if_ne (tgt := 18) hx hb dX8_marks_13 (by decide) (fun c13 => ?_) (fun c13 => ?_)
        ·
          exact absurd c13 (by decide +kernel)
        ·
          refine lv_iconst (v := (-1)) hx hb dX8_marks_16 (by decide +kernel) ?_
          exact my_retI hx hb hr hlocks hK hS [] (hP.sub [] rfl) (hD.sub [] (by decide) rfl) (Or.inr (⟨rfl, rfl, (by first | omega | assumption | trivial | decide +kernel)⟩)) dX8_marks_17
  ·
    refine lv_if_eq (tgt := 16) hx hb dX8_marks_6 (by decide) (fun c6 => ?_) (fun c6 => ?_)
    ·
      refine lv_iconst (v := (-1)) hx hb dX8_marks_16 (by decide +kernel) ?_
      exact my_retI hx hb hr hlocks hK hS [] (hP.sub [] rfl) (hD.sub [] (by decide) rfl) (Or.inr (⟨rfl, rfl, (by first | omega | assumption | trivial | decide +kernel)⟩)) dX8_marks_17
    ·
      exact absurd c6 (by decide +kernel)
