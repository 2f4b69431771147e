set_option maxHeartbeats 4000000 in
set_option maxRecDepth 100000 in
theorem k0_X8_common (l : Launch) (D : va_G) (cI cJ : ClassId) (x0 : Nat) (xn : Nat) (xl : Nat) (xt : Nat) (xo : Nat) (xf : Nat) (xs : Nat) (xp : Nat) (xq : Nat) (xr : Nat) (xc : Nat) (f1 : Nat) (f2 : Nat) (f3 : Int32) (ff : Nat → Int32) (s1 : Nat) (s2 : Nat) (s3 : Int32) (sf : Nat → Int32) (o1 : Nat) (o2 : Int32) (of : Nat → Int64) (l9 : Int32) (r9 : Int32) (s9 : Int32) (t9 : Int32) : ctI l yX8_common wsX8_common ({ frames := 5, cells := 0, slots := 0, locals := 300 } : Room) D (tyIJ cI cJ) [.ref x0, .int l9, .int r9, .int s9, .int t9] [(x0, .inr (8, [.ref xn, .int 0, .ref xl, .ref xt, .ref xo, .ref xf, .ref xs, .ref xp, .ref xq, .ref xr, .ref xc])), (xf, .inr (6, [.ref f1, .ref f2, .int f3])), (f1, .inl (cI, 512, .inl (fun _ => (0 : Int32)))), (f2, .inl (cI, 64, .inl ff)), (xs, .inr (6, [.ref s1, .ref s2, .int s3])), (s1, .inl (cI, 512, .inl (fun _ => (0 : Int32)))), (s2, .inl (cI, 64, .inl sf)), (xo, .inr (7, [.ref o1, .int o2])), (o1, .inl (cJ, 64, .inr (.inl of)))] (fun (r : Int32) (u : va_W) => (u = [] ∧ r = 0 ∧ l9.toInt = 0 ∧ r9.toInt = 0 ∧ s9.toInt = 0 ∧ t9.toInt = 0) ∨ (u = [] ∧ r = (-1) ∧ (l9.toInt < 0 ∨ r9.toInt < l9.toInt ∨ 0 < r9.toInt ∨ s9.toInt < 0 ∨ t9.toInt < s9.toInt ∨ 0 < t9.toInt))) := by
  refine ctI.of (cc := cX8_common) (maxL := 7) (ret := (some .int)) (by decide) rfl (Nat.le_of_ble_eq_true rfl) ?_
  intro p e s m below meth c ls A hx hb hr hts hown hml hlocks hname hA hK hN hP hD hS hl
  have hl : lv_has ls 7 [(0, .ref x0), (1, .int l9), (2, .int r9), (3, .int s9), (4, .int t9)] := hl
  have hown : s.vm.findClass RX8 = some m.cls := hown
  have hi8 : ∀ w ∈ u_ws RX8 TX8 11, w ∈ wsX8_common := by decide +kernel
  have fl41 := hts (.fieldLink RX8 41 "PlaneColumn" "first" "LPlaneColumn$Tally;") (by decide +kernel)
  have fl45 := hts (.fieldLink RX8 45 "PlaneColumn" "second" "LPlaneColumn$Tally;") (by decide +kernel)
  refine lv_aload_n hx hb dX8_common_0 rfl (lv_at hl 0 rfl) ?_
  refine lv_iload_n hx hb dX8_common_1 rfl (lv_at hl 1 rfl) ?_
  refine lv_iload_n hx hb dX8_common_2 rfl (lv_at hl 2 rfl) ?_
  refine lv_iload_n hx hb dX8_common_3 rfl (lv_at hl 3 rfl) ?_
  refine lv_iload hx hb dX8_common_4 (lv_at hl 4 rfl) ?_
  refine my_goI (wr := [(xo, .inr (7, [.ref o1, .int o2])), (o1, .inl (cJ, 64, .inr (.inl of)))]) hP hD hS hA [0, 1, 2, 3, 4, 5, 6] [7, 8] rfl rfl (by decide) (by decide) (my_cV (As := [.int l9, .int r9, .int s9, .int t9]) (rest := []) (ci := 8) (wc := [(x0, .inr (8, [.ref xn, .int 0, .ref xl, .ref xt, .ref xo, .ref xf, .ref xs, .ref xp, .ref xq, .ref xr, .ref xc])), (xf, .inr (6, [.ref f1, .ref f2, .int f3])), (f1, .inl (cI, 512, .inl (fun _ => (0 : Int32)))), (f2, .inl (cI, 64, .inl ff)), (xs, .inr (6, [.ref s1, .ref s2, .int s3])), (s1, .inl (cI, 512, .inl (fun _ => (0 : Int32)))), (s2, .inl (cI, 64, .inl sf))]) ⟨hx, hb, hml, hown, hts⟩ (cwV 4 hts gX8_common_X8_takeBoth rfl rfl rfl (by decide +kernel) ⟨Nat.le_of_ble_eq_true rfl, Nat.le_of_ble_eq_true rfl⟩) hN hK hP hD [0, 1, 2, 3, 4, 5, 6] rfl (by decide) rfl 0 rfl rfl rfl rfl hl.1 rfl (Nat.le_of_ble_eq_true rfl) dX8_common_6 ⟨Nat.le_of_ble_eq_true rfl, Nat.le_of_ble_eq_true rfl⟩  ((k0_X8_takeBoth l D cI cJ x0 xn xl xt xo xf xs xp xq xr xc f1 f2 f3 ff s1 s2 s3 sf l9 r9 s9 t9) _)) (fun r u H locs hp hP hD hS => ?_)
  rcases hp with ⟨rfl, rfl, rfl, rfl, rfl, rfl⟩ | ⟨rfl, rfl, ha_1⟩
  ·
    have hP : va_P D vwCl [(xo, .inr (7, [.ref o1, .int o2])), (o1, .inl (cJ, 64, .inr (.inl of))), (x0, .inr (8, [.ref xn, .int 0, .ref xl, .ref xt, .ref xo, .ref xf, .ref xs, .ref xp, .ref xq, .ref xr, .ref xc])), (xf, .inr (6, [.ref f1, .ref f2, .int 0])), (f1, .inl (cI, 512, .inl (fun _ => (0 : Int32)))), (xs, .inr (6, [.ref s1, .ref s2, .int 0])), (s1, .inl (cI, 512, .inl (fun _ => (0 : Int32))))] H := hP
    have hD : va_D A [(xo, .inr (7, [.ref o1, .int o2])), (o1, .inl (cJ, 64, .inr (.inl of))), (x0, .inr (8, [.ref xn, .int 0, .ref xl, .ref xt, .ref xo, .ref xf, .ref xs, .ref xp, .ref xq, .ref xr, .ref xc])), (xf, .inr (6, [.ref f1, .ref f2, .int 0])), (f1, .inl (cI, 512, .inl (fun _ => (0 : Int32)))), (xs, .inr (6, [.ref s1, .ref s2, .int 0])), (s1, .inl (cI, 512, .inl (fun _ => (0 : Int32))))] := hD
    refine lv_if_ne (tgt := 14) hx hb dX8_common_9 (by decide) (fun c9 => ?_) (fun c9 => ?_)
    ·
      refine lv_aload_n hx hb dX8_common_14 rfl (lv_at hl 0 rfl) ?_
      refine lv_aload_n hx hb dX8_common_15 rfl (lv_at hl 0 rfl) ?_
      refine va_get (ci := 8) (v := .ref xf) (C := RX8) (T := TX8) (N := 11) hx hb hts hi8 hown hK hP 2 rfl rfl 5 (by decide) fl41 (fun _ h9 => h9) rfl dX8_common_16 ?_
      refine lv_aload_n hx hb dX8_common_19 rfl (lv_at hl 0 rfl) ?_
      refine va_get (ci := 8) (v := .ref xs) (C := RX8) (T := TX8) (N := 11) hx hb hts hi8 hown hK hP 2 rfl rfl 6 (by decide) fl45 (fun _ h9 => h9) rfl dX8_common_20 ?_
      refine my_gpI (my_pV (As := [.ref xs]) (rest := [.ref x0]) (ci := 6) ⟨hx, hb, hml, hown, hts⟩ (cwV 1 hts gX8_common_X6_nodesSharedWith rfl rfl rfl (by decide +kernel) ⟨Nat.le_of_ble_eq_true rfl, Nat.le_of_ble_eq_true rfl⟩) hN hK hP [3, 4, 5, 6] rfl 3 rfl rfl rfl rfl hl.1 rfl (Nat.le_of_ble_eq_true rfl) dX8_common_23 ⟨Nat.le_of_ble_eq_true rfl, Nat.le_of_ble_eq_true rfl⟩  (k0_X6_nodesSharedWith l D cI cJ xf f1 f2 xs s1 s2 (0 : Int32) (0 : Int32))) (fun r hp => ?_)
      obtain rfl := hp
      refine lv_i2l (v := 0) hx hb dX8_common_26 (by decide +kernel) ?_
      refine my_goV (wr := [(xf, .inr (6, [.ref f1, .ref f2, .int 0])), (f1, .inl (cI, 512, .inl (fun _ => (0 : Int32)))), (xs, .inr (6, [.ref s1, .ref s2, .int 0])), (s1, .inl (cI, 512, .inl (fun _ => (0 : Int32))))]) hP hD hS hA [2, 0, 1] [3, 4, 5, 6] rfl rfl (by decide) (by decide) (my_cV (As := [.long 0]) (rest := []) (ci := 8) (wc := [(x0, .inr (8, [.ref xn, .int 0, .ref xl, .ref xt, .ref xo, .ref xf, .ref xs, .ref xp, .ref xq, .ref xr, .ref xc])), (xo, .inr (7, [.ref o1, .int o2])), (o1, .inl (cJ, 64, .inr (.inl of)))]) ⟨hx, hb, hml, hown, hts⟩ (cwV 1 hts gX8_common_X8_tell rfl rfl rfl (by decide +kernel) ⟨Nat.le_of_ble_eq_true rfl, Nat.le_of_ble_eq_true rfl⟩) hN hK hP hD [2, 0, 1] rfl (by decide) rfl 2 rfl rfl rfl rfl hl.1 rfl (Nat.le_of_ble_eq_true rfl) dX8_common_27 ⟨Nat.le_of_ble_eq_true rfl, Nat.le_of_ble_eq_true rfl⟩  ((k_X8_tell l D cI cJ x0 xn xl xt xo xf xs xp xq xr xc o1 (0 : Int32) o2 of (0 : Int64)) _)) (fun u H locs hp hP hD hS => ?_)
      obtain ⟨k_2, f_3, rfl, ha_4⟩ := hp
      have hP : va_P D vwCl [(xf, .inr (6, [.ref f1, .ref f2, .int 0])), (f1, .inl (cI, 512, .inl (fun _ => (0 : Int32)))), (xs, .inr (6, [.ref s1, .ref s2, .int 0])), (s1, .inl (cI, 512, .inl (fun _ => (0 : Int32)))), (x0, .inr (8, [.ref xn, .int 0, .ref xl, .ref xt, .ref xo, .ref xf, .ref xs, .ref xp, .ref xq, .ref xr, .ref xc])), (xo, .inr (7, [.ref o1, .int (nI k_2)])), (o1, .inl (cJ, 64, .inr (.inl f_3)))] H := hP
      have hD : va_D A [(xf, .inr (6, [.ref f1, .ref f2, .int 0])), (f1, .inl (cI, 512, .inl (fun _ => (0 : Int32)))), (xs, .inr (6, [.ref s1, .ref s2, .int 0])), (s1, .inl (cI, 512, .inl (fun _ => (0 : Int32)))), (x0, .inr (8, [.ref xn, .int 0, .ref xl, .ref xt, .ref xo, .ref xf, .ref xs, .ref xp, .ref xq, .ref xr, .ref xc])), (xo, .inr (7, [.ref o1, .int (nI k_2)])), (o1, .inl (cJ, 64, .inr (.inl f_3)))] := hD
      refine lv_iconst (v := 0) hx hb dX8_common_30 (by decide +kernel) ?_
      refine lv_istore (lv' := [(5, .int 0), (0, .ref x0), (1, .int 0), (2, .int 0), (3, .int 0), (4, .int 0)]) hx hb dX8_common_31 hl (by decide) rfl (fun ls hl => ?_)
      refine lv_iconst (v := 0) hx hb dX8_common_33 (by decide +kernel) ?_
      refine lv_istore (lv' := [(6, .int 0), (5, .int 0), (0, .ref x0), (1, .int 0), (2, .int 0), (3, .int 0), (4, .int 0)]) hx hb dX8_common_34 hl (by decide) rfl (fun ls hl => ?_)
      have loop36 : ∀ (n9 : Nat) (k : Nat), 256 - k < n9 → (k ≤ 256) → ∀ (H : Heap) (locs : List Loc) (ls : Array Slot), va_P D vwCl [(x0, .inr (8, [.ref xn, .int 0, .ref xl, .ref xt, .ref xo, .ref xf, .ref xs, .ref xp, .ref xq, .ref xr, .ref xc])), (xf, .inr (6, [.ref f1, .ref f2, .int 0])), (f1, .inl (cI, 512, .inl (fun _ => (0 : Int32)))), (xs, .inr (6, [.ref s1, .ref s2, .int 0])), (s1, .inl (cI, 512, .inl (fun _ => (0 : Int32))))] H → va_D A [(x0, .inr (8, [.ref xn, .int 0, .ref xl, .ref xt, .ref xo, .ref xf, .ref xs, .ref xp, .ref xq, .ref xr, .ref xc])), (xf, .inr (6, [.ref f1, .ref f2, .int 0])), (f1, .inl (cI, 512, .inl (fun _ => (0 : Int32)))), (xs, .inr (6, [.ref s1, .ref s2, .int 0])), (s1, .inl (cI, 512, .inl (fun _ => (0 : Int32))))] → va_S A s.heap H locs → lv_has ls 7 [(6, .int (nI k)), (5, .int 0), (0, .ref x0)] → W p l e ({ frames := 5, cells := 0, slots := 0, locals := 300 } : Room) s m [.ref x0, .int (0 : Int32), .int (0 : Int32), .int (0 : Int32), .int (0 : Int32)].toArray below meth c H locs 0 0 (MQ below (va_Qi (fun (r : Int32) (u : va_W) => (u = [] ∧ r = 0 ∧ (0 : Int32).toInt = 0 ∧ (0 : Int32).toInt = 0 ∧ (0 : Int32).toInt = 0 ∧ (0 : Int32).toInt = 0) ∨ (u = [] ∧ r = (-1) ∧ ((0 : Int32).toInt < 0 ∨ (0 : Int32).toInt < (0 : Int32).toInt ∨ 0 < (0 : Int32).toInt ∨ (0 : Int32).toInt < 0 ∨ (0 : Int32).toInt < (0 : Int32).toInt ∨ 0 < (0 : Int32).toInt))) (my_B D (tyIJ cI cJ) A) A) [.ref x0, .int (0 : Int32), .int (0 : Int32), .int (0 : Int32), .int (0 : Int32)].toArray s 0 0 A) (F0 m 36 ls []) := by
        intro n9
        induction n9 with
        | zero =>
          intro k hn9
          exact absurd hn9 (Nat.not_lt_zero _)
        | succ n9 ih36 =>
          intro k hn9 hk H locs ls hP hD hS hl
          refine lv_iload hx hb dX8_common_36 (lv_at hl 0 rfl) ?_
          refine lv_sipush (v := 255) hx hb dX8_common_38 (by decide +kernel) ?_
          refine lv_icmp_gt (tgt := 128) hx hb dX8_common_41 (by decide) (fun c41 => ?_) (fun c41 => ?_)
          ·
            have d41 : ((k : Nat) : Int) > (255 : Int) := my_gt c41 (nI_toInt (by omega)) (by decide +kernel)
            refine lv_iload hx hb dX8_common_128 (lv_at hl 1 rfl) ?_
            exact my_retI hx hb hr hlocks hK hS [] (hP.sub [] rfl) (hD.sub [] (by decide) rfl) (Or.inl ⟨rfl, rfl, (by first | omega | assumption | trivial | decide +kernel), (by first | omega | assumption | trivial | decide +kernel), (by first | omega | assumption | trivial | decide +kernel), (by first | omega | assumption | trivial | decide +kernel)⟩) dX8_common_130
          ·
            have d41 : ((k : Nat) : Int) ≤ (255 : Int) := my_ngt c41 (nI_toInt (by omega)) (by decide +kernel)
            refine lv_aload_n hx hb dX8_common_44 rfl (lv_at hl 2 rfl) ?_
            refine va_get (ci := 8) (v := .ref xf) (C := RX8) (T := TX8) (N := 11) hx hb hts hi8 hown hK hP 0 rfl rfl 5 (by decide) fl41 (fun _ h9 => h9) rfl dX8_common_45 ?_
            refine lv_iload hx hb dX8_common_48 (lv_at hl 0 rfl) ?_
            refine my_gpI (my_pV (As := [.int (nI k)]) (rest := []) (ci := 6) ⟨hx, hb, hml, hown, hts⟩ (cwV 1 hts gX8_common_X6_timesOf rfl rfl rfl (by decide +kernel) ⟨Nat.le_of_ble_eq_true rfl, Nat.le_of_ble_eq_true rfl⟩) hN hK hP [1, 2] rfl 1 rfl rfl rfl rfl hl.1 rfl (Nat.le_of_ble_eq_true rfl) dX8_common_50 ⟨Nat.le_of_ble_eq_true rfl, Nat.le_of_ble_eq_true rfl⟩  (k0_X6_timesOf l D cI cJ xf f1 f2 (0 : Int32) (nI k))) (fun r hp => ?_)
            obtain rfl := hp
            refine lv_if_le (tgt := 122) hx hb dX8_common_53 (by decide) (fun c53 => ?_) (fun c53 => ?_)
            ·
              refine lv_iinc (v := nI (k + 1)) (lv' := [(6, .int (nI (k + 1))), (5, .int 0), (0, .ref x0)]) hx hb dX8_common_122 hl (k := 0) rfl (my_incN k 1 (by decide +kernel)) (by decide) rfl (fun ls hl => ?_)
              refine lv_goto (tgt := 36) hx hb dX8_common_125 (by decide) ?_
              exact ih36  (k + 1) (by omega) (by omega) _ _ ls (hP.sub [0, 1, 2, 3, 4] rfl) (hD.sub [0, 1, 2, 3, 4] (by decide) rfl) hS (lv_sub hl [0, 1, 2] rfl)
            ·
              exact absurd c53 (by decide +kernel)
      exact loop36 ((256 - 0) + 1) 0 (Nat.lt_succ_self _) (by first | omega | decide +kernel) _ _ ls (hP.sub [4, 0, 1, 2, 3] rfl) (hD.sub [4, 0, 1, 2, 3] (by decide) rfl) hS (lv_sub hl [0, 1, 2] rfl)
    ·
      exact absurd c9 (by decide +kernel)
  ·
    have hP : va_P D vwCl [(xo, .inr (7, [.ref o1, .int o2])), (o1, .inl (cJ, 64, .inr (.inl of)))] H := hP
    have hD : va_D A [(xo, .inr (7, [.ref o1, .int o2])), (o1, .inl (cJ, 64, .inr (.inl of)))] := hD
    refine lv_if_ne (tgt := 14) hx hb dX8_common_9 (by decide) (fun c9 => ?_) (fun c9 => ?_)
    ·
      exact absurd c9 (by decide +kernel)
    ·
      refine lv_iconst (v := (-1)) hx hb dX8_common_12 (by decide +kernel) ?_
      exact my_retI hx hb hr hlocks hK hS [] (hP.sub [] rfl) (hD.sub [] (by decide) rfl) (Or.inr (⟨rfl, rfl, (by first | omega | assumption | trivial | decide +kernel)⟩)) dX8_common_13
set_option maxHeartbeats 4000000 in
set_option maxRecDepth 100000 in
theorem k0_X8_lacking (l : Launch) (D : va_G) (cI cJ : ClassId) (x0 : Nat) (xn : Nat) (xl : Nat) (xt : Nat) (xo : Nat) (xf : Nat) (xs : Nat) (xp : Nat) (xq : Nat) (xr : Nat) (xc : Nat) (f1 : Nat) (f2 : Nat) (f3 : Int32) (ff : Nat → Int32) (s1 : Nat) (s2 : Nat) (s3 : Int32) (sf : Nat → Int32) (o1 : Nat) (o2 : Int32) (of : Nat → Int64) (l9 : Int32) (r9 : Int32) (s9 : Int32) (t9 : Int32) : ctI l yX8_lacking wsX8_lacking ({ frames := 5, cells := 0, slots := 0, locals := 300 } : Room) D (tyIJ cI cJ) [.ref x0, .int l9, .int r9, .int s9, .int t9] [(x0, .inr (8, [.ref xn, .int 0, .ref xl, .ref xt, .ref xo, .ref xf, .ref xs, .ref xp, .ref xq, .ref xr, .ref xc])), (xf, .inr (6, [.ref f1, .ref f2, .int f3])), (f1, .inl (cI, 512, .inl (fun _ => (0 : Int32)))), (f2, .inl (cI, 64, .inl ff)), (xs, .inr (6, [.ref s1, .ref s2, .int s3])), (s1, .inl (cI, 512, .inl (fun _ => (0 : Int32)))), (s2, .inl (cI, 64, .inl sf)), (xo, .inr (7, [.ref o1, .int o2])), (o1, .inl (cJ, 64, .inr (.inl of)))] (fun (r : Int32) (u : va_W) => (u = [] ∧ r = 0 ∧ l9.toInt = 0 ∧ r9.toInt = 0 ∧ s9.toInt = 0 ∧ t9.toInt = 0) ∨ (u = [] ∧ r = (-1) ∧ (l9.toInt < 0 ∨ r9.toInt < l9.toInt ∨ 0 < r9.toInt ∨ s9.toInt < 0 ∨ t9.toInt < s9.toInt ∨ 0 < t9.toInt))) := by
  refine ctI.of (cc := cX8_lacking) (maxL := 7) (ret := (some .int)) (by decide) rfl (Nat.le_of_ble_eq_true rfl) ?_
  intro p e s m below meth c ls A hx hb hr hts hown hml hlocks hname hA hK hN hP hD hS hl
  have hl : lv_has ls 7 [(0, .ref x0), (1, .int l9), (2, .int r9), (3, .int s9), (4, .int t9)] := hl
  have hown : s.vm.findClass RX8 = some m.cls := hown
  have hi8 : ∀ w ∈ u_ws RX8 TX8 11, w ∈ wsX8_lacking := by decide +kernel
  have fl34 := hts (.fieldLink RX8 34 "PlaneColumn" "told" "LPlaneColumn$Told;") (by decide +kernel)
  have fl41 := hts (.fieldLink RX8 41 "PlaneColumn" "first" "LPlaneColumn$Tally;") (by decide +kernel)
  refine lv_aload_n hx hb dX8_lacking_0 rfl (lv_at hl 0 rfl) ?_
  refine lv_iload_n hx hb dX8_lacking_1 rfl (lv_at hl 1 rfl) ?_
  refine lv_iload_n hx hb dX8_lacking_2 rfl (lv_at hl 2 rfl) ?_
  refine lv_iload_n hx hb dX8_lacking_3 rfl (lv_at hl 3 rfl) ?_
  refine lv_iload hx hb dX8_lacking_4 (lv_at hl 4 rfl) ?_
  refine my_goI (wr := [(xo, .inr (7, [.ref o1, .int o2])), (o1, .inl (cJ, 64, .inr (.inl of)))]) hP hD hS hA [0, 1, 2, 3, 4, 5, 6] [7, 8] rfl rfl (by decide) (by decide) (my_cV (As := [.int l9, .int r9, .int s9, .int t9]) (rest := []) (ci := 8) (wc := [(x0, .inr (8, [.ref xn, .int 0, .ref xl, .ref xt, .ref xo, .ref xf, .ref xs, .ref xp, .ref xq, .ref xr, .ref xc])), (xf, .inr (6, [.ref f1, .ref f2, .int f3])), (f1, .inl (cI, 512, .inl (fun _ => (0 : Int32)))), (f2, .inl (cI, 64, .inl ff)), (xs, .inr (6, [.ref s1, .ref s2, .int s3])), (s1, .inl (cI, 512, .inl (fun _ => (0 : Int32)))), (s2, .inl (cI, 64, .inl sf))]) ⟨hx, hb, hml, hown, hts⟩ (cwV 4 hts gX8_lacking_X8_takeBoth rfl rfl rfl (by decide +kernel) ⟨Nat.le_of_ble_eq_true rfl, Nat.le_of_ble_eq_true rfl⟩) hN hK hP hD [0, 1, 2, 3, 4, 5, 6] rfl (by decide) rfl 0 rfl rfl rfl rfl hl.1 rfl (Nat.le_of_ble_eq_true rfl) dX8_lacking_6 ⟨Nat.le_of_ble_eq_true rfl, Nat.le_of_ble_eq_true rfl⟩  ((k0_X8_takeBoth l D cI cJ x0 xn xl xt xo xf xs xp xq xr xc f1 f2 f3 ff s1 s2 s3 sf l9 r9 s9 t9) _)) (fun r u H locs hp hP hD hS => ?_)
  rcases hp with ⟨rfl, rfl, rfl, rfl, rfl, rfl⟩ | ⟨rfl, rfl, ha_1⟩
  ·
    have hP : va_P D vwCl [(xo, .inr (7, [.ref o1, .int o2])), (o1, .inl (cJ, 64, .inr (.inl of))), (x0, .inr (8, [.ref xn, .int 0, .ref xl, .ref xt, .ref xo, .ref xf, .ref xs, .ref xp, .ref xq, .ref xr, .ref xc])), (xf, .inr (6, [.ref f1, .ref f2, .int 0])), (f1, .inl (cI, 512, .inl (fun _ => (0 : Int32)))), (xs, .inr (6, [.ref s1, .ref s2, .int 0])), (s1, .inl (cI, 512, .inl (fun _ => (0 : Int32))))] H := hP
    have hD : va_D A [(xo, .inr (7, [.ref o1, .int o2])), (o1, .inl (cJ, 64, .inr (.inl of))), (x0, .inr (8, [.ref xn, .int 0, .ref xl, .ref xt, .ref xo, .ref xf, .ref xs, .ref xp, .ref xq, .ref xr, .ref xc])), (xf, .inr (6, [.ref f1, .ref f2, .int 0])), (f1, .inl (cI, 512, .inl (fun _ => (0 : Int32)))), (xs, .inr (6, [.ref s1, .ref s2, .int 0])), (s1, .inl (cI, 512, .inl (fun _ => (0 : Int32))))] := hD
    refine lv_if_ne (tgt := 14) hx hb dX8_lacking_9 (by decide) (fun c9 => ?_) (fun c9 => ?_)
    ·
      refine lv_aload_n hx hb dX8_lacking_14 rfl (lv_at hl 0 rfl) ?_
      refine va_get (ci := 8) (v := .ref xo) (C := RX8) (T := TX8) (N := 11) hx hb hts hi8 hown hK hP 2 rfl rfl 4 (by decide) fl34 (fun _ h9 => h9) rfl dX8_lacking_15 ?_
      refine my_goV (wr := [(o1, .inl (cJ, 64, .inr (.inl of))), (x0, .inr (8, [.ref xn, .int 0, .ref xl, .ref xt, .ref xo, .ref xf, .ref xs, .ref xp, .ref xq, .ref xr, .ref xc])), (xf, .inr (6, [.ref f1, .ref f2, .int 0])), (f1, .inl (cI, 512, .inl (fun _ => (0 : Int32)))), (xs, .inr (6, [.ref s1, .ref s2, .int 0])), (s1, .inl (cI, 512, .inl (fun _ => (0 : Int32))))]) hP hD hS hA [0] [1, 2, 3, 4, 5, 6] rfl rfl (by decide) (by decide) (my_cV (As := []) (rest := []) (ci := 7) (wc := [(xo, .inr (7, [.ref o1, .int o2]))]) ⟨hx, hb, hml, hown, hts⟩ (cwV 0 hts gX8_lacking_X7_begin rfl rfl rfl (by decide +kernel) ⟨Nat.le_of_ble_eq_true rfl, Nat.le_of_ble_eq_true rfl⟩) hN hK hP hD [0] rfl (by decide) rfl 0 rfl rfl rfl rfl hl.1 rfl (Nat.le_of_ble_eq_true rfl) dX8_lacking_18 ⟨Nat.le_of_ble_eq_true rfl, Nat.le_of_ble_eq_true rfl⟩  ((k_X7_begin l D cI cJ xo o1 o2) _)) (fun u H locs hp hP hD hS => ?_)
      obtain rfl := hp
      have hP : va_P D vwCl [(o1, .inl (cJ, 64, .inr (.inl of))), (x0, .inr (8, [.ref xn, .int 0, .ref xl, .ref xt, .ref xo, .ref xf, .ref xs, .ref xp, .ref xq, .ref xr, .ref xc])), (xf, .inr (6, [.ref f1, .ref f2, .int 0])), (f1, .inl (cI, 512, .inl (fun _ => (0 : Int32)))), (xs, .inr (6, [.ref s1, .ref s2, .int 0])), (s1, .inl (cI, 512, .inl (fun _ => (0 : Int32)))), (xo, .inr (7, [.ref o1, .int 0]))] H := hP
      have hD : va_D A [(o1, .inl (cJ, 64, .inr (.inl of))), (x0, .inr (8, [.ref xn, .int 0, .ref xl, .ref xt, .ref xo, .ref xf, .ref xs, .ref xp, .ref xq, .ref xr, .ref xc])), (xf, .inr (6, [.ref f1, .ref f2, .int 0])), (f1, .inl (cI, 512, .inl (fun _ => (0 : Int32)))), (xs, .inr (6, [.ref s1, .ref s2, .int 0])), (s1, .inl (cI, 512, .inl (fun _ => (0 : Int32)))), (xo, .inr (7, [.ref o1, .int 0]))] := hD
      refine lv_iconst (v := 0) hx hb dX8_lacking_21 (by decide +kernel) ?_
      refine lv_istore (lv' := [(5, .int 0), (0, .ref x0), (1, .int 0), (2, .int 0), (3, .int 0), (4, .int 0)]) hx hb dX8_lacking_22 hl (by decide) rfl (fun ls hl => ?_)
      refine lv_iconst (v := 0) hx hb dX8_lacking_24 (by decide +kernel) ?_
      refine lv_istore (lv' := [(6, .int 0), (5, .int 0), (0, .ref x0), (1, .int 0), (2, .int 0), (3, .int 0), (4, .int 0)]) hx hb dX8_lacking_25 hl (by decide) rfl (fun ls hl => ?_)
      have loop27 : ∀ (n9 : Nat) (k : Nat), 256 - k < n9 → (k ≤ 256) → ∀ (H : Heap) (locs : List Loc) (ls : Array Slot), va_P D vwCl [(x0, .inr (8, [.ref xn, .int 0, .ref xl, .ref xt, .ref xo, .ref xf, .ref xs, .ref xp, .ref xq, .ref xr, .ref xc])), (xf, .inr (6, [.ref f1, .ref f2, .int 0])), (f1, .inl (cI, 512, .inl (fun _ => (0 : Int32)))), (xs, .inr (6, [.ref s1, .ref s2, .int 0])), (s1, .inl (cI, 512, .inl (fun _ => (0 : Int32))))] H → va_D A [(x0, .inr (8, [.ref xn, .int 0, .ref xl, .ref xt, .ref xo, .ref xf, .ref xs, .ref xp, .ref xq, .ref xr, .ref xc])), (xf, .inr (6, [.ref f1, .ref f2, .int 0])), (f1, .inl (cI, 512, .inl (fun _ => (0 : Int32)))), (xs, .inr (6, [.ref s1, .ref s2, .int 0])), (s1, .inl (cI, 512, .inl (fun _ => (0 : Int32))))] → va_S A s.heap H locs → lv_has ls 7 [(6, .int (nI k)), (5, .int 0), (0, .ref x0)] → W p l e ({ frames := 5, cells := 0, slots := 0, locals := 300 } : Room) s m [.ref x0, .int (0 : Int32), .int (0 : Int32), .int (0 : Int32), .int (0 : Int32)].toArray below meth c H locs 0 0 (MQ below (va_Qi (fun (r : Int32) (u : va_W) => (u = [] ∧ r = 0 ∧ (0 : Int32).toInt = 0 ∧ (0 : Int32).toInt = 0 ∧ (0 : Int32).toInt = 0 ∧ (0 : Int32).toInt = 0) ∨ (u = [] ∧ r = (-1) ∧ ((0 : Int32).toInt < 0 ∨ (0 : Int32).toInt < (0 : Int32).toInt ∨ 0 < (0 : Int32).toInt ∨ (0 : Int32).toInt < 0 ∨ (0 : Int32).toInt < (0 : Int32).toInt ∨ 0 < (0 : Int32).toInt))) (my_B D (tyIJ cI cJ) A) A) [.ref x0, .int (0 : Int32), .int (0 : Int32), .int (0 : Int32), .int (0 : Int32)].toArray s 0 0 A) (F0 m 27 ls []) := by
        intro n9
        induction n9 with
        | zero =>
          intro k hn9
          exact absurd hn9 (Nat.not_lt_zero _)
        | succ n9 ih27 =>
          intro k hn9 hk H locs ls hP hD hS hl
          refine lv_iload hx hb dX8_lacking_27 (lv_at hl 0 rfl) ?_
          refine lv_sipush (v := 255) hx hb dX8_lacking_29 (by decide +kernel) ?_
          refine lv_icmp_gt (tgt := 102) hx hb dX8_lacking_32 (by decide) (fun c32 => ?_) (fun c32 => ?_)
          ·
            have d32 : ((k : Nat) : Int) > (255 : Int) := my_gt c32 (nI_toInt (by omega)) (by decide +kernel)
            refine lv_iload hx hb dX8_lacking_102 (lv_at hl 1 rfl) ?_
            exact my_retI hx hb hr hlocks hK hS [] (hP.sub [] rfl) (hD.sub [] (by decide) rfl) (Or.inl ⟨rfl, rfl, (by first | omega | assumption | trivial | decide +kernel), (by first | omega | assumption | trivial | decide +kernel), (by first | omega | assumption | trivial | decide +kernel), (by first | omega | assumption | trivial | decide +kernel)⟩) dX8_lacking_104
          ·
            have d32 : ((k : Nat) : Int) ≤ (255 : Int) := my_ngt c32 (nI_toInt (by omega)) (by decide +kernel)
            refine lv_aload_n hx hb dX8_lacking_35 rfl (lv_at hl 2 rfl) ?_
            refine va_get (ci := 8) (v := .ref xf) (C := RX8) (T := TX8) (N := 11) hx hb hts hi8 hown hK hP 0 rfl rfl 5 (by decide) fl41 (fun _ h9 => h9) rfl dX8_lacking_36 ?_
            refine lv_iload hx hb dX8_lacking_39 (lv_at hl 0 rfl) ?_
            refine my_gpI (my_pV (As := [.int (nI k)]) (rest := []) (ci := 6) ⟨hx, hb, hml, hown, hts⟩ (cwV 1 hts gX8_lacking_X6_timesOf rfl rfl rfl (by decide +kernel) ⟨Nat.le_of_ble_eq_true rfl, Nat.le_of_ble_eq_true rfl⟩) hN hK hP [1, 2] rfl 1 rfl rfl rfl rfl hl.1 rfl (Nat.le_of_ble_eq_true rfl) dX8_lacking_41 ⟨Nat.le_of_ble_eq_true rfl, Nat.le_of_ble_eq_true rfl⟩  (k0_X6_timesOf l D cI cJ xf f1 f2 (0 : Int32) (nI k))) (fun r hp => ?_)
            obtain rfl := hp
            refine lv_if_le (tgt := 96) hx hb dX8_lacking_44 (by decide) (fun c44 => ?_) (fun c44 => ?_)
            ·
              refine lv_iinc (v := nI (k + 1)) (lv' := [(6, .int (nI (k + 1))), (5, .int 0), (0, .ref x0)]) hx hb dX8_lacking_96 hl (k := 0) rfl (my_incN k 1 (by decide +kernel)) (by decide) rfl (fun ls hl => ?_)
              refine lv_goto (tgt := 27) hx hb dX8_lacking_99 (by decide) ?_
              exact ih27  (k + 1) (by omega) (by omega) _ _ ls (hP.sub [0, 1, 2, 3, 4] rfl) (hD.sub [0, 1, 2, 3, 4] (by decide) rfl) hS (lv_sub hl [0, 1, 2] rfl)
            ·
              exact absurd c44 (by decide +kernel)
      exact loop27 ((256 - 0) + 1) 0 (Nat.lt_succ_self _) (by first | omega | decide +kernel) _ _ ls (hP.sub [1, 2, 3, 4, 5] rfl) (hD.sub [1, 2, 3, 4, 5] (by decide) rfl) hS (lv_sub hl [0, 1, 2] rfl)
    ·
      exact absurd c9 (by decide +kernel)
  ·
    have hP : va_P D vwCl [(xo, .inr (7, [.ref o1, .int o2])), (o1, .inl (cJ, 64, .inr (.inl of)))] H := hP
    have hD : va_D A [(xo, .inr (7, [.ref o1, .int o2])), (o1, .inl (cJ, 64, .inr (.inl of)))] := hD
    refine lv_if_ne (tgt := 14) hx hb dX8_lacking_9 (by decide) (fun c9 => ?_) (fun c9 => ?_)
    ·
      exact absurd c9 (by decide +kernel)
    ·
      refine lv_iconst (v := (-1)) hx hb dX8_lacking_12 (by decide +kernel) ?_
      exact my_retI hx hb hr hlocks hK hS [] (hP.sub [] rfl) (hD.sub [] (by decide) rfl) (Or.inr (⟨rfl, rfl, (by first | omega | assumption | trivial | decide +kernel)⟩)) dX8_lacking_13
set_option maxHeartbeats 4000000 in
set_option maxRecDepth 100000 in
theorem k0_X8_both (l : Launch) (D : va_G) (cI cJ : ClassId) (x0 : Nat) (xn : Nat) (xl : Nat) (xt : Nat) (xo : Nat) (xf : Nat) (xs : Nat) (xp : Nat) (xq : Nat) (xr : Nat) (xc : Nat) (f1 : Nat) (f2 : Nat) (f3 : Int32) (ff : Nat → Int32) (s1 : Nat) (s2 : Nat) (s3 : Int32) (sf : Nat → Int32) (o1 : Nat) (o2 : Int32) (of : Nat → Int64) (l9 : Int32) (r9 : Int32) (s9 : Int32) (t9 : Int32) (k9 : Int32) : ctI l yX8_both wsX8_both ({ frames := 5, cells := 0, slots := 0, locals := 300 } : Room) D (tyIJ cI cJ) [.ref x0, .int l9, .int r9, .int s9, .int t9, .int k9] [(x0, .inr (8, [.ref xn, .int 0, .ref xl, .ref xt, .ref xo, .ref xf, .ref xs, .ref xp, .ref xq, .ref xr, .ref xc])), (xf, .inr (6, [.ref f1, .ref f2, .int f3])), (f1, .inl (cI, 512, .inl (fun _ => (0 : Int32)))), (f2, .inl (cI, 64, .inl ff)), (xs, .inr (6, [.ref s1, .ref s2, .int s3])), (s1, .inl (cI, 512, .inl (fun _ => (0 : Int32)))), (s2, .inl (cI, 64, .inl sf)), (xo, .inr (7, [.ref o1, .int o2])), (o1, .inl (cJ, 64, .inr (.inl of)))] (fun (r : Int32) (u : va_W) => (u = [] ∧ r = (-2) ∧ l9.toInt = 0 ∧ r9.toInt = 0 ∧ s9.toInt = 0 ∧ t9.toInt = 0 ∧ 0 ≤ k9.toInt) ∨ (u = [] ∧ r = (-1) ∧ (l9.toInt < 0 ∨ r9.toInt < l9.toInt ∨ 0 < r9.toInt ∨ s9.toInt < 0 ∨ t9.toInt < s9.toInt ∨ 0 < t9.toInt ∨ k9.toInt < 0))) := by
  refine ctI.of (cc := cX8_both) (maxL := 8) (ret := (some .int)) (by decide) rfl (Nat.le_of_ble_eq_true rfl) ?_
  intro p e s m below meth c ls A hx hb hr hts hown hml hlocks hname hA hK hN hP hD hS hl
  have hl : lv_has ls 8 [(0, .ref x0), (1, .int l9), (2, .int r9), (3, .int s9), (4, .int t9), (5, .int k9)] := hl
  have hown : s.vm.findClass RX8 = some m.cls := hown
  have hi8 : ∀ w ∈ u_ws RX8 TX8 11, w ∈ wsX8_both := by decide +kernel
  have fl41 := hts (.fieldLink RX8 41 "PlaneColumn" "first" "LPlaneColumn$Tally;") (by decide +kernel)
  have fl45 := hts (.fieldLink RX8 45 "PlaneColumn" "second" "LPlaneColumn$Tally;") (by decide +kernel)
  refine lv_iload hx hb dX8_both_0 (lv_at hl 5 rfl) ?_
  refine lv_if_lt (tgt := 17) hx hb dX8_both_2 (by decide) (fun c2 => ?_) (fun c2 => ?_)
  ·
    have d2 : k9.toInt < (0 : Int) := my_lt c2 rfl (by decide +kernel)
    refine lv_iconst (v := (-1)) hx hb dX8_both_17 (by decide +kernel) ?_
    exact my_retI hx hb hr hlocks hK hS [] (hP.sub [] rfl) (hD.sub [] (by decide) rfl) (Or.inr (⟨rfl, rfl, (by first | omega | assumption | trivial | decide +kernel)⟩)) dX8_both_18
  ·
    have d2 : k9.toInt ≥ (0 : Int) := my_nlt c2 rfl (by decide +kernel)
    refine lv_aload_n hx hb dX8_both_5 rfl (lv_at hl 0 rfl) ?_
    refine lv_iload_n hx hb dX8_both_6 rfl (lv_at hl 1 rfl) ?_
    refine lv_iload_n hx hb dX8_both_7 rfl (lv_at hl 2 rfl) ?_
    refine lv_iload_n hx hb dX8_both_8 rfl (lv_at hl 3 rfl) ?_
    refine lv_iload hx hb dX8_both_9 (lv_at hl 4 rfl) ?_
    refine my_goI (wr := [(xo, .inr (7, [.ref o1, .int o2])), (o1, .inl (cJ, 64, .inr (.inl of)))]) hP hD hS hA [0, 1, 2, 3, 4, 5, 6] [7, 8] rfl rfl (by decide) (by decide) (my_cV (As := [.int l9, .int r9, .int s9, .int t9]) (rest := []) (ci := 8) (wc := [(x0, .inr (8, [.ref xn, .int 0, .ref xl, .ref xt, .ref xo, .ref xf, .ref xs, .ref xp, .ref xq, .ref xr, .ref xc])), (xf, .inr (6, [.ref f1, .ref f2, .int f3])), (f1, .inl (cI, 512, .inl (fun _ => (0 : Int32)))), (f2, .inl (cI, 64, .inl ff)), (xs, .inr (6, [.ref s1, .ref s2, .int s3])), (s1, .inl (cI, 512, .inl (fun _ => (0 : Int32)))), (s2, .inl (cI, 64, .inl sf))]) ⟨hx, hb, hml, hown, hts⟩ (cwV 4 hts gX8_both_X8_takeBoth rfl rfl rfl (by decide +kernel) ⟨Nat.le_of_ble_eq_true rfl, Nat.le_of_ble_eq_true rfl⟩) hN hK hP hD [0, 1, 2, 3, 4, 5, 6] rfl (by decide) rfl 0 rfl rfl rfl rfl hl.1 rfl (Nat.le_of_ble_eq_true rfl) dX8_both_11 ⟨Nat.le_of_ble_eq_true rfl, Nat.le_of_ble_eq_true rfl⟩  ((k0_X8_takeBoth l D cI cJ x0 xn xl xt xo xf xs xp xq xr xc f1 f2 f3 ff s1 s2 s3 sf l9 r9 s9 t9) _)) (fun r u H locs hp hP hD hS => ?_)
    rcases hp with ⟨rfl, rfl, rfl, rfl, rfl, rfl⟩ | ⟨rfl, rfl, ha_1⟩
    ·
      have hP : va_P D vwCl [(xo, .inr (7, [.ref o1, .int o2])), (o1, .inl (cJ, 64, .inr (.inl of))), (x0, .inr (8, [.ref xn, .int 0, .ref xl, .ref xt, .ref xo, .ref xf, .ref xs, .ref xp, .ref xq, .ref xr, .ref xc])), (xf, .inr (6, [.ref f1, .ref f2, .int 0])), (f1, .inl (cI, 512, .inl (fun _ => (0 : Int32)))), (xs, .inr (6, [.ref s1, .ref s2, .int 0])), (s1, .inl (cI, 512, .inl (fun _ => (0 : Int32))))] H := hP
      have hD : va_D A [(xo, .inr (7, [.ref o1, .int o2])), (o1, .inl (cJ, 64, .inr (.inl of))), (x0, .inr (8, [.ref xn, .int 0, .ref xl, .ref xt, .ref xo, .ref xf, .ref xs, .ref xp, .ref xq, .ref xr, .ref xc])), (xf, .inr (6, [.ref f1, .ref f2, .int 0])), (f1, .inl (cI, 512, .inl (fun _ => (0 : Int32)))), (xs, .inr (6, [.ref s1, .ref s2, .int 0])), (s1, .inl (cI, 512, .inl (fun _ => (0 : Int32))))] := hD
      refine lv_if_ne (tgt := 19) hx hb dX8_both_14 (by decide) (fun c14 => ?_) (fun c14 => ?_)
      ·
        refine lv_iconst (v := 0) hx hb dX8_both_19 (by decide +kernel) ?_
        refine lv_istore (lv' := [(6, .int 0), (0, .ref x0), (1, .int 0), (2, .int 0), (3, .int 0), (4, .int 0), (5, .int k9)]) hx hb dX8_both_20 hl (by decide) rfl (fun ls hl => ?_)
        refine lv_iconst (v := 0) hx hb dX8_both_22 (by decide +kernel) ?_
        refine lv_istore (lv' := [(7, .int 0), (6, .int 0), (0, .ref x0), (1, .int 0), (2, .int 0), (3, .int 0), (4, .int 0), (5, .int k9)]) hx hb dX8_both_23 hl (by decide) rfl (fun ls hl => ?_)
        have loop25 : ∀ (n9 : Nat) (k : Nat), 256 - k < n9 → (k ≤ 256) → ∀ (H : Heap) (locs : List Loc) (ls : Array Slot), va_P D vwCl [(x0, .inr (8, [.ref xn, .int 0, .ref xl, .ref xt, .ref xo, .ref xf, .ref xs, .ref xp, .ref xq, .ref xr, .ref xc])), (xf, .inr (6, [.ref f1, .ref f2, .int 0])), (f1, .inl (cI, 512, .inl (fun _ => (0 : Int32)))), (xs, .inr (6, [.ref s1, .ref s2, .int 0])), (s1, .inl (cI, 512, .inl (fun _ => (0 : Int32))))] H → va_D A [(x0, .inr (8, [.ref xn, .int 0, .ref xl, .ref xt, .ref xo, .ref xf, .ref xs, .ref xp, .ref xq, .ref xr, .ref xc])), (xf, .inr (6, [.ref f1, .ref f2, .int 0])), (f1, .inl (cI, 512, .inl (fun _ => (0 : Int32)))), (xs, .inr (6, [.ref s1, .ref s2, .int 0])), (s1, .inl (cI, 512, .inl (fun _ => (0 : Int32))))] → va_S A s.heap H locs → lv_has ls 8 [(7, .int (nI k)), (6, .int 0), (5, .int k9), (0, .ref x0)] → W p l e ({ frames := 5, cells := 0, slots := 0, locals := 300 } : Room) s m [.ref x0, .int (0 : Int32), .int (0 : Int32), .int (0 : Int32), .int (0 : Int32), .int k9].toArray below meth c H locs 0 0 (MQ below (va_Qi (fun (r : Int32) (u : va_W) => (u = [] ∧ r = (-2) ∧ (0 : Int32).toInt = 0 ∧ (0 : Int32).toInt = 0 ∧ (0 : Int32).toInt = 0 ∧ (0 : Int32).toInt = 0 ∧ 0 ≤ k9.toInt) ∨ (u = [] ∧ r = (-1) ∧ ((0 : Int32).toInt < 0 ∨ (0 : Int32).toInt < (0 : Int32).toInt ∨ 0 < (0 : Int32).toInt ∨ (0 : Int32).toInt < 0 ∨ (0 : Int32).toInt < (0 : Int32).toInt ∨ 0 < (0 : Int32).toInt ∨ k9.toInt < 0))) (my_B D (tyIJ cI cJ) A) A) [.ref x0, .int (0 : Int32), .int (0 : Int32), .int (0 : Int32), .int (0 : Int32), .int k9].toArray s 0 0 A) (F0 m 25 ls []) := by
          intro n9
          induction n9 with
          | zero =>
            intro k hn9
            exact absurd hn9 (Nat.not_lt_zero _)
          | succ n9 ih25 =>
            intro k hn9 hk H locs ls hP hD hS hl
            refine lv_iload hx hb dX8_both_25 (lv_at hl 0 rfl) ?_
            refine lv_sipush (v := 255) hx hb dX8_both_27 (by decide +kernel) ?_
            refine lv_icmp_gt (tgt := 97) hx hb dX8_both_30 (by decide) (fun c30 => ?_) (fun c30 => ?_)
            ·
              have d30 : ((k : Nat) : Int) > (255 : Int) := my_gt c30 (nI_toInt (by omega)) (by decide +kernel)
              refine lv_bipush (v := (-2)) hx hb dX8_both_97 (by decide +kernel) ?_
              exact my_retI hx hb hr hlocks hK hS [] (hP.sub [] rfl) (hD.sub [] (by decide) rfl) (Or.inl ⟨rfl, rfl, (by first | omega | assumption | trivial | decide +kernel), (by first | omega | assumption | trivial | decide +kernel), (by first | omega | assumption | trivial | decide +kernel), (by first | omega | assumption | trivial | decide +kernel), (by first | omega | assumption | trivial | decide +kernel)⟩) dX8_both_99
            ·
              have d30 : ((k : Nat) : Int) ≤ (255 : Int) := my_ngt c30 (nI_toInt (by omega)) (by decide +kernel)
              refine lv_iload hx hb dX8_both_33 (lv_at hl 1 rfl) ?_
              refine lv_aload_n hx hb dX8_both_35 rfl (lv_at hl 3 rfl) ?_
              refine va_get (ci := 8) (v := .ref xf) (C := RX8) (T := TX8) (N := 11) hx hb hts hi8 hown hK hP 0 rfl rfl 5 (by decide) fl41 (fun _ h9 => h9) rfl dX8_both_36 ?_
              refine lv_iload hx hb dX8_both_39 (lv_at hl 0 rfl) ?_
              refine my_gpI (my_pV (As := [.int (nI k)]) (rest := [.int 0]) (ci := 6) ⟨hx, hb, hml, hown, hts⟩ (cwV 1 hts gX8_both_X6_timesOf rfl rfl rfl (by decide +kernel) ⟨Nat.le_of_ble_eq_true rfl, Nat.le_of_ble_eq_true rfl⟩) hN hK hP [1, 2] rfl 1 rfl rfl rfl rfl hl.1 rfl (Nat.le_of_ble_eq_true rfl) dX8_both_41 ⟨Nat.le_of_ble_eq_true rfl, Nat.le_of_ble_eq_true rfl⟩  (k0_X6_timesOf l D cI cJ xf f1 f2 (0 : Int32) (nI k))) (fun r hp => ?_)
              obtain rfl := hp
              refine lv_aload_n hx hb dX8_both_44 rfl (lv_at hl 3 rfl) ?_
              refine va_get (ci := 8) (v := .ref xs) (C := RX8) (T := TX8) (N := 11) hx hb hts hi8 hown hK hP 0 rfl rfl 6 (by decide) fl45 (fun _ h9 => h9) rfl dX8_both_45 ?_
              refine lv_iload hx hb dX8_both_48 (lv_at hl 0 rfl) ?_
              refine my_gpI (my_pV (As := [.int (nI k)]) (rest := [.int 0, .int 0]) (ci := 6) ⟨hx, hb, hml, hown, hts⟩ (cwV 1 hts gX8_both_X6_timesOf rfl rfl rfl (by decide +kernel) ⟨Nat.le_of_ble_eq_true rfl, Nat.le_of_ble_eq_true rfl⟩) hN hK hP [3, 4] rfl 3 rfl rfl rfl rfl hl.1 rfl (Nat.le_of_ble_eq_true rfl) dX8_both_50 ⟨Nat.le_of_ble_eq_true rfl, Nat.le_of_ble_eq_true rfl⟩  (k0_X6_timesOf l D cI cJ xs s1 s2 (0 : Int32) (nI k))) (fun r hp => ?_)
              obtain rfl := hp
              refine lv_iadd hx hb dX8_both_53 ?_
              refine my_eqi (y := 0) (by decide +kernel) ?_
              refine lv_iadd hx hb dX8_both_54 ?_
              refine my_eqi (y := 0) (by decide +kernel) ?_
              refine lv_istore (lv' := [(6, .int 0), (7, .int (nI k)), (5, .int k9), (0, .ref x0)]) hx hb dX8_both_55 hl (by decide) rfl (fun ls hl => ?_)
              refine lv_iload hx hb dX8_both_57 (lv_at hl 2 rfl) ?_
              refine lv_iload hx hb dX8_both_59 (lv_at hl 0 rfl) ?_
              refine lv_icmp_ge (tgt := 91) hx hb dX8_both_61 (by decide) (fun c61 => ?_) (fun c61 => ?_)
              ·
                have d61 : k9.toInt ≥ (0 : Int) := my_ge c61 rfl (by decide +kernel)
                refine lv_iinc (v := nI (k + 1)) (lv' := [(7, .int (nI (k + 1))), (6, .int 0), (5, .int k9), (0, .ref x0)]) hx hb dX8_both_91 hl (k := 1) rfl (my_incN k 1 (by decide +kernel)) (by decide) rfl (fun ls hl => ?_)
                refine lv_goto (tgt := 25) hx hb dX8_both_94 (by decide) ?_
                exact ih25  (k + 1) (by omega) (by omega) _ _ ls (hP.sub [0, 1, 2, 3, 4] rfl) (hD.sub [0, 1, 2, 3, 4] (by decide) rfl) hS (lv_sub hl [0, 1, 2, 3] rfl)
              ·
                have d61 : k9.toInt < (0 : Int) := my_nge c61 rfl (by decide +kernel)
                exact absurd d61 (by omega)
        exact loop25 ((256 - 0) + 1) 0 (Nat.lt_succ_self _) (by first | omega | decide +kernel) _ _ ls (hP.sub [2, 3, 4, 5, 6] rfl) (hD.sub [2, 3, 4, 5, 6] (by decide) rfl) hS (lv_sub hl [0, 1, 7, 2] rfl)
      ·
        exact absurd c14 (by decide +kernel)
    ·
      have hP : va_P D vwCl [(xo, .inr (7, [.ref o1, .int o2])), (o1, .inl (cJ, 64, .inr (.inl of)))] H := hP
      have hD : va_D A [(xo, .inr (7, [.ref o1, .int o2])), (o1, .inl (cJ, 64, .inr (.inl of)))] := hD
      refine lv_if_ne (tgt := 19) hx hb dX8_both_14 (by decide) (fun c14 => ?_) (fun c14 => ?_)
      ·
        exact absurd c14 (by decide +kernel)
      ·
        refine lv_iconst (v := (-1)) hx hb dX8_both_17 (by decide +kernel) ?_
        exact my_retI hx hb hr hlocks hK hS [] (hP.sub [] rfl) (hD.sub [] (by decide) rfl) (Or.inr (⟨rfl, rfl, (by first | omega | assumption | trivial | decide +kernel)⟩)) dX8_both_18
set_option maxHeartbeats 4000000 in
set_option maxRecDepth 100000 in
theorem k0_X8_same (l : Launch) (D : va_G) (cI cJ : ClassId) (x0 : Nat) (xn : Nat) (xl : Nat) (xt : Nat) (xo : Nat) (xf : Nat) (xs : Nat) (xp : Nat) (xq : Nat) (xr : Nat) (xc : Nat) (f1 : Nat) (f2 : Nat) (f3 : Int32) (ff : Nat → Int32) (s1 : Nat) (s2 : Nat) (s3 : Int32) (sf : Nat → Int32) (o1 : Nat) (o2 : Int32) (of : Nat → Int64) (l9 : Int32) (r9 : Int32) (s9 : Int32) (t9 : Int32) : ctI l yX8_same wsX8_same ({ frames := 5, cells := 0, slots := 0, locals := 300 } : Room) D (tyIJ cI cJ) [.ref x0, .int l9, .int r9, .int s9, .int t9] [(x0, .inr (8, [.ref xn, .int 0, .ref xl, .ref xt, .ref xo, .ref xf, .ref xs, .ref xp, .ref xq, .ref xr, .ref xc])), (xf, .inr (6, [.ref f1, .ref f2, .int f3])), (f1, .inl (cI, 512, .inl (fun _ => (0 : Int32)))), (f2, .inl (cI, 64, .inl ff)), (xs, .inr (6, [.ref s1, .ref s2, .int s3])), (s1, .inl (cI, 512, .inl (fun _ => (0 : Int32)))), (s2, .inl (cI, 64, .inl sf)), (xo, .inr (7, [.ref o1, .int o2])), (o1, .inl (cJ, 64, .inr (.inl of)))] (fun (r : Int32) (u : va_W) => (u = [] ∧ r = 1 ∧ l9.toInt = 0 ∧ r9.toInt = 0 ∧ s9.toInt = 0 ∧ t9.toInt = 0) ∨ (u = [] ∧ r = (-1) ∧ (l9.toInt < 0 ∨ r9.toInt < l9.toInt ∨ 0 < r9.toInt ∨ s9.toInt < 0 ∨ t9.toInt < s9.toInt ∨ 0 < t9.toInt))) := by
  refine ctI.of (cc := cX8_same) (maxL := 10) (ret := (some .int)) (by decide) rfl (Nat.le_of_ble_eq_true rfl) ?_
  intro p e s m below meth c ls A hx hb hr hts hown hml hlocks hname hA hK hN hP hD hS hl
  have hl : lv_has ls 10 [(0, .ref x0), (1, .int l9), (2, .int r9), (3, .int s9), (4, .int t9)] := hl
  have hown : s.vm.findClass RX8 = some m.cls := hown
  have hi8 : ∀ w ∈ u_ws RX8 TX8 11, w ∈ wsX8_same := by decide +kernel
  have fl34 := hts (.fieldLink RX8 34 "PlaneColumn" "told" "LPlaneColumn$Told;") (by decide +kernel)
  have fl41 := hts (.fieldLink RX8 41 "PlaneColumn" "first" "LPlaneColumn$Tally;") (by decide +kernel)
  have fl45 := hts (.fieldLink RX8 45 "PlaneColumn" "second" "LPlaneColumn$Tally;") (by decide +kernel)
  refine lv_aload_n hx hb dX8_same_0 rfl (lv_at hl 0 rfl) ?_
  refine lv_iload_n hx hb dX8_same_1 rfl (lv_at hl 1 rfl) ?_
  refine lv_iload_n hx hb dX8_same_2 rfl (lv_at hl 2 rfl) ?_
  refine lv_iload_n hx hb dX8_same_3 rfl (lv_at hl 3 rfl) ?_
  refine lv_iload hx hb dX8_same_4 (lv_at hl 4 rfl) ?_
  refine my_goI (wr := [(xo, .inr (7, [.ref o1, .int o2])), (o1, .inl (cJ, 64, .inr (.inl of)))]) hP hD hS hA [0, 1, 2, 3, 4, 5, 6] [7, 8] rfl rfl (by decide) (by decide) (my_cV (As := [.int l9, .int r9, .int s9, .int t9]) (rest := []) (ci := 8) (wc := [(x0, .inr (8, [.ref xn, .int 0, .ref xl, .ref xt, .ref xo, .ref xf, .ref xs, .ref xp, .ref xq, .ref xr, .ref xc])), (xf, .inr (6, [.ref f1, .ref f2, .int f3])), (f1, .inl (cI, 512, .inl (fun _ => (0 : Int32)))), (f2, .inl (cI, 64, .inl ff)), (xs, .inr (6, [.ref s1, .ref s2, .int s3])), (s1, .inl (cI, 512, .inl (fun _ => (0 : Int32)))), (s2, .inl (cI, 64, .inl sf))]) ⟨hx, hb, hml, hown, hts⟩ (cwV 4 hts gX8_same_X8_takeBoth rfl rfl rfl (by decide +kernel) ⟨Nat.le_of_ble_eq_true rfl, Nat.le_of_ble_eq_true rfl⟩) hN hK hP hD [0, 1, 2, 3, 4, 5, 6] rfl (by decide) rfl 0 rfl rfl rfl rfl hl.1 rfl (Nat.le_of_ble_eq_true rfl) dX8_same_6 ⟨Nat.le_of_ble_eq_true rfl, Nat.le_of_ble_eq_true rfl⟩  ((k0_X8_takeBoth l D cI cJ x0 xn xl xt xo xf xs xp xq xr xc f1 f2 f3 ff s1 s2 s3 sf l9 r9 s9 t9) _)) (fun r u H locs hp hP hD hS => ?_)
  rcases hp with ⟨rfl, rfl, rfl, rfl, rfl, rfl⟩ | ⟨rfl, rfl, ha_1⟩
  ·
    have hP : va_P D vwCl [(xo, .inr (7, [.ref o1, .int o2])), (o1, .inl (cJ, 64, .inr (.inl of))), (x0, .inr (8, [.ref xn, .int 0, .ref xl, .ref xt, .ref xo, .ref xf, .ref xs, .ref xp, .ref xq, .ref xr, .ref xc])), (xf, .inr (6, [.ref f1, .ref f2, .int 0])), (f1, .inl (cI, 512, .inl (fun _ => (0 : Int32)))), (xs, .inr (6, [.ref s1, .ref s2, .int 0])), (s1, .inl (cI, 512, .inl (fun _ => (0 : Int32))))] H := hP
    have hD : va_D A [(xo, .inr (7, [.ref o1, .int o2])), (o1, .inl (cJ, 64, .inr (.inl of))), (x0, .inr (8, [.ref xn, .int 0, .ref xl, .ref xt, .ref xo, .ref xf, .ref xs, .ref xp, .ref xq, .ref xr, .ref xc])), (xf, .inr (6, [.ref f1, .ref f2, .int 0])), (f1, .inl (cI, 512, .inl (fun _ => (0 : Int32)))), (xs, .inr (6, [.ref s1, .ref s2, .int 0])), (s1, .inl (cI, 512, .inl (fun _ => (0 : Int32))))] := hD
    refine lv_if_ne (tgt := 14) hx hb dX8_same_9 (by decide) (fun c9 => ?_) (fun c9 => ?_)
    ·
      refine lv_iconst (v := (-1)) hx hb dX8_same_14 (by decide +kernel) ?_
      refine lv_istore (lv' := [(5, .int (-1)), (0, .ref x0), (1, .int 0), (2, .int 0), (3, .int 0), (4, .int 0)]) hx hb dX8_same_15 hl (by decide) rfl (fun ls hl => ?_)
      refine lv_iconst (v := 0) hx hb dX8_same_17 (by decide +kernel) ?_
      refine lv_istore (lv' := [(6, .int 0), (5, .int (-1)), (0, .ref x0), (1, .int 0), (2, .int 0), (3, .int 0), (4, .int 0)]) hx hb dX8_same_18 hl (by decide) rfl (fun ls hl => ?_)
      refine lv_iconst (v := 0) hx hb dX8_same_20 (by decide +kernel) ?_
      refine lv_istore (lv' := [(7, .int 0), (6, .int 0), (5, .int (-1)), (0, .ref x0), (1, .int 0), (2, .int 0), (3, .int 0), (4, .int 0)]) hx hb dX8_same_21 hl (by decide) rfl (fun ls hl => ?_)
      refine lv_iconst (v := 0) hx hb dX8_same_23 (by decide +kernel) ?_
      refine lv_istore (lv' := [(8, .int 0), (7, .int 0), (6, .int 0), (5, .int (-1)), (0, .ref x0), (1, .int 0), (2, .int 0), (3, .int 0), (4, .int 0)]) hx hb dX8_same_24 hl (by decide) rfl (fun ls hl => ?_)
      have loop26 : ∀ (n9 : Nat) (k : Nat), 256 - k < n9 → (k ≤ 256) → ∀ (H : Heap) (locs : List Loc) (ls : Array Slot), va_P D vwCl [(x0, .inr (8, [.ref xn, .int 0, .ref xl, .ref xt, .ref xo, .ref xf, .ref xs, .ref xp, .ref xq, .ref xr, .ref xc])), (xf, .inr (6, [.ref f1, .ref f2, .int 0])), (f1, .inl (cI, 512, .inl (fun _ => (0 : Int32)))), (xs, .inr (6, [.ref s1, .ref s2, .int 0])), (s1, .inl (cI, 512, .inl (fun _ => (0 : Int32)))), (xo, .inr (7, [.ref o1, .int o2])), (o1, .inl (cJ, 64, .inr (.inl of)))] H → va_D A [(x0, .inr (8, [.ref xn, .int 0, .ref xl, .ref xt, .ref xo, .ref xf, .ref xs, .ref xp, .ref xq, .ref xr, .ref xc])), (xf, .inr (6, [.ref f1, .ref f2, .int 0])), (f1, .inl (cI, 512, .inl (fun _ => (0 : Int32)))), (xs, .inr (6, [.ref s1, .ref s2, .int 0])), (s1, .inl (cI, 512, .inl (fun _ => (0 : Int32)))), (xo, .inr (7, [.ref o1, .int o2])), (o1, .inl (cJ, 64, .inr (.inl of)))] → va_S A s.heap H locs → lv_has ls 10 [(8, .int (nI k)), (7, .int 0), (6, .int 0), (5, .int (-1)), (0, .ref x0)] → W p l e ({ frames := 5, cells := 0, slots := 0, locals := 300 } : Room) s m [.ref x0, .int (0 : Int32), .int (0 : Int32), .int (0 : Int32), .int (0 : Int32)].toArray below meth c H locs 0 0 (MQ below (va_Qi (fun (r : Int32) (u : va_W) => (u = [] ∧ r = 1 ∧ (0 : Int32).toInt = 0 ∧ (0 : Int32).toInt = 0 ∧ (0 : Int32).toInt = 0 ∧ (0 : Int32).toInt = 0) ∨ (u = [] ∧ r = (-1) ∧ ((0 : Int32).toInt < 0 ∨ (0 : Int32).toInt < (0 : Int32).toInt ∨ 0 < (0 : Int32).toInt ∨ (0 : Int32).toInt < 0 ∨ (0 : Int32).toInt < (0 : Int32).toInt ∨ 0 < (0 : Int32).toInt))) (my_B D (tyIJ cI cJ) A) A) [.ref x0, .int (0 : Int32), .int (0 : Int32), .int (0 : Int32), .int (0 : Int32)].toArray s 0 0 A) (F0 m 26 ls []) := by
        intro n9
        induction n9 with
        | zero =>
          intro k hn9
          exact absurd hn9 (Nat.not_lt_zero _)
        | succ n9 ih26 =>
          intro k hn9 hk H locs ls hP hD hS hl
          refine lv_iload hx hb dX8_same_26 (lv_at hl 0 rfl) ?_
          refine lv_sipush (v := 255) hx hb dX8_same_28 (by decide +kernel) ?_
          refine lv_icmp_gt (tgt := 99) hx hb dX8_same_31 (by decide) (fun c31 => ?_) (fun c31 => ?_)
          ·
            have d31 : ((k : Nat) : Int) > (255 : Int) := my_gt c31 (nI_toInt (by omega)) (by decide +kernel)
            refine lv_aload_n hx hb dX8_same_99 rfl (lv_at hl 4 rfl) ?_
            refine lv_iload hx hb dX8_same_100 (lv_at hl 3 rfl) ?_
            refine lv_i2l (v := (-1)) hx hb dX8_same_102 (by decide +kernel) ?_
            refine lv_iload hx hb dX8_same_103 (lv_at hl 2 rfl) ?_
            refine lv_i2l (v := 0) hx hb dX8_same_105 (by decide +kernel) ?_
            refine my_goV (wr := [(xf, .inr (6, [.ref f1, .ref f2, .int 0])), (f1, .inl (cI, 512, .inl (fun _ => (0 : Int32)))), (xs, .inr (6, [.ref s1, .ref s2, .int 0])), (s1, .inl (cI, 512, .inl (fun _ => (0 : Int32))))]) hP hD hS hA [0, 5, 6] [1, 2, 3, 4] rfl rfl (by decide) (by decide) (my_cV (As := [.long (-1), .long 0]) (rest := []) (ci := 8) (wc := [(x0, .inr (8, [.ref xn, .int 0, .ref xl, .ref xt, .ref xo, .ref xf, .ref xs, .ref xp, .ref xq, .ref xr, .ref xc])), (xo, .inr (7, [.ref o1, .int o2])), (o1, .inl (cJ, 64, .inr (.inl of)))]) ⟨hx, hb, hml, hown, hts⟩ (cwV 2 hts gX8_same_X8_tell_ rfl rfl rfl (by decide +kernel) ⟨Nat.le_of_ble_eq_true rfl, Nat.le_of_ble_eq_true rfl⟩) hN hK hP hD [0, 5, 6] rfl (by decide) rfl 0 rfl rfl rfl rfl hl.1 rfl (Nat.le_of_ble_eq_true rfl) dX8_same_106 ⟨Nat.le_of_ble_eq_true rfl, Nat.le_of_ble_eq_true rfl⟩  ((k_X8_tell_ l D cI cJ x0 xn xl xt xo xf xs xp xq xr xc o1 (0 : Int32) o2 of (-1 : Int64) (0 : Int64)) _)) (fun u H locs hp hP hD hS => ?_)
            obtain ⟨k_2, f_3, rfl, ha_4⟩ := hp
            have hP : va_P D vwCl [(xf, .inr (6, [.ref f1, .ref f2, .int 0])), (f1, .inl (cI, 512, .inl (fun _ => (0 : Int32)))), (xs, .inr (6, [.ref s1, .ref s2, .int 0])), (s1, .inl (cI, 512, .inl (fun _ => (0 : Int32)))), (x0, .inr (8, [.ref xn, .int 0, .ref xl, .ref xt, .ref xo, .ref xf, .ref xs, .ref xp, .ref xq, .ref xr, .ref xc])), (xo, .inr (7, [.ref o1, .int (nI k_2)])), (o1, .inl (cJ, 64, .inr (.inl f_3)))] H := hP
            have hD : va_D A [(xf, .inr (6, [.ref f1, .ref f2, .int 0])), (f1, .inl (cI, 512, .inl (fun _ => (0 : Int32)))), (xs, .inr (6, [.ref s1, .ref s2, .int 0])), (s1, .inl (cI, 512, .inl (fun _ => (0 : Int32)))), (x0, .inr (8, [.ref xn, .int 0, .ref xl, .ref xt, .ref xo, .ref xf, .ref xs, .ref xp, .ref xq, .ref xr, .ref xc])), (xo, .inr (7, [.ref o1, .int (nI k_2)])), (o1, .inl (cJ, 64, .inr (.inl f_3)))] := hD
            refine lv_aload_n hx hb dX8_same_109 rfl (lv_at hl 4 rfl) ?_
            refine va_get (ci := 8) (v := .ref xo) (C := RX8) (T := TX8) (N := 11) hx hb hts hi8 hown hK hP 4 rfl rfl 4 (by decide) fl34 (fun _ h9 => h9) rfl dX8_same_110 ?_
            refine lv_iload hx hb dX8_same_113 (lv_at hl 1 rfl) ?_
            refine lv_i2l (v := 0) hx hb dX8_same_115 (by decide +kernel) ?_
            refine my_goV (wr := [(xf, .inr (6, [.ref f1, .ref f2, .int 0])), (f1, .inl (cI, 512, .inl (fun _ => (0 : Int32)))), (xs, .inr (6, [.ref s1, .ref s2, .int 0])), (s1, .inl (cI, 512, .inl (fun _ => (0 : Int32)))), (x0, .inr (8, [.ref xn, .int 0, .ref xl, .ref xt, .ref xo, .ref xf, .ref xs, .ref xp, .ref xq, .ref xr, .ref xc]))]) hP hD hS hA [5, 6] [0, 1, 2, 3, 4] rfl rfl (by decide) (by decide) (my_cV (As := [.long 0]) (rest := []) (ci := 7) (wc := [(xo, .inr (7, [.ref o1, .int (nI k_2)])), (o1, .inl (cJ, 64, .inr (.inl f_3)))]) ⟨hx, hb, hml, hown, hts⟩ (cwV 1 hts gX8_same_X7_add rfl rfl rfl (by decide +kernel) ⟨Nat.le_of_ble_eq_true rfl, Nat.le_of_ble_eq_true rfl⟩) hN hK hP hD [5, 6] rfl (by decide) rfl 5 rfl rfl rfl rfl hl.1 rfl (Nat.le_of_ble_eq_true rfl) dX8_same_116 ⟨Nat.le_of_ble_eq_true rfl, Nat.le_of_ble_eq_true rfl⟩  ((k_X7_add l D cI cJ xo o1 k_2 f_3 (0 : Int64) (by first | omega | decide +kernel)) _)) (fun u H locs hp hP hD hS => ?_)
            obtain ⟨k_5, f_6, rfl, ha_7, hb_8⟩ := hp
            have hP : va_P D vwCl [(xf, .inr (6, [.ref f1, .ref f2, .int 0])), (f1, .inl (cI, 512, .inl (fun _ => (0 : Int32)))), (xs, .inr (6, [.ref s1, .ref s2, .int 0])), (s1, .inl (cI, 512, .inl (fun _ => (0 : Int32)))), (x0, .inr (8, [.ref xn, .int 0, .ref xl, .ref xt, .ref xo, .ref xf, .ref xs, .ref xp, .ref xq, .ref xr, .ref xc])), (xo, .inr (7, [.ref o1, .int (nI k_5)])), (o1, .inl (cJ, 64, .inr (.inl f_6)))] H := hP
            have hD : va_D A [(xf, .inr (6, [.ref f1, .ref f2, .int 0])), (f1, .inl (cI, 512, .inl (fun _ => (0 : Int32)))), (xs, .inr (6, [.ref s1, .ref s2, .int 0])), (s1, .inl (cI, 512, .inl (fun _ => (0 : Int32)))), (x0, .inr (8, [.ref xn, .int 0, .ref xl, .ref xt, .ref xo, .ref xf, .ref xs, .ref xp, .ref xq, .ref xr, .ref xc])), (xo, .inr (7, [.ref o1, .int (nI k_5)])), (o1, .inl (cJ, 64, .inr (.inl f_6)))] := hD
            refine lv_iload hx hb dX8_same_119 (lv_at hl 3 rfl) ?_
            refine lv_iconst (v := (-1)) hx hb dX8_same_121 (by decide +kernel) ?_
            refine lv_icmp_ne (tgt := 129) hx hb dX8_same_122 (by decide) (fun c122 => ?_) (fun c122 => ?_)
            ·
              exact absurd c122 (by decide +kernel)
            ·
              refine lv_iconst (v := 1) hx hb dX8_same_125 (by decide +kernel) ?_
              refine lv_goto (tgt := 130) hx hb dX8_same_126 (by decide) ?_
              exact my_retI hx hb hr hlocks hK hS [] (hP.sub [] rfl) (hD.sub [] (by decide) rfl) (Or.inl ⟨rfl, rfl, (by first | omega | assumption | trivial | decide +kernel), (by first | omega | assumption | trivial | decide +kernel), (by first | omega | assumption | trivial | decide +kernel), (by first | omega | assumption | trivial | decide +kernel)⟩) dX8_same_130
          ·
            have d31 : ((k : Nat) : Int) ≤ (255 : Int) := my_ngt c31 (nI_toInt (by omega)) (by decide +kernel)
            refine lv_aload_n hx hb dX8_same_34 rfl (lv_at hl 4 rfl) ?_
            refine va_get (ci := 8) (v := .ref xf) (C := RX8) (T := TX8) (N := 11) hx hb hts hi8 hown hK hP 0 rfl rfl 5 (by decide) fl41 (fun _ h9 => h9) rfl dX8_same_35 ?_
            refine lv_iload hx hb dX8_same_38 (lv_at hl 0 rfl) ?_
            refine my_gpI (my_pV (As := [.int (nI k)]) (rest := []) (ci := 6) ⟨hx, hb, hml, hown, hts⟩ (cwV 1 hts gX8_same_X6_timesOf rfl rfl rfl (by decide +kernel) ⟨Nat.le_of_ble_eq_true rfl, Nat.le_of_ble_eq_true rfl⟩) hN hK hP [1, 2] rfl 1 rfl rfl rfl rfl hl.1 rfl (Nat.le_of_ble_eq_true rfl) dX8_same_40 ⟨Nat.le_of_ble_eq_true rfl, Nat.le_of_ble_eq_true rfl⟩  (k0_X6_timesOf l D cI cJ xf f1 f2 (0 : Int32) (nI k))) (fun r hp => ?_)
            obtain rfl := hp
            refine lv_aload_n hx hb dX8_same_43 rfl (lv_at hl 4 rfl) ?_
            refine va_get (ci := 8) (v := .ref xs) (C := RX8) (T := TX8) (N := 11) hx hb hts hi8 hown hK hP 0 rfl rfl 6 (by decide) fl45 (fun _ h9 => h9) rfl dX8_same_44 ?_
            refine lv_iload hx hb dX8_same_47 (lv_at hl 0 rfl) ?_
            refine my_gpI (my_pV (As := [.int (nI k)]) (rest := [.int 0]) (ci := 6) ⟨hx, hb, hml, hown, hts⟩ (cwV 1 hts gX8_same_X6_timesOf rfl rfl rfl (by decide +kernel) ⟨Nat.le_of_ble_eq_true rfl, Nat.le_of_ble_eq_true rfl⟩) hN hK hP [3, 4] rfl 3 rfl rfl rfl rfl hl.1 rfl (Nat.le_of_ble_eq_true rfl) dX8_same_49 ⟨Nat.le_of_ble_eq_true rfl, Nat.le_of_ble_eq_true rfl⟩  (k0_X6_timesOf l D cI cJ xs s1 s2 (0 : Int32) (nI k))) (fun r hp => ?_)
            obtain rfl := hp
            refine lv_isub hx hb dX8_same_52 ?_
            refine my_eqi (y := 0) (by decide +kernel) ?_
            refine lv_istore (lv' := [(9, .int 0), (8, .int (nI k)), (7, .int 0), (6, .int 0), (5, .int (-1)), (0, .ref x0)]) hx hb dX8_same_53 hl (by decide) rfl (fun ls hl => ?_)
            refine lv_iload hx hb dX8_same_55 (lv_at hl 0 rfl) ?_
            refine lv_if_eq (tgt := 70) hx hb dX8_same_57 (by decide) (fun c57 => ?_) (fun c57 => ?_)
            ·
              refine lv_iload hx hb dX8_same_70 (lv_at hl 3 rfl) ?_
              refine lv_iload hx hb dX8_same_72 (lv_at hl 0 rfl) ?_
              refine lv_iconst (v := 0) hx hb dX8_same_74 (by decide +kernel) ?_
              refine va_mmax hx hb (hml.trans hl.1.symm) hown (hts (.methodLink RX8 234 Lib.Math.max.name) (by decide +kernel)) (hts (.static Lib.Math.max.name) (by decide +kernel)) (hts (.initialized "java/lang/Math") (by decide +kernel)) (hts (.code Lib.Math.max.name Lib.Math.max.code 2 (some .int)) (by decide +kernel)) (Nat.le_of_ble_eq_true rfl) (Nat.le_of_ble_eq_true rfl) (Nat.le_of_ble_eq_true rfl) (Nat.le_of_ble_eq_true rfl) dX8_same_75 ?_
              refine my_eqi (y := 0) (by decide +kernel) ?_
              refine lv_iadd hx hb dX8_same_78 ?_
              refine my_eqi (y := 0) (by decide +kernel) ?_
              refine lv_istore (lv' := [(6, .int 0), (9, .int 0), (8, .int (nI k)), (7, .int 0), (5, .int (-1)), (0, .ref x0)]) hx hb dX8_same_79 hl (by decide) rfl (fun ls hl => ?_)
              refine lv_iload hx hb dX8_same_81 (lv_at hl 3 rfl) ?_
              refine lv_iload hx hb dX8_same_83 (lv_at hl 1 rfl) ?_
              refine lv_ineg hx hb dX8_same_85 ?_
              refine my_eqi (y := 0) (by decide +kernel) ?_
              refine lv_iconst (v := 0) hx hb dX8_same_86 (by decide +kernel) ?_
              refine va_mmax hx hb (hml.trans hl.1.symm) hown (hts (.methodLink RX8 234 Lib.Math.max.name) (by decide +kernel)) (hts (.static Lib.Math.max.name) (by decide +kernel)) (hts (.initialized "java/lang/Math") (by decide +kernel)) (hts (.code Lib.Math.max.name Lib.Math.max.code 2 (some .int)) (by decide +kernel)) (Nat.le_of_ble_eq_true rfl) (Nat.le_of_ble_eq_true rfl) (Nat.le_of_ble_eq_true rfl) (Nat.le_of_ble_eq_true rfl) dX8_same_87 ?_
              refine my_eqi (y := 0) (by decide +kernel) ?_
              refine lv_iadd hx hb dX8_same_90 ?_
              refine my_eqi (y := 0) (by decide +kernel) ?_
              refine lv_istore (lv' := [(7, .int 0), (6, .int 0), (9, .int 0), (8, .int (nI k)), (5, .int (-1)), (0, .ref x0)]) hx hb dX8_same_91 hl (by decide) rfl (fun ls hl => ?_)
              refine lv_iinc (v := nI (k + 1)) (lv' := [(8, .int (nI (k + 1))), (7, .int 0), (6, .int 0), (9, .int 0), (5, .int (-1)), (0, .ref x0)]) hx hb dX8_same_93 hl (k := 3) rfl (my_incN k 1 (by decide +kernel)) (by decide) rfl (fun ls hl => ?_)
              refine lv_goto (tgt := 26) hx hb dX8_same_96 (by decide) ?_
              exact ih26  (k + 1) (by omega) (by omega) _ _ ls (hP.sub [0, 1, 2, 3, 4, 5, 6] rfl) (hD.sub [0, 1, 2, 3, 4, 5, 6] (by decide) rfl) hS (lv_sub hl [0, 1, 2, 4, 5] rfl)
            ·
              exact absurd c57 (by decide +kernel)
      exact loop26 ((256 - 0) + 1) 0 (Nat.lt_succ_self _) (by first | omega | decide +kernel) _ _ ls (hP.sub [2, 3, 4, 5, 6, 0, 1] rfl) (hD.sub [2, 3, 4, 5, 6, 0, 1] (by decide) rfl) hS (lv_sub hl [0, 1, 2, 3, 4] rfl)
    ·
      exact absurd c9 (by decide +kernel)
  ·
    have hP : va_P D vwCl [(xo, .inr (7, [.ref o1, .int o2])), (o1, .inl (cJ, 64, .inr (.inl of)))] H := hP
    have hD : va_D A [(xo, .inr (7, [.ref o1, .int o2])), (o1, .inl (cJ, 64, .inr (.inl of)))] := hD
    refine lv_if_ne (tgt := 14) hx hb dX8_same_9 (by decide) (fun c9 => ?_) (fun c9 => ?_)
    ·
      exact absurd c9 (by decide +kernel)
    ·
      refine lv_iconst (v := (-1)) hx hb dX8_same_12 (by decide +kernel) ?_
      exact my_retI hx hb hr hlocks hK hS [] (hP.sub [] rfl) (hD.sub [] (by decide) rfl) (Or.inr (⟨rfl, rfl, (by first | omega | assumption | trivial | decide +kernel)⟩)) dX8_same_13
set_option maxHeartbeats 4000000 in
set_option maxRecDepth 100000 in
theorem k0_X8_count (l : Launch) (D : va_G) (cI cJ : ClassId) (x0 : Nat) (xn : Nat) (xl : Nat) (xt : Nat) (xo : Nat) (xf : Nat) (xs : Nat) (xp : Nat) (xq : Nat) (xr : Nat) (xc : Nat) (t1 : Nat) (o1 : Nat) (w9 : Int32) : ctI l yX8_count wsX8_count ({ frames := 1, cells := 0, slots := 0, locals := 60 } : Room) D (tyIJ cI cJ) [.ref x0, .int w9] [(x0, .inr (8, [.ref xn, .int 0, .ref xl, .ref xt, .ref xo, .ref xf, .ref xs, .ref xp, .ref xq, .ref xr, .ref xc])), (xt, .inr (5, [.ref t1, .int 0])), (xo, .inr (7, [.ref o1, .int 0]))] (fun (r : Int32) (u : va_W) => (u = [] ∧ r = 0 ∧ 0 ≤ w9.toInt ∧ w9.toInt ≤ 5) ∨ (u = [] ∧ r = (-1) ∧ (w9.toInt < 0 ∨ 5 < w9.toInt))) := by
  refine ctI.of (cc := cX8_count) (maxL := 2) (ret := (some .int)) (by decide) rfl (Nat.le_of_ble_eq_true rfl) ?_
  intro p e s m below meth c ls A hx hb hr hts hown hml hlocks hname hA hK hN hP hD hS hl
  have hl : lv_has ls 2 [(0, .ref x0), (1, .int w9)] := hl
  have hown : s.vm.findClass RX8 = some m.cls := hown
  have hi5 : ∀ w ∈ u_ws RX5 TX5 2, w ∈ wsX8_count := by decide +kernel
  have hi7 : ∀ w ∈ u_ws RX7 TX7 2, w ∈ wsX8_count := by decide +kernel
  have hi8 : ∀ w ∈ u_ws RX8 TX8 11, w ∈ wsX8_count := by decide +kernel
  have fl13 := hts (.fieldLink RX8 13 "PlaneColumn" "size" "I") (by decide +kernel)
  have fl27 := hts (.fieldLink RX8 27 "PlaneColumn" "text" "LPlaneColumn$Signs;") (by decide +kernel)
  have fl34 := hts (.fieldLink RX8 34 "PlaneColumn" "told" "LPlaneColumn$Told;") (by decide +kernel)
  refine lv_iload_n hx hb dX8_count_0 rfl (lv_at hl 1 rfl) ?_
  by_cases cs1 : w9.toInt < 0 ∨ 5 < w9.toInt
  ·
    refine lv_tableOut (tgt := 76) hx hb dX8_count_1 cs1 (by decide) ?_
    refine lv_iconst (v := (-1)) hx hb dX8_count_76 (by decide +kernel) ?_
    exact my_retI hx hb hr hlocks hK hS [] (hP.sub [] rfl) (hD.sub [] (by decide) rfl) (Or.inr (⟨rfl, rfl, (by first | omega | assumption | trivial | decide +kernel)⟩)) dX8_count_77
  ·
    by_cases cv1_0 : w9.toInt = 0
    ·
      refine lv_tableIn (off := 39) (tgt := 40) hx hb dX8_count_1 (by omega) (by omega) (by rw [cv1_0]; rfl) (by decide) ?_
      refine lv_aload_n hx hb dX8_count_40 rfl (lv_at hl 0 rfl) ?_
      refine va_get (ci := 8) (v := .int 0) (C := RX8) (T := TX8) (N := 11) hx hb hts hi8 hown hK hP 0 rfl rfl 1 (by decide) fl13 (fun _ h9 => h9) rfl dX8_count_41 ?_
      exact my_retI hx hb hr hlocks hK hS [] (hP.sub [] rfl) (hD.sub [] (by decide) rfl) (Or.inl ⟨rfl, rfl, (by first | omega | assumption | trivial | decide +kernel), (by first | omega | assumption | trivial | decide +kernel)⟩) dX8_count_44
    ·
      by_cases cv1_1 : w9.toInt = 1
      ·
        refine lv_tableIn (off := 44) (tgt := 45) hx hb dX8_count_1 (by omega) (by omega) (by rw [cv1_1]; rfl) (by decide) ?_
        refine lv_aload_n hx hb dX8_count_45 rfl (lv_at hl 0 rfl) ?_
        refine va_get (ci := 8) (v := .ref xt) (C := RX8) (T := TX8) (N := 11) hx hb hts hi8 hown hK hP 0 rfl rfl 3 (by decide) fl27 (fun _ h9 => h9) rfl dX8_count_46 ?_
        refine va_getN (ci := 5) (v := .int 0) (C := RX5) (T := TX5) (N := 2) hx hb hts hi5 hown hK hP 1 rfl rfl 1 (by decide) (nw_f_RX8_129 hN) (fun _ h9 => h9) rfl dX8_count_49 ?_
        exact my_retI hx hb hr hlocks hK hS [] (hP.sub [] rfl) (hD.sub [] (by decide) rfl) (Or.inl ⟨rfl, rfl, (by first | omega | assumption | trivial | decide +kernel), (by first | omega | assumption | trivial | decide +kernel)⟩) dX8_count_52
      ·
        by_cases cv1_2 : w9.toInt = 2
        ·
          refine lv_tableIn (off := 52) (tgt := 53) hx hb dX8_count_1 (by omega) (by omega) (by rw [cv1_2]; rfl) (by decide) ?_
          refine lv_aload_n hx hb dX8_count_53 rfl (lv_at hl 0 rfl) ?_
          refine va_get (ci := 8) (v := .ref xo) (C := RX8) (T := TX8) (N := 11) hx hb hts hi8 hown hK hP 0 rfl rfl 4 (by decide) fl34 (fun _ h9 => h9) rfl dX8_count_54 ?_
          refine va_getN (ci := 7) (v := .int 0) (C := RX7) (T := TX7) (N := 2) hx hb hts hi7 hown hK hP 2 rfl rfl 1 (by decide) (nw_f_RX8_237 hN) (fun _ h9 => h9) rfl dX8_count_57 ?_
          exact my_retI hx hb hr hlocks hK hS [] (hP.sub [] rfl) (hD.sub [] (by decide) rfl) (Or.inl ⟨rfl, rfl, (by first | omega | assumption | trivial | decide +kernel), (by first | omega | assumption | trivial | decide +kernel)⟩) dX8_count_60
        ·
          by_cases cv1_3 : w9.toInt = 3
          ·
            refine lv_tableIn (off := 60) (tgt := 61) hx hb dX8_count_1 (by omega) (by omega) (by rw [cv1_3]; rfl) (by decide) ?_
            refine lv_aload_n hx hb dX8_count_61 rfl (lv_at hl 0 rfl) ?_
            refine my_gpI (my_pV (As := []) (rest := []) (ci := 8) ⟨hx, hb, hml, hown, hts⟩ (cwV 0 hts gX8_count_X8_unlikeNumbers rfl rfl rfl (by decide +kernel) ⟨Nat.le_of_ble_eq_true rfl, Nat.le_of_ble_eq_true rfl⟩) hN hK hP [0] rfl 0 rfl rfl rfl rfl hl.1 rfl (Nat.le_of_ble_eq_true rfl) dX8_count_62 ⟨Nat.le_of_ble_eq_true rfl, Nat.le_of_ble_eq_true rfl⟩  (k0_X8_unlikeNumbers l D cI cJ x0 xn xl xt xo xf xs xp xq xr xc)) (fun r hp => ?_)
            obtain rfl := hp
            exact my_retI hx hb hr hlocks hK hS [] (hP.sub [] rfl) (hD.sub [] (by decide) rfl) (Or.inl ⟨rfl, rfl, (by first | omega | assumption | trivial | decide +kernel), (by first | omega | assumption | trivial | decide +kernel)⟩) dX8_count_65
          ·
            by_cases cv1_4 : w9.toInt = 4
            ·
              refine lv_tableIn (off := 65) (tgt := 66) hx hb dX8_count_1 (by omega) (by omega) (by rw [cv1_4]; rfl) (by decide) ?_
              refine lv_aload_n hx hb dX8_count_66 rfl (lv_at hl 0 rfl) ?_
              refine my_gpI (my_pV (As := []) (rest := []) (ci := 8) ⟨hx, hb, hml, hown, hts⟩ (cwV 0 hts gX8_count_X8_sumOfAll rfl rfl rfl (by decide +kernel) ⟨Nat.le_of_ble_eq_true rfl, Nat.le_of_ble_eq_true rfl⟩) hN hK hP [0] rfl 0 rfl rfl rfl rfl hl.1 rfl (Nat.le_of_ble_eq_true rfl) dX8_count_67 ⟨Nat.le_of_ble_eq_true rfl, Nat.le_of_ble_eq_true rfl⟩  (k0_X8_sumOfAll l D cI cJ x0 xn xl xt xo xf xs xp xq xr xc)) (fun r hp => ?_)
              obtain rfl := hp
              exact my_retI hx hb hr hlocks hK hS [] (hP.sub [] rfl) (hD.sub [] (by decide) rfl) (Or.inl ⟨rfl, rfl, (by first | omega | assumption | trivial | decide +kernel), (by first | omega | assumption | trivial | decide +kernel)⟩) dX8_count_70
            ·
              have cv1_5 : w9.toInt = 5 := by omega
              refine lv_tableIn (off := 70) (tgt := 71) hx hb dX8_count_1 (by omega) (by omega) (by rw [cv1_5]; rfl) (by decide) ?_
              refine lv_aload_n hx hb dX8_count_71 rfl (lv_at hl 0 rfl) ?_
              refine my_gpI (my_pV (As := []) (rest := []) (ci := 8) ⟨hx, hb, hml, hown, hts⟩ (cwV 0 hts gX8_count_X8_onesOfAll rfl rfl rfl (by decide +kernel) ⟨Nat.le_of_ble_eq_true rfl, Nat.le_of_ble_eq_true rfl⟩) hN hK hP [0] rfl 0 rfl rfl rfl rfl hl.1 rfl (Nat.le_of_ble_eq_true rfl) dX8_count_72 ⟨Nat.le_of_ble_eq_true rfl, Nat.le_of_ble_eq_true rfl⟩  (k0_X8_onesOfAll l D cI cJ x0 xn xl xt xo xf xs xp xq xr xc)) (fun r hp => ?_)
              obtain rfl := hp
              exact my_retI hx hb hr hlocks hK hS [] (hP.sub [] rfl) (hD.sub [] (by decide) rfl) (Or.inl ⟨rfl, rfl, (by first | omega | assumption | trivial | decide +kernel), (by first | omega | assumption | trivial | decide +kernel)⟩) dX8_count_75
