abbrev wl_k_X8_nearest (cI cJ cK : ClassId) (x0 : Nat) (xn : Nat) (xl : Nat) (xt : Nat) (xo : Nat) (xf : Nat) (xs : Nat) (xp : Nat) (xq : Nat) (xr : Nat) (xc : Nat) (f1 : Nat) (f2 : Nat) (o1 : Nat) (v0_ : Int32) (v1_ : Nat → Int32) (v2_ : Int32) (v3_ : Nat → Int32) (v4_ : Nat → Int32) (v5_ : Int32) (v6_ : Nat → Int64) : va_W := [(x0, .inr (8, [.ref xn, .int v0_, .ref xl, .ref xt, .ref xo, .ref xf, .ref xs, .ref xp, .ref xq, .ref xr, .ref xc])), (xn, .inl (cI, 64, .inl v1_)), (xf, .inr (6, [.ref f1, .ref f2, .int v2_])), (f1, .inl (cI, 512, .inl v3_)), (f2, .inl (cI, 64, .inl v4_)), (xo, .inr (7, [.ref o1, .int v5_])), (o1, .inl (cJ, 64, .inr (.inl v6_)))]
set_option maxHeartbeats 4000000 in
set_option maxRecDepth 100000 in
theorem k_X8_nearest (l : Launch) (D : va_G) (cI cJ cK : ClassId) (x0 : Nat) (xn : Nat) (xl : Nat) (xt : Nat) (xo : Nat) (xf : Nat) (xs : Nat) (xp : Nat) (xq : Nat) (xr : Nat) (xc : Nat) (f1 : Nat) (f2 : Nat) (o1 : Nat) (z : Nat) (nf : Nat → Int32) (fz : Nat) (fn : Nat → Int32) (fs : Nat → Int32) (oz : Nat) (of : Nat → Int64) (l9 : Int32) (r9 : Int32) (hz_z : z ≤ 64) (hR_nf : RB 0 255 nf) (hz_fz : fz ≤ 64) (hz_oz : oz ≤ 64) : ctI l yX8_nearest wsX8_nearest ({ frames := 4, cells := 0, slots := 0, locals := 240 } : Room) D (tyIJ cI cJ cK) [.ref x0, .int l9, .int r9] (wl_k_X8_nearest cI cJ cK x0 xn xl xt xo xf xs xp xq xr xc f1 f2 o1 (nI z) nf (nI fz) fn fs (nI oz) of) (fun (r : Int32) (u : va_W) => ∃ (fz' : Nat) (fn' : Nat → Int32) (fs' : Nat → Int32) (oz' : Nat) (of' : Nat → Int64), u = (wl_k_X8_nearest cI cJ cK x0 xn xl xt xo xf xs xp xq xr xc f1 f2 o1 (nI z) nf (nI fz') fn' fs' (nI oz') of') ∧ fz' ≤ 64 ∧ oz' ≤ 64) := by
  refine ctI.of (cc := cX8_nearest) (maxL := 5) (ret := (some .int)) (by decide) rfl (Nat.le_of_ble_eq_true rfl) ?_
  intro p e s m below meth c ls A hx hb hr hts hown hml hlocks hname hA hK hN hP hD hS hl
  have hl : lv_has ls 5 [(0, .ref x0), (1, .int l9), (2, .int r9)] := hl
  have hown : s.vm.findClass RX8 = some m.cls := hown
  have hi8 : ∀ w ∈ u_ws RX8 TX8 11, w ∈ wsX8_nearest := by decide +kernel
  have fl41 := hts (.fieldLink RX8 41 "PlaneColumn" "first" "LPlaneColumn$Tally;") (by decide +kernel)
  have fl9 := hts (.fieldLink RX8 9 "PlaneColumn" "numbers" "[I") (by decide +kernel)
  refine lv_aload_n hx hb dX8_nearest_0 rfl (lv_at hl 0 rfl) ?_
  refine lv_iload_n hx hb dX8_nearest_1 rfl (lv_at hl 1 rfl) ?_
  refine lv_iload_n hx hb dX8_nearest_2 rfl (lv_at hl 2 rfl) ?_
  refine my_gpI (my_pV (As := [.int l9, .int r9]) (rest := []) (ci := 8) ⟨hx, hb, hml, hown, hts⟩ (cwV 2 hts gX8_nearest_X8_isSpan rfl rfl rfl (by decide +kernel) ⟨Nat.le_of_ble_eq_true rfl, Nat.le_of_ble_eq_true rfl⟩) hN hK hP [0] rfl 0 rfl rfl rfl rfl hl.1 rfl (Nat.le_of_ble_eq_true rfl) dX8_nearest_3 ⟨Nat.le_of_ble_eq_true rfl, Nat.le_of_ble_eq_true rfl⟩  (k_X8_isSpan l D cI cJ cK x0 xn xl xt xo xf xs xp xq xr xc z l9 r9 (by first | assumption | omega | decide +kernel))) (fun r hp => ?_)
  rcases hp with ⟨a_1, b_2, rfl, rfl, rfl, ha_3, hb_4⟩ | ⟨rfl, ho_5⟩
  ·
    refine lv_if_ne (tgt := 11) hx hb dX8_nearest_6 (by decide) (fun c6 => ?_) (fun c6 => ?_)
    ·
      refine lv_iload_n hx hb dX8_nearest_11 rfl (lv_at hl 2 rfl) ?_
      refine lv_iload_n hx hb dX8_nearest_12 rfl (lv_at hl 1 rfl) ?_
      refine lv_isub hx hb dX8_nearest_13 ?_
      refine lv_topi (fun z_6 ez_6 => ?_)
      try have tz_6 : z_6.toInt = ((b_2 : Nat) : Int) - ((a_1 : Nat) : Int) := by rw [ez_6]; exact my_subI (nI_toInt (by omega)) (nI_toInt (by omega)) (by omega) (by omega)
      refine lv_iconst (v := 2) hx hb dX8_nearest_14 (by decide +kernel) ?_
      refine lv_icmp_ge (tgt := 21) hx hb dX8_nearest_15 (by decide) (fun c15 => ?_) (fun c15 => ?_)
      ·
        have d15 : z_6.toInt ≥ (2 : Int) := my_ge c15 rfl (by decide +kernel)
        refine lv_aload_n hx hb dX8_nearest_21 rfl (lv_at hl 0 rfl) ?_
        refine va_get (ci := 8) (v := .ref xf) (C := RX8) (T := TX8) (N := 11) hx hb hts hi8 hown hK hP 0 rfl rfl 5 (by decide) fl41 (fun _ h9 => h9) rfl dX8_nearest_22 ?_
        refine lv_aload_n hx hb dX8_nearest_25 rfl (lv_at hl 0 rfl) ?_
        refine va_get (ci := 8) (v := .ref xn) (C := RX8) (T := TX8) (N := 11) hx hb hts hi8 hown hK hP 0 rfl rfl 0 (by decide) fl9 (fun _ h9 => h9) rfl dX8_nearest_26 ?_
        refine lv_iload_n hx hb dX8_nearest_29 rfl (lv_at hl 1 rfl) ?_
        refine lv_iload_n hx hb dX8_nearest_30 rfl (lv_at hl 2 rfl) ?_
        refine my_goVS (wc := (wl_k_X6_take cI cJ cK xf f1 f2 xn (nI fz) fn fs nf)) hP hD hS hA [2, 3, 4, 1] rfl [none, some 3, some 0, some 1, some 2] (by decide +kernel) (my_cV (As := [.ref xn, .int (nI a_1), .int (nI b_2)]) (rest := []) (ci := 6) (wc := (wl_k_X6_take cI cJ cK xf f1 f2 xn (nI fz) fn fs nf)) ⟨hx, hb, hml, hown, hts⟩ (cwV 3 hts gX8_nearest_X6_take rfl rfl rfl (by decide +kernel) ⟨Nat.le_of_ble_eq_true rfl, Nat.le_of_ble_eq_true rfl⟩) hN hK hP hD [2, 3, 4, 1] rfl (by decide) rfl 2 rfl rfl rfl rfl hl.1 rfl (Nat.le_of_ble_eq_true rfl) dX8_nearest_31 ⟨Nat.le_of_ble_eq_true rfl, Nat.le_of_ble_eq_true rfl⟩  ((k_X6_take l D cI cJ cK xf f1 f2 xn fz fn fs nf a_1 b_2 (by first | assumption | omega | decide +kernel) hR_nf (by first | assumption | omega | decide +kernel) (by first | assumption | omega | decide +kernel)) _)) (fun u H locs hp hPD hS => ?_)
        obtain ⟨fz_7, fn_8, fs_9, rfl, hhz_fz_10, hnd, hn8, hfz, hsv⟩ := hp
        obtain ⟨hP, hD⟩ := hPD rfl
        have hP : va_P D vwCl (wl_k_X8_nearest cI cJ cK x0 xn xl xt xo xf xs xp xq xr xc f1 f2 o1 (nI z) nf (nI fz_7) fn_8 fs_9 (nI oz) of) H := hP
        have hD : va_D A (wl_k_X8_nearest cI cJ cK x0 xn xl xt xo xf xs xp xq xr xc f1 f2 o1 (nI z) nf (nI fz_7) fn_8 fs_9 (nI oz) of) := hD
        refine lv_iconst (v := 0) hx hb dX8_nearest_34 (by decide +kernel) ?_
        refine lv_istore_n (lv' := [(3, .int 0), (0, .ref x0), (1, .int (nI a_1)), (2, .int (nI b_2))]) hx hb dX8_nearest_35 rfl hl (by decide) rfl (fun ls hl => ?_)
        refine lv_iconst (v := 1) hx hb dX8_nearest_36 (by decide +kernel) ?_
        refine lv_istore (lv' := [(4, .int 1), (3, .int 0), (0, .ref x0), (1, .int (nI a_1)), (2, .int (nI b_2))]) hx hb dX8_nearest_37 hl (by decide) rfl (fun ls hl => ?_)
        have loop39 : ∀ (n9 : Nat) (k : Nat) (y3_39 : Int32), 64 - k < n9 → (k ≤ 64) → ∀ (H : Heap) (locs : List Loc) (ls : Array Slot), va_P D vwCl (wl_k_X8_nearest cI cJ cK x0 xn xl xt xo xf xs xp xq xr xc f1 f2 o1 (nI z) nf (nI fz_7) fn_8 fs_9 (nI oz) of) H → va_D A (wl_k_X8_nearest cI cJ cK x0 xn xl xt xo xf xs xp xq xr xc f1 f2 o1 (nI z) nf (nI fz_7) fn_8 fs_9 (nI oz) of) → va_S A s.heap H locs → lv_has ls 5 [(4, .int (nI k)), (3, .int y3_39), (0, .ref x0), (1, .int (nI a_1)), (2, .int (nI b_2))] → W p l e ({ frames := 4, cells := 0, slots := 0, locals := 240 } : Room) s m [.ref x0, .int (nI a_1), .int (nI b_2)].toArray below meth c H locs 0 0 (MQ below (va_Qi (fun (r : Int32) (u : va_W) => ∃ (fz' : Nat) (fn' : Nat → Int32) (fs' : Nat → Int32) (oz' : Nat) (of' : Nat → Int64), u = (wl_k_X8_nearest cI cJ cK x0 xn xl xt xo xf xs xp xq xr xc f1 f2 o1 (nI z) nf (nI fz') fn' fs' (nI oz') of') ∧ fz' ≤ 64 ∧ oz' ≤ 64) (my_B D (tyIJ cI cJ cK) A) A) [.ref x0, .int (nI a_1), .int (nI b_2)].toArray s 0 0 A) (F0 m 39 ls []) := by
          intro n9
          induction n9 with
          | zero =>
            intro k y3_39 hn9
            exact absurd hn9 (Nat.not_lt_zero _)
          | succ n9 ih39 =>
            intro k y3_39 hn9 hk_k H locs ls hP hD hS hl
            refine lv_iload hx hb dX8_nearest_39 (lv_at hl 0 rfl) ?_
            refine lv_iload_n hx hb dX8_nearest_41 rfl (lv_at hl 4 rfl) ?_
            refine lv_iload_n hx hb dX8_nearest_42 rfl (lv_at hl 3 rfl) ?_
            refine lv_isub hx hb dX8_nearest_43 ?_
            refine lv_topi (fun z_11 ez_11 => ?_)
            try have tz_11 : z_11.toInt = ((b_2 : Nat) : Int) - ((a_1 : Nat) : Int) := by rw [ez_11]; exact my_subI (nI_toInt (by omega)) (nI_toInt (by omega)) (by omega) (by omega)
            refine lv_iconst (v := 1) hx hb dX8_nearest_44 (by decide +kernel) ?_
            refine lv_isub hx hb dX8_nearest_45 ?_
            refine lv_topi (fun z_12 ez_12 => ?_)
            try have tz_12 : z_12.toInt = z_11.toInt - (1 : Int) := by rw [ez_12]; exact my_subI rfl (by decide +kernel) (by omega) (by omega)
            refine lv_icmp_ge (tgt := 72) hx hb dX8_nearest_46 (by decide) (fun c46 => ?_) (fun c46 => ?_)
            ·
              have d46 : ((k : Nat) : Int) ≥ z_12.toInt := my_ge c46 (nI_toInt (by omega)) rfl
              refine lv_aload_n hx hb dX8_nearest_72 rfl (lv_at hl 2 rfl) ?_
              refine lv_aload_n hx hb dX8_nearest_73 rfl (lv_at hl 2 rfl) ?_
              refine va_get (ci := 8) (v := .ref xf) (C := RX8) (T := TX8) (N := 11) hx hb hts hi8 hown hK hP 0 rfl rfl 5 (by decide) fl41 (fun _ h9 => h9) rfl dX8_nearest_74 ?_
              refine lv_iload_n hx hb dX8_nearest_77 rfl (lv_at hl 1 rfl) ?_
              refine my_gpI (my_pV (As := [.int y3_39]) (rest := [.ref x0]) (ci := 6) ⟨hx, hb, hml, hown, hts⟩ (cwV 1 hts gX8_nearest_X6_sortedAt rfl rfl rfl (by decide +kernel) ⟨Nat.le_of_ble_eq_true rfl, Nat.le_of_ble_eq_true rfl⟩) hN hK hP [2, 4] rfl 2 rfl rfl rfl rfl hl.1 rfl (Nat.le_of_ble_eq_true rfl) dX8_nearest_78 ⟨Nat.le_of_ble_eq_true rfl, Nat.le_of_ble_eq_true rfl⟩  (k_X6_sortedAt l D cI cJ cK xf f1 f2 fz_7 fs_9 y3_39 (by first | assumption | omega | decide +kernel))) (fun r hp => ?_)
              obtain _ := hp
              obtain ⟨r_13, rfl⟩ : ∃ z, z = r := ⟨_, rfl⟩
              refine lv_i2l (v := r_13.toInt64) hx hb dX8_nearest_81 rfl ?_
              refine lv_aload_n hx hb dX8_nearest_82 rfl (lv_at hl 2 rfl) ?_
              refine va_get (ci := 8) (v := .ref xf) (C := RX8) (T := TX8) (N := 11) hx hb hts hi8 hown hK hP 0 rfl rfl 5 (by decide) fl41 (fun _ h9 => h9) rfl dX8_nearest_83 ?_
              refine lv_iload_n hx hb dX8_nearest_86 rfl (lv_at hl 1 rfl) ?_
              refine lv_iconst (v := 1) hx hb dX8_nearest_87 (by decide +kernel) ?_
              refine lv_iadd hx hb dX8_nearest_88 ?_
              refine lv_topi (fun z_14 ez_14 => ?_)
              try have tz_14 : z_14.toInt = y3_39.toInt + (1 : Int) := by rw [ez_14]; exact my_addI rfl (by decide +kernel) (by omega) (by omega)
              refine my_gpI (my_pV (As := [.int z_14]) (rest := [.long r_13.toInt64, .ref x0]) (ci := 6) ⟨hx, hb, hml, hown, hts⟩ (cwV 1 hts gX8_nearest_X6_sortedAt rfl rfl rfl (by decide +kernel) ⟨Nat.le_of_ble_eq_true rfl, Nat.le_of_ble_eq_true rfl⟩) hN hK hP [2, 4] rfl 2 rfl rfl rfl rfl hl.1 rfl (Nat.le_of_ble_eq_true rfl) dX8_nearest_89 ⟨Nat.le_of_ble_eq_true rfl, Nat.le_of_ble_eq_true rfl⟩  (k_X6_sortedAt l D cI cJ cK xf f1 f2 fz_7 fs_9 z_14 (by first | assumption | omega | decide +kernel))) (fun r hp => ?_)
              obtain _ := hp
              obtain ⟨r_15, rfl⟩ : ∃ z, z = r := ⟨_, rfl⟩
              refine lv_i2l (v := r_15.toInt64) hx hb dX8_nearest_92 rfl ?_
              refine my_goVS (wc := (wl_k_X8_tell_ cI cJ cK x0 xn xl xt xo xf xs xp xq xr xc o1 (nI z) (nI oz) of)) hP hD hS hA [0, 5, 6] rfl [some 0, none, none, none, none, some 1, some 2] (by decide +kernel) (my_cV (As := [.long r_13.toInt64, .long r_15.toInt64]) (rest := []) (ci := 8) (wc := (wl_k_X8_tell_ cI cJ cK x0 xn xl xt xo xf xs xp xq xr xc o1 (nI z) (nI oz) of)) ⟨hx, hb, hml, hown, hts⟩ (cwV 2 hts gX8_nearest_X8_tell_ rfl rfl rfl (by decide +kernel) ⟨Nat.le_of_ble_eq_true rfl, Nat.le_of_ble_eq_true rfl⟩) hN hK hP hD [0, 5, 6] rfl (by decide) rfl 0 rfl rfl rfl rfl hl.1 rfl (Nat.le_of_ble_eq_true rfl) dX8_nearest_93 ⟨Nat.le_of_ble_eq_true rfl, Nat.le_of_ble_eq_true rfl⟩  ((k_X8_tell_ l D cI cJ cK x0 xn xl xt xo xf xs xp xq xr xc o1 z oz of r_13.toInt64 r_15.toInt64 (by first | assumption | omega | decide +kernel) (by first | assumption | omega | decide +kernel)) _)) (fun u H locs hp hPD hS => ?_)
              obtain ⟨oz_16, of_17, rfl, hhz_oz_18⟩ := hp
              obtain ⟨hP, hD⟩ := hPD rfl
              have hP : va_P D vwCl (wl_k_X8_nearest cI cJ cK x0 xn xl xt xo xf xs xp xq xr xc f1 f2 o1 (nI z) nf (nI fz_7) fn_8 fs_9 (nI oz_16) of_17) H := hP
              have hD : va_D A (wl_k_X8_nearest cI cJ cK x0 xn xl xt xo xf xs xp xq xr xc f1 f2 o1 (nI z) nf (nI fz_7) fn_8 fs_9 (nI oz_16) of_17) := hD
              refine lv_aload_n hx hb dX8_nearest_96 rfl (lv_at hl 2 rfl) ?_
              refine lv_iload_n hx hb dX8_nearest_97 rfl (lv_at hl 1 rfl) ?_
              refine my_gpI (my_pV (As := [.int y3_39]) (rest := []) (ci := 8) ⟨hx, hb, hml, hown, hts⟩ (cwV 1 hts gX8_nearest_X8_apart rfl rfl rfl (by decide +kernel) ⟨Nat.le_of_ble_eq_true rfl, Nat.le_of_ble_eq_true rfl⟩) hN hK hP [0, 2, 4] rfl 0 rfl rfl rfl rfl hl.1 rfl (Nat.le_of_ble_eq_true rfl) dX8_nearest_98 ⟨Nat.le_of_ble_eq_true rfl, Nat.le_of_ble_eq_true rfl⟩  (k_X8_apart l D cI cJ cK x0 xn xl xt xo xf xs xp xq xr xc f1 f2 z fz_7 fs_9 y3_39 (by first | assumption | omega | decide +kernel) (by first | assumption | omega | decide +kernel))) (fun r hp => ?_)
              obtain _ := hp
              obtain ⟨r_19, rfl⟩ : ∃ z, z = r := ⟨_, rfl⟩
              exact my_retI hx hb hr hlocks hK hS (wl_k_X8_nearest cI cJ cK x0 xn xl xt xo xf xs xp xq xr xc f1 f2 o1 (nI z) nf (nI fz_7) fn_8 fs_9 (nI oz_16) of_17) hP hD (⟨fz_7, fn_8, fs_9, oz_16, of_17, rfl, (by first | assumption | omega | trivial | decide +kernel), (by first | assumption | omega | trivial | decide +kernel)⟩) dX8_nearest_101
            ·
              have d46 : ((k : Nat) : Int) < z_12.toInt := my_nge c46 (nI_toInt (by omega)) rfl
              refine lv_aload_n hx hb dX8_nearest_49 rfl (lv_at hl 2 rfl) ?_
              refine lv_iload hx hb dX8_nearest_50 (lv_at hl 0 rfl) ?_
              refine my_gpI (my_pV (As := [.int (nI k)]) (rest := []) (ci := 8) ⟨hx, hb, hml, hown, hts⟩ (cwV 1 hts gX8_nearest_X8_apart rfl rfl rfl (by decide +kernel) ⟨Nat.le_of_ble_eq_true rfl, Nat.le_of_ble_eq_true rfl⟩) hN hK hP [0, 2, 4] rfl 0 rfl rfl rfl rfl hl.1 rfl (Nat.le_of_ble_eq_true rfl) dX8_nearest_52 ⟨Nat.le_of_ble_eq_true rfl, Nat.le_of_ble_eq_true rfl⟩  (k_X8_apart l D cI cJ cK x0 xn xl xt xo xf xs xp xq xr xc f1 f2 z fz_7 fs_9 (nI k) (by first | assumption | omega | decide +kernel) (by first | assumption | omega | decide +kernel))) (fun r hp => ?_)
              obtain _ := hp
              obtain ⟨r_20, rfl⟩ : ∃ z, z = r := ⟨_, rfl⟩
              refine lv_aload_n hx hb dX8_nearest_55 rfl (lv_at hl 2 rfl) ?_
              refine lv_iload_n hx hb dX8_nearest_56 rfl (lv_at hl 1 rfl) ?_
              refine my_gpI (my_pV (As := [.int y3_39]) (rest := [.int r_20]) (ci := 8) ⟨hx, hb, hml, hown, hts⟩ (cwV 1 hts gX8_nearest_X8_apart rfl rfl rfl (by decide +kernel) ⟨Nat.le_of_ble_eq_true rfl, Nat.le_of_ble_eq_true rfl⟩) hN hK hP [0, 2, 4] rfl 0 rfl rfl rfl rfl hl.1 rfl (Nat.le_of_ble_eq_true rfl) dX8_nearest_57 ⟨Nat.le_of_ble_eq_true rfl, Nat.le_of_ble_eq_true rfl⟩  (k_X8_apart l D cI cJ cK x0 xn xl xt xo xf xs xp xq xr xc f1 f2 z fz_7 fs_9 y3_39 (by first | assumption | omega | decide +kernel) (by first | assumption | omega | decide +kernel))) (fun r hp => ?_)
              obtain _ := hp
              obtain ⟨r_21, rfl⟩ : ∃ z, z = r := ⟨_, rfl⟩
              refine lv_icmp_ge (tgt := 66) hx hb dX8_nearest_60 (by decide) (fun c60 => ?_) (fun c60 => ?_)
              ·
                have d60 : r_20.toInt ≥ r_21.toInt := my_ge c60 rfl rfl
                refine lv_iinc (v := nI (k + 1)) (lv' := [(4, .int (nI (k + 1))), (3, .int y3_39), (0, .ref x0), (1, .int (nI a_1)), (2, .int (nI b_2))]) hx hb dX8_nearest_66 hl (k := 0) rfl (my_incN k 1 (by decide +kernel)) (by decide) rfl (fun ls hl => ?_)
                refine lv_goto (tgt := 39) hx hb dX8_nearest_69 (by decide) ?_
                exact ih39  (k + 1) y3_39 (by omega) (by first | assumption | omega | decide +kernel) _ _ ls hP hD hS (lv_sub hl [0, 1, 2, 3, 4] rfl)
              ·
                have d60 : r_20.toInt < r_21.toInt := my_nge c60 rfl rfl
                refine lv_iload hx hb dX8_nearest_63 (lv_at hl 0 rfl) ?_
                refine lv_istore_n (lv' := [(3, .int (nI k)), (4, .int (nI k)), (0, .ref x0), (1, .int (nI a_1)), (2, .int (nI b_2))]) hx hb dX8_nearest_65 rfl hl (by decide) rfl (fun ls hl => ?_)
                refine lv_iinc (v := nI (k + 1)) (lv' := [(4, .int (nI (k + 1))), (3, .int (nI k)), (0, .ref x0), (1, .int (nI a_1)), (2, .int (nI b_2))]) hx hb dX8_nearest_66 hl (k := 1) rfl (my_incN k 1 (by decide +kernel)) (by decide) rfl (fun ls hl => ?_)
                refine lv_goto (tgt := 39) hx hb dX8_nearest_69 (by decide) ?_
                have ec_22 : (nI k).toInt = _ := nI_toInt (by omega)
                exact ih39  (k + 1) (nI k) (by omega) (by first | assumption | omega | decide +kernel) _ _ ls hP hD hS (lv_sub hl [0, 1, 2, 3, 4] rfl)
        have ec_23 : (0 : Int32).toInt = 0 := by decide +kernel
        exact loop39 ((64 - 1) + 1) 1 (0 : Int32) (Nat.lt_succ_self _) (by first | assumption | omega | decide +kernel) _ _ ls hP hD hS (lv_sub hl [0, 1, 2, 3, 4] rfl)
      ·
        have d15 : z_6.toInt < (2 : Int) := my_nge c15 rfl (by decide +kernel)
        refine lv_bipush (v := (-2)) hx hb dX8_nearest_18 (by decide +kernel) ?_
        exact my_retI hx hb hr hlocks hK hS (wl_k_X8_nearest cI cJ cK x0 xn xl xt xo xf xs xp xq xr xc f1 f2 o1 (nI z) nf (nI fz) fn fs (nI oz) of) hP hD (⟨fz, fn, fs, oz, of, rfl, (by first | assumption | omega | trivial | decide +kernel), (by first | assumption | omega | trivial | decide +kernel)⟩) dX8_nearest_20
    ·
      exact absurd c6 (by decide +kernel)
  ·
    refine lv_if_ne (tgt := 11) hx hb dX8_nearest_6 (by decide) (fun c6 => ?_) (fun c6 => ?_)
    ·
      exact absurd c6 (by decide +kernel)
    ·
      refine lv_iconst (v := (-1)) hx hb dX8_nearest_9 (by decide +kernel) ?_
      exact my_retI hx hb hr hlocks hK hS (wl_k_X8_nearest cI cJ cK x0 xn xl xt xo xf xs xp xq xr xc f1 f2 o1 (nI z) nf (nI fz) fn fs (nI oz) of) hP hD (⟨fz, fn, fs, oz, of, rfl, (by first | assumption | omega | trivial | decide +kernel), (by first | assumption | omega | trivial | decide +kernel)⟩) dX8_nearest_10
abbrev wl_k_X8_dense (cI cJ cK : ClassId) (x0 : Nat) (xn : Nat) (xl : Nat) (xt : Nat) (xo : Nat) (xf : Nat) (xs : Nat) (xp : Nat) (xq : Nat) (xr : Nat) (xc : Nat) (f1 : Nat) (f2 : Nat) (o1 : Nat) (v0_ : Int32) (v1_ : Nat → Int32) (v2_ : Int32) (v3_ : Nat → Int32) (v4_ : Nat → Int32) (v5_ : Int32) (v6_ : Nat → Int64) : va_W := [(x0, .inr (8, [.ref xn, .int v0_, .ref xl, .ref xt, .ref xo, .ref xf, .ref xs, .ref xp, .ref xq, .ref xr, .ref xc])), (xn, .inl (cI, 64, .inl v1_)), (xf, .inr (6, [.ref f1, .ref f2, .int v2_])), (f1, .inl (cI, 512, .inl v3_)), (f2, .inl (cI, 64, .inl v4_)), (xo, .inr (7, [.ref o1, .int v5_])), (o1, .inl (cJ, 64, .inr (.inl v6_)))]
set_option maxHeartbeats 4000000 in
set_option maxRecDepth 100000 in
theorem k_X8_dense (l : Launch) (D : va_G) (cI cJ cK : ClassId) (x0 : Nat) (xn : Nat) (xl : Nat) (xt : Nat) (xo : Nat) (xf : Nat) (xs : Nat) (xp : Nat) (xq : Nat) (xr : Nat) (xc : Nat) (f1 : Nat) (f2 : Nat) (o1 : Nat) (z : Nat) (nf : Nat → Int32) (fz : Nat) (fn : Nat → Int32) (fs : Nat → Int32) (oz : Nat) (of : Nat → Int64) (l9 : Int32) (r9 : Int32) (w9 : Int32) (hz_z : z ≤ 64) (hR_nf : RB 0 255 nf) (hz_fz : fz ≤ 64) (hz_oz : oz ≤ 64) : ctI l yX8_dense wsX8_dense ({ frames := 4, cells := 0, slots := 0, locals := 240 } : Room) D (tyIJ cI cJ cK) [.ref x0, .int l9, .int r9, .int w9] (wl_k_X8_dense cI cJ cK x0 xn xl xt xo xf xs xp xq xr xc f1 f2 o1 (nI z) nf (nI fz) fn fs (nI oz) of) (fun (r : Int32) (u : va_W) => ∃ (fz' : Nat) (fn' : Nat → Int32) (fs' : Nat → Int32) (oz' : Nat) (of' : Nat → Int64), u = (wl_k_X8_dense cI cJ cK x0 xn xl xt xo xf xs xp xq xr xc f1 f2 o1 (nI z) nf (nI fz') fn' fs' (nI oz') of') ∧ fz' ≤ 64 ∧ oz' ≤ 64) := by
  refine ctI.of (cc := cX8_dense) (maxL := 8) (ret := (some .int)) (by decide) rfl (Nat.le_of_ble_eq_true rfl) ?_
  intro p e s m below meth c ls A hx hb hr hts hown hml hlocks hname hA hK hN hP hD hS hl
  have hl : lv_has ls 8 [(0, .ref x0), (1, .int l9), (2, .int r9), (3, .int w9)] := hl
  have hown : s.vm.findClass RX8 = some m.cls := hown
  have hi8 : ∀ w ∈ u_ws RX8 TX8 11, w ∈ wsX8_dense := by decide +kernel
  have fl41 := hts (.fieldLink RX8 41 "PlaneColumn" "first" "LPlaneColumn$Tally;") (by decide +kernel)
  have fl9 := hts (.fieldLink RX8 9 "PlaneColumn" "numbers" "[I") (by decide +kernel)
  refine lv_aload_n hx hb dX8_dense_0 rfl (lv_at hl 0 rfl) ?_
  refine lv_iload_n hx hb dX8_dense_1 rfl (lv_at hl 1 rfl) ?_
  refine lv_iload_n hx hb dX8_dense_2 rfl (lv_at hl 2 rfl) ?_
  refine my_gpI (my_pV (As := [.int l9, .int r9]) (rest := []) (ci := 8) ⟨hx, hb, hml, hown, hts⟩ (cwV 2 hts gX8_dense_X8_isSpan rfl rfl rfl (by decide +kernel) ⟨Nat.le_of_ble_eq_true rfl, Nat.le_of_ble_eq_true rfl⟩) hN hK hP [0] rfl 0 rfl rfl rfl rfl hl.1 rfl (Nat.le_of_ble_eq_true rfl) dX8_dense_3 ⟨Nat.le_of_ble_eq_true rfl, Nat.le_of_ble_eq_true rfl⟩  (k_X8_isSpan l D cI cJ cK x0 xn xl xt xo xf xs xp xq xr xc z l9 r9 (by first | assumption | omega | decide +kernel))) (fun r hp => ?_)
  rcases hp with ⟨a_1, b_2, rfl, rfl, rfl, ha_3, hb_4⟩ | ⟨rfl, ho_5⟩
  ·
    refine lv_if_eq (tgt := 16) hx hb dX8_dense_6 (by decide) (fun c6 => ?_) (fun c6 => ?_)
    ·
      exact absurd c6 (by decide +kernel)
    ·
      refine lv_iload_n hx hb dX8_dense_9 rfl (lv_at hl 3 rfl) ?_
      refine my_gpI (my_pS (As := [.int w9]) (rest := []) ⟨hx, hb, hml, hown, hts⟩ (va_cwS 1 hts gX8_dense_X8_isNumber rfl rfl rfl (by decide +kernel) ⟨Nat.le_of_ble_eq_true rfl, Nat.le_of_ble_eq_true rfl⟩) hN hK hP [] rfl rfl hl.1 rfl (Nat.le_of_ble_eq_true rfl) dX8_dense_10 ⟨Nat.le_of_ble_eq_true rfl, Nat.le_of_ble_eq_true rfl⟩  (k_X8_isNumber l D cI cJ cK w9)) (fun r hp => ?_)
      rcases hp with ⟨k_6, rfl, rfl, ha_7⟩ | ⟨rfl, ho_8⟩
      ·
        refine lv_if_ne (tgt := 18) hx hb dX8_dense_13 (by decide) (fun c13 => ?_) (fun c13 => ?_)
        ·
          refine lv_aload_n hx hb dX8_dense_18 rfl (lv_at hl 0 rfl) ?_
          refine va_get (ci := 8) (v := .ref xf) (C := RX8) (T := TX8) (N := 11) hx hb hts hi8 hown hK hP 0 rfl rfl 5 (by decide) fl41 (fun _ h9 => h9) rfl dX8_dense_19 ?_
          refine lv_aload_n hx hb dX8_dense_22 rfl (lv_at hl 0 rfl) ?_
          refine va_get (ci := 8) (v := .ref xn) (C := RX8) (T := TX8) (N := 11) hx hb hts hi8 hown hK hP 0 rfl rfl 0 (by decide) fl9 (fun _ h9 => h9) rfl dX8_dense_23 ?_
          refine lv_iload_n hx hb dX8_dense_26 rfl (lv_at hl 1 rfl) ?_
          refine lv_iload_n hx hb dX8_dense_27 rfl (lv_at hl 2 rfl) ?_
          refine my_goVS (wc := (wl_k_X6_take cI cJ cK xf f1 f2 xn (nI fz) fn fs nf)) hP hD hS hA [2, 3, 4, 1] rfl [none, some 3, some 0, some 1, some 2] (by decide +kernel) (my_cV (As := [.ref xn, .int (nI a_1), .int (nI b_2)]) (rest := []) (ci := 6) (wc := (wl_k_X6_take cI cJ cK xf f1 f2 xn (nI fz) fn fs nf)) ⟨hx, hb, hml, hown, hts⟩ (cwV 3 hts gX8_dense_X6_take rfl rfl rfl (by decide +kernel) ⟨Nat.le_of_ble_eq_true rfl, Nat.le_of_ble_eq_true rfl⟩) hN hK hP hD [2, 3, 4, 1] rfl (by decide) rfl 2 rfl rfl rfl rfl hl.1 rfl (Nat.le_of_ble_eq_true rfl) dX8_dense_28 ⟨Nat.le_of_ble_eq_true rfl, Nat.le_of_ble_eq_true rfl⟩  ((k_X6_take l D cI cJ cK xf f1 f2 xn fz fn fs nf a_1 b_2 (by first | assumption | omega | decide +kernel) hR_nf (by first | assumption | omega | decide +kernel) (by first | assumption | omega | decide +kernel)) _)) (fun u H locs hp hPD hS => ?_)
          obtain ⟨fz_9, fn_10, fs_11, rfl, hhz_fz_12, hnd, hn8, hfz, hsv⟩ := hp
          obtain ⟨hP, hD⟩ := hPD rfl
          have hP : va_P D vwCl (wl_k_X8_dense cI cJ cK x0 xn xl xt xo xf xs xp xq xr xc f1 f2 o1 (nI z) nf (nI fz_9) fn_10 fs_11 (nI oz) of) H := hP
          have hD : va_D A (wl_k_X8_dense cI cJ cK x0 xn xl xt xo xf xs xp xq xr xc f1 f2 o1 (nI z) nf (nI fz_9) fn_10 fs_11 (nI oz) of) := hD
          refine lv_iconst (v := 0) hx hb dX8_dense_31 (by decide +kernel) ?_
          refine lv_istore (lv' := [(4, .int 0), (0, .ref x0), (1, .int (nI a_1)), (2, .int (nI b_2)), (3, .int (nI k_6))]) hx hb dX8_dense_32 hl (by decide) rfl (fun ls hl => ?_)
          refine lv_iconst (v := (-1)) hx hb dX8_dense_34 (by decide +kernel) ?_
          refine lv_istore (lv' := [(5, .int (-1)), (4, .int 0), (0, .ref x0), (1, .int (nI a_1)), (2, .int (nI b_2)), (3, .int (nI k_6))]) hx hb dX8_dense_35 hl (by decide) rfl (fun ls hl => ?_)
          refine lv_iconst (v := 0) hx hb dX8_dense_37 (by decide +kernel) ?_
          refine lv_istore (lv' := [(6, .int 0), (5, .int (-1)), (4, .int 0), (0, .ref x0), (1, .int (nI a_1)), (2, .int (nI b_2)), (3, .int (nI k_6))]) hx hb dX8_dense_38 hl (by decide) rfl (fun ls hl => ?_)
          have loop40 : ∀ (n9 : Nat) (k : Nat) (y5_40 : Int32) (y4_40 : Int32), 64 - k < n9 → (k ≤ 64) → ∀ (H : Heap) (locs : List Loc) (ls : Array Slot), va_P D vwCl (wl_k_X8_dense cI cJ cK x0 xn xl xt xo xf xs xp xq xr xc f1 f2 o1 (nI z) nf (nI fz_9) fn_10 fs_11 (nI oz) of) H → va_D A (wl_k_X8_dense cI cJ cK x0 xn xl xt xo xf xs xp xq xr xc f1 f2 o1 (nI z) nf (nI fz_9) fn_10 fs_11 (nI oz) of) → va_S A s.heap H locs → lv_has ls 8 [(6, .int (nI k)), (5, .int y5_40), (4, .int y4_40), (0, .ref x0), (1, .int (nI a_1)), (2, .int (nI b_2)), (3, .int (nI k_6))] → W p l e ({ frames := 4, cells := 0, slots := 0, locals := 240 } : Room) s m [.ref x0, .int (nI a_1), .int (nI b_2), .int (nI k_6)].toArray below meth c H locs 0 0 (MQ below (va_Qi (fun (r : Int32) (u : va_W) => ∃ (fz' : Nat) (fn' : Nat → Int32) (fs' : Nat → Int32) (oz' : Nat) (of' : Nat → Int64), u = (wl_k_X8_dense cI cJ cK x0 xn xl xt xo xf xs xp xq xr xc f1 f2 o1 (nI z) nf (nI fz') fn' fs' (nI oz') of') ∧ fz' ≤ 64 ∧ oz' ≤ 64) (my_B D (tyIJ cI cJ cK) A) A) [.ref x0, .int (nI a_1), .int (nI b_2), .int (nI k_6)].toArray s 0 0 A) (F0 m 40 ls []) := by
            intro n9
            induction n9 with
            | zero =>
              intro k y5_40 y4_40 hn9
              exact absurd hn9 (Nat.not_lt_zero _)
            | succ n9 ih40 =>
              intro k y5_40 y4_40 hn9 hk_k H locs ls hP hD hS hl
              refine lv_iload hx hb dX8_dense_40 (lv_at hl 0 rfl) ?_
              refine lv_iload_n hx hb dX8_dense_42 rfl (lv_at hl 5 rfl) ?_
              refine lv_iload_n hx hb dX8_dense_43 rfl (lv_at hl 4 rfl) ?_
              refine lv_isub hx hb dX8_dense_44 ?_
              refine lv_topi (fun z_13 ez_13 => ?_)
              try have tz_13 : z_13.toInt = ((b_2 : Nat) : Int) - ((a_1 : Nat) : Int) := by rw [ez_13]; exact my_subI (nI_toInt (by omega)) (nI_toInt (by omega)) (by omega) (by omega)
              refine lv_icmp_ge (tgt := 85) hx hb dX8_dense_45 (by decide) (fun c45 => ?_) (fun c45 => ?_)
              ·
                have d45 : ((k : Nat) : Int) ≥ z_13.toInt := my_ge c45 (nI_toInt (by omega)) rfl
                refine lv_aload_n hx hb dX8_dense_85 rfl (lv_at hl 3 rfl) ?_
                refine lv_iload hx hb dX8_dense_86 (lv_at hl 1 rfl) ?_
                refine lv_i2l (v := y5_40.toInt64) hx hb dX8_dense_88 rfl ?_
                refine my_goVS (wc := (wl_k_X8_tell cI cJ cK x0 xn xl xt xo xf xs xp xq xr xc o1 (nI z) (nI oz) of)) hP hD hS hA [0, 5, 6] rfl [some 0, none, none, none, none, some 1, some 2] (by decide +kernel) (my_cV (As := [.long y5_40.toInt64]) (rest := []) (ci := 8) (wc := (wl_k_X8_tell cI cJ cK x0 xn xl xt xo xf xs xp xq xr xc o1 (nI z) (nI oz) of)) ⟨hx, hb, hml, hown, hts⟩ (cwV 1 hts gX8_dense_X8_tell rfl rfl rfl (by decide +kernel) ⟨Nat.le_of_ble_eq_true rfl, Nat.le_of_ble_eq_true rfl⟩) hN hK hP hD [0, 5, 6] rfl (by decide) rfl 0 rfl rfl rfl rfl hl.1 rfl (Nat.le_of_ble_eq_true rfl) dX8_dense_89 ⟨Nat.le_of_ble_eq_true rfl, Nat.le_of_ble_eq_true rfl⟩  ((k_X8_tell l D cI cJ cK x0 xn xl xt xo xf xs xp xq xr xc o1 z oz of y5_40.toInt64 (by first | assumption | omega | decide +kernel) (by first | assumption | omega | decide +kernel)) _)) (fun u H locs hp hPD hS => ?_)
                obtain ⟨oz_14, of_15, rfl, hhz_oz_16⟩ := hp
                obtain ⟨hP, hD⟩ := hPD rfl
                have hP : va_P D vwCl (wl_k_X8_dense cI cJ cK x0 xn xl xt xo xf xs xp xq xr xc f1 f2 o1 (nI z) nf (nI fz_9) fn_10 fs_11 (nI oz_14) of_15) H := hP
                have hD : va_D A (wl_k_X8_dense cI cJ cK x0 xn xl xt xo xf xs xp xq xr xc f1 f2 o1 (nI z) nf (nI fz_9) fn_10 fs_11 (nI oz_14) of_15) := hD
                refine lv_iload hx hb dX8_dense_92 (lv_at hl 2 rfl) ?_
                exact my_retI hx hb hr hlocks hK hS (wl_k_X8_dense cI cJ cK x0 xn xl xt xo xf xs xp xq xr xc f1 f2 o1 (nI z) nf (nI fz_9) fn_10 fs_11 (nI oz_14) of_15) hP hD (⟨fz_9, fn_10, fs_11, oz_14, of_15, rfl, (by first | assumption | omega | trivial | decide +kernel), (by first | assumption | omega | trivial | decide +kernel)⟩) dX8_dense_94
              ·
                have d45 : ((k : Nat) : Int) < z_13.toInt := my_nge c45 (nI_toInt (by omega)) rfl
                refine lv_aload_n hx hb dX8_dense_48 rfl (lv_at hl 3 rfl) ?_
                refine lv_iload hx hb dX8_dense_49 (lv_at hl 0 rfl) ?_
                refine lv_iload_n hx hb dX8_dense_51 rfl (lv_at hl 6 rfl) ?_
                refine my_gpI (my_pV (As := [.int (nI k), .int (nI k_6)]) (rest := []) (ci := 8) ⟨hx, hb, hml, hown, hts⟩ (cwV 2 hts gX8_dense_X8_reachFrom rfl rfl rfl (by decide +kernel) ⟨Nat.le_of_ble_eq_true rfl, Nat.le_of_ble_eq_true rfl⟩) hN hK hP [0, 2, 4] rfl 0 rfl rfl rfl rfl hl.1 rfl (Nat.le_of_ble_eq_true rfl) dX8_dense_52 ⟨Nat.le_of_ble_eq_true rfl, Nat.le_of_ble_eq_true rfl⟩  (k_X8_reachFrom l D cI cJ cK x0 xn xl xt xo xf xs xp xq xr xc f1 f2 z fz_9 fs_11 k (nI k_6) (by first | assumption | omega | decide +kernel) (by first | assumption | omega | decide +kernel) (by first | assumption | omega | decide +kernel))) (fun r hp => ?_)
                obtain _ := hp
                obtain ⟨r_17, rfl⟩ : ∃ z, z = r := ⟨_, rfl⟩
                refine lv_istore (lv' := [(7, .int r_17), (6, .int (nI k)), (5, .int y5_40), (4, .int y4_40), (0, .ref x0), (1, .int (nI a_1)), (2, .int (nI b_2)), (3, .int (nI k_6))]) hx hb dX8_dense_55 hl (by decide) rfl (fun ls hl => ?_)
                refine lv_iload hx hb dX8_dense_57 (lv_at hl 0 rfl) ?_
                refine lv_iload hx hb dX8_dense_59 (lv_at hl 3 rfl) ?_
                refine lv_icmp_le (tgt := 79) hx hb dX8_dense_61 (by decide) (fun c61 => ?_) (fun c61 => ?_)
                ·
                  have d61 : r_17.toInt ≤ y4_40.toInt := my_le c61 rfl rfl
                  refine lv_iinc (v := nI (k + 1)) (lv' := [(6, .int (nI (k + 1))), (7, .int r_17), (5, .int y5_40), (4, .int y4_40), (0, .ref x0), (1, .int (nI a_1)), (2, .int (nI b_2)), (3, .int (nI k_6))]) hx hb dX8_dense_79 hl (k := 1) rfl (my_incN k 1 (by decide +kernel)) (by decide) rfl (fun ls hl => ?_)
                  refine lv_goto (tgt := 40) hx hb dX8_dense_82 (by decide) ?_
                  exact ih40  (k + 1) y5_40 y4_40 (by omega) (by first | assumption | omega | decide +kernel) _ _ ls hP hD hS (lv_sub hl [0, 2, 3, 4, 5, 6, 7] rfl)
                ·
                  have d61 : r_17.toInt > y4_40.toInt := my_nle c61 rfl rfl
                  refine lv_iload hx hb dX8_dense_64 (lv_at hl 0 rfl) ?_
                  refine lv_istore (lv' := [(4, .int r_17), (7, .int r_17), (6, .int (nI k)), (5, .int y5_40), (0, .ref x0), (1, .int (nI a_1)), (2, .int (nI b_2)), (3, .int (nI k_6))]) hx hb dX8_dense_66 hl (by decide) rfl (fun ls hl => ?_)
                  refine lv_aload_n hx hb dX8_dense_68 rfl (lv_at hl 4 rfl) ?_
                  refine va_get (ci := 8) (v := .ref xf) (C := RX8) (T := TX8) (N := 11) hx hb hts hi8 hown hK hP 0 rfl rfl 5 (by decide) fl41 (fun _ h9 => h9) rfl dX8_dense_69 ?_
                  refine lv_iload hx hb dX8_dense_72 (lv_at hl 2 rfl) ?_
                  refine my_gpI (my_pV (As := [.int (nI k)]) (rest := []) (ci := 6) ⟨hx, hb, hml, hown, hts⟩ (cwV 1 hts gX8_dense_X6_sortedAt rfl rfl rfl (by decide +kernel) ⟨Nat.le_of_ble_eq_true rfl, Nat.le_of_ble_eq_true rfl⟩) hN hK hP [2, 4] rfl 2 rfl rfl rfl rfl hl.1 rfl (Nat.le_of_ble_eq_true rfl) dX8_dense_74 ⟨Nat.le_of_ble_eq_true rfl, Nat.le_of_ble_eq_true rfl⟩  (k_X6_sortedAt l D cI cJ cK xf f1 f2 fz_9 fs_11 (nI k) (by first | assumption | omega | decide +kernel))) (fun r hp => ?_)
                  obtain _ := hp
                  obtain ⟨r_18, rfl⟩ : ∃ z, z = r := ⟨_, rfl⟩
                  refine lv_istore (lv' := [(5, .int r_18), (4, .int r_17), (7, .int r_17), (6, .int (nI k)), (0, .ref x0), (1, .int (nI a_1)), (2, .int (nI b_2)), (3, .int (nI k_6))]) hx hb dX8_dense_77 hl (by decide) rfl (fun ls hl => ?_)
                  refine lv_iinc (v := nI (k + 1)) (lv' := [(6, .int (nI (k + 1))), (5, .int r_18), (4, .int r_17), (7, .int r_17), (0, .ref x0), (1, .int (nI a_1)), (2, .int (nI b_2)), (3, .int (nI k_6))]) hx hb dX8_dense_79 hl (k := 3) rfl (my_incN k 1 (by decide +kernel)) (by decide) rfl (fun ls hl => ?_)
                  refine lv_goto (tgt := 40) hx hb dX8_dense_82 (by decide) ?_
                  exact ih40  (k + 1) r_18 r_17 (by omega) (by first | assumption | omega | decide +kernel) _ _ ls hP hD hS (lv_sub hl [0, 1, 2, 4, 5, 6, 7] rfl)
          have ec_19 : (-1 : Int32).toInt = -1 := by decide +kernel
          have ec_20 : (0 : Int32).toInt = 0 := by decide +kernel
          exact loop40 ((64 - 0) + 1) 0 (-1 : Int32) (0 : Int32) (Nat.lt_succ_self _) (by first | assumption | omega | decide +kernel) _ _ ls hP hD hS (lv_sub hl [0, 1, 2, 3, 4, 5, 6] rfl)
        ·
          exact absurd c13 (by decide +kernel)
      ·
        refine lv_if_ne (tgt := 18) hx hb dX8_dense_13 (by decide) (fun c13 => ?_) (fun c13 => ?_)
        ·
          exact absurd c13 (by decide +kernel)
        ·
          refine lv_iconst (v := (-1)) hx hb dX8_dense_16 (by decide +kernel) ?_
          exact my_retI hx hb hr hlocks hK hS (wl_k_X8_dense cI cJ cK x0 xn xl xt xo xf xs xp xq xr xc f1 f2 o1 (nI z) nf (nI fz) fn fs (nI oz) of) hP hD (⟨fz, fn, fs, oz, of, rfl, (by first | assumption | omega | trivial | decide +kernel), (by first | assumption | omega | trivial | decide +kernel)⟩) dX8_dense_17
  ·
    refine lv_if_eq (tgt := 16) hx hb dX8_dense_6 (by decide) (fun c6 => ?_) (fun c6 => ?_)
    ·
      refine lv_iconst (v := (-1)) hx hb dX8_dense_16 (by decide +kernel) ?_
      exact my_retI hx hb hr hlocks hK hS (wl_k_X8_dense cI cJ cK x0 xn xl xt xo xf xs xp xq xr xc f1 f2 o1 (nI z) nf (nI fz) fn fs (nI oz) of) hP hD (⟨fz, fn, fs, oz, of, rfl, (by first | assumption | omega | trivial | decide +kernel), (by first | assumption | omega | trivial | decide +kernel)⟩) dX8_dense_17
    ·
      exact absurd c6 (by decide +kernel)
abbrev wl_k_X8_farthest (cI cJ cK : ClassId) (x0 : Nat) (xn : Nat) (xl : Nat) (xt : Nat) (xo : Nat) (xf : Nat) (xs : Nat) (xp : Nat) (xq : Nat) (xr : Nat) (xc : Nat) (f1 : Nat) (f2 : Nat) (o1 : Nat) (v0_ : Int32) (v1_ : Nat → Int32) (v2_ : Int32) (v3_ : Nat → Int32) (v4_ : Nat → Int32) (v5_ : Int32) (v6_ : Nat → Int64) : va_W := [(x0, .inr (8, [.ref xn, .int v0_, .ref xl, .ref xt, .ref xo, .ref xf, .ref xs, .ref xp, .ref xq, .ref xr, .ref xc])), (xn, .inl (cI, 64, .inl v1_)), (xf, .inr (6, [.ref f1, .ref f2, .int v2_])), (f1, .inl (cI, 512, .inl v3_)), (f2, .inl (cI, 64, .inl v4_)), (xo, .inr (7, [.ref o1, .int v5_])), (o1, .inl (cJ, 64, .inr (.inl v6_)))]
set_option maxHeartbeats 4000000 in
set_option maxRecDepth 100000 in
theorem k_X8_farthest (l : Launch) (D : va_G) (cI cJ cK : ClassId) (x0 : Nat) (xn : Nat) (xl : Nat) (xt : Nat) (xo : Nat) (xf : Nat) (xs : Nat) (xp : Nat) (xq : Nat) (xr : Nat) (xc : Nat) (f1 : Nat) (f2 : Nat) (o1 : Nat) (z : Nat) (nf : Nat → Int32) (fz : Nat) (fn : Nat → Int32) (fs : Nat → Int32) (oz : Nat) (of : Nat → Int64) (l9 : Int32) (r9 : Int32) (w9 : Int32) (hz_z : z ≤ 64) (hR_nf : RB 0 255 nf) (hz_fz : fz ≤ 64) (hz_oz : oz ≤ 64) : ctI l yX8_farthest wsX8_farthest ({ frames := 4, cells := 0, slots := 0, locals := 240 } : Room) D (tyIJ cI cJ cK) [.ref x0, .int l9, .int r9, .int w9] (wl_k_X8_farthest cI cJ cK x0 xn xl xt xo xf xs xp xq xr xc f1 f2 o1 (nI z) nf (nI fz) fn fs (nI oz) of) (fun (r : Int32) (u : va_W) => ∃ (fz' : Nat) (fn' : Nat → Int32) (fs' : Nat → Int32) (oz' : Nat) (of' : Nat → Int64), u = (wl_k_X8_farthest cI cJ cK x0 xn xl xt xo xf xs xp xq xr xc f1 f2 o1 (nI z) nf (nI fz') fn' fs' (nI oz') of') ∧ fz' ≤ 64 ∧ oz' ≤ 64) := by
  refine ctI.of (cc := cX8_farthest) (maxL := 6) (ret := (some .int)) (by decide) rfl (Nat.le_of_ble_eq_true rfl) ?_
  intro p e s m below meth c ls A hx hb hr hts hown hml hlocks hname hA hK hN hP hD hS hl
  have hl : lv_has ls 6 [(0, .ref x0), (1, .int l9), (2, .int r9), (3, .int w9)] := hl
  have hown : s.vm.findClass RX8 = some m.cls := hown
  have hi8 : ∀ w ∈ u_ws RX8 TX8 11, w ∈ wsX8_farthest := by decide +kernel
  have fl41 := hts (.fieldLink RX8 41 "PlaneColumn" "first" "LPlaneColumn$Tally;") (by decide +kernel)
  have fl9 := hts (.fieldLink RX8 9 "PlaneColumn" "numbers" "[I") (by decide +kernel)
  refine lv_aload_n hx hb dX8_farthest_0 rfl (lv_at hl 0 rfl) ?_
  refine lv_iload_n hx hb dX8_farthest_1 rfl (lv_at hl 1 rfl) ?_
  refine lv_iload_n hx hb dX8_farthest_2 rfl (lv_at hl 2 rfl) ?_
  refine my_gpI (my_pV (As := [.int l9, .int r9]) (rest := []) (ci := 8) ⟨hx, hb, hml, hown, hts⟩ (cwV 2 hts gX8_farthest_X8_isSpan rfl rfl rfl (by decide +kernel) ⟨Nat.le_of_ble_eq_true rfl, Nat.le_of_ble_eq_true rfl⟩) hN hK hP [0] rfl 0 rfl rfl rfl rfl hl.1 rfl (Nat.le_of_ble_eq_true rfl) dX8_farthest_3 ⟨Nat.le_of_ble_eq_true rfl, Nat.le_of_ble_eq_true rfl⟩  (k_X8_isSpan l D cI cJ cK x0 xn xl xt xo xf xs xp xq xr xc z l9 r9 (by first | assumption | omega | decide +kernel))) (fun r hp => ?_)
  rcases hp with ⟨a_1, b_2, rfl, rfl, rfl, ha_3, hb_4⟩ | ⟨rfl, ho_5⟩
  ·
    refine lv_if_eq (tgt := 16) hx hb dX8_farthest_6 (by decide) (fun c6 => ?_) (fun c6 => ?_)
    ·
      exact absurd c6 (by decide +kernel)
    ·
      refine lv_iload_n hx hb dX8_farthest_9 rfl (lv_at hl 3 rfl) ?_
      refine my_gpI (my_pS (As := [.int w9]) (rest := []) ⟨hx, hb, hml, hown, hts⟩ (va_cwS 1 hts gX8_farthest_X8_isNumber rfl rfl rfl (by decide +kernel) ⟨Nat.le_of_ble_eq_true rfl, Nat.le_of_ble_eq_true rfl⟩) hN hK hP [] rfl rfl hl.1 rfl (Nat.le_of_ble_eq_true rfl) dX8_farthest_10 ⟨Nat.le_of_ble_eq_true rfl, Nat.le_of_ble_eq_true rfl⟩  (k_X8_isNumber l D cI cJ cK w9)) (fun r hp => ?_)
      rcases hp with ⟨k_6, rfl, rfl, ha_7⟩ | ⟨rfl, ho_8⟩
      ·
        refine lv_if_ne (tgt := 18) hx hb dX8_farthest_13 (by decide) (fun c13 => ?_) (fun c13 => ?_)
        ·
          refine lv_aload_n hx hb dX8_farthest_18 rfl (lv_at hl 0 rfl) ?_
          refine va_get (ci := 8) (v := .ref xf) (C := RX8) (T := TX8) (N := 11) hx hb hts hi8 hown hK hP 0 rfl rfl 5 (by decide) fl41 (fun _ h9 => h9) rfl dX8_farthest_19 ?_
          refine lv_aload_n hx hb dX8_farthest_22 rfl (lv_at hl 0 rfl) ?_
          refine va_get (ci := 8) (v := .ref xn) (C := RX8) (T := TX8) (N := 11) hx hb hts hi8 hown hK hP 0 rfl rfl 0 (by decide) fl9 (fun _ h9 => h9) rfl dX8_farthest_23 ?_
          refine lv_iload_n hx hb dX8_farthest_26 rfl (lv_at hl 1 rfl) ?_
          refine lv_iload_n hx hb dX8_farthest_27 rfl (lv_at hl 2 rfl) ?_
          refine my_goVS (wc := (wl_k_X6_take cI cJ cK xf f1 f2 xn (nI fz) fn fs nf)) hP hD hS hA [2, 3, 4, 1] rfl [none, some 3, some 0, some 1, some 2] (by decide +kernel) (my_cV (As := [.ref xn, .int (nI a_1), .int (nI b_2)]) (rest := []) (ci := 6) (wc := (wl_k_X6_take cI cJ cK xf f1 f2 xn (nI fz) fn fs nf)) ⟨hx, hb, hml, hown, hts⟩ (cwV 3 hts gX8_farthest_X6_take rfl rfl rfl (by decide +kernel) ⟨Nat.le_of_ble_eq_true rfl, Nat.le_of_ble_eq_true rfl⟩) hN hK hP hD [2, 3, 4, 1] rfl (by decide) rfl 2 rfl rfl rfl rfl hl.1 rfl (Nat.le_of_ble_eq_true rfl) dX8_farthest_28 ⟨Nat.le_of_ble_eq_true rfl, Nat.le_of_ble_eq_true rfl⟩  ((k_X6_take l D cI cJ cK xf f1 f2 xn fz fn fs nf a_1 b_2 (by first | assumption | omega | decide +kernel) hR_nf (by first | assumption | omega | decide +kernel) (by first | assumption | omega | decide +kernel)) _)) (fun u H locs hp hPD hS => ?_)
          obtain ⟨fz_9, fn_10, fs_11, rfl, hhz_fz_12, hnd, hn8, hfz, hsv⟩ := hp
          obtain ⟨hP, hD⟩ := hPD rfl
          have hP : va_P D vwCl (wl_k_X8_farthest cI cJ cK x0 xn xl xt xo xf xs xp xq xr xc f1 f2 o1 (nI z) nf (nI fz_9) fn_10 fs_11 (nI oz) of) H := hP
          have hD : va_D A (wl_k_X8_farthest cI cJ cK x0 xn xl xt xo xf xs xp xq xr xc f1 f2 o1 (nI z) nf (nI fz_9) fn_10 fs_11 (nI oz) of) := hD
          refine lv_sipush (v := 255) hx hb dX8_farthest_31 (by decide +kernel) ?_
          refine lv_istore (lv' := [(4, .int 255), (0, .ref x0), (1, .int (nI a_1)), (2, .int (nI b_2)), (3, .int (nI k_6))]) hx hb dX8_farthest_34 hl (by decide) rfl (fun ls hl => ?_)
          have loop36 : ∀ (n9 : Nat) (x : Int32), (x.toInt + 1).toNat < n9 → (-1 ≤ x.toInt) → (x.toInt ≤ 255) → ∀ (H : Heap) (locs : List Loc) (ls : Array Slot), va_P D vwCl (wl_k_X8_farthest cI cJ cK x0 xn xl xt xo xf xs xp xq xr xc f1 f2 o1 (nI z) nf (nI fz_9) fn_10 fs_11 (nI oz) of) H → va_D A (wl_k_X8_farthest cI cJ cK x0 xn xl xt xo xf xs xp xq xr xc f1 f2 o1 (nI z) nf (nI fz_9) fn_10 fs_11 (nI oz) of) → va_S A s.heap H locs → lv_has ls 6 [(4, .int x), (0, .ref x0), (1, .int (nI a_1)), (2, .int (nI b_2)), (3, .int (nI k_6))] → W p l e ({ frames := 4, cells := 0, slots := 0, locals := 240 } : Room) s m [.ref x0, .int (nI a_1), .int (nI b_2), .int (nI k_6)].toArray below meth c H locs 0 0 (MQ below (va_Qi (fun (r : Int32) (u : va_W) => ∃ (fz' : Nat) (fn' : Nat → Int32) (fs' : Nat → Int32) (oz' : Nat) (of' : Nat → Int64), u = (wl_k_X8_farthest cI cJ cK x0 xn xl xt xo xf xs xp xq xr xc f1 f2 o1 (nI z) nf (nI fz') fn' fs' (nI oz') of') ∧ fz' ≤ 64 ∧ oz' ≤ 64) (my_B D (tyIJ cI cJ cK) A) A) [.ref x0, .int (nI a_1), .int (nI b_2), .int (nI k_6)].toArray s 0 0 A) (F0 m 36 ls []) := by
            intro n9
            induction n9 with
            | zero =>
              intro x hn9
              exact absurd hn9 (Nat.not_lt_zero _)
            | succ n9 ih36 =>
              intro x hn9 hx0 hx1 H locs ls hP hD hS hl
              refine lv_iload hx hb dX8_farthest_36 (lv_at hl 0 rfl) ?_
              refine lv_if_lt (tgt := 80) hx hb dX8_farthest_38 (by decide) (fun c38 => ?_) (fun c38 => ?_)
              ·
                have d38 : x.toInt < (0 : Int) := my_lt c38 rfl (by decide +kernel)
                refine lv_bipush (v := (-2)) hx hb dX8_farthest_80 (by decide +kernel) ?_
                exact my_retI hx hb hr hlocks hK hS (wl_k_X8_farthest cI cJ cK x0 xn xl xt xo xf xs xp xq xr xc f1 f2 o1 (nI z) nf (nI fz_9) fn_10 fs_11 (nI oz) of) hP hD (⟨fz_9, fn_10, fs_11, oz, of, rfl, (by first | assumption | omega | trivial | decide +kernel), (by first | assumption | omega | trivial | decide +kernel)⟩) dX8_farthest_82
              ·
                have d38 : x.toInt ≥ (0 : Int) := my_nlt c38 rfl (by decide +kernel)
                refine lv_aload_n hx hb dX8_farthest_41 rfl (lv_at hl 1 rfl) ?_
                refine va_get (ci := 8) (v := .ref xf) (C := RX8) (T := TX8) (N := 11) hx hb hts hi8 hown hK hP 0 rfl rfl 5 (by decide) fl41 (fun _ h9 => h9) rfl dX8_farthest_42 ?_
                refine lv_iload hx hb dX8_farthest_45 (lv_at hl 0 rfl) ?_
                refine lv_iload_n hx hb dX8_farthest_47 rfl (lv_at hl 4 rfl) ?_
                refine lv_ixor hx hb dX8_farthest_48 ?_
                refine lv_topi (fun z_13 ez_13 => ?_)
                refine my_gpI (my_pV (As := [.int z_13]) (rest := []) (ci := 6) ⟨hx, hb, hml, hown, hts⟩ (cwV 1 hts gX8_farthest_X6_timesOf rfl rfl rfl (by decide +kernel) ⟨Nat.le_of_ble_eq_true rfl, Nat.le_of_ble_eq_true rfl⟩) hN hK hP [2, 3] rfl 2 rfl rfl rfl rfl hl.1 rfl (Nat.le_of_ble_eq_true rfl) dX8_farthest_49 ⟨Nat.le_of_ble_eq_true rfl, Nat.le_of_ble_eq_true rfl⟩  (k_X6_timesOf l D cI cJ cK xf f1 f2 fz_9 fn_10 z_13 (by first | assumption | omega | decide +kernel))) (fun r hp => ?_)
                obtain _ := hp
                obtain ⟨r_14, rfl⟩ : ∃ z, z = r := ⟨_, rfl⟩
                refine lv_istore (lv' := [(5, .int r_14), (4, .int x), (0, .ref x0), (1, .int (nI a_1)), (2, .int (nI b_2)), (3, .int (nI k_6))]) hx hb dX8_farthest_52 hl (by decide) rfl (fun ls hl => ?_)
                refine lv_iload hx hb dX8_farthest_54 (lv_at hl 0 rfl) ?_
                refine lv_if_le (tgt := 74) hx hb dX8_farthest_56 (by decide) (fun c56 => ?_) (fun c56 => ?_)
                ·
                  have d56 : r_14.toInt ≤ (0 : Int) := my_le c56 rfl (by decide +kernel)
                  obtain ⟨z_15, ez_15⟩ : ∃ y : Int32, y = x + (-1) := ⟨_, rfl⟩
                  try have tz_15 : z_15.toInt = x.toInt + (-1) := by rw [ez_15]; exact my_addI rfl (by decide +kernel) (by omega) (by omega)
                  refine lv_iinc (v := z_15) (lv' := [(4, .int z_15), (5, .int r_14), (0, .ref x0), (1, .int (nI a_1)), (2, .int (nI b_2)), (3, .int (nI k_6))]) hx hb dX8_farthest_74 hl (k := 1) rfl (by rw [ez_15]; rfl) (by decide) rfl (fun ls hl => ?_)
                  refine lv_goto (tgt := 36) hx hb dX8_farthest_77 (by decide) ?_
                  exact ih36  z_15 (by omega) (by first | assumption | omega | decide +kernel) (by first | assumption | omega | decide +kernel) _ _ ls hP hD hS (lv_sub hl [0, 2, 3, 4, 5] rfl)
                ·
                  have d56 : r_14.toInt > (0 : Int) := my_nle c56 rfl (by decide +kernel)
                  refine lv_aload_n hx hb dX8_farthest_59 rfl (lv_at hl 2 rfl) ?_
                  refine lv_iload hx hb dX8_farthest_60 (lv_at hl 1 rfl) ?_
                  refine lv_iload_n hx hb dX8_farthest_62 rfl (lv_at hl 5 rfl) ?_
                  refine lv_ixor hx hb dX8_farthest_63 ?_
                  refine lv_topi (fun z_16 ez_16 => ?_)
                  refine lv_i2l (v := z_16.toInt64) hx hb dX8_farthest_64 rfl ?_
                  refine lv_iload hx hb dX8_farthest_65 (lv_at hl 0 rfl) ?_
                  refine lv_i2l (v := r_14.toInt64) hx hb dX8_farthest_67 rfl ?_
                  refine my_goVS (wc := (wl_k_X8_tell_ cI cJ cK x0 xn xl xt xo xf xs xp xq xr xc o1 (nI z) (nI oz) of)) hP hD hS hA [0, 5, 6] rfl [some 0, none, none, none, none, some 1, some 2] (by decide +kernel) (my_cV (As := [.long z_16.toInt64, .long r_14.toInt64]) (rest := []) (ci := 8) (wc := (wl_k_X8_tell_ cI cJ cK x0 xn xl xt xo xf xs xp xq xr xc o1 (nI z) (nI oz) of)) ⟨hx, hb, hml, hown, hts⟩ (cwV 2 hts gX8_farthest_X8_tell_ rfl rfl rfl (by decide +kernel) ⟨Nat.le_of_ble_eq_true rfl, Nat.le_of_ble_eq_true rfl⟩) hN hK hP hD [0, 5, 6] rfl (by decide) rfl 0 rfl rfl rfl rfl hl.1 rfl (Nat.le_of_ble_eq_true rfl) dX8_farthest_68 ⟨Nat.le_of_ble_eq_true rfl, Nat.le_of_ble_eq_true rfl⟩  ((k_X8_tell_ l D cI cJ cK x0 xn xl xt xo xf xs xp xq xr xc o1 z oz of z_16.toInt64 r_14.toInt64 (by first | assumption | omega | decide +kernel) (by first | assumption | omega | decide +kernel)) _)) (fun u H locs hp hPD hS => ?_)
                  obtain ⟨oz_17, of_18, rfl, hhz_oz_19⟩ := hp
                  obtain ⟨hP, hD⟩ := hPD rfl
                  have hP : va_P D vwCl (wl_k_X8_farthest cI cJ cK x0 xn xl xt xo xf xs xp xq xr xc f1 f2 o1 (nI z) nf (nI fz_9) fn_10 fs_11 (nI oz_17) of_18) H := hP
                  have hD : va_D A (wl_k_X8_farthest cI cJ cK x0 xn xl xt xo xf xs xp xq xr xc f1 f2 o1 (nI z) nf (nI fz_9) fn_10 fs_11 (nI oz_17) of_18) := hD
                  refine lv_iload hx hb dX8_farthest_71 (lv_at hl 1 rfl) ?_
                  exact my_retI hx hb hr hlocks hK hS (wl_k_X8_farthest cI cJ cK x0 xn xl xt xo xf xs xp xq xr xc f1 f2 o1 (nI z) nf (nI fz_9) fn_10 fs_11 (nI oz_17) of_18) hP hD (⟨fz_9, fn_10, fs_11, oz_17, of_18, rfl, (by first | assumption | omega | trivial | decide +kernel), (by first | assumption | omega | trivial | decide +kernel)⟩) dX8_farthest_73
          have ec_20 : (255 : Int32).toInt = 255 := by decide +kernel
          exact loop36 ((((255 : Int32).toInt + 1).toNat) + 1) (255 : Int32) (Nat.lt_succ_self _) (by first | assumption | omega | decide +kernel) (by first | assumption | omega | decide +kernel) _ _ ls hP hD hS (lv_sub hl [0, 1, 2, 3, 4] rfl)
        ·
          exact absurd c13 (by decide +kernel)
      ·
        refine lv_if_ne (tgt := 18) hx hb dX8_farthest_13 (by decide) (fun c13 => ?_) (fun c13 => ?_)
        ·
          exact absurd c13 (by decide +kernel)
        ·
          refine lv_iconst (v := (-1)) hx hb dX8_farthest_16 (by decide +kernel) ?_
          exact my_retI hx hb hr hlocks hK hS (wl_k_X8_farthest cI cJ cK x0 xn xl xt xo xf xs xp xq xr xc f1 f2 o1 (nI z) nf (nI fz) fn fs (nI oz) of) hP hD (⟨fz, fn, fs, oz, of, rfl, (by first | assumption | omega | trivial | decide +kernel), (by first | assumption | omega | trivial | decide +kernel)⟩) dX8_farthest_17
  ·
    refine lv_if_eq (tgt := 16) hx hb dX8_farthest_6 (by decide) (fun c6 => ?_) (fun c6 => ?_)
    ·
      refine lv_iconst (v := (-1)) hx hb dX8_farthest_16 (by decide +kernel) ?_
      exact my_retI hx hb hr hlocks hK hS (wl_k_X8_farthest cI cJ cK x0 xn xl xt xo xf xs xp xq xr xc f1 f2 o1 (nI z) nf (nI fz) fn fs (nI oz) of) hP hD (⟨fz, fn, fs, oz, of, rfl, (by first | assumption | omega | trivial | decide +kernel), (by first | assumption | omega | trivial | decide +kernel)⟩) dX8_farthest_17
    ·
      exact absurd c6 (by decide +kernel)
abbrev wl_k_X8_fit (cI cJ cK : ClassId) (x0 : Nat) (xn : Nat) (xl : Nat) (xt : Nat) (xo : Nat) (xf : Nat) (xs : Nat) (xp : Nat) (xq : Nat) (xr : Nat) (xc : Nat) (f1 : Nat) (f2 : Nat) (o1 : Nat) (v0_ : Int32) (v1_ : Nat → Int32) (v2_ : Int32) (v3_ : Nat → Int32) (v4_ : Nat → Int32) (v5_ : Int32) (v6_ : Nat → Int64) : va_W := [(x0, .inr (8, [.ref xn, .int v0_, .ref xl, .ref xt, .ref xo, .ref xf, .ref xs, .ref xp, .ref xq, .ref xr, .ref xc])), (xn, .inl (cI, 64, .inl v1_)), (xf, .inr (6, [.ref f1, .ref f2, .int v2_])), (f1, .inl (cI, 512, .inl v3_)), (f2, .inl (cI, 64, .inl v4_)), (xo, .inr (7, [.ref o1, .int v5_])), (o1, .inl (cJ, 64, .inr (.inl v6_)))]
set_option maxHeartbeats 4000000 in
set_option maxRecDepth 100000 in
theorem k_X8_fit (l : Launch) (D : va_G) (cI cJ cK : ClassId) (x0 : Nat) (xn : Nat) (xl : Nat) (xt : Nat) (xo : Nat) (xf : Nat) (xs : Nat) (xp : Nat) (xq : Nat) (xr : Nat) (xc : Nat) (f1 : Nat) (f2 : Nat) (o1 : Nat) (z : Nat) (nf : Nat → Int32) (fz : Nat) (fn : Nat → Int32) (fs : Nat → Int32) (oz : Nat) (of : Nat → Int64) (l9 : Int32) (r9 : Int32) (k9 : Int32) (hz_z : z ≤ 64) (hR_nf : RB 0 255 nf) (hz_fz : fz ≤ 64) (hz_oz : oz ≤ 64) : ctI l yX8_fit wsX8_fit ({ frames := 4, cells := 0, slots := 0, locals := 240 } : Room) D (tyIJ cI cJ cK) [.ref x0, .int l9, .int r9, .int k9] (wl_k_X8_fit cI cJ cK x0 xn xl xt xo xf xs xp xq xr xc f1 f2 o1 (nI z) nf (nI fz) fn fs (nI oz) of) (fun (r : Int32) (u : va_W) => ∃ (fz' : Nat) (fn' : Nat → Int32) (fs' : Nat → Int32) (oz' : Nat) (of' : Nat → Int64), u = (wl_k_X8_fit cI cJ cK x0 xn xl xt xo xf xs xp xq xr xc f1 f2 o1 (nI z) nf (nI fz') fn' fs' (nI oz') of') ∧ fz' ≤ 64 ∧ oz' ≤ 64) := by
  refine ctI.of (cc := cX8_fit) (maxL := 6) (ret := (some .int)) (by decide) rfl (Nat.le_of_ble_eq_true rfl) ?_
  intro p e s m below meth c ls A hx hb hr hts hown hml hlocks hname hA hK hN hP hD hS hl
  have hl : lv_has ls 6 [(0, .ref x0), (1, .int l9), (2, .int r9), (3, .int k9)] := hl
  have hown : s.vm.findClass RX8 = some m.cls := hown
  have hi8 : ∀ w ∈ u_ws RX8 TX8 11, w ∈ wsX8_fit := by decide +kernel
  have fl41 := hts (.fieldLink RX8 41 "PlaneColumn" "first" "LPlaneColumn$Tally;") (by decide +kernel)
  have fl9 := hts (.fieldLink RX8 9 "PlaneColumn" "numbers" "[I") (by decide +kernel)
  refine lv_aload_n hx hb dX8_fit_0 rfl (lv_at hl 0 rfl) ?_
  refine lv_iload_n hx hb dX8_fit_1 rfl (lv_at hl 1 rfl) ?_
  refine lv_iload_n hx hb dX8_fit_2 rfl (lv_at hl 2 rfl) ?_
  refine my_gpI (my_pV (As := [.int l9, .int r9]) (rest := []) (ci := 8) ⟨hx, hb, hml, hown, hts⟩ (cwV 2 hts gX8_fit_X8_isSpan rfl rfl rfl (by decide +kernel) ⟨Nat.le_of_ble_eq_true rfl, Nat.le_of_ble_eq_true rfl⟩) hN hK hP [0] rfl 0 rfl rfl rfl rfl hl.1 rfl (Nat.le_of_ble_eq_true rfl) dX8_fit_3 ⟨Nat.le_of_ble_eq_true rfl, Nat.le_of_ble_eq_true rfl⟩  (k_X8_isSpan l D cI cJ cK x0 xn xl xt xo xf xs xp xq xr xc z l9 r9 (by first | assumption | omega | decide +kernel))) (fun r hp => ?_)
  rcases hp with ⟨a_1, b_2, rfl, rfl, rfl, ha_3, hb_4⟩ | ⟨rfl, ho_5⟩
  ·
    refine lv_if_eq (tgt := 13) hx hb dX8_fit_6 (by decide) (fun c6 => ?_) (fun c6 => ?_)
    ·
      exact absurd c6 (by decide +kernel)
    ·
      refine lv_iload_n hx hb dX8_fit_9 rfl (lv_at hl 3 rfl) ?_
      refine lv_if_ge (tgt := 15) hx hb dX8_fit_10 (by decide) (fun c10 => ?_) (fun c10 => ?_)
      ·
        have d10 : k9.toInt ≥ (0 : Int) := my_ge c10 rfl (by decide +kernel)
        refine lv_aload_n hx hb dX8_fit_15 rfl (lv_at hl 0 rfl) ?_
        refine va_get (ci := 8) (v := .ref xf) (C := RX8) (T := TX8) (N := 11) hx hb hts hi8 hown hK hP 0 rfl rfl 5 (by decide) fl41 (fun _ h9 => h9) rfl dX8_fit_16 ?_
        refine lv_aload_n hx hb dX8_fit_19 rfl (lv_at hl 0 rfl) ?_
        refine va_get (ci := 8) (v := .ref xn) (C := RX8) (T := TX8) (N := 11) hx hb hts hi8 hown hK hP 0 rfl rfl 0 (by decide) fl9 (fun _ h9 => h9) rfl dX8_fit_20 ?_
        refine lv_iload_n hx hb dX8_fit_23 rfl (lv_at hl 1 rfl) ?_
        refine lv_iload_n hx hb dX8_fit_24 rfl (lv_at hl 2 rfl) ?_
        refine my_goVS (wc := (wl_k_X6_take cI cJ cK xf f1 f2 xn (nI fz) fn fs nf)) hP hD hS hA [2, 3, 4, 1] rfl [none, some 3, some 0, some 1, some 2] (by decide +kernel) (my_cV (As := [.ref xn, .int (nI a_1), .int (nI b_2)]) (rest := []) (ci := 6) (wc := (wl_k_X6_take cI cJ cK xf f1 f2 xn (nI fz) fn fs nf)) ⟨hx, hb, hml, hown, hts⟩ (cwV 3 hts gX8_fit_X6_take rfl rfl rfl (by decide +kernel) ⟨Nat.le_of_ble_eq_true rfl, Nat.le_of_ble_eq_true rfl⟩) hN hK hP hD [2, 3, 4, 1] rfl (by decide) rfl 2 rfl rfl rfl rfl hl.1 rfl (Nat.le_of_ble_eq_true rfl) dX8_fit_25 ⟨Nat.le_of_ble_eq_true rfl, Nat.le_of_ble_eq_true rfl⟩  ((k_X6_take l D cI cJ cK xf f1 f2 xn fz fn fs nf a_1 b_2 (by first | assumption | omega | decide +kernel) hR_nf (by first | assumption | omega | decide +kernel) (by first | assumption | omega | decide +kernel)) _)) (fun u H locs hp hPD hS => ?_)
        obtain ⟨fz_6, fn_7, fs_8, rfl, hhz_fz_9, hnd, hn8, hfz, hsv⟩ := hp
        obtain ⟨hP, hD⟩ := hPD rfl
        have hP : va_P D vwCl (wl_k_X8_fit cI cJ cK x0 xn xl xt xo xf xs xp xq xr xc f1 f2 o1 (nI z) nf (nI fz_6) fn_7 fs_8 (nI oz) of) H := hP
        have hD : va_D A (wl_k_X8_fit cI cJ cK x0 xn xl xt xo xf xs xp xq xr xc f1 f2 o1 (nI z) nf (nI fz_6) fn_7 fs_8 (nI oz) of) := hD
        refine lv_iconst (v := 0) hx hb dX8_fit_28 (by decide +kernel) ?_
        refine lv_istore (lv' := [(4, .int 0), (0, .ref x0), (1, .int (nI a_1)), (2, .int (nI b_2)), (3, .int k9)]) hx hb dX8_fit_29 hl (by decide) rfl (fun ls hl => ?_)
        refine lv_iconst (v := 0) hx hb dX8_fit_31 (by decide +kernel) ?_
        refine lv_istore (lv' := [(5, .int 0), (4, .int 0), (0, .ref x0), (1, .int (nI a_1)), (2, .int (nI b_2)), (3, .int k9)]) hx hb dX8_fit_32 hl (by decide) rfl (fun ls hl => ?_)
        have loop34 : ∀ (n9 : Nat) (y5_34 : Int32) (k : Nat), 64 - k < n9 → (k ≤ 64) → ∀ (H : Heap) (locs : List Loc) (ls : Array Slot), va_P D vwCl (wl_k_X8_fit cI cJ cK x0 xn xl xt xo xf xs xp xq xr xc f1 f2 o1 (nI z) nf (nI fz_6) fn_7 fs_8 (nI oz) of) H → va_D A (wl_k_X8_fit cI cJ cK x0 xn xl xt xo xf xs xp xq xr xc f1 f2 o1 (nI z) nf (nI fz_6) fn_7 fs_8 (nI oz) of) → va_S A s.heap H locs → lv_has ls 6 [(5, .int y5_34), (4, .int (nI k)), (0, .ref x0), (1, .int (nI a_1)), (2, .int (nI b_2)), (3, .int k9)] → W p l e ({ frames := 4, cells := 0, slots := 0, locals := 240 } : Room) s m [.ref x0, .int (nI a_1), .int (nI b_2), .int k9].toArray below meth c H locs 0 0 (MQ below (va_Qi (fun (r : Int32) (u : va_W) => ∃ (fz' : Nat) (fn' : Nat → Int32) (fs' : Nat → Int32) (oz' : Nat) (of' : Nat → Int64), u = (wl_k_X8_fit cI cJ cK x0 xn xl xt xo xf xs xp xq xr xc f1 f2 o1 (nI z) nf (nI fz') fn' fs' (nI oz') of') ∧ fz' ≤ 64 ∧ oz' ≤ 64) (my_B D (tyIJ cI cJ cK) A) A) [.ref x0, .int (nI a_1), .int (nI b_2), .int k9].toArray s 0 0 A) (F0 m 34 ls []) := by
          intro n9
          induction n9 with
          | zero =>
            intro y5_34 k hn9
            exact absurd hn9 (Nat.not_lt_zero _)
          | succ n9 ih34 =>
            intro y5_34 k hn9 hk_k H locs ls hP hD hS hl
            refine lv_iload hx hb dX8_fit_34 (lv_at hl 1 rfl) ?_
            refine lv_iload_n hx hb dX8_fit_36 rfl (lv_at hl 4 rfl) ?_
            refine lv_iload_n hx hb dX8_fit_37 rfl (lv_at hl 3 rfl) ?_
            refine lv_isub hx hb dX8_fit_38 ?_
            refine lv_topi (fun z_10 ez_10 => ?_)
            try have tz_10 : z_10.toInt = ((b_2 : Nat) : Int) - ((a_1 : Nat) : Int) := by rw [ez_10]; exact my_subI (nI_toInt (by omega)) (nI_toInt (by omega)) (by omega) (by omega)
            refine lv_icmp_ge (tgt := 78) hx hb dX8_fit_39 (by decide) (fun c39 => ?_) (fun c39 => ?_)
            ·
              have d39 : ((k : Nat) : Int) ≥ z_10.toInt := my_ge c39 (nI_toInt (by omega)) rfl
              refine lv_aload_n hx hb dX8_fit_78 rfl (lv_at hl 2 rfl) ?_
              refine lv_iload hx hb dX8_fit_79 (lv_at hl 0 rfl) ?_
              refine lv_i2l (v := y5_34.toInt64) hx hb dX8_fit_81 rfl ?_
              refine my_goVS (wc := (wl_k_X8_tell cI cJ cK x0 xn xl xt xo xf xs xp xq xr xc o1 (nI z) (nI oz) of)) hP hD hS hA [0, 5, 6] rfl [some 0, none, none, none, none, some 1, some 2] (by decide +kernel) (my_cV (As := [.long y5_34.toInt64]) (rest := []) (ci := 8) (wc := (wl_k_X8_tell cI cJ cK x0 xn xl xt xo xf xs xp xq xr xc o1 (nI z) (nI oz) of)) ⟨hx, hb, hml, hown, hts⟩ (cwV 1 hts gX8_fit_X8_tell rfl rfl rfl (by decide +kernel) ⟨Nat.le_of_ble_eq_true rfl, Nat.le_of_ble_eq_true rfl⟩) hN hK hP hD [0, 5, 6] rfl (by decide) rfl 0 rfl rfl rfl rfl hl.1 rfl (Nat.le_of_ble_eq_true rfl) dX8_fit_82 ⟨Nat.le_of_ble_eq_true rfl, Nat.le_of_ble_eq_true rfl⟩  ((k_X8_tell l D cI cJ cK x0 xn xl xt xo xf xs xp xq xr xc o1 z oz of y5_34.toInt64 (by first | assumption | omega | decide +kernel) (by first | assumption | omega | decide +kernel)) _)) (fun u H locs hp hPD hS => ?_)
              obtain ⟨oz_11, of_12, rfl, hhz_oz_13⟩ := hp
              obtain ⟨hP, hD⟩ := hPD rfl
              have hP : va_P D vwCl (wl_k_X8_fit cI cJ cK x0 xn xl xt xo xf xs xp xq xr xc f1 f2 o1 (nI z) nf (nI fz_6) fn_7 fs_8 (nI oz_11) of_12) H := hP
              have hD : va_D A (wl_k_X8_fit cI cJ cK x0 xn xl xt xo xf xs xp xq xr xc f1 f2 o1 (nI z) nf (nI fz_6) fn_7 fs_8 (nI oz_11) of_12) := hD
              refine lv_iload hx hb dX8_fit_85 (lv_at hl 1 rfl) ?_
              exact my_retI hx hb hr hlocks hK hS (wl_k_X8_fit cI cJ cK x0 xn xl xt xo xf xs xp xq xr xc f1 f2 o1 (nI z) nf (nI fz_6) fn_7 fs_8 (nI oz_11) of_12) hP hD (⟨fz_6, fn_7, fs_8, oz_11, of_12, rfl, (by first | assumption | omega | trivial | decide +kernel), (by first | assumption | omega | trivial | decide +kernel)⟩) dX8_fit_87
            ·
              have d39 : ((k : Nat) : Int) < z_10.toInt := my_nge c39 (nI_toInt (by omega)) rfl
              refine lv_iload hx hb dX8_fit_42 (lv_at hl 0 rfl) ?_
              refine lv_aload_n hx hb dX8_fit_44 rfl (lv_at hl 2 rfl) ?_
              refine va_get (ci := 8) (v := .ref xf) (C := RX8) (T := TX8) (N := 11) hx hb hts hi8 hown hK hP 0 rfl rfl 5 (by decide) fl41 (fun _ h9 => h9) rfl dX8_fit_45 ?_
              refine lv_iload hx hb dX8_fit_48 (lv_at hl 1 rfl) ?_
              refine my_gpI (my_pV (As := [.int (nI k)]) (rest := [.int y5_34]) (ci := 6) ⟨hx, hb, hml, hown, hts⟩ (cwV 1 hts gX8_fit_X6_sortedAt rfl rfl rfl (by decide +kernel) ⟨Nat.le_of_ble_eq_true rfl, Nat.le_of_ble_eq_true rfl⟩) hN hK hP [2, 4] rfl 2 rfl rfl rfl rfl hl.1 rfl (Nat.le_of_ble_eq_true rfl) dX8_fit_50 ⟨Nat.le_of_ble_eq_true rfl, Nat.le_of_ble_eq_true rfl⟩  (k_X6_sortedAt l D cI cJ cK xf f1 f2 fz_6 fs_8 (nI k) (by first | assumption | omega | decide +kernel))) (fun r hp => ?_)
              obtain _ := hp
              obtain ⟨r_14, rfl⟩ : ∃ z, z = r := ⟨_, rfl⟩
              refine lv_iadd hx hb dX8_fit_53 ?_
              refine lv_topi (fun z_15 ez_15 => ?_)
              try have tz_15 : z_15.toInt = y5_34.toInt + r_14.toInt := by rw [ez_15]; exact my_addI rfl rfl (by omega) (by omega)
              refine lv_iload_n hx hb dX8_fit_54 rfl (lv_at hl 5 rfl) ?_
              refine lv_icmp_gt (tgt := 78) hx hb dX8_fit_55 (by decide) (fun c55 => ?_) (fun c55 => ?_)
              ·
                have d55 : z_15.toInt > k9.toInt := my_gt c55 rfl rfl
                refine lv_aload_n hx hb dX8_fit_78 rfl (lv_at hl 2 rfl) ?_
                refine lv_iload hx hb dX8_fit_79 (lv_at hl 0 rfl) ?_
                refine lv_i2l (v := y5_34.toInt64) hx hb dX8_fit_81 rfl ?_
                refine my_goVS (wc := (wl_k_X8_tell cI cJ cK x0 xn xl xt xo xf xs xp xq xr xc o1 (nI z) (nI oz) of)) hP hD hS hA [0, 5, 6] rfl [some 0, none, none, none, none, some 1, some 2] (by decide +kernel) (my_cV (As := [.long y5_34.toInt64]) (rest := []) (ci := 8) (wc := (wl_k_X8_tell cI cJ cK x0 xn xl xt xo xf xs xp xq xr xc o1 (nI z) (nI oz) of)) ⟨hx, hb, hml, hown, hts⟩ (cwV 1 hts gX8_fit_X8_tell rfl rfl rfl (by decide +kernel) ⟨Nat.le_of_ble_eq_true rfl, Nat.le_of_ble_eq_true rfl⟩) hN hK hP hD [0, 5, 6] rfl (by decide) rfl 0 rfl rfl rfl rfl hl.1 rfl (Nat.le_of_ble_eq_true rfl) dX8_fit_82 ⟨Nat.le_of_ble_eq_true rfl, Nat.le_of_ble_eq_true rfl⟩  ((k_X8_tell l D cI cJ cK x0 xn xl xt xo xf xs xp xq xr xc o1 z oz of y5_34.toInt64 (by first | assumption | omega | decide +kernel) (by first | assumption | omega | decide +kernel)) _)) (fun u H locs hp hPD hS => ?_)
                obtain ⟨oz_16, of_17, rfl, hhz_oz_18⟩ := hp
                obtain ⟨hP, hD⟩ := hPD rfl
                have hP : va_P D vwCl (wl_k_X8_fit cI cJ cK x0 xn xl xt xo xf xs xp xq xr xc f1 f2 o1 (nI z) nf (nI fz_6) fn_7 fs_8 (nI oz_16) of_17) H := hP
                have hD : va_D A (wl_k_X8_fit cI cJ cK x0 xn xl xt xo xf xs xp xq xr xc f1 f2 o1 (nI z) nf (nI fz_6) fn_7 fs_8 (nI oz_16) of_17) := hD
                refine lv_iload hx hb dX8_fit_85 (lv_at hl 1 rfl) ?_
                exact my_retI hx hb hr hlocks hK hS (wl_k_X8_fit cI cJ cK x0 xn xl xt xo xf xs xp xq xr xc f1 f2 o1 (nI z) nf (nI fz_6) fn_7 fs_8 (nI oz_16) of_17) hP hD (⟨fz_6, fn_7, fs_8, oz_16, of_17, rfl, (by first | assumption | omega | trivial | decide +kernel), (by first | assumption | omega | trivial | decide +kernel)⟩) dX8_fit_87
              ·
                have d55 : z_15.toInt ≤ k9.toInt := my_ngt c55 rfl rfl
                refine lv_iload hx hb dX8_fit_58 (lv_at hl 0 rfl) ?_
                refine lv_aload_n hx hb dX8_fit_60 rfl (lv_at hl 2 rfl) ?_
                refine va_get (ci := 8) (v := .ref xf) (C := RX8) (T := TX8) (N := 11) hx hb hts hi8 hown hK hP 0 rfl rfl 5 (by decide) fl41 (fun _ h9 => h9) rfl dX8_fit_61 ?_
                refine lv_iload hx hb dX8_fit_64 (lv_at hl 1 rfl) ?_
                refine my_gpI (my_pV (As := [.int (nI k)]) (rest := [.int y5_34]) (ci := 6) ⟨hx, hb, hml, hown, hts⟩ (cwV 1 hts gX8_fit_X6_sortedAt rfl rfl rfl (by decide +kernel) ⟨Nat.le_of_ble_eq_true rfl, Nat.le_of_ble_eq_true rfl⟩) hN hK hP [2, 4] rfl 2 rfl rfl rfl rfl hl.1 rfl (Nat.le_of_ble_eq_true rfl) dX8_fit_66 ⟨Nat.le_of_ble_eq_true rfl, Nat.le_of_ble_eq_true rfl⟩  (k_X6_sortedAt l D cI cJ cK xf f1 f2 fz_6 fs_8 (nI k) (by first | assumption | omega | decide +kernel))) (fun r hp => ?_)
                obtain _ := hp
                obtain ⟨r_19, rfl⟩ : ∃ z, z = r := ⟨_, rfl⟩
                refine lv_iadd hx hb dX8_fit_69 ?_
                refine lv_topi (fun z_20 ez_20 => ?_)
                try have tz_20 : z_20.toInt = y5_34.toInt + r_19.toInt := by rw [ez_20]; exact my_addI rfl rfl (by omega) (by omega)
                refine lv_istore (lv' := [(5, .int z_20), (4, .int (nI k)), (0, .ref x0), (1, .int (nI a_1)), (2, .int (nI b_2)), (3, .int k9)]) hx hb dX8_fit_70 hl (by decide) rfl (fun ls hl => ?_)
                refine lv_iinc (v := nI (k + 1)) (lv' := [(4, .int (nI (k + 1))), (5, .int z_20), (0, .ref x0), (1, .int (nI a_1)), (2, .int (nI b_2)), (3, .int k9)]) hx hb dX8_fit_72 hl (k := 1) rfl (my_incN k 1 (by decide +kernel)) (by decide) rfl (fun ls hl => ?_)
                refine lv_goto (tgt := 34) hx hb dX8_fit_75 (by decide) ?_
                exact ih34  z_20 (k + 1) (by omega) (by first | assumption | omega | decide +kernel) _ _ ls hP hD hS (lv_sub hl [1, 0, 2, 3, 4, 5] rfl)
        have ec_21 : (0 : Int32).toInt = 0 := by decide +kernel
        exact loop34 ((64 - 0) + 1) (0 : Int32) 0 (Nat.lt_succ_self _) (by first | assumption | omega | decide +kernel) _ _ ls hP hD hS (lv_sub hl [0, 1, 2, 3, 4, 5] rfl)
      ·
        have d10 : k9.toInt < (0 : Int) := my_nge c10 rfl (by decide +kernel)
        refine lv_iconst (v := (-1)) hx hb dX8_fit_13 (by decide +kernel) ?_
        exact my_retI hx hb hr hlocks hK hS (wl_k_X8_fit cI cJ cK x0 xn xl xt xo xf xs xp xq xr xc f1 f2 o1 (nI z) nf (nI fz) fn fs (nI oz) of) hP hD (⟨fz, fn, fs, oz, of, rfl, (by first | assumption | omega | trivial | decide +kernel), (by first | assumption | omega | trivial | decide +kernel)⟩) dX8_fit_14
  ·
    refine lv_if_eq (tgt := 13) hx hb dX8_fit_6 (by decide) (fun c6 => ?_) (fun c6 => ?_)
    ·
      refine lv_iconst (v := (-1)) hx hb dX8_fit_13 (by decide +kernel) ?_
      exact my_retI hx hb hr hlocks hK hS (wl_k_X8_fit cI cJ cK x0 xn xl xt xo xf xs xp xq xr xc f1 f2 o1 (nI z) nf (nI fz) fn fs (nI oz) of) hP hD (⟨fz, fn, fs, oz, of, rfl, (by first | assumption | omega | trivial | decide +kernel), (by first | assumption | omega | trivial | decide +kernel)⟩) dX8_fit_14
    ·
      exact absurd c6 (by decide +kernel)
abbrev wl_k_X8_gap (cI cJ cK : ClassId) (x0 : Nat) (xn : Nat) (xl : Nat) (xt : Nat) (xo : Nat) (xf : Nat) (xs : Nat) (xp : Nat) (xq : Nat) (xr : Nat) (xc : Nat) (f1 : Nat) (f2 : Nat) (o1 : Nat) (v0_ : Int32) (v1_ : Nat → Int32) (v2_ : Int32) (v3_ : Nat → Int32) (v4_ : Nat → Int32) (v5_ : Int32) (v6_ : Nat → Int64) : va_W := [(x0, .inr (8, [.ref xn, .int v0_, .ref xl, .ref xt, .ref xo, .ref xf, .ref xs, .ref xp, .ref xq, .ref xr, .ref xc])), (xn, .inl (cI, 64, .inl v1_)), (xf, .inr (6, [.ref f1, .ref f2, .int v2_])), (f1, .inl (cI, 512, .inl v3_)), (f2, .inl (cI, 64, .inl v4_)), (xo, .inr (7, [.ref o1, .int v5_])), (o1, .inl (cJ, 64, .inr (.inl v6_)))]
set_option maxHeartbeats 4000000 in
set_option maxRecDepth 100000 in
theorem k_X8_gap (l : Launch) (D : va_G) (cI cJ cK : ClassId) (x0 : Nat) (xn : Nat) (xl : Nat) (xt : Nat) (xo : Nat) (xf : Nat) (xs : Nat) (xp : Nat) (xq : Nat) (xr : Nat) (xc : Nat) (f1 : Nat) (f2 : Nat) (o1 : Nat) (z : Nat) (nf : Nat → Int32) (fz : Nat) (fn : Nat → Int32) (fs : Nat → Int32) (oz : Nat) (of : Nat → Int64) (l9 : Int32) (r9 : Int32) (hz_z : z ≤ 64) (hR_nf : RB 0 255 nf) (hz_fz : fz ≤ 64) (hz_oz : oz ≤ 64) : ctI l yX8_gap wsX8_gap ({ frames := 4, cells := 0, slots := 0, locals := 240 } : Room) D (tyIJ cI cJ cK) [.ref x0, .int l9, .int r9] (wl_k_X8_gap cI cJ cK x0 xn xl xt xo xf xs xp xq xr xc f1 f2 o1 (nI z) nf (nI fz) fn fs (nI oz) of) (fun (r : Int32) (u : va_W) => ∃ (fz' : Nat) (fn' : Nat → Int32) (fs' : Nat → Int32) (oz' : Nat) (of' : Nat → Int64), u = (wl_k_X8_gap cI cJ cK x0 xn xl xt xo xf xs xp xq xr xc f1 f2 o1 (nI z) nf (nI fz') fn' fs' (nI oz') of') ∧ fz' ≤ 64 ∧ oz' ≤ 64) := by
  refine ctI.of (cc := cX8_gap) (maxL := 5) (ret := (some .int)) (by decide) rfl (Nat.le_of_ble_eq_true rfl) ?_
  intro p e s m below meth c ls A hx hb hr hts hown hml hlocks hname hA hK hN hP hD hS hl
  have hl : lv_has ls 5 [(0, .ref x0), (1, .int l9), (2, .int r9)] := hl
  have hown : s.vm.findClass RX8 = some m.cls := hown
  have hi8 : ∀ w ∈ u_ws RX8 TX8 11, w ∈ wsX8_gap := by decide +kernel
  have fl41 := hts (.fieldLink RX8 41 "PlaneColumn" "first" "LPlaneColumn$Tally;") (by decide +kernel)
  have fl9 := hts (.fieldLink RX8 9 "PlaneColumn" "numbers" "[I") (by decide +kernel)
  refine lv_aload_n hx hb dX8_gap_0 rfl (lv_at hl 0 rfl) ?_
  refine lv_iload_n hx hb dX8_gap_1 rfl (lv_at hl 1 rfl) ?_
  refine lv_iload_n hx hb dX8_gap_2 rfl (lv_at hl 2 rfl) ?_
  refine my_gpI (my_pV (As := [.int l9, .int r9]) (rest := []) (ci := 8) ⟨hx, hb, hml, hown, hts⟩ (cwV 2 hts gX8_gap_X8_isSpan rfl rfl rfl (by decide +kernel) ⟨Nat.le_of_ble_eq_true rfl, Nat.le_of_ble_eq_true rfl⟩) hN hK hP [0] rfl 0 rfl rfl rfl rfl hl.1 rfl (Nat.le_of_ble_eq_true rfl) dX8_gap_3 ⟨Nat.le_of_ble_eq_true rfl, Nat.le_of_ble_eq_true rfl⟩  (k_X8_isSpan l D cI cJ cK x0 xn xl xt xo xf xs xp xq xr xc z l9 r9 (by first | assumption | omega | decide +kernel))) (fun r hp => ?_)
  rcases hp with ⟨a_1, b_2, rfl, rfl, rfl, ha_3, hb_4⟩ | ⟨rfl, ho_5⟩
  ·
    refine lv_if_ne (tgt := 11) hx hb dX8_gap_6 (by decide) (fun c6 => ?_) (fun c6 => ?_)
    ·
      refine lv_iload_n hx hb dX8_gap_11 rfl (lv_at hl 2 rfl) ?_
      refine lv_iload_n hx hb dX8_gap_12 rfl (lv_at hl 1 rfl) ?_
      refine lv_isub hx hb dX8_gap_13 ?_
      refine lv_topi (fun z_6 ez_6 => ?_)
      try have tz_6 : z_6.toInt = ((b_2 : Nat) : Int) - ((a_1 : Nat) : Int) := by rw [ez_6]; exact my_subI (nI_toInt (by omega)) (nI_toInt (by omega)) (by omega) (by omega)
      refine lv_iconst (v := 2) hx hb dX8_gap_14 (by decide +kernel) ?_
      refine lv_icmp_ge (tgt := 21) hx hb dX8_gap_15 (by decide) (fun c15 => ?_) (fun c15 => ?_)
      ·
        have d15 : z_6.toInt ≥ (2 : Int) := my_ge c15 rfl (by decide +kernel)
        refine lv_aload_n hx hb dX8_gap_21 rfl (lv_at hl 0 rfl) ?_
        refine va_get (ci := 8) (v := .ref xf) (C := RX8) (T := TX8) (N := 11) hx hb hts hi8 hown hK hP 0 rfl rfl 5 (by decide) fl41 (fun _ h9 => h9) rfl dX8_gap_22 ?_
        refine lv_aload_n hx hb dX8_gap_25 rfl (lv_at hl 0 rfl) ?_
        refine va_get (ci := 8) (v := .ref xn) (C := RX8) (T := TX8) (N := 11) hx hb hts hi8 hown hK hP 0 rfl rfl 0 (by decide) fl9 (fun _ h9 => h9) rfl dX8_gap_26 ?_
        refine lv_iload_n hx hb dX8_gap_29 rfl (lv_at hl 1 rfl) ?_
        refine lv_iload_n hx hb dX8_gap_30 rfl (lv_at hl 2 rfl) ?_
        refine my_goVS (wc := (wl_k_X6_take cI cJ cK xf f1 f2 xn (nI fz) fn fs nf)) hP hD hS hA [2, 3, 4, 1] rfl [none, some 3, some 0, some 1, some 2] (by decide +kernel) (my_cV (As := [.ref xn, .int (nI a_1), .int (nI b_2)]) (rest := []) (ci := 6) (wc := (wl_k_X6_take cI cJ cK xf f1 f2 xn (nI fz) fn fs nf)) ⟨hx, hb, hml, hown, hts⟩ (cwV 3 hts gX8_gap_X6_take rfl rfl rfl (by decide +kernel) ⟨Nat.le_of_ble_eq_true rfl, Nat.le_of_ble_eq_true rfl⟩) hN hK hP hD [2, 3, 4, 1] rfl (by decide) rfl 2 rfl rfl rfl rfl hl.1 rfl (Nat.le_of_ble_eq_true rfl) dX8_gap_31 ⟨Nat.le_of_ble_eq_true rfl, Nat.le_of_ble_eq_true rfl⟩  ((k_X6_take l D cI cJ cK xf f1 f2 xn fz fn fs nf a_1 b_2 (by first | assumption | omega | decide +kernel) hR_nf (by first | assumption | omega | decide +kernel) (by first | assumption | omega | decide +kernel)) _)) (fun u H locs hp hPD hS => ?_)
        obtain ⟨fz_7, fn_8, fs_9, rfl, hhz_fz_10, hnd, hn8, hfz, hsv⟩ := hp
        obtain ⟨hP, hD⟩ := hPD rfl
        have hP : va_P D vwCl (wl_k_X8_gap cI cJ cK x0 xn xl xt xo xf xs xp xq xr xc f1 f2 o1 (nI z) nf (nI fz_7) fn_8 fs_9 (nI oz) of) H := hP
        have hD : va_D A (wl_k_X8_gap cI cJ cK x0 xn xl xt xo xf xs xp xq xr xc f1 f2 o1 (nI z) nf (nI fz_7) fn_8 fs_9 (nI oz) of) := hD
        refine lv_iconst (v := 0) hx hb dX8_gap_34 (by decide +kernel) ?_
        refine lv_istore_n (lv' := [(3, .int 0), (0, .ref x0), (1, .int (nI a_1)), (2, .int (nI b_2))]) hx hb dX8_gap_35 rfl hl (by decide) rfl (fun ls hl => ?_)
        refine lv_iconst (v := 1) hx hb dX8_gap_36 (by decide +kernel) ?_
        refine lv_istore (lv' := [(4, .int 1), (3, .int 0), (0, .ref x0), (1, .int (nI a_1)), (2, .int (nI b_2))]) hx hb dX8_gap_37 hl (by decide) rfl (fun ls hl => ?_)
        have loop39 : ∀ (n9 : Nat) (k : Nat) (y3_39 : Int32), 64 - k < n9 → (k ≤ 64) → ∀ (H : Heap) (locs : List Loc) (ls : Array Slot), va_P D vwCl (wl_k_X8_gap cI cJ cK x0 xn xl xt xo xf xs xp xq xr xc f1 f2 o1 (nI z) nf (nI fz_7) fn_8 fs_9 (nI oz) of) H → va_D A (wl_k_X8_gap cI cJ cK x0 xn xl xt xo xf xs xp xq xr xc f1 f2 o1 (nI z) nf (nI fz_7) fn_8 fs_9 (nI oz) of) → va_S A s.heap H locs → lv_has ls 5 [(4, .int (nI k)), (3, .int y3_39), (0, .ref x0), (1, .int (nI a_1)), (2, .int (nI b_2))] → W p l e ({ frames := 4, cells := 0, slots := 0, locals := 240 } : Room) s m [.ref x0, .int (nI a_1), .int (nI b_2)].toArray below meth c H locs 0 0 (MQ below (va_Qi (fun (r : Int32) (u : va_W) => ∃ (fz' : Nat) (fn' : Nat → Int32) (fs' : Nat → Int32) (oz' : Nat) (of' : Nat → Int64), u = (wl_k_X8_gap cI cJ cK x0 xn xl xt xo xf xs xp xq xr xc f1 f2 o1 (nI z) nf (nI fz') fn' fs' (nI oz') of') ∧ fz' ≤ 64 ∧ oz' ≤ 64) (my_B D (tyIJ cI cJ cK) A) A) [.ref x0, .int (nI a_1), .int (nI b_2)].toArray s 0 0 A) (F0 m 39 ls []) := by
          intro n9
          induction n9 with
          | zero =>
            intro k y3_39 hn9
            exact absurd hn9 (Nat.not_lt_zero _)
          | succ n9 ih39 =>
            intro k y3_39 hn9 hk_k H locs ls hP hD hS hl
            refine lv_iload hx hb dX8_gap_39 (lv_at hl 0 rfl) ?_
            refine lv_iload_n hx hb dX8_gap_41 rfl (lv_at hl 4 rfl) ?_
            refine lv_iload_n hx hb dX8_gap_42 rfl (lv_at hl 3 rfl) ?_
            refine lv_isub hx hb dX8_gap_43 ?_
            refine lv_topi (fun z_11 ez_11 => ?_)
            try have tz_11 : z_11.toInt = ((b_2 : Nat) : Int) - ((a_1 : Nat) : Int) := by rw [ez_11]; exact my_subI (nI_toInt (by omega)) (nI_toInt (by omega)) (by omega) (by omega)
            refine lv_iconst (v := 1) hx hb dX8_gap_44 (by decide +kernel) ?_
            refine lv_isub hx hb dX8_gap_45 ?_
            refine lv_topi (fun z_12 ez_12 => ?_)
            try have tz_12 : z_12.toInt = z_11.toInt - (1 : Int) := by rw [ez_12]; exact my_subI rfl (by decide +kernel) (by omega) (by omega)
            refine lv_icmp_ge (tgt := 72) hx hb dX8_gap_46 (by decide) (fun c46 => ?_) (fun c46 => ?_)
            ·
              have d46 : ((k : Nat) : Int) ≥ z_12.toInt := my_ge c46 (nI_toInt (by omega)) rfl
              refine lv_aload_n hx hb dX8_gap_72 rfl (lv_at hl 2 rfl) ?_
              refine lv_aload_n hx hb dX8_gap_73 rfl (lv_at hl 2 rfl) ?_
              refine va_get (ci := 8) (v := .ref xf) (C := RX8) (T := TX8) (N := 11) hx hb hts hi8 hown hK hP 0 rfl rfl 5 (by decide) fl41 (fun _ h9 => h9) rfl dX8_gap_74 ?_
              refine lv_iload_n hx hb dX8_gap_77 rfl (lv_at hl 1 rfl) ?_
              refine my_gpI (my_pV (As := [.int y3_39]) (rest := [.ref x0]) (ci := 6) ⟨hx, hb, hml, hown, hts⟩ (cwV 1 hts gX8_gap_X6_sortedAt rfl rfl rfl (by decide +kernel) ⟨Nat.le_of_ble_eq_true rfl, Nat.le_of_ble_eq_true rfl⟩) hN hK hP [2, 4] rfl 2 rfl rfl rfl rfl hl.1 rfl (Nat.le_of_ble_eq_true rfl) dX8_gap_78 ⟨Nat.le_of_ble_eq_true rfl, Nat.le_of_ble_eq_true rfl⟩  (k_X6_sortedAt l D cI cJ cK xf f1 f2 fz_7 fs_9 y3_39 (by first | assumption | omega | decide +kernel))) (fun r hp => ?_)
              obtain _ := hp
              obtain ⟨r_13, rfl⟩ : ∃ z, z = r := ⟨_, rfl⟩
              refine lv_i2l (v := r_13.toInt64) hx hb dX8_gap_81 rfl ?_
              refine lv_aload_n hx hb dX8_gap_82 rfl (lv_at hl 2 rfl) ?_
              refine va_get (ci := 8) (v := .ref xf) (C := RX8) (T := TX8) (N := 11) hx hb hts hi8 hown hK hP 0 rfl rfl 5 (by decide) fl41 (fun _ h9 => h9) rfl dX8_gap_83 ?_
              refine lv_iload_n hx hb dX8_gap_86 rfl (lv_at hl 1 rfl) ?_
              refine lv_iconst (v := 1) hx hb dX8_gap_87 (by decide +kernel) ?_
              refine lv_iadd hx hb dX8_gap_88 ?_
              refine lv_topi (fun z_14 ez_14 => ?_)
              try have tz_14 : z_14.toInt = y3_39.toInt + (1 : Int) := by rw [ez_14]; exact my_addI rfl (by decide +kernel) (by omega) (by omega)
              refine my_gpI (my_pV (As := [.int z_14]) (rest := [.long r_13.toInt64, .ref x0]) (ci := 6) ⟨hx, hb, hml, hown, hts⟩ (cwV 1 hts gX8_gap_X6_sortedAt rfl rfl rfl (by decide +kernel) ⟨Nat.le_of_ble_eq_true rfl, Nat.le_of_ble_eq_true rfl⟩) hN hK hP [2, 4] rfl 2 rfl rfl rfl rfl hl.1 rfl (Nat.le_of_ble_eq_true rfl) dX8_gap_89 ⟨Nat.le_of_ble_eq_true rfl, Nat.le_of_ble_eq_true rfl⟩  (k_X6_sortedAt l D cI cJ cK xf f1 f2 fz_7 fs_9 z_14 (by first | assumption | omega | decide +kernel))) (fun r hp => ?_)
              obtain _ := hp
              obtain ⟨r_15, rfl⟩ : ∃ z, z = r := ⟨_, rfl⟩
              refine lv_i2l (v := r_15.toInt64) hx hb dX8_gap_92 rfl ?_
              refine my_goVS (wc := (wl_k_X8_tell_ cI cJ cK x0 xn xl xt xo xf xs xp xq xr xc o1 (nI z) (nI oz) of)) hP hD hS hA [0, 5, 6] rfl [some 0, none, none, none, none, some 1, some 2] (by decide +kernel) (my_cV (As := [.long r_13.toInt64, .long r_15.toInt64]) (rest := []) (ci := 8) (wc := (wl_k_X8_tell_ cI cJ cK x0 xn xl xt xo xf xs xp xq xr xc o1 (nI z) (nI oz) of)) ⟨hx, hb, hml, hown, hts⟩ (cwV 2 hts gX8_gap_X8_tell_ rfl rfl rfl (by decide +kernel) ⟨Nat.le_of_ble_eq_true rfl, Nat.le_of_ble_eq_true rfl⟩) hN hK hP hD [0, 5, 6] rfl (by decide) rfl 0 rfl rfl rfl rfl hl.1 rfl (Nat.le_of_ble_eq_true rfl) dX8_gap_93 ⟨Nat.le_of_ble_eq_true rfl, Nat.le_of_ble_eq_true rfl⟩  ((k_X8_tell_ l D cI cJ cK x0 xn xl xt xo xf xs xp xq xr xc o1 z oz of r_13.toInt64 r_15.toInt64 (by first | assumption | omega | decide +kernel) (by first | assumption | omega | decide +kernel)) _)) (fun u H locs hp hPD hS => ?_)
              obtain ⟨oz_16, of_17, rfl, hhz_oz_18⟩ := hp
              obtain ⟨hP, hD⟩ := hPD rfl
              have hP : va_P D vwCl (wl_k_X8_gap cI cJ cK x0 xn xl xt xo xf xs xp xq xr xc f1 f2 o1 (nI z) nf (nI fz_7) fn_8 fs_9 (nI oz_16) of_17) H := hP
              have hD : va_D A (wl_k_X8_gap cI cJ cK x0 xn xl xt xo xf xs xp xq xr xc f1 f2 o1 (nI z) nf (nI fz_7) fn_8 fs_9 (nI oz_16) of_17) := hD
              refine lv_aload_n hx hb dX8_gap_96 rfl (lv_at hl 2 rfl) ?_
              refine lv_iload_n hx hb dX8_gap_97 rfl (lv_at hl 1 rfl) ?_
              refine my_gpI (my_pV (As := [.int y3_39]) (rest := []) (ci := 8) ⟨hx, hb, hml, hown, hts⟩ (cwV 1 hts gX8_gap_X8_step rfl rfl rfl (by decide +kernel) ⟨Nat.le_of_ble_eq_true rfl, Nat.le_of_ble_eq_true rfl⟩) hN hK hP [0, 2, 4] rfl 0 rfl rfl rfl rfl hl.1 rfl (Nat.le_of_ble_eq_true rfl) dX8_gap_98 ⟨Nat.le_of_ble_eq_true rfl, Nat.le_of_ble_eq_true rfl⟩  (k_X8_step l D cI cJ cK x0 xn xl xt xo xf xs xp xq xr xc f1 f2 z fz_7 fs_9 y3_39 (by first | assumption | omega | decide +kernel) (by first | assumption | omega | decide +kernel))) (fun r hp => ?_)
              obtain _ := hp
              obtain ⟨r_19, rfl⟩ : ∃ z, z = r := ⟨_, rfl⟩
              exact my_retI hx hb hr hlocks hK hS (wl_k_X8_gap cI cJ cK x0 xn xl xt xo xf xs xp xq xr xc f1 f2 o1 (nI z) nf (nI fz_7) fn_8 fs_9 (nI oz_16) of_17) hP hD (⟨fz_7, fn_8, fs_9, oz_16, of_17, rfl, (by first | assumption | omega | trivial | decide +kernel), (by first | assumption | omega | trivial | decide +kernel)⟩) dX8_gap_101
            ·
              have d46 : ((k : Nat) : Int) < z_12.toInt := my_nge c46 (nI_toInt (by omega)) rfl
              refine lv_aload_n hx hb dX8_gap_49 rfl (lv_at hl 2 rfl) ?_
              refine lv_iload hx hb dX8_gap_50 (lv_at hl 0 rfl) ?_
              refine my_gpI (my_pV (As := [.int (nI k)]) (rest := []) (ci := 8) ⟨hx, hb, hml, hown, hts⟩ (cwV 1 hts gX8_gap_X8_step rfl rfl rfl (by decide +kernel) ⟨Nat.le_of_ble_eq_true rfl, Nat.le_of_ble_eq_true rfl⟩) hN hK hP [0, 2, 4] rfl 0 rfl rfl rfl rfl hl.1 rfl (Nat.le_of_ble_eq_true rfl) dX8_gap_52 ⟨Nat.le_of_ble_eq_true rfl, Nat.le_of_ble_eq_true rfl⟩  (k_X8_step l D cI cJ cK x0 xn xl xt xo xf xs xp xq xr xc f1 f2 z fz_7 fs_9 (nI k) (by first | assumption | omega | decide +kernel) (by first | assumption | omega | decide +kernel))) (fun r hp => ?_)
              obtain _ := hp
              obtain ⟨r_20, rfl⟩ : ∃ z, z = r := ⟨_, rfl⟩
              refine lv_aload_n hx hb dX8_gap_55 rfl (lv_at hl 2 rfl) ?_
              refine lv_iload_n hx hb dX8_gap_56 rfl (lv_at hl 1 rfl) ?_
              refine my_gpI (my_pV (As := [.int y3_39]) (rest := [.int r_20]) (ci := 8) ⟨hx, hb, hml, hown, hts⟩ (cwV 1 hts gX8_gap_X8_step rfl rfl rfl (by decide +kernel) ⟨Nat.le_of_ble_eq_true rfl, Nat.le_of_ble_eq_true rfl⟩) hN hK hP [0, 2, 4] rfl 0 rfl rfl rfl rfl hl.1 rfl (Nat.le_of_ble_eq_true rfl) dX8_gap_57 ⟨Nat.le_of_ble_eq_true rfl, Nat.le_of_ble_eq_true rfl⟩  (k_X8_step l D cI cJ cK x0 xn xl xt xo xf xs xp xq xr xc f1 f2 z fz_7 fs_9 y3_39 (by first | assumption | omega | decide +kernel) (by first | assumption | omega | decide +kernel))) (fun r hp => ?_)
              obtain _ := hp
              obtain ⟨r_21, rfl⟩ : ∃ z, z = r := ⟨_, rfl⟩
              refine lv_icmp_le (tgt := 66) hx hb dX8_gap_60 (by decide) (fun c60 => ?_) (fun c60 => ?_)
              ·
                have d60 : r_20.toInt ≤ r_21.toInt := my_le c60 rfl rfl
                refine lv_iinc (v := nI (k + 1)) (lv' := [(4, .int (nI (k + 1))), (3, .int y3_39), (0, .ref x0), (1, .int (nI a_1)), (2, .int (nI b_2))]) hx hb dX8_gap_66 hl (k := 0) rfl (my_incN k 1 (by decide +kernel)) (by decide) rfl (fun ls hl => ?_)
                refine lv_goto (tgt := 39) hx hb dX8_gap_69 (by decide) ?_
                exact ih39  (k + 1) y3_39 (by omega) (by first | assumption | omega | decide +kernel) _ _ ls hP hD hS (lv_sub hl [0, 1, 2, 3, 4] rfl)
              ·
                have d60 : r_20.toInt > r_21.toInt := my_nle c60 rfl rfl
                refine lv_iload hx hb dX8_gap_63 (lv_at hl 0 rfl) ?_
                refine lv_istore_n (lv' := [(3, .int (nI k)), (4, .int (nI k)), (0, .ref x0), (1, .int (nI a_1)), (2, .int (nI b_2))]) hx hb dX8_gap_65 rfl hl (by decide) rfl (fun ls hl => ?_)
                refine lv_iinc (v := nI (k + 1)) (lv' := [(4, .int (nI (k + 1))), (3, .int (nI k)), (0, .ref x0), (1, .int (nI a_1)), (2, .int (nI b_2))]) hx hb dX8_gap_66 hl (k := 1) rfl (my_incN k 1 (by decide +kernel)) (by decide) rfl (fun ls hl => ?_)
                refine lv_goto (tgt := 39) hx hb dX8_gap_69 (by decide) ?_
                have ec_22 : (nI k).toInt = _ := nI_toInt (by omega)
                exact ih39  (k + 1) (nI k) (by omega) (by first | assumption | omega | decide +kernel) _ _ ls hP hD hS (lv_sub hl [0, 1, 2, 3, 4] rfl)
        have ec_23 : (0 : Int32).toInt = 0 := by decide +kernel
        exact loop39 ((64 - 1) + 1) 1 (0 : Int32) (Nat.lt_succ_self _) (by first | assumption | omega | decide +kernel) _ _ ls hP hD hS (lv_sub hl [0, 1, 2, 3, 4] rfl)
      ·
        have d15 : z_6.toInt < (2 : Int) := my_nge c15 rfl (by decide +kernel)
        refine lv_bipush (v := (-2)) hx hb dX8_gap_18 (by decide +kernel) ?_
        exact my_retI hx hb hr hlocks hK hS (wl_k_X8_gap cI cJ cK x0 xn xl xt xo xf xs xp xq xr xc f1 f2 o1 (nI z) nf (nI fz) fn fs (nI oz) of) hP hD (⟨fz, fn, fs, oz, of, rfl, (by first | assumption | omega | trivial | decide +kernel), (by first | assumption | omega | trivial | decide +kernel)⟩) dX8_gap_20
    ·
      exact absurd c6 (by decide +kernel)
  ·
    refine lv_if_ne (tgt := 11) hx hb dX8_gap_6 (by decide) (fun c6 => ?_) (fun c6 => ?_)
    ·
      exact absurd c6 (by decide +kernel)
    ·
      refine lv_iconst (v := (-1)) hx hb dX8_gap_9 (by decide +kernel) ?_
      exact my_retI hx hb hr hlocks hK hS (wl_k_X8_gap cI cJ cK x0 xn xl xt xo xf xs xp xq xr xc f1 f2 o1 (nI z) nf (nI fz) fn fs (nI oz) of) hP hD (⟨fz, fn, fs, oz, of, rfl, (by first | assumption | omega | trivial | decide +kernel), (by first | assumption | omega | trivial | decide +kernel)⟩) dX8_gap_10
abbrev wl_k_X8_narrow (cI cJ cK : ClassId) (x0 : Nat) (xn : Nat) (xl : Nat) (xt : Nat) (xo : Nat) (xf : Nat) (xs : Nat) (xp : Nat) (xq : Nat) (xr : Nat) (xc : Nat) (o1 : Nat) (v0_ : Int32) (v1_ : Nat → Int32) (v2_ : Int32) (v3_ : Nat → Int64) : va_W := [(x0, .inr (8, [.ref xn, .int v0_, .ref xl, .ref xt, .ref xo, .ref xf, .ref xs, .ref xp, .ref xq, .ref xr, .ref xc])), (xn, .inl (cI, 64, .inl v1_)), (xo, .inr (7, [.ref o1, .int v2_])), (o1, .inl (cJ, 64, .inr (.inl v3_)))]
set_option maxHeartbeats 4000000 in
set_option maxRecDepth 100000 in
theorem k_X8_narrow (l : Launch) (D : va_G) (cI cJ cK : ClassId) (x0 : Nat) (xn : Nat) (xl : Nat) (xt : Nat) (xo : Nat) (xf : Nat) (xs : Nat) (xp : Nat) (xq : Nat) (xr : Nat) (xc : Nat) (o1 : Nat) (z : Nat) (nf : Nat → Int32) (oz : Nat) (of : Nat → Int64) (v9 : Int32) (m9 : Int32) (hz_z : z ≤ 64) (hR_nf : RB 0 255 nf) (hz_oz : oz ≤ 64) : ctI l yX8_narrow wsX8_narrow ({ frames := 2, cells := 0, slots := 0, locals := 120 } : Room) D (tyIJ cI cJ cK) [.ref x0, .int v9, .int m9] (wl_k_X8_narrow cI cJ cK x0 xn xl xt xo xf xs xp xq xr xc o1 (nI z) nf (nI oz) of) (fun (r : Int32) (u : va_W) => ∃ (oz' : Nat) (of' : Nat → Int64), u = (wl_k_X8_narrow cI cJ cK x0 xn xl xt xo xf xs xp xq xr xc o1 (nI z) nf (nI oz') of') ∧ oz' ≤ 64) := by
  refine ctI.of (cc := cX8_narrow) (maxL := 8) (ret := (some .int)) (by decide) rfl (Nat.le_of_ble_eq_true rfl) ?_
  intro p e s m below meth c ls A hx hb hr hts hown hml hlocks hname hA hK hN hP hD hS hl
  have hl : lv_has ls 8 [(0, .ref x0), (1, .int v9), (2, .int m9)] := hl
  have hown : s.vm.findClass RX8 = some m.cls := hown
  have hi8 : ∀ w ∈ u_ws RX8 TX8 11, w ∈ wsX8_narrow := by decide +kernel
  have fl13 := hts (.fieldLink RX8 13 "PlaneColumn" "size" "I") (by decide +kernel)
  have fl34 := hts (.fieldLink RX8 34 "PlaneColumn" "told" "LPlaneColumn$Told;") (by decide +kernel)
  refine lv_iload_n hx hb dX8_narrow_0 rfl (lv_at hl 1 rfl) ?_
  refine my_gpI (my_pS (As := [.int v9]) (rest := []) ⟨hx, hb, hml, hown, hts⟩ (va_cwS 1 hts gX8_narrow_X8_isNumber rfl rfl rfl (by decide +kernel) ⟨Nat.le_of_ble_eq_true rfl, Nat.le_of_ble_eq_true rfl⟩) hN hK hP [] rfl rfl hl.1 rfl (Nat.le_of_ble_eq_true rfl) dX8_narrow_1 ⟨Nat.le_of_ble_eq_true rfl, Nat.le_of_ble_eq_true rfl⟩  (k_X8_isNumber l D cI cJ cK v9)) (fun r hp => ?_)
  rcases hp with ⟨k_1, rfl, rfl, ha_2⟩ | ⟨rfl, ho_3⟩
  ·
    refine lv_if_eq (tgt := 14) hx hb dX8_narrow_4 (by decide) (fun c4 => ?_) (fun c4 => ?_)
    ·
      exact absurd c4 (by decide +kernel)
    ·
      refine lv_iload_n hx hb dX8_narrow_7 rfl (lv_at hl 2 rfl) ?_
      refine my_gpI (my_pS (As := [.int m9]) (rest := []) ⟨hx, hb, hml, hown, hts⟩ (va_cwS 1 hts gX8_narrow_X8_isTimes rfl rfl rfl (by decide +kernel) ⟨Nat.le_of_ble_eq_true rfl, Nat.le_of_ble_eq_true rfl⟩) hN hK hP [] rfl rfl hl.1 rfl (Nat.le_of_ble_eq_true rfl) dX8_narrow_8 ⟨Nat.le_of_ble_eq_true rfl, Nat.le_of_ble_eq_true rfl⟩  (k_X8_isTimes l D cI cJ cK m9)) (fun r hp => ?_)
      rcases hp with ⟨k_4, rfl, rfl, ha_5, hb_6⟩ | ⟨rfl, ho_7⟩
      ·
        refine lv_if_ne (tgt := 16) hx hb dX8_narrow_11 (by decide) (fun c11 => ?_) (fun c11 => ?_)
        ·
          refine lv_bipush (v := 65) hx hb dX8_narrow_16 (by decide +kernel) ?_
          refine lv_istore_n (lv' := [(3, .int 65), (0, .ref x0), (1, .int (nI k_1)), (2, .int (nI k_4))]) hx hb dX8_narrow_18 rfl hl (by decide) rfl (fun ls hl => ?_)
          refine lv_iconst (v := 0) hx hb dX8_narrow_19 (by decide +kernel) ?_
          refine lv_istore (lv' := [(4, .int 0), (3, .int 65), (0, .ref x0), (1, .int (nI k_1)), (2, .int (nI k_4))]) hx hb dX8_narrow_20 hl (by decide) rfl (fun ls hl => ?_)
          refine lv_iconst (v := 0) hx hb dX8_narrow_22 (by decide +kernel) ?_
          refine lv_istore (lv' := [(5, .int 0), (4, .int 0), (3, .int 65), (0, .ref x0), (1, .int (nI k_1)), (2, .int (nI k_4))]) hx hb dX8_narrow_23 hl (by decide) rfl (fun ls hl => ?_)
          refine lv_iconst (v := 0) hx hb dX8_narrow_25 (by decide +kernel) ?_
          refine lv_istore (lv' := [(6, .int 0), (5, .int 0), (4, .int 0), (3, .int 65), (0, .ref x0), (1, .int (nI k_1)), (2, .int (nI k_4))]) hx hb dX8_narrow_26 hl (by decide) rfl (fun ls hl => ?_)
          have loop28 : ∀ (n9 : Nat) (k : Nat) (y5_28 : Int32) (y4_28 : Int32) (y3_28 : Int32), 64 - k < n9 → (k ≤ 64) → ∀ (H : Heap) (locs : List Loc) (ls : Array Slot), va_P D vwCl (wl_k_X8_narrow cI cJ cK x0 xn xl xt xo xf xs xp xq xr xc o1 (nI z) nf (nI oz) of) H → va_D A (wl_k_X8_narrow cI cJ cK x0 xn xl xt xo xf xs xp xq xr xc o1 (nI z) nf (nI oz) of) → va_S A s.heap H locs → lv_has ls 8 [(6, .int (nI k)), (5, .int y5_28), (4, .int y4_28), (3, .int y3_28), (0, .ref x0), (1, .int (nI k_1)), (2, .int (nI k_4))] → W p l e ({ frames := 2, cells := 0, slots := 0, locals := 120 } : Room) s m [.ref x0, .int (nI k_1), .int (nI k_4)].toArray below meth c H locs 0 0 (MQ below (va_Qi (fun (r : Int32) (u : va_W) => ∃ (oz' : Nat) (of' : Nat → Int64), u = (wl_k_X8_narrow cI cJ cK x0 xn xl xt xo xf xs xp xq xr xc o1 (nI z) nf (nI oz') of') ∧ oz' ≤ 64) (my_B D (tyIJ cI cJ cK) A) A) [.ref x0, .int (nI k_1), .int (nI k_4)].toArray s 0 0 A) (F0 m 28 ls []) := by
            intro n9
            induction n9 with
            | zero =>
              intro k y5_28 y4_28 y3_28 hn9
              exact absurd hn9 (Nat.not_lt_zero _)
            | succ n9 ih28 =>
              intro k y5_28 y4_28 y3_28 hn9 hk_k H locs ls hP hD hS hl
              refine lv_iload hx hb dX8_narrow_28 (lv_at hl 0 rfl) ?_
              refine lv_aload_n hx hb dX8_narrow_30 rfl (lv_at hl 4 rfl) ?_
              refine va_get (ci := 8) (v := .int (nI z)) (C := RX8) (T := TX8) (N := 11) hx hb hts hi8 hown hK hP 0 rfl rfl 1 (by decide) fl13 (fun _ h9 => h9) rfl dX8_narrow_31 ?_
              refine lv_icmp_ge (tgt := 87) hx hb dX8_narrow_34 (by decide) (fun c34 => ?_) (fun c34 => ?_)
              ·
                have d34 : ((k : Nat) : Int) ≥ ((z : Nat) : Int) := my_ge c34 (nI_toInt (by omega)) (nI_toInt (by omega))
                refine lv_iload hx hb dX8_narrow_87 (lv_at hl 1 rfl) ?_
                refine lv_if_ne (tgt := 95) hx hb dX8_narrow_89 (by decide) (fun c89 => ?_) (fun c89 => ?_)
                ·
                  have d89 : y5_28.toInt ≠ (0 : Int) := my_ne c89 rfl (by decide +kernel)
                  refine lv_aload_n hx hb dX8_narrow_95 rfl (lv_at hl 4 rfl) ?_
                  refine lv_iload hx hb dX8_narrow_96 (lv_at hl 2 rfl) ?_
                  refine lv_i2l (v := y4_28.toInt64) hx hb dX8_narrow_98 rfl ?_
                  refine lv_iload hx hb dX8_narrow_99 (lv_at hl 2 rfl) ?_
                  refine lv_iload_n hx hb dX8_narrow_101 rfl (lv_at hl 3 rfl) ?_
                  refine lv_iadd hx hb dX8_narrow_102 ?_
                  refine lv_topi (fun z_8 ez_8 => ?_)
                  try have tz_8 : z_8.toInt = y4_28.toInt + y3_28.toInt := by rw [ez_8]; exact my_addI rfl rfl (by omega) (by omega)
                  refine lv_i2l (v := z_8.toInt64) hx hb dX8_narrow_103 rfl ?_
                  refine my_goVS (wc := (wl_k_X8_tell_ cI cJ cK x0 xn xl xt xo xf xs xp xq xr xc o1 (nI z) (nI oz) of)) hP hD hS hA [0, 2, 3] rfl [some 0, none, some 1, some 2] (by decide +kernel) (my_cV (As := [.long y4_28.toInt64, .long z_8.toInt64]) (rest := []) (ci := 8) (wc := (wl_k_X8_tell_ cI cJ cK x0 xn xl xt xo xf xs xp xq xr xc o1 (nI z) (nI oz) of)) ⟨hx, hb, hml, hown, hts⟩ (cwV 2 hts gX8_narrow_X8_tell_ rfl rfl rfl (by decide +kernel) ⟨Nat.le_of_ble_eq_true rfl, Nat.le_of_ble_eq_true rfl⟩) hN hK hP hD [0, 2, 3] rfl (by decide) rfl 0 rfl rfl rfl rfl hl.1 rfl (Nat.le_of_ble_eq_true rfl) dX8_narrow_104 ⟨Nat.le_of_ble_eq_true rfl, Nat.le_of_ble_eq_true rfl⟩  ((k_X8_tell_ l D cI cJ cK x0 xn xl xt xo xf xs xp xq xr xc o1 z oz of y4_28.toInt64 z_8.toInt64 (by first | assumption | omega | decide +kernel) (by first | assumption | omega | decide +kernel)) _)) (fun u H locs hp hPD hS => ?_)
                  obtain ⟨oz_9, of_10, rfl, hhz_oz_11⟩ := hp
                  obtain ⟨hP, hD⟩ := hPD rfl
                  have hP : va_P D vwCl (wl_k_X8_narrow cI cJ cK x0 xn xl xt xo xf xs xp xq xr xc o1 (nI z) nf (nI oz_9) of_10) H := hP
                  have hD : va_D A (wl_k_X8_narrow cI cJ cK x0 xn xl xt xo xf xs xp xq xr xc o1 (nI z) nf (nI oz_9) of_10) := hD
                  refine lv_aload_n hx hb dX8_narrow_107 rfl (lv_at hl 4 rfl) ?_
                  refine va_get (ci := 8) (v := .ref xo) (C := RX8) (T := TX8) (N := 11) hx hb hts hi8 hown hK hP 0 rfl rfl 4 (by decide) fl34 (fun _ h9 => h9) rfl dX8_narrow_108 ?_
                  refine lv_iload hx hb dX8_narrow_111 (lv_at hl 1 rfl) ?_
                  refine lv_i2l (v := y5_28.toInt64) hx hb dX8_narrow_113 rfl ?_
                  refine my_goVS (wc := (wl_k_X7_add cI cJ cK xo o1 (nI oz_9) of_10)) hP hD hS hA [2, 3] rfl [none, none, some 0, some 1] (by decide +kernel) (my_cV (As := [.long y5_28.toInt64]) (rest := []) (ci := 7) (wc := (wl_k_X7_add cI cJ cK xo o1 (nI oz_9) of_10)) ⟨hx, hb, hml, hown, hts⟩ (cwV 1 hts gX8_narrow_X7_add rfl rfl rfl (by decide +kernel) ⟨Nat.le_of_ble_eq_true rfl, Nat.le_of_ble_eq_true rfl⟩) hN hK hP hD [2, 3] rfl (by decide) rfl 2 rfl rfl rfl rfl hl.1 rfl (Nat.le_of_ble_eq_true rfl) dX8_narrow_114 ⟨Nat.le_of_ble_eq_true rfl, Nat.le_of_ble_eq_true rfl⟩  ((k_X7_add l D cI cJ cK xo o1 oz_9 of_10 y5_28.toInt64 (by first | assumption | omega | decide +kernel)) _)) (fun u H locs hp hPD hS => ?_)
                  obtain ⟨oz_12, of_13, rfl, hhz_oz_14⟩ := hp
                  obtain ⟨hP, hD⟩ := hPD rfl
                  have hP : va_P D vwCl (wl_k_X8_narrow cI cJ cK x0 xn xl xt xo xf xs xp xq xr xc o1 (nI z) nf (nI oz_12) of_13) H := hP
                  have hD : va_D A (wl_k_X8_narrow cI cJ cK x0 xn xl xt xo xf xs xp xq xr xc o1 (nI z) nf (nI oz_12) of_13) := hD
                  refine lv_iload_n hx hb dX8_narrow_117 rfl (lv_at hl 3 rfl) ?_
                  exact my_retI hx hb hr hlocks hK hS (wl_k_X8_narrow cI cJ cK x0 xn xl xt xo xf xs xp xq xr xc o1 (nI z) nf (nI oz_12) of_13) hP hD (⟨oz_12, of_13, rfl, (by first | assumption | omega | trivial | decide +kernel)⟩) dX8_narrow_118
                ·
                  have d89 : y5_28.toInt = (0 : Int) := my_eq c89 rfl (by decide +kernel)
                  refine lv_bipush (v := (-2)) hx hb dX8_narrow_92 (by decide +kernel) ?_
                  exact my_retI hx hb hr hlocks hK hS (wl_k_X8_narrow cI cJ cK x0 xn xl xt xo xf xs xp xq xr xc o1 (nI z) nf (nI oz) of) hP hD (⟨oz, of, rfl, (by first | assumption | omega | trivial | decide +kernel)⟩) dX8_narrow_94
              ·
                have d34 : ((k : Nat) : Int) < ((z : Nat) : Int) := my_nge c34 (nI_toInt (by omega)) (nI_toInt (by omega))
                refine lv_aload_n hx hb dX8_narrow_37 rfl (lv_at hl 4 rfl) ?_
                refine lv_iload_n hx hb dX8_narrow_38 rfl (lv_at hl 5 rfl) ?_
                refine lv_iload_n hx hb dX8_narrow_39 rfl (lv_at hl 6 rfl) ?_
                refine lv_iload hx hb dX8_narrow_40 (lv_at hl 0 rfl) ?_
                refine my_gpI (my_pV (As := [.int (nI k_1), .int (nI k_4), .int (nI k)]) (rest := []) (ci := 8) ⟨hx, hb, hml, hown, hts⟩ (cwV 3 hts gX8_narrow_X8_lengthWith rfl rfl rfl (by decide +kernel) ⟨Nat.le_of_ble_eq_true rfl, Nat.le_of_ble_eq_true rfl⟩) hN hK hP [0, 1] rfl 0 rfl rfl rfl rfl hl.1 rfl (Nat.le_of_ble_eq_true rfl) dX8_narrow_42 ⟨Nat.le_of_ble_eq_true rfl, Nat.le_of_ble_eq_true rfl⟩  (k_X8_lengthWith l D cI cJ cK x0 xn xl xt xo xf xs xp xq xr xc z nf (nI k_1) (nI k_4) k (by first | assumption | omega | decide +kernel) hR_nf (by first | assumption | omega | decide +kernel))) (fun r hp => ?_)
                obtain _ := hp
                obtain ⟨r_15, rfl⟩ : ∃ z, z = r := ⟨_, rfl⟩
                refine lv_istore (lv' := [(7, .int r_15), (6, .int (nI k)), (5, .int y5_28), (4, .int y4_28), (3, .int y3_28), (0, .ref x0), (1, .int (nI k_1)), (2, .int (nI k_4))]) hx hb dX8_narrow_45 hl (by decide) rfl (fun ls hl => ?_)
                refine lv_iload hx hb dX8_narrow_47 (lv_at hl 0 rfl) ?_
                refine lv_iconst (v := (-1)) hx hb dX8_narrow_49 (by decide +kernel) ?_
                refine lv_icmp_eq (tgt := 72) hx hb dX8_narrow_50 (by decide) (fun c50 => ?_) (fun c50 => ?_)
                ·
                  have d50 : r_15.toInt = (-1 : Int) := my_eq c50 rfl (by decide +kernel)
                  refine lv_iload hx hb dX8_narrow_72 (lv_at hl 0 rfl) ?_
                  refine lv_iload_n hx hb dX8_narrow_74 rfl (lv_at hl 4 rfl) ?_
                  refine lv_icmp_ne (tgt := 81) hx hb dX8_narrow_75 (by decide) (fun c75 => ?_) (fun c75 => ?_)
                  ·
                    have d75 : r_15.toInt ≠ y3_28.toInt := my_ne c75 rfl rfl
                    refine lv_iinc (v := nI (k + 1)) (lv' := [(6, .int (nI (k + 1))), (7, .int r_15), (5, .int y5_28), (4, .int y4_28), (3, .int y3_28), (0, .ref x0), (1, .int (nI k_1)), (2, .int (nI k_4))]) hx hb dX8_narrow_81 hl (k := 1) rfl (my_incN k 1 (by decide +kernel)) (by decide) rfl (fun ls hl => ?_)
                    refine lv_goto (tgt := 28) hx hb dX8_narrow_84 (by decide) ?_
                    exact ih28  (k + 1) y5_28 y4_28 y3_28 (by omega) (by first | assumption | omega | decide +kernel) _ _ ls hP hD hS (lv_sub hl [0, 2, 3, 4, 5, 6, 7] rfl)
                  ·
                    have d75 : r_15.toInt = y3_28.toInt := my_eq c75 rfl rfl
                    obtain ⟨z_16, ez_16⟩ : ∃ y : Int32, y = y5_28 + (1) := ⟨_, rfl⟩
                    try have tz_16 : z_16.toInt = y5_28.toInt + (1) := by rw [ez_16]; exact my_addI rfl (by decide +kernel) (by omega) (by omega)
                    refine lv_iinc (v := z_16) (lv' := [(5, .int z_16), (7, .int r_15), (6, .int (nI k)), (4, .int y4_28), (3, .int y3_28), (0, .ref x0), (1, .int (nI k_1)), (2, .int (nI k_4))]) hx hb dX8_narrow_78 hl (k := 2) rfl (by rw [ez_16]; rfl) (by decide) rfl (fun ls hl => ?_)
                    refine lv_iinc (v := nI (k + 1)) (lv' := [(6, .int (nI (k + 1))), (5, .int z_16), (7, .int r_15), (4, .int y4_28), (3, .int y3_28), (0, .ref x0), (1, .int (nI k_1)), (2, .int (nI k_4))]) hx hb dX8_narrow_81 hl (k := 2) rfl (my_incN k 1 (by decide +kernel)) (by decide) rfl (fun ls hl => ?_)
                    refine lv_goto (tgt := 28) hx hb dX8_narrow_84 (by decide) ?_
                    exact ih28  (k + 1) z_16 y4_28 y3_28 (by omega) (by first | assumption | omega | decide +kernel) _ _ ls hP hD hS (lv_sub hl [0, 1, 3, 4, 5, 6, 7] rfl)
                ·
                  have d50 : r_15.toInt ≠ (-1 : Int) := my_ne c50 rfl (by decide +kernel)
                  refine lv_iload hx hb dX8_narrow_53 (lv_at hl 0 rfl) ?_
                  refine lv_iload_n hx hb dX8_narrow_55 rfl (lv_at hl 4 rfl) ?_
                  refine lv_icmp_ge (tgt := 72) hx hb dX8_narrow_56 (by decide) (fun c56 => ?_) (fun c56 => ?_)
                  ·
                    have d56 : r_15.toInt ≥ y3_28.toInt := my_ge c56 rfl rfl
                    refine lv_iload hx hb dX8_narrow_72 (lv_at hl 0 rfl) ?_
                    refine lv_iload_n hx hb dX8_narrow_74 rfl (lv_at hl 4 rfl) ?_
                    refine lv_icmp_ne (tgt := 81) hx hb dX8_narrow_75 (by decide) (fun c75 => ?_) (fun c75 => ?_)
                    ·
                      have d75 : r_15.toInt ≠ y3_28.toInt := my_ne c75 rfl rfl
                      refine lv_iinc (v := nI (k + 1)) (lv' := [(6, .int (nI (k + 1))), (7, .int r_15), (5, .int y5_28), (4, .int y4_28), (3, .int y3_28), (0, .ref x0), (1, .int (nI k_1)), (2, .int (nI k_4))]) hx hb dX8_narrow_81 hl (k := 1) rfl (my_incN k 1 (by decide +kernel)) (by decide) rfl (fun ls hl => ?_)
                      refine lv_goto (tgt := 28) hx hb dX8_narrow_84 (by decide) ?_
                      exact ih28  (k + 1) y5_28 y4_28 y3_28 (by omega) (by first | assumption | omega | decide +kernel) _ _ ls hP hD hS (lv_sub hl [0, 2, 3, 4, 5, 6, 7] rfl)
                    ·
                      have d75 : r_15.toInt = y3_28.toInt := my_eq c75 rfl rfl
                      obtain ⟨z_17, ez_17⟩ : ∃ y : Int32, y = y5_28 + (1) := ⟨_, rfl⟩
                      try have tz_17 : z_17.toInt = y5_28.toInt + (1) := by rw [ez_17]; exact my_addI rfl (by decide +kernel) (by omega) (by omega)
                      refine lv_iinc (v := z_17) (lv' := [(5, .int z_17), (7, .int r_15), (6, .int (nI k)), (4, .int y4_28), (3, .int y3_28), (0, .ref x0), (1, .int (nI k_1)), (2, .int (nI k_4))]) hx hb dX8_narrow_78 hl (k := 2) rfl (by rw [ez_17]; rfl) (by decide) rfl (fun ls hl => ?_)
                      refine lv_iinc (v := nI (k + 1)) (lv' := [(6, .int (nI (k + 1))), (5, .int z_17), (7, .int r_15), (4, .int y4_28), (3, .int y3_28), (0, .ref x0), (1, .int (nI k_1)), (2, .int (nI k_4))]) hx hb dX8_narrow_81 hl (k := 2) rfl (my_incN k 1 (by decide +kernel)) (by decide) rfl (fun ls hl => ?_)
                      refine lv_goto (tgt := 28) hx hb dX8_narrow_84 (by decide) ?_
                      exact ih28  (k + 1) z_17 y4_28 y3_28 (by omega) (by first | assumption | omega | decide +kernel) _ _ ls hP hD hS (lv_sub hl [0, 1, 3, 4, 5, 6, 7] rfl)
                  ·
                    have d56 : r_15.toInt < y3_28.toInt := my_nge c56 rfl rfl
                    refine lv_iload hx hb dX8_narrow_59 (lv_at hl 0 rfl) ?_
                    refine lv_istore_n (lv' := [(3, .int r_15), (7, .int r_15), (6, .int (nI k)), (5, .int y5_28), (4, .int y4_28), (0, .ref x0), (1, .int (nI k_1)), (2, .int (nI k_4))]) hx hb dX8_narrow_61 rfl hl (by decide) rfl (fun ls hl => ?_)
                    refine lv_iload hx hb dX8_narrow_62 (lv_at hl 2 rfl) ?_
                    refine lv_istore (lv' := [(4, .int (nI k)), (3, .int r_15), (7, .int r_15), (6, .int (nI k)), (5, .int y5_28), (0, .ref x0), (1, .int (nI k_1)), (2, .int (nI k_4))]) hx hb dX8_narrow_64 hl (by decide) rfl (fun ls hl => ?_)
                    refine lv_iconst (v := 1) hx hb dX8_narrow_66 (by decide +kernel) ?_
                    refine lv_istore (lv' := [(5, .int 1), (4, .int (nI k)), (3, .int r_15), (7, .int r_15), (6, .int (nI k)), (0, .ref x0), (1, .int (nI k_1)), (2, .int (nI k_4))]) hx hb dX8_narrow_67 hl (by decide) rfl (fun ls hl => ?_)
                    refine lv_goto (tgt := 81) hx hb dX8_narrow_69 (by decide) ?_
                    refine lv_iinc (v := nI (k + 1)) (lv' := [(6, .int (nI (k + 1))), (5, .int 1), (4, .int (nI k)), (3, .int r_15), (7, .int r_15), (0, .ref x0), (1, .int (nI k_1)), (2, .int (nI k_4))]) hx hb dX8_narrow_81 hl (k := 4) rfl (my_incN k 1 (by decide +kernel)) (by decide) rfl (fun ls hl => ?_)
                    refine lv_goto (tgt := 28) hx hb dX8_narrow_84 (by decide) ?_
                    have ec_18 : (1 : Int32).toInt = 1 := by decide +kernel
                    have ec_19 : (nI k).toInt = _ := nI_toInt (by omega)
                    exact ih28  (k + 1) (1 : Int32) (nI k) r_15 (by omega) (by first | assumption | omega | decide +kernel) _ _ ls hP hD hS (lv_sub hl [0, 1, 2, 3, 5, 6, 7] rfl)
          have ec_20 : (0 : Int32).toInt = 0 := by decide +kernel
          have ec_21 : (0 : Int32).toInt = 0 := by decide +kernel
          have ec_22 : (65 : Int32).toInt = 65 := by decide +kernel
          exact loop28 ((64 - 0) + 1) 0 (0 : Int32) (0 : Int32) (65 : Int32) (Nat.lt_succ_self _) (by first | assumption | omega | decide +kernel) _ _ ls hP hD hS (lv_sub hl [0, 1, 2, 3, 4, 5, 6] rfl)
        ·
          exact absurd c11 (by decide +kernel)
      ·
        refine lv_if_ne (tgt := 16) hx hb dX8_narrow_11 (by decide) (fun c11 => ?_) (fun c11 => ?_)
        ·
          exact absurd c11 (by decide +kernel)
        ·
          refine lv_iconst (v := (-1)) hx hb dX8_narrow_14 (by decide +kernel) ?_
          exact my_retI hx hb hr hlocks hK hS (wl_k_X8_narrow cI cJ cK x0 xn xl xt xo xf xs xp xq xr xc o1 (nI z) nf (nI oz) of) hP hD (⟨oz, of, rfl, (by first | assumption | omega | trivial | decide +kernel)⟩) dX8_narrow_15
  ·
    refine lv_if_eq (tgt := 14) hx hb dX8_narrow_4 (by decide) (fun c4 => ?_) (fun c4 => ?_)
    ·
      refine lv_iconst (v := (-1)) hx hb dX8_narrow_14 (by decide +kernel) ?_
      exact my_retI hx hb hr hlocks hK hS (wl_k_X8_narrow cI cJ cK x0 xn xl xt xo xf xs xp xq xr xc o1 (nI z) nf (nI oz) of) hP hD (⟨oz, of, rfl, (by first | assumption | omega | trivial | decide +kernel)⟩) dX8_narrow_15
    ·
      exact absurd c4 (by decide +kernel)
abbrev wl_k_X8_lone (cI cJ cK : ClassId) (x0 : Nat) (xn : Nat) (xl : Nat) (xt : Nat) (xo : Nat) (xf : Nat) (xs : Nat) (xp : Nat) (xq : Nat) (xr : Nat) (xc : Nat) (f1 : Nat) (f2 : Nat) (o1 : Nat) (v0_ : Int32) (v1_ : Nat → Int32) (v2_ : Int32) (v3_ : Nat → Int32) (v4_ : Nat → Int32) (v5_ : Int32) (v6_ : Nat → Int64) : va_W := [(x0, .inr (8, [.ref xn, .int v0_, .ref xl, .ref xt, .ref xo, .ref xf, .ref xs, .ref xp, .ref xq, .ref xr, .ref xc])), (xn, .inl (cI, 64, .inl v1_)), (xf, .inr (6, [.ref f1, .ref f2, .int v2_])), (f1, .inl (cI, 512, .inl v3_)), (f2, .inl (cI, 64, .inl v4_)), (xo, .inr (7, [.ref o1, .int v5_])), (o1, .inl (cJ, 64, .inr (.inl v6_)))]
set_option maxHeartbeats 4000000 in
set_option maxRecDepth 100000 in
theorem k_X8_lone (l : Launch) (D : va_G) (cI cJ cK : ClassId) (x0 : Nat) (xn : Nat) (xl : Nat) (xt : Nat) (xo : Nat) (xf : Nat) (xs : Nat) (xp : Nat) (xq : Nat) (xr : Nat) (xc : Nat) (f1 : Nat) (f2 : Nat) (o1 : Nat) (z : Nat) (nf : Nat → Int32) (fz : Nat) (fn : Nat → Int32) (fs : Nat → Int32) (oz : Nat) (of : Nat → Int64) (l9 : Int32) (r9 : Int32) (hz_z : z ≤ 64) (hR_nf : RB 0 255 nf) (hz_fz : fz ≤ 64) (hz_oz : oz ≤ 64) : ctI l yX8_lone wsX8_lone ({ frames := 4, cells := 0, slots := 0, locals := 240 } : Room) D (tyIJ cI cJ cK) [.ref x0, .int l9, .int r9] (wl_k_X8_lone cI cJ cK x0 xn xl xt xo xf xs xp xq xr xc f1 f2 o1 (nI z) nf (nI fz) fn fs (nI oz) of) (fun (r : Int32) (u : va_W) => ∃ (fz' : Nat) (fn' : Nat → Int32) (fs' : Nat → Int32) (oz' : Nat) (of' : Nat → Int64), u = (wl_k_X8_lone cI cJ cK x0 xn xl xt xo xf xs xp xq xr xc f1 f2 o1 (nI z) nf (nI fz') fn' fs' (nI oz') of') ∧ fz' ≤ 64 ∧ oz' ≤ 64) := by
  refine ctI.of (cc := cX8_lone) (maxL := 7) (ret := (some .int)) (by decide) rfl (Nat.le_of_ble_eq_true rfl) ?_
  intro p e s m below meth c ls A hx hb hr hts hown hml hlocks hname hA hK hN hP hD hS hl
  have hl : lv_has ls 7 [(0, .ref x0), (1, .int l9), (2, .int r9)] := hl
  have hown : s.vm.findClass RX8 = some m.cls := hown
  have hi8 : ∀ w ∈ u_ws RX8 TX8 11, w ∈ wsX8_lone := by decide +kernel
  have fl41 := hts (.fieldLink RX8 41 "PlaneColumn" "first" "LPlaneColumn$Tally;") (by decide +kernel)
  have fl9 := hts (.fieldLink RX8 9 "PlaneColumn" "numbers" "[I") (by decide +kernel)
  refine lv_aload_n hx hb dX8_lone_0 rfl (lv_at hl 0 rfl) ?_
  refine lv_iload_n hx hb dX8_lone_1 rfl (lv_at hl 1 rfl) ?_
  refine lv_iload_n hx hb dX8_lone_2 rfl (lv_at hl 2 rfl) ?_
  refine my_gpI (my_pV (As := [.int l9, .int r9]) (rest := []) (ci := 8) ⟨hx, hb, hml, hown, hts⟩ (cwV 2 hts gX8_lone_X8_isSpan rfl rfl rfl (by decide +kernel) ⟨Nat.le_of_ble_eq_true rfl, Nat.le_of_ble_eq_true rfl⟩) hN hK hP [0] rfl 0 rfl rfl rfl rfl hl.1 rfl (Nat.le_of_ble_eq_true rfl) dX8_lone_3 ⟨Nat.le_of_ble_eq_true rfl, Nat.le_of_ble_eq_true rfl⟩  (k_X8_isSpan l D cI cJ cK x0 xn xl xt xo xf xs xp xq xr xc z l9 r9 (by first | assumption | omega | decide +kernel))) (fun r hp => ?_)
  rcases hp with ⟨a_1, b_2, rfl, rfl, rfl, ha_3, hb_4⟩ | ⟨rfl, ho_5⟩
  ·
    refine lv_if_ne (tgt := 11) hx hb dX8_lone_6 (by decide) (fun c6 => ?_) (fun c6 => ?_)
    ·
      refine lv_aload_n hx hb dX8_lone_11 rfl (lv_at hl 0 rfl) ?_
      refine va_get (ci := 8) (v := .ref xf) (C := RX8) (T := TX8) (N := 11) hx hb hts hi8 hown hK hP 0 rfl rfl 5 (by decide) fl41 (fun _ h9 => h9) rfl dX8_lone_12 ?_
      refine lv_aload_n hx hb dX8_lone_15 rfl (lv_at hl 0 rfl) ?_
      refine va_get (ci := 8) (v := .ref xn) (C := RX8) (T := TX8) (N := 11) hx hb hts hi8 hown hK hP 0 rfl rfl 0 (by decide) fl9 (fun _ h9 => h9) rfl dX8_lone_16 ?_
      refine lv_iload_n hx hb dX8_lone_19 rfl (lv_at hl 1 rfl) ?_
      refine lv_iload_n hx hb dX8_lone_20 rfl (lv_at hl 2 rfl) ?_
      refine my_goVS (wc := (wl_k_X6_take cI cJ cK xf f1 f2 xn (nI fz) fn fs nf)) hP hD hS hA [2, 3, 4, 1] rfl [none, some 3, some 0, some 1, some 2] (by decide +kernel) (my_cV (As := [.ref xn, .int (nI a_1), .int (nI b_2)]) (rest := []) (ci := 6) (wc := (wl_k_X6_take cI cJ cK xf f1 f2 xn (nI fz) fn fs nf)) ⟨hx, hb, hml, hown, hts⟩ (cwV 3 hts gX8_lone_X6_take rfl rfl rfl (by decide +kernel) ⟨Nat.le_of_ble_eq_true rfl, Nat.le_of_ble_eq_true rfl⟩) hN hK hP hD [2, 3, 4, 1] rfl (by decide) rfl 2 rfl rfl rfl rfl hl.1 rfl (Nat.le_of_ble_eq_true rfl) dX8_lone_21 ⟨Nat.le_of_ble_eq_true rfl, Nat.le_of_ble_eq_true rfl⟩  ((k_X6_take l D cI cJ cK xf f1 f2 xn fz fn fs nf a_1 b_2 (by first | assumption | omega | decide +kernel) hR_nf (by first | assumption | omega | decide +kernel) (by first | assumption | omega | decide +kernel)) _)) (fun u H locs hp hPD hS => ?_)
      obtain ⟨fz_6, fn_7, fs_8, rfl, hhz_fz_9, hnd, hn8, hfz, hsv⟩ := hp
      obtain ⟨hP, hD⟩ := hPD rfl
      have hP : va_P D vwCl (wl_k_X8_lone cI cJ cK x0 xn xl xt xo xf xs xp xq xr xc f1 f2 o1 (nI z) nf (nI fz_6) fn_7 fs_8 (nI oz) of) H := hP
      have hD : va_D A (wl_k_X8_lone cI cJ cK x0 xn xl xt xo xf xs xp xq xr xc f1 f2 o1 (nI z) nf (nI fz_6) fn_7 fs_8 (nI oz) of) := hD
      refine lv_iconst (v := 0) hx hb dX8_lone_24 (by decide +kernel) ?_
      refine lv_istore_n (lv' := [(3, .int 0), (0, .ref x0), (1, .int (nI a_1)), (2, .int (nI b_2))]) hx hb dX8_lone_25 rfl hl (by decide) rfl (fun ls hl => ?_)
      refine lv_iconst (v := (-1)) hx hb dX8_lone_26 (by decide +kernel) ?_
      refine lv_istore (lv' := [(4, .int (-1)), (3, .int 0), (0, .ref x0), (1, .int (nI a_1)), (2, .int (nI b_2))]) hx hb dX8_lone_27 hl (by decide) rfl (fun ls hl => ?_)
      refine lv_iconst (v := (-1)) hx hb dX8_lone_29 (by decide +kernel) ?_
      refine lv_istore (lv' := [(5, .int (-1)), (4, .int (-1)), (3, .int 0), (0, .ref x0), (1, .int (nI a_1)), (2, .int (nI b_2))]) hx hb dX8_lone_30 hl (by decide) rfl (fun ls hl => ?_)
      refine lv_iconst (v := 0) hx hb dX8_lone_32 (by decide +kernel) ?_
      refine lv_istore (lv' := [(6, .int 0), (5, .int (-1)), (4, .int (-1)), (3, .int 0), (0, .ref x0), (1, .int (nI a_1)), (2, .int (nI b_2))]) hx hb dX8_lone_33 hl (by decide) rfl (fun ls hl => ?_)
      have loop35 : ∀ (n9 : Nat) (k : Nat) (y5_35 : Int32) (y4_35 : Int32) (y3_35 : Int32), 256 - k < n9 → (k ≤ 256) → ∀ (H : Heap) (locs : List Loc) (ls : Array Slot), va_P D vwCl (wl_k_X8_lone cI cJ cK x0 xn xl xt xo xf xs xp xq xr xc f1 f2 o1 (nI z) nf (nI fz_6) fn_7 fs_8 (nI oz) of) H → va_D A (wl_k_X8_lone cI cJ cK x0 xn xl xt xo xf xs xp xq xr xc f1 f2 o1 (nI z) nf (nI fz_6) fn_7 fs_8 (nI oz) of) → va_S A s.heap H locs → lv_has ls 7 [(6, .int (nI k)), (5, .int y5_35), (4, .int y4_35), (3, .int y3_35), (0, .ref x0), (1, .int (nI a_1)), (2, .int (nI b_2))] → W p l e ({ frames := 4, cells := 0, slots := 0, locals := 240 } : Room) s m [.ref x0, .int (nI a_1), .int (nI b_2)].toArray below meth c H locs 0 0 (MQ below (va_Qi (fun (r : Int32) (u : va_W) => ∃ (fz' : Nat) (fn' : Nat → Int32) (fs' : Nat → Int32) (oz' : Nat) (of' : Nat → Int64), u = (wl_k_X8_lone cI cJ cK x0 xn xl xt xo xf xs xp xq xr xc f1 f2 o1 (nI z) nf (nI fz') fn' fs' (nI oz') of') ∧ fz' ≤ 64 ∧ oz' ≤ 64) (my_B D (tyIJ cI cJ cK) A) A) [.ref x0, .int (nI a_1), .int (nI b_2)].toArray s 0 0 A) (F0 m 35 ls []) := by
        intro n9
        induction n9 with
        | zero =>
          intro k y5_35 y4_35 y3_35 hn9
          exact absurd hn9 (Nat.not_lt_zero _)
        | succ n9 ih35 =>
          intro k y5_35 y4_35 y3_35 hn9 hk_k H locs ls hP hD hS hl
          refine lv_iload hx hb dX8_lone_35 (lv_at hl 0 rfl) ?_
          refine lv_sipush (v := 255) hx hb dX8_lone_37 (by decide +kernel) ?_
          refine lv_icmp_gt (tgt := 84) hx hb dX8_lone_40 (by decide) (fun c40 => ?_) (fun c40 => ?_)
          ·
            have d40 : ((k : Nat) : Int) > (255 : Int) := my_gt c40 (nI_toInt (by omega)) (by decide +kernel)
            refine lv_aload_n hx hb dX8_lone_84 rfl (lv_at hl 4 rfl) ?_
            refine lv_iload hx hb dX8_lone_85 (lv_at hl 2 rfl) ?_
            refine lv_i2l (v := y4_35.toInt64) hx hb dX8_lone_87 rfl ?_
            refine lv_iload hx hb dX8_lone_88 (lv_at hl 1 rfl) ?_
            refine lv_i2l (v := y5_35.toInt64) hx hb dX8_lone_90 rfl ?_
            refine my_goVS (wc := (wl_k_X8_tell_ cI cJ cK x0 xn xl xt xo xf xs xp xq xr xc o1 (nI z) (nI oz) of)) hP hD hS hA [0, 5, 6] rfl [some 0, none, none, none, none, some 1, some 2] (by decide +kernel) (my_cV (As := [.long y4_35.toInt64, .long y5_35.toInt64]) (rest := []) (ci := 8) (wc := (wl_k_X8_tell_ cI cJ cK x0 xn xl xt xo xf xs xp xq xr xc o1 (nI z) (nI oz) of)) ⟨hx, hb, hml, hown, hts⟩ (cwV 2 hts gX8_lone_X8_tell_ rfl rfl rfl (by decide +kernel) ⟨Nat.le_of_ble_eq_true rfl, Nat.le_of_ble_eq_true rfl⟩) hN hK hP hD [0, 5, 6] rfl (by decide) rfl 0 rfl rfl rfl rfl hl.1 rfl (Nat.le_of_ble_eq_true rfl) dX8_lone_91 ⟨Nat.le_of_ble_eq_true rfl, Nat.le_of_ble_eq_true rfl⟩  ((k_X8_tell_ l D cI cJ cK x0 xn xl xt xo xf xs xp xq xr xc o1 z oz of y4_35.toInt64 y5_35.toInt64 (by first | assumption | omega | decide +kernel) (by first | assumption | omega | decide +kernel)) _)) (fun u H locs hp hPD hS => ?_)
            obtain ⟨oz_10, of_11, rfl, hhz_oz_12⟩ := hp
            obtain ⟨hP, hD⟩ := hPD rfl
            have hP : va_P D vwCl (wl_k_X8_lone cI cJ cK x0 xn xl xt xo xf xs xp xq xr xc f1 f2 o1 (nI z) nf (nI fz_6) fn_7 fs_8 (nI oz_10) of_11) H := hP
            have hD : va_D A (wl_k_X8_lone cI cJ cK x0 xn xl xt xo xf xs xp xq xr xc f1 f2 o1 (nI z) nf (nI fz_6) fn_7 fs_8 (nI oz_10) of_11) := hD
            refine lv_iload_n hx hb dX8_lone_94 rfl (lv_at hl 3 rfl) ?_
            exact my_retI hx hb hr hlocks hK hS (wl_k_X8_lone cI cJ cK x0 xn xl xt xo xf xs xp xq xr xc f1 f2 o1 (nI z) nf (nI fz_6) fn_7 fs_8 (nI oz_10) of_11) hP hD (⟨fz_6, fn_7, fs_8, oz_10, of_11, rfl, (by first | assumption | omega | trivial | decide +kernel), (by first | assumption | omega | trivial | decide +kernel)⟩) dX8_lone_95
          ·
            have d40 : ((k : Nat) : Int) ≤ (255 : Int) := my_ngt c40 (nI_toInt (by omega)) (by decide +kernel)
            refine lv_aload_n hx hb dX8_lone_43 rfl (lv_at hl 4 rfl) ?_
            refine va_get (ci := 8) (v := .ref xf) (C := RX8) (T := TX8) (N := 11) hx hb hts hi8 hown hK hP 0 rfl rfl 5 (by decide) fl41 (fun _ h9 => h9) rfl dX8_lone_44 ?_
            refine lv_iload hx hb dX8_lone_47 (lv_at hl 0 rfl) ?_
            refine my_gpI (my_pV (As := [.int (nI k)]) (rest := []) (ci := 6) ⟨hx, hb, hml, hown, hts⟩ (cwV 1 hts gX8_lone_X6_timesOf rfl rfl rfl (by decide +kernel) ⟨Nat.le_of_ble_eq_true rfl, Nat.le_of_ble_eq_true rfl⟩) hN hK hP [2, 3] rfl 2 rfl rfl rfl rfl hl.1 rfl (Nat.le_of_ble_eq_true rfl) dX8_lone_49 ⟨Nat.le_of_ble_eq_true rfl, Nat.le_of_ble_eq_true rfl⟩  (k_X6_timesOf l D cI cJ cK xf f1 f2 fz_6 fn_7 (nI k) (by first | assumption | omega | decide +kernel))) (fun r hp => ?_)
            obtain _ := hp
            obtain ⟨r_13, rfl⟩ : ∃ z, z = r := ⟨_, rfl⟩
            refine lv_iconst (v := 1) hx hb dX8_lone_52 (by decide +kernel) ?_
            refine lv_icmp_ne (tgt := 78) hx hb dX8_lone_53 (by decide) (fun c53 => ?_) (fun c53 => ?_)
            ·
              have d53 : r_13.toInt ≠ (1 : Int) := my_ne c53 rfl (by decide +kernel)
              refine lv_iinc (v := nI (k + 1)) (lv' := [(6, .int (nI (k + 1))), (5, .int y5_35), (4, .int y4_35), (3, .int y3_35), (0, .ref x0), (1, .int (nI a_1)), (2, .int (nI b_2))]) hx hb dX8_lone_78 hl (k := 0) rfl (my_incN k 1 (by decide +kernel)) (by decide) rfl (fun ls hl => ?_)
              refine lv_goto (tgt := 35) hx hb dX8_lone_81 (by decide) ?_
              exact ih35  (k + 1) y5_35 y4_35 y3_35 (by omega) (by first | assumption | omega | decide +kernel) _ _ ls hP hD hS (lv_sub hl [0, 1, 2, 3, 4, 5, 6] rfl)
            ·
              have d53 : r_13.toInt = (1 : Int) := my_eq c53 rfl (by decide +kernel)
              obtain ⟨z_14, ez_14⟩ : ∃ y : Int32, y = y3_35 + (1) := ⟨_, rfl⟩
              try have tz_14 : z_14.toInt = y3_35.toInt + (1) := by rw [ez_14]; exact my_addI rfl (by decide +kernel) (by omega) (by omega)
              refine lv_iinc (v := z_14) (lv' := [(3, .int z_14), (6, .int (nI k)), (5, .int y5_35), (4, .int y4_35), (0, .ref x0), (1, .int (nI a_1)), (2, .int (nI b_2))]) hx hb dX8_lone_56 hl (k := 3) rfl (by rw [ez_14]; rfl) (by decide) rfl (fun ls hl => ?_)
              refine lv_iload hx hb dX8_lone_59 (lv_at hl 3 rfl) ?_
              refine lv_iconst (v := (-1)) hx hb dX8_lone_61 (by decide +kernel) ?_
              refine lv_icmp_ne (tgt := 70) hx hb dX8_lone_62 (by decide) (fun c62 => ?_) (fun c62 => ?_)
              ·
                have d62 : y4_35.toInt ≠ (-1 : Int) := my_ne c62 rfl (by decide +kernel)
                refine lv_iload hx hb dX8_lone_70 (lv_at hl 3 rfl) ?_
                refine lv_istore (lv' := [(4, .int y4_35), (3, .int z_14), (6, .int (nI k)), (5, .int y5_35), (0, .ref x0), (1, .int (nI a_1)), (2, .int (nI b_2))]) hx hb dX8_lone_72 hl (by decide) rfl (fun ls hl => ?_)
                refine lv_iload hx hb dX8_lone_74 (lv_at hl 2 rfl) ?_
                refine lv_istore (lv' := [(5, .int (nI k)), (4, .int y4_35), (3, .int z_14), (6, .int (nI k)), (0, .ref x0), (1, .int (nI a_1)), (2, .int (nI b_2))]) hx hb dX8_lone_76 hl (by decide) rfl (fun ls hl => ?_)
                refine lv_iinc (v := nI (k + 1)) (lv' := [(6, .int (nI (k + 1))), (5, .int (nI k)), (4, .int y4_35), (3, .int z_14), (0, .ref x0), (1, .int (nI a_1)), (2, .int (nI b_2))]) hx hb dX8_lone_78 hl (k := 3) rfl (my_incN k 1 (by decide +kernel)) (by decide) rfl (fun ls hl => ?_)
                refine lv_goto (tgt := 35) hx hb dX8_lone_81 (by decide) ?_
                have ec_15 : (nI k).toInt = _ := nI_toInt (by omega)
                exact ih35  (k + 1) (nI k) y4_35 z_14 (by omega) (by first | assumption | omega | decide +kernel) _ _ ls hP hD hS (lv_sub hl [0, 1, 2, 3, 4, 5, 6] rfl)
              ·
                have d62 : y4_35.toInt = (-1 : Int) := my_eq c62 rfl (by decide +kernel)
                refine lv_iload hx hb dX8_lone_65 (lv_at hl 1 rfl) ?_
                refine lv_goto (tgt := 72) hx hb dX8_lone_67 (by decide) ?_
                refine lv_istore (lv' := [(4, .int (nI k)), (3, .int z_14), (6, .int (nI k)), (5, .int y5_35), (0, .ref x0), (1, .int (nI a_1)), (2, .int (nI b_2))]) hx hb dX8_lone_72 hl (by decide) rfl (fun ls hl => ?_)
                refine lv_iload hx hb dX8_lone_74 (lv_at hl 2 rfl) ?_
                refine lv_istore (lv' := [(5, .int (nI k)), (4, .int (nI k)), (3, .int z_14), (6, .int (nI k)), (0, .ref x0), (1, .int (nI a_1)), (2, .int (nI b_2))]) hx hb dX8_lone_76 hl (by decide) rfl (fun ls hl => ?_)
                refine lv_iinc (v := nI (k + 1)) (lv' := [(6, .int (nI (k + 1))), (5, .int (nI k)), (4, .int (nI k)), (3, .int z_14), (0, .ref x0), (1, .int (nI a_1)), (2, .int (nI b_2))]) hx hb dX8_lone_78 hl (k := 3) rfl (my_incN k 1 (by decide +kernel)) (by decide) rfl (fun ls hl => ?_)
                refine lv_goto (tgt := 35) hx hb dX8_lone_81 (by decide) ?_
                have ec_16 : (nI k).toInt = _ := nI_toInt (by omega)
                have ec_17 : (nI k).toInt = _ := nI_toInt (by omega)
                exact ih35  (k + 1) (nI k) (nI k) z_14 (by omega) (by first | assumption | omega | decide +kernel) _ _ ls hP hD hS (lv_sub hl [0, 1, 2, 3, 4, 5, 6] rfl)
      have ec_18 : (-1 : Int32).toInt = -1 := by decide +kernel
      have ec_19 : (-1 : Int32).toInt = -1 := by decide +kernel
      have ec_20 : (0 : Int32).toInt = 0 := by decide +kernel
      exact loop35 ((256 - 0) + 1) 0 (-1 : Int32) (-1 : Int32) (0 : Int32) (Nat.lt_succ_self _) (by first | assumption | omega | decide +kernel) _ _ ls hP hD hS (lv_sub hl [0, 1, 2, 3, 4, 5, 6] rfl)
    ·
      exact absurd c6 (by decide +kernel)
  ·
    refine lv_if_ne (tgt := 11) hx hb dX8_lone_6 (by decide) (fun c6 => ?_) (fun c6 => ?_)
    ·
      exact absurd c6 (by decide +kernel)
    ·
      refine lv_iconst (v := (-1)) hx hb dX8_lone_9 (by decide +kernel) ?_
      exact my_retI hx hb hr hlocks hK hS (wl_k_X8_lone cI cJ cK x0 xn xl xt xo xf xs xp xq xr xc f1 f2 o1 (nI z) nf (nI fz) fn fs (nI oz) of) hP hD (⟨fz, fn, fs, oz, of, rfl, (by first | assumption | omega | trivial | decide +kernel), (by first | assumption | omega | trivial | decide +kernel)⟩) dX8_lone_10
abbrev wl_k_X8_rises (cI cJ cK : ClassId) (x0 : Nat) (xn : Nat) (xl : Nat) (xt : Nat) (xo : Nat) (xf : Nat) (xs : Nat) (xp : Nat) (xq : Nat) (xr : Nat) (xc : Nat) (c1 : Nat) (c2 : Nat) (o1 : Nat) (v0_ : Int32) (v1_ : Nat → Int32) (v2_ : Int32) (v3_ : Nat → Int32) (v4_ : Nat → Int64) (v5_ : Int32) (v6_ : Nat → Int64) : va_W := [(x0, .inr (8, [.ref xn, .int v0_, .ref xl, .ref xt, .ref xo, .ref xf, .ref xs, .ref xp, .ref xq, .ref xr, .ref xc])), (xn, .inl (cI, 64, .inl v1_)), (xc, .inr (0, [.ref c1, .ref c2, .int v2_])), (c1, .inl (cI, 64, .inl v3_)), (c2, .inl (cJ, 64, .inr (.inl v4_))), (xo, .inr (7, [.ref o1, .int v5_])), (o1, .inl (cJ, 64, .inr (.inl v6_)))]
set_option maxHeartbeats 4000000 in
set_option maxRecDepth 100000 in
theorem k_X8_rises (l : Launch) (D : va_G) (cI cJ cK : ClassId) (x0 : Nat) (xn : Nat) (xl : Nat) (xt : Nat) (xo : Nat) (xf : Nat) (xs : Nat) (xp : Nat) (xq : Nat) (xr : Nat) (xc : Nat) (c1 : Nat) (c2 : Nat) (o1 : Nat) (z : Nat) (nf : Nat → Int32) (cl : Int32) (cg : Nat → Int32) (cw : Nat → Int64) (oz : Nat) (of : Nat → Int64) (l9 : Int32) (r9 : Int32) (hz_z : z ≤ 64) (hR_nf : RB 0 255 nf) (hz_oz : oz ≤ 64) : ctI l yX8_rises wsX8_rises ({ frames := 2, cells := 0, slots := 0, locals := 120 } : Room) D (tyIJ cI cJ cK) [.ref x0, .int l9, .int r9] (wl_k_X8_rises cI cJ cK x0 xn xl xt xo xf xs xp xq xr xc c1 c2 o1 (nI z) nf cl cg cw (nI oz) of) (fun (r : Int32) (u : va_W) => (u = (wl_k_X8_rises cI cJ cK x0 xn xl xt xo xf xs xp xq xr xc c1 c2 o1 (nI z) nf cl cg cw (nI oz) of) ∧ r = (-1) ∧ (l9.toInt < 0 ∨ r9.toInt < l9.toInt ∨ z < r9.toInt)) ∨ (∃ (cl' : Int32) (cg' : Nat → Int32) (cw' : Nat → Int64) (oz' : Nat) (of' : Nat → Int64), u = (wl_k_X8_rises cI cJ cK x0 xn xl xt xo xf xs xp xq xr xc c1 c2 o1 (nI z) nf cl' cg' cw' (nI oz') of') ∧ oz' ≤ 64 ∧ 0 ≤ l9.toInt ∧ l9.toInt ≤ r9.toInt ∧ r9.toInt ≤ z ∧ r.toInt = ((lmF nf l9.toInt.toNat r9.toInt.toNat : Nat) : Int) ∧ True)) := by
  refine ctI.of (cc := cX8_rises) (maxL := 4) (ret := (some .int)) (by decide) rfl (Nat.le_of_ble_eq_true rfl) ?_
  intro p e s m below meth c ls A hx hb hr hts hown hml hlocks hname hA hK hN hP hD hS hl
  have hl : lv_has ls 4 [(0, .ref x0), (1, .int l9), (2, .int r9)] := hl
  have hown : s.vm.findClass RX8 = some m.cls := hown
  have hi0 : ∀ w ∈ u_ws RX0 TX0 3, w ∈ wsX8_rises := by decide +kernel
  have hi8 : ∀ w ∈ u_ws RX8 TX8 11, w ∈ wsX8_rises := by decide +kernel
  have fl72 := hts (.fieldLink RX8 72 "PlaneColumn" "climbs" "LPlaneColumn$Climbs;") (by decide +kernel)
  have fl9 := hts (.fieldLink RX8 9 "PlaneColumn" "numbers" "[I") (by decide +kernel)
  refine lv_aload_n hx hb dX8_rises_0 rfl (lv_at hl 0 rfl) ?_
  refine lv_iload_n hx hb dX8_rises_1 rfl (lv_at hl 1 rfl) ?_
  refine lv_iload_n hx hb dX8_rises_2 rfl (lv_at hl 2 rfl) ?_
  refine my_gpI (my_pV (As := [.int l9, .int r9]) (rest := []) (ci := 8) ⟨hx, hb, hml, hown, hts⟩ (cwV 2 hts gX8_rises_X8_isSpan rfl rfl rfl (by decide +kernel) ⟨Nat.le_of_ble_eq_true rfl, Nat.le_of_ble_eq_true rfl⟩) hN hK hP [0] rfl 0 rfl rfl rfl rfl hl.1 rfl (Nat.le_of_ble_eq_true rfl) dX8_rises_3 ⟨Nat.le_of_ble_eq_true rfl, Nat.le_of_ble_eq_true rfl⟩  (k_X8_isSpan l D cI cJ cK x0 xn xl xt xo xf xs xp xq xr xc z l9 r9 (by first | assumption | omega | decide +kernel))) (fun r hp => ?_)
  rcases hp with ⟨a_1, b_2, rfl, rfl, rfl, ha_3, hb_4⟩ | ⟨rfl, ho_5⟩
  ·
    refine lv_if_ne (tgt := 11) hx hb dX8_rises_6 (by decide) (fun c6 => ?_) (fun c6 => ?_)
    ·
      refine lv_aload_n hx hb dX8_rises_11 rfl (lv_at hl 0 rfl) ?_
      refine va_get (ci := 8) (v := .ref xc) (C := RX8) (T := TX8) (N := 11) hx hb hts hi8 hown hK hP 0 rfl rfl 10 (by decide) fl72 (fun _ h9 => h9) rfl dX8_rises_12 ?_
      refine lv_aload_n hx hb dX8_rises_15 rfl (lv_at hl 0 rfl) ?_
      refine va_get (ci := 8) (v := .ref xn) (C := RX8) (T := TX8) (N := 11) hx hb hts hi8 hown hK hP 0 rfl rfl 0 (by decide) fl9 (fun _ h9 => h9) rfl dX8_rises_16 ?_
      refine lv_iload_n hx hb dX8_rises_19 rfl (lv_at hl 1 rfl) ?_
      refine lv_iload_n hx hb dX8_rises_20 rfl (lv_at hl 2 rfl) ?_
      refine my_goVS (wc := (wl_kf_X0_take cI cJ cK xc c1 c2 xn cl cg cw nf)) hP hD hS hA [2, 3, 4, 1] rfl [none, some 3, some 0, some 1, some 2] (by decide +kernel) (my_cV (As := [.ref xn, .int (nI a_1), .int (nI b_2)]) (rest := []) (ci := 0) (wc := (wl_kf_X0_take cI cJ cK xc c1 c2 xn cl cg cw nf)) ⟨hx, hb, hml, hown, hts⟩ (cwV 3 hts gX8_rises_X0_take rfl rfl rfl (by decide +kernel) ⟨Nat.le_of_ble_eq_true rfl, Nat.le_of_ble_eq_true rfl⟩) hN hK hP hD [2, 3, 4, 1] rfl (by decide) rfl 2 rfl rfl rfl rfl hl.1 rfl (Nat.le_of_ble_eq_true rfl) dX8_rises_21 ⟨Nat.le_of_ble_eq_true rfl, Nat.le_of_ble_eq_true rfl⟩  ((kf_X0_take l D cI cJ cK xc c1 c2 xn cl cg cw nf a_1 b_2 hR_nf (by first | assumption | omega | decide +kernel) (by first | assumption | omega | decide +kernel)) _)) (fun u H locs hp hPD hS => ?_)
      obtain ⟨cl_6, cg_7, cw_8, rfl, hlg, ht_9⟩ := hp
      obtain ⟨hP, hD⟩ := hPD rfl
      have hP : va_P D vwCl (wl_k_X8_rises cI cJ cK x0 xn xl xt xo xf xs xp xq xr xc c1 c2 o1 (nI z) nf cl_6 cg_7 cw_8 (nI oz) of) H := hP
      have hD : va_D A (wl_k_X8_rises cI cJ cK x0 xn xl xt xo xf xs xp xq xr xc c1 c2 o1 (nI z) nf cl_6 cg_7 cw_8 (nI oz) of) := hD
      refine lv_aload_n hx hb dX8_rises_24 rfl (lv_at hl 0 rfl) ?_
      refine va_get (ci := 8) (v := .ref xc) (C := RX8) (T := TX8) (N := 11) hx hb hts hi8 hown hK hP 0 rfl rfl 10 (by decide) fl72 (fun _ h9 => h9) rfl dX8_rises_25 ?_
      refine va_getN (ci := 0) (v := .int cl_6) (C := RX0) (T := TX0) (N := 3) hx hb hts hi0 hown hK hP 2 rfl rfl 2 (by decide) (nw_f_RX8_207 hN) (fun _ h9 => h9) rfl dX8_rises_28 ?_
      refine lv_istore_n (lv' := [(3, .int cl_6), (0, .ref x0), (1, .int (nI a_1)), (2, .int (nI b_2))]) hx hb dX8_rises_31 rfl hl (by decide) rfl (fun ls hl => ?_)
      refine lv_aload_n hx hb dX8_rises_32 rfl (lv_at hl 1 rfl) ?_
      refine lv_aload_n hx hb dX8_rises_33 rfl (lv_at hl 1 rfl) ?_
      refine va_get (ci := 8) (v := .ref xc) (C := RX8) (T := TX8) (N := 11) hx hb hts hi8 hown hK hP 0 rfl rfl 10 (by decide) fl72 (fun _ h9 => h9) rfl dX8_rises_34 ?_
      refine lv_aload_n hx hb dX8_rises_37 rfl (lv_at hl 1 rfl) ?_
      refine va_get (ci := 8) (v := .ref xn) (C := RX8) (T := TX8) (N := 11) hx hb hts hi8 hown hK hP 0 rfl rfl 0 (by decide) fl9 (fun _ h9 => h9) rfl dX8_rises_38 ?_
      refine lv_iload_n hx hb dX8_rises_41 rfl (lv_at hl 2 rfl) ?_
      refine lv_iload_n hx hb dX8_rises_42 rfl (lv_at hl 3 rfl) ?_
      refine my_gpI (my_pV (As := [.ref xn, .int (nI a_1), .int (nI b_2)]) (rest := [.ref x0]) (ci := 0) ⟨hx, hb, hml, hown, hts⟩ (cwV 3 hts gX8_rises_X0_leastEnd rfl rfl rfl (by decide +kernel) ⟨Nat.le_of_ble_eq_true rfl, Nat.le_of_ble_eq_true rfl⟩) hN hK hP [2, 3, 1] rfl 2 rfl rfl rfl rfl hl.1 rfl (Nat.le_of_ble_eq_true rfl) dX8_rises_43 ⟨Nat.le_of_ble_eq_true rfl, Nat.le_of_ble_eq_true rfl⟩  (k_X0_leastEnd l D cI cJ cK xc c1 c2 xn cl_6 cg_7 nf a_1 b_2 hR_nf (by first | assumption | omega | decide +kernel) (by first | assumption | omega | decide +kernel))) (fun r hp => ?_)
      obtain _ := hp
      obtain ⟨r_10, rfl⟩ : ∃ z, z = r := ⟨_, rfl⟩
      refine lv_i2l (v := r_10.toInt64) hx hb dX8_rises_46 rfl ?_
      refine lv_aload_n hx hb dX8_rises_47 rfl (lv_at hl 1 rfl) ?_
      refine va_get (ci := 8) (v := .ref xc) (C := RX8) (T := TX8) (N := 11) hx hb hts hi8 hown hK hP 0 rfl rfl 10 (by decide) fl72 (fun _ h9 => h9) rfl dX8_rises_48 ?_
      refine lv_iload_n hx hb dX8_rises_51 rfl (lv_at hl 2 rfl) ?_
      refine lv_iload_n hx hb dX8_rises_52 rfl (lv_at hl 3 rfl) ?_
      refine my_gpL (my_pV (As := [.int (nI a_1), .int (nI b_2)]) (rest := [.long r_10.toInt64, .ref x0]) (ci := 0) ⟨hx, hb, hml, hown, hts⟩ (cwV 2 hts gX8_rises_X0_waysToLongest rfl rfl rfl (by decide +kernel) ⟨Nat.le_of_ble_eq_true rfl, Nat.le_of_ble_eq_true rfl⟩) hN hK hP [2, 3, 4] rfl 2 rfl rfl rfl rfl hl.1 rfl (Nat.le_of_ble_eq_true rfl) dX8_rises_53 ⟨Nat.le_of_ble_eq_true rfl, Nat.le_of_ble_eq_true rfl⟩  (k_X0_waysToLongest l D cI cJ cK xc c1 c2 cl_6 cg_7 cw_8 a_1 b_2 (by first | assumption | omega | decide +kernel) (by first | assumption | omega | decide +kernel))) (fun r hp => ?_)
      obtain _ := hp
      obtain ⟨r_11, rfl⟩ : ∃ z, z = r := ⟨_, rfl⟩
      refine lv_ldc2 (v := 1000000000) hx hb hown (hts (.constantLong RX8 218 (1000000000)) (by decide +kernel)) dX8_rises_56 ?_
      refine va_mmin_long hx hb (hml.trans hl.1.symm) hown (hts (.methodLink RX8 220 Lib.MathLoose.min_long.x) (by decide +kernel)) (hts (.static Lib.MathLoose.min_long.x) (by decide +kernel)) (hts (.initialized "java/lang/Math") (by decide +kernel)) (hts (.code Lib.MathLoose.min_long.x Lib.MathLoose.min_long.code 4 (some .long)) (by decide +kernel)) (Nat.le_of_ble_eq_true rfl) (Nat.le_of_ble_eq_true rfl) (Nat.le_of_ble_eq_true rfl) (Nat.le_of_ble_eq_true rfl) dX8_rises_59 ?_
      refine lv_topl (fun z_12 ez_12 => ?_)
      refine my_goVS (wc := (wl_k_X8_tell_ cI cJ cK x0 xn xl xt xo xf xs xp xq xr xc o1 (nI z) (nI oz) of)) hP hD hS hA [0, 5, 6] rfl [some 0, none, none, none, none, some 1, some 2] (by decide +kernel) (my_cV (As := [.long r_10.toInt64, .long z_12]) (rest := []) (ci := 8) (wc := (wl_k_X8_tell_ cI cJ cK x0 xn xl xt xo xf xs xp xq xr xc o1 (nI z) (nI oz) of)) ⟨hx, hb, hml, hown, hts⟩ (cwV 2 hts gX8_rises_X8_tell_ rfl rfl rfl (by decide +kernel) ⟨Nat.le_of_ble_eq_true rfl, Nat.le_of_ble_eq_true rfl⟩) hN hK hP hD [0, 5, 6] rfl (by decide) rfl 0 rfl rfl rfl rfl hl.1 rfl (Nat.le_of_ble_eq_true rfl) dX8_rises_62 ⟨Nat.le_of_ble_eq_true rfl, Nat.le_of_ble_eq_true rfl⟩  ((k_X8_tell_ l D cI cJ cK x0 xn xl xt xo xf xs xp xq xr xc o1 z oz of r_10.toInt64 z_12 (by first | assumption | omega | decide +kernel) (by first | assumption | omega | decide +kernel)) _)) (fun u H locs hp hPD hS => ?_)
      obtain ⟨oz_13, of_14, rfl, hhz_oz_15⟩ := hp
      obtain ⟨hP, hD⟩ := hPD rfl
      have hP : va_P D vwCl (wl_k_X8_rises cI cJ cK x0 xn xl xt xo xf xs xp xq xr xc c1 c2 o1 (nI z) nf cl_6 cg_7 cw_8 (nI oz_13) of_14) H := hP
      have hD : va_D A (wl_k_X8_rises cI cJ cK x0 xn xl xt xo xf xs xp xq xr xc c1 c2 o1 (nI z) nf cl_6 cg_7 cw_8 (nI oz_13) of_14) := hD
      refine lv_iload_n hx hb dX8_rises_65 rfl (lv_at hl 0 rfl) ?_
      have hsI_l9 : (nI a_1).toInt = ((a_1 : Nat) : Int) := nI_toInt (by omega)
      have hsN_l9 : (nI a_1).toInt.toNat = a_1 := nIt (by omega)
      have hsI_r9 : (nI b_2).toInt = ((b_2 : Nat) : Int) := nI_toInt (by omega)
      have hsN_r9 : (nI b_2).toInt.toNat = b_2 := nIt (by omega)
      exact my_retI hx hb hr hlocks hK hS (wl_k_X8_rises cI cJ cK x0 xn xl xt xo xf xs xp xq xr xc c1 c2 o1 (nI z) nf cl_6 cg_7 cw_8 (nI oz_13) of_14) hP hD (Or.inr (⟨cl_6, cg_7, cw_8, oz_13, of_14, rfl, (by first | assumption | omega | trivial | decide +kernel), (by first | assumption | omega | trivial | decide +kernel), (by first | assumption | omega | trivial | decide +kernel), (by first | assumption | omega | trivial | decide +kernel), (by rw [hsN_l9, hsN_r9]; exact hlg), (by first | assumption | omega | trivial | decide +kernel)⟩)) dX8_rises_66
    ·
      exact absurd c6 (by decide +kernel)
  ·
    refine lv_if_ne (tgt := 11) hx hb dX8_rises_6 (by decide) (fun c6 => ?_) (fun c6 => ?_)
    ·
      exact absurd c6 (by decide +kernel)
    ·
      refine lv_iconst (v := (-1)) hx hb dX8_rises_9 (by decide +kernel) ?_
      have ec_16 : ((-1) : Int32).toInt = -1 := by decide +kernel
      exact my_retI hx hb hr hlocks hK hS (wl_k_X8_rises cI cJ cK x0 xn xl xt xo xf xs xp xq xr xc c1 c2 o1 (nI z) nf cl cg cw (nI oz) of) hP hD (Or.inl ⟨rfl, rfl, (by first | assumption | omega | trivial | decide +kernel)⟩) dX8_rises_10
abbrev wl_k_X8_marks (cI cJ cK : ClassId) (x0 : Nat) (xn : Nat) (xl : Nat) (xt : Nat) (xo : Nat) (xf : Nat) (xs : Nat) (xp : Nat) (xq : Nat) (xr : Nat) (xc : Nat) (o1 : Nat) (v0_ : Int32) (v1_ : Nat → Int32) (v2_ : Int32) (v3_ : Nat → Int64) : va_W := [(x0, .inr (8, [.ref xn, .int v0_, .ref xl, .ref xt, .ref xo, .ref xf, .ref xs, .ref xp, .ref xq, .ref xr, .ref xc])), (xn, .inl (cI, 64, .inl v1_)), (xo, .inr (7, [.ref o1, .int v2_])), (o1, .inl (cJ, 64, .inr (.inl v3_)))]
set_option maxHeartbeats 4000000 in
set_option maxRecDepth 100000 in
theorem k_X8_marks (l : Launch) (D : va_G) (cI cJ cK : ClassId) (x0 : Nat) (xn : Nat) (xl : Nat) (xt : Nat) (xo : Nat) (xf : Nat) (xs : Nat) (xp : Nat) (xq : Nat) (xr : Nat) (xc : Nat) (o1 : Nat) (z : Nat) (nf : Nat → Int32) (oz : Nat) (of : Nat → Int64) (l9 : Int32) (r9 : Int32) (v9 : Int32) (hz_z : z ≤ 64) (hR_nf : RB 0 255 nf) (hz_oz : oz ≤ 64) : ctI l yX8_marks wsX8_marks ({ frames := 1, cells := 0, slots := 0, locals := 60 } : Room) D (tyIJ cI cJ cK) [.ref x0, .int l9, .int r9, .int v9] (wl_k_X8_marks cI cJ cK x0 xn xl xt xo xf xs xp xq xr xc o1 (nI z) nf (nI oz) of) (fun (r : Int32) (u : va_W) => ∃ (oz' : Nat) (of' : Nat → Int64), u = (wl_k_X8_marks cI cJ cK x0 xn xl xt xo xf xs xp xq xr xc o1 (nI z) nf (nI oz') of') ∧ oz' ≤ 64) := by
  refine ctI.of (cc := cX8_marks) (maxL := 6) (ret := (some .int)) (by decide) rfl (Nat.le_of_ble_eq_true rfl) ?_
  intro p e s m below meth c ls A hx hb hr hts hown hml hlocks hname hA hK hN hP hD hS hl
  have hl : lv_has ls 6 [(0, .ref x0), (1, .int l9), (2, .int r9), (3, .int v9)] := hl
  have hown : s.vm.findClass RX8 = some m.cls := hown
  have hi8 : ∀ w ∈ u_ws RX8 TX8 11, w ∈ wsX8_marks := by decide +kernel
  have fl34 := hts (.fieldLink RX8 34 "PlaneColumn" "told" "LPlaneColumn$Told;") (by decide +kernel)
  have fl9 := hts (.fieldLink RX8 9 "PlaneColumn" "numbers" "[I") (by decide +kernel)
  refine lv_aload_n hx hb dX8_marks_0 rfl (lv_at hl 0 rfl) ?_
  refine lv_iload_n hx hb dX8_marks_1 rfl (lv_at hl 1 rfl) ?_
  refine lv_iload_n hx hb dX8_marks_2 rfl (lv_at hl 2 rfl) ?_
  refine my_gpI (my_pV (As := [.int l9, .int r9]) (rest := []) (ci := 8) ⟨hx, hb, hml, hown, hts⟩ (cwV 2 hts gX8_marks_X8_isSpan rfl rfl rfl (by decide +kernel) ⟨Nat.le_of_ble_eq_true rfl, Nat.le_of_ble_eq_true rfl⟩) hN hK hP [0] rfl 0 rfl rfl rfl rfl hl.1 rfl (Nat.le_of_ble_eq_true rfl) dX8_marks_3 ⟨Nat.le_of_ble_eq_true rfl, Nat.le_of_ble_eq_true rfl⟩  (k_X8_isSpan l D cI cJ cK x0 xn xl xt xo xf xs xp xq xr xc z l9 r9 (by first | assumption | omega | decide +kernel))) (fun r hp => ?_)
  rcases hp with ⟨a_1, b_2, rfl, rfl, rfl, ha_3, hb_4⟩ | ⟨rfl, ho_5⟩
  ·
    refine lv_if_eq (tgt := 16) hx hb dX8_marks_6 (by decide) (fun c6 => ?_) (fun c6 => ?_)
    ·
      exact absurd c6 (by decide +kernel)
    ·
      refine lv_iload_n hx hb dX8_marks_9 rfl (lv_at hl 3 rfl) ?_
      refine my_gpI (my_pS (As := [.int v9]) (rest := []) ⟨hx, hb, hml, hown, hts⟩ (va_cwS 1 hts gX8_marks_X8_isNumber rfl rfl rfl (by decide +kernel) ⟨Nat.le_of_ble_eq_true rfl, Nat.le_of_ble_eq_true rfl⟩) hN hK hP [] rfl rfl hl.1 rfl (Nat.le_of_ble_eq_true rfl) dX8_marks_10 ⟨Nat.le_of_ble_eq_true rfl, Nat.le_of_ble_eq_true rfl⟩  (k_X8_isNumber l D cI cJ cK v9)) (fun r hp => ?_)
      rcases hp with ⟨k_6, rfl, rfl, ha_7⟩ | ⟨rfl, ho_8⟩
      ·
        refine lv_if_ne (tgt := 18) hx hb dX8_marks_13 (by decide) (fun c13 => ?_) (fun c13 => ?_)
        ·
          refine lv_iconst (v := 0) hx hb dX8_marks_18 (by decide +kernel) ?_
          refine lv_istore (lv' := [(4, .int 0), (0, .ref x0), (1, .int (nI a_1)), (2, .int (nI b_2)), (3, .int (nI k_6))]) hx hb dX8_marks_19 hl (by decide) rfl (fun ls hl => ?_)
          refine lv_aload_n hx hb dX8_marks_21 rfl (lv_at hl 1 rfl) ?_
          refine va_get (ci := 8) (v := .ref xo) (C := RX8) (T := TX8) (N := 11) hx hb hts hi8 hown hK hP 0 rfl rfl 4 (by decide) fl34 (fun _ h9 => h9) rfl dX8_marks_22 ?_
          refine my_goVS (wc := (wl_k_X7_begin cI cJ cK xo o1 (nI oz))) hP hD hS hA [2] rfl [none, none, some 0] (by decide +kernel) (my_cV (As := []) (rest := []) (ci := 7) (wc := (wl_k_X7_begin cI cJ cK xo o1 (nI oz))) ⟨hx, hb, hml, hown, hts⟩ (cwV 0 hts gX8_marks_X7_begin rfl rfl rfl (by decide +kernel) ⟨Nat.le_of_ble_eq_true rfl, Nat.le_of_ble_eq_true rfl⟩) hN hK hP hD [2] rfl (by decide) rfl 2 rfl rfl rfl rfl hl.1 rfl (Nat.le_of_ble_eq_true rfl) dX8_marks_25 ⟨Nat.le_of_ble_eq_true rfl, Nat.le_of_ble_eq_true rfl⟩  ((k_X7_begin l D cI cJ cK xo o1 oz (by first | assumption | omega | decide +kernel)) _)) (fun u H locs hp hPD hS => ?_)
          obtain rfl := hp
          obtain ⟨hP, hD⟩ := hPD rfl
          have hP : va_P D vwCl (wl_k_X8_marks cI cJ cK x0 xn xl xt xo xf xs xp xq xr xc o1 (nI z) nf 0 of) H := hP
          have hD : va_D A (wl_k_X8_marks cI cJ cK x0 xn xl xt xo xf xs xp xq xr xc o1 (nI z) nf 0 of) := hD
          refine lv_iload_n hx hb dX8_marks_28 rfl (lv_at hl 2 rfl) ?_
          refine lv_istore (lv' := [(5, .int (nI a_1)), (4, .int 0), (0, .ref x0), (1, .int (nI a_1)), (2, .int (nI b_2)), (3, .int (nI k_6))]) hx hb dX8_marks_29 hl (by decide) rfl (fun ls hl => ?_)
          have loop31 : ∀ (n9 : Nat) (k : Nat) (y4_31 : Int32) (xo_size_31 : Nat) (o1_31 : Nat → Int64), 64 - k < n9 → (k ≤ 64) → (xo_size_31 ≤ 64) → ∀ (H : Heap) (locs : List Loc) (ls : Array Slot), va_P D vwCl (wl_k_X8_marks cI cJ cK x0 xn xl xt xo xf xs xp xq xr xc o1 (nI z) nf (nI xo_size_31) o1_31) H → va_D A (wl_k_X8_marks cI cJ cK x0 xn xl xt xo xf xs xp xq xr xc o1 (nI z) nf (nI xo_size_31) o1_31) → va_S A s.heap H locs → lv_has ls 6 [(5, .int (nI k)), (4, .int y4_31), (0, .ref x0), (1, .int (nI a_1)), (2, .int (nI b_2)), (3, .int (nI k_6))] → W p l e ({ frames := 1, cells := 0, slots := 0, locals := 60 } : Room) s m [.ref x0, .int (nI a_1), .int (nI b_2), .int (nI k_6)].toArray below meth c H locs 0 0 (MQ below (va_Qi (fun (r : Int32) (u : va_W) => ∃ (oz' : Nat) (of' : Nat → Int64), u = (wl_k_X8_marks cI cJ cK x0 xn xl xt xo xf xs xp xq xr xc o1 (nI z) nf (nI oz') of') ∧ oz' ≤ 64) (my_B D (tyIJ cI cJ cK) A) A) [.ref x0, .int (nI a_1), .int (nI b_2), .int (nI k_6)].toArray s 0 0 A) (F0 m 31 ls []) := by
            intro n9
            induction n9 with
            | zero =>
              intro k y4_31 xo_size_31 o1_31 hn9
              exact absurd hn9 (Nat.not_lt_zero _)
            | succ n9 ih31 =>
              intro k y4_31 xo_size_31 o1_31 hn9 hk_k hz_xo_size_31 H locs ls hP hD hS hl
              refine lv_iload hx hb dX8_marks_31 (lv_at hl 0 rfl) ?_
              refine lv_iload_n hx hb dX8_marks_33 rfl (lv_at hl 4 rfl) ?_
              refine lv_icmp_ge (tgt := 74) hx hb dX8_marks_34 (by decide) (fun c34 => ?_) (fun c34 => ?_)
              ·
                have d34 : ((k : Nat) : Int) ≥ ((b_2 : Nat) : Int) := my_ge c34 (nI_toInt (by omega)) (nI_toInt (by omega))
                refine lv_iload hx hb dX8_marks_74 (lv_at hl 1 rfl) ?_
                exact my_retI hx hb hr hlocks hK hS (wl_k_X8_marks cI cJ cK x0 xn xl xt xo xf xs xp xq xr xc o1 (nI z) nf (nI xo_size_31) o1_31) hP hD (⟨xo_size_31, o1_31, rfl, (by first | assumption | omega | trivial | decide +kernel)⟩) dX8_marks_76
              ·
                have d34 : ((k : Nat) : Int) < ((b_2 : Nat) : Int) := my_nge c34 (nI_toInt (by omega)) (nI_toInt (by omega))
                refine lv_aload_n hx hb dX8_marks_37 rfl (lv_at hl 2 rfl) ?_
                refine va_get (ci := 8) (v := .ref xn) (C := RX8) (T := TX8) (N := 11) hx hb hts hi8 hown hK hP 0 rfl rfl 0 (by decide) fl9 (fun _ h9 => h9) rfl dX8_marks_38 ?_
                refine lv_iload hx hb dX8_marks_41 (lv_at hl 0 rfl) ?_
                refine va_iald hx hb hK hP 1 0 rfl rfl (vp_in_nI (by omega) (by omega)) dX8_marks_43 ?_
                refine my_eqi (y := nf k) (congrArg nf (nI_clamp (by omega))) ?_
                have hb_9 := hR_nf k
                refine lv_iload_n hx hb dX8_marks_44 rfl (lv_at hl 5 rfl) ?_
                refine lv_icmp_ne (tgt := 68) hx hb dX8_marks_45 (by decide) (fun c45 => ?_) (fun c45 => ?_)
                ·
                  have d45 : (nf k).toInt ≠ ((k_6 : Nat) : Int) := my_ne c45 rfl (nI_toInt (by omega))
                  refine lv_iinc (v := nI (k + 1)) (lv' := [(5, .int (nI (k + 1))), (4, .int y4_31), (0, .ref x0), (1, .int (nI a_1)), (2, .int (nI b_2)), (3, .int (nI k_6))]) hx hb dX8_marks_68 hl (k := 0) rfl (my_incN k 1 (by decide +kernel)) (by decide) rfl (fun ls hl => ?_)
                  refine lv_goto (tgt := 31) hx hb dX8_marks_71 (by decide) ?_
                  exact ih31  (k + 1) y4_31 xo_size_31 o1_31 (by omega) (by first | assumption | omega | decide +kernel) (by first | assumption | omega | decide +kernel) _ _ ls hP hD hS (lv_sub hl [0, 1, 2, 3, 4, 5] rfl)
                ·
                  have d45 : (nf k).toInt = ((k_6 : Nat) : Int) := my_eq c45 rfl (nI_toInt (by omega))
                  refine lv_iload hx hb dX8_marks_48 (lv_at hl 1 rfl) ?_
                  refine lv_bipush (v := 32) hx hb dX8_marks_50 (by decide +kernel) ?_
                  refine lv_icmp_ge (tgt := 65) hx hb dX8_marks_52 (by decide) (fun c52 => ?_) (fun c52 => ?_)
                  ·
                    have d52 : y4_31.toInt ≥ (32 : Int) := my_ge c52 rfl (by decide +kernel)
                    obtain ⟨z_10, ez_10⟩ : ∃ y : Int32, y = y4_31 + (1) := ⟨_, rfl⟩
                    try have tz_10 : z_10.toInt = y4_31.toInt + (1) := by rw [ez_10]; exact my_addI rfl (by decide +kernel) (by omega) (by omega)
                    refine lv_iinc (v := z_10) (lv' := [(4, .int z_10), (5, .int (nI k)), (0, .ref x0), (1, .int (nI a_1)), (2, .int (nI b_2)), (3, .int (nI k_6))]) hx hb dX8_marks_65 hl (k := 1) rfl (by rw [ez_10]; rfl) (by decide) rfl (fun ls hl => ?_)
                    refine lv_iinc (v := nI (k + 1)) (lv' := [(5, .int (nI (k + 1))), (4, .int z_10), (0, .ref x0), (1, .int (nI a_1)), (2, .int (nI b_2)), (3, .int (nI k_6))]) hx hb dX8_marks_68 hl (k := 1) rfl (my_incN k 1 (by decide +kernel)) (by decide) rfl (fun ls hl => ?_)
                    refine lv_goto (tgt := 31) hx hb dX8_marks_71 (by decide) ?_
                    exact ih31  (k + 1) z_10 xo_size_31 o1_31 (by omega) (by first | assumption | omega | decide +kernel) (by first | assumption | omega | decide +kernel) _ _ ls hP hD hS (lv_sub hl [0, 1, 2, 3, 4, 5] rfl)
                  ·
                    have d52 : y4_31.toInt < (32 : Int) := my_nge c52 rfl (by decide +kernel)
                    refine lv_aload_n hx hb dX8_marks_55 rfl (lv_at hl 2 rfl) ?_
                    refine va_get (ci := 8) (v := .ref xo) (C := RX8) (T := TX8) (N := 11) hx hb hts hi8 hown hK hP 0 rfl rfl 4 (by decide) fl34 (fun _ h9 => h9) rfl dX8_marks_56 ?_
                    refine lv_iload hx hb dX8_marks_59 (lv_at hl 0 rfl) ?_
                    refine lv_i2l (v := lN k) hx hb dX8_marks_61 (nI_l (by omega)) ?_
                    refine my_goVS (wc := (wl_k_X7_add cI cJ cK xo o1 (nI xo_size_31) o1_31)) hP hD hS hA [2, 3] rfl [none, none, some 0, some 1] (by decide +kernel) (my_cV (As := [.long (lN k)]) (rest := []) (ci := 7) (wc := (wl_k_X7_add cI cJ cK xo o1 (nI xo_size_31) o1_31)) ⟨hx, hb, hml, hown, hts⟩ (cwV 1 hts gX8_marks_X7_add rfl rfl rfl (by decide +kernel) ⟨Nat.le_of_ble_eq_true rfl, Nat.le_of_ble_eq_true rfl⟩) hN hK hP hD [2, 3] rfl (by decide) rfl 2 rfl rfl rfl rfl hl.1 rfl (Nat.le_of_ble_eq_true rfl) dX8_marks_62 ⟨Nat.le_of_ble_eq_true rfl, Nat.le_of_ble_eq_true rfl⟩  ((k_X7_add l D cI cJ cK xo o1 xo_size_31 o1_31 (lN k) (by first | assumption | omega | decide +kernel)) _)) (fun u H locs hp hPD hS => ?_)
                    obtain ⟨oz_11, of_12, rfl, hhz_oz_13⟩ := hp
                    obtain ⟨hP, hD⟩ := hPD rfl
                    have hP : va_P D vwCl (wl_k_X8_marks cI cJ cK x0 xn xl xt xo xf xs xp xq xr xc o1 (nI z) nf (nI oz_11) of_12) H := hP
                    have hD : va_D A (wl_k_X8_marks cI cJ cK x0 xn xl xt xo xf xs xp xq xr xc o1 (nI z) nf (nI oz_11) of_12) := hD
                    obtain ⟨z_14, ez_14⟩ : ∃ y : Int32, y = y4_31 + (1) := ⟨_, rfl⟩
                    try have tz_14 : z_14.toInt = y4_31.toInt + (1) := by rw [ez_14]; exact my_addI rfl (by decide +kernel) (by omega) (by omega)
                    refine lv_iinc (v := z_14) (lv' := [(4, .int z_14), (5, .int (nI k)), (0, .ref x0), (1, .int (nI a_1)), (2, .int (nI b_2)), (3, .int (nI k_6))]) hx hb dX8_marks_65 hl (k := 1) rfl (by rw [ez_14]; rfl) (by decide) rfl (fun ls hl => ?_)
                    refine lv_iinc (v := nI (k + 1)) (lv' := [(5, .int (nI (k + 1))), (4, .int z_14), (0, .ref x0), (1, .int (nI a_1)), (2, .int (nI b_2)), (3, .int (nI k_6))]) hx hb dX8_marks_68 hl (k := 1) rfl (my_incN k 1 (by decide +kernel)) (by decide) rfl (fun ls hl => ?_)
                    refine lv_goto (tgt := 31) hx hb dX8_marks_71 (by decide) ?_
                    exact ih31  (k + 1) z_14 oz_11 of_12 (by omega) (by first | assumption | omega | decide +kernel) (by first | assumption | omega | decide +kernel) _ _ ls hP hD hS (lv_sub hl [0, 1, 2, 3, 4, 5] rfl)
          have ec_15 : (0 : Int32).toInt = 0 := by decide +kernel
          exact loop31 ((64 - a_1) + 1) a_1 (0 : Int32) 0 of (Nat.lt_succ_self _) (by first | assumption | omega | decide +kernel) (by first | assumption | omega | decide +kernel) _ _ ls hP hD hS (lv_sub hl [0, 1, 2, 3, 4, 5] rfl)
        ·
          exact absurd c13 (by decide +kernel)
      ·
        refine lv_if_ne (tgt := 18) hx hb dX8_marks_13 (by decide) (fun c13 => ?_) (fun c13 => ?_)
        ·
          exact absurd c13 (by decide +kernel)
        ·
          refine lv_iconst (v := (-1)) hx hb dX8_marks_16 (by decide +kernel) ?_
          exact my_retI hx hb hr hlocks hK hS (wl_k_X8_marks cI cJ cK x0 xn xl xt xo xf xs xp xq xr xc o1 (nI z) nf (nI oz) of) hP hD (⟨oz, of, rfl, (by first | assumption | omega | trivial | decide +kernel)⟩) dX8_marks_17
  ·
    refine lv_if_eq (tgt := 16) hx hb dX8_marks_6 (by decide) (fun c6 => ?_) (fun c6 => ?_)
    ·
      refine lv_iconst (v := (-1)) hx hb dX8_marks_16 (by decide +kernel) ?_
      exact my_retI hx hb hr hlocks hK hS (wl_k_X8_marks cI cJ cK x0 xn xl xt xo xf xs xp xq xr xc o1 (nI z) nf (nI oz) of) hP hD (⟨oz, of, rfl, (by first | assumption | omega | trivial | decide +kernel)⟩) dX8_marks_17
    ·
      exact absurd c6 (by decide +kernel)
abbrev wl_k_X8_takeBoth (cI cJ cK : ClassId) (x0 : Nat) (xn : Nat) (xl : Nat) (xt : Nat) (xo : Nat) (xf : Nat) (xs : Nat) (xp : Nat) (xq : Nat) (xr : Nat) (xc : Nat) (f1 : Nat) (f2 : Nat) (s1 : Nat) (s2 : Nat) (v0_ : Int32) (v1_ : Nat → Int32) (v2_ : Int32) (v3_ : Nat → Int32) (v4_ : Nat → Int32) (v5_ : Int32) (v6_ : Nat → Int32) (v7_ : Nat → Int32) : va_W := [(x0, .inr (8, [.ref xn, .int v0_, .ref xl, .ref xt, .ref xo, .ref xf, .ref xs, .ref xp, .ref xq, .ref xr, .ref xc])), (xn, .inl (cI, 64, .inl v1_)), (xf, .inr (6, [.ref f1, .ref f2, .int v2_])), (f1, .inl (cI, 512, .inl v3_)), (f2, .inl (cI, 64, .inl v4_)), (xs, .inr (6, [.ref s1, .ref s2, .int v5_])), (s1, .inl (cI, 512, .inl v6_)), (s2, .inl (cI, 64, .inl v7_))]
set_option maxHeartbeats 4000000 in
set_option maxRecDepth 100000 in
theorem k_X8_takeBoth (l : Launch) (D : va_G) (cI cJ cK : ClassId) (x0 : Nat) (xn : Nat) (xl : Nat) (xt : Nat) (xo : Nat) (xf : Nat) (xs : Nat) (xp : Nat) (xq : Nat) (xr : Nat) (xc : Nat) (f1 : Nat) (f2 : Nat) (s1 : Nat) (s2 : Nat) (z : Nat) (nf : Nat → Int32) (fz : Nat) (fn : Nat → Int32) (fs : Nat → Int32) (sz : Nat) (sn : Nat → Int32) (ss : Nat → Int32) (l9 : Int32) (r9 : Int32) (s9 : Int32) (t9 : Int32) (hz_z : z ≤ 64) (hR_nf : RB 0 255 nf) (hz_fz : fz ≤ 64) (hz_sz : sz ≤ 64) : ctI l yX8_takeBoth wsX8_takeBoth ({ frames := 4, cells := 0, slots := 0, locals := 240 } : Room) D (tyIJ cI cJ cK) [.ref x0, .int l9, .int r9, .int s9, .int t9] (wl_k_X8_takeBoth cI cJ cK x0 xn xl xt xo xf xs xp xq xr xc f1 f2 s1 s2 (nI z) nf (nI fz) fn fs (nI sz) sn ss) (fun (r : Int32) (u : va_W) => (∃ (a : Nat) (b : Nat) (e : Nat) (d : Nat) (fz' : Nat) (fn' : Nat → Int32) (fs' : Nat → Int32) (sz' : Nat) (sn' : Nat → Int32) (ss' : Nat → Int32), u = (wl_k_X8_takeBoth cI cJ cK x0 xn xl xt xo xf xs xp xq xr xc f1 f2 s1 s2 (nI z) nf (nI fz') fn' fs' (nI sz') sn' ss') ∧ r = 1 ∧ l9 = nI a ∧ r9 = nI b ∧ s9 = nI e ∧ t9 = nI d ∧ fz' ≤ 64 ∧ sz' ≤ 64 ∧ a ≤ b ∧ b ≤ z ∧ e ≤ d ∧ d ≤ z ∧ (∀ v, v < 256 → fn' (256 + v) = nI (cn nf v a b)) ∧ (∀ v, v < 256 → sn' (256 + v) = nI (cn nf v e d))) ∨ (u = (wl_k_X8_takeBoth cI cJ cK x0 xn xl xt xo xf xs xp xq xr xc f1 f2 s1 s2 (nI z) nf (nI fz) fn fs (nI sz) sn ss) ∧ r = 0 ∧ (l9.toInt < 0 ∨ r9.toInt < l9.toInt ∨ z < r9.toInt ∨ s9.toInt < 0 ∨ t9.toInt < s9.toInt ∨ z < t9.toInt))) := by
  refine ctI.of (cc := cX8_takeBoth) (maxL := 5) (ret := (some .boolean)) (by decide) rfl (Nat.le_of_ble_eq_true rfl) ?_
  intro p e s m below meth c ls A hx hb hr hts hown hml hlocks hname hA hK hN hP hD hS hl
  have hl : lv_has ls 5 [(0, .ref x0), (1, .int l9), (2, .int r9), (3, .int s9), (4, .int t9)] := hl
  have hown : s.vm.findClass RX8 = some m.cls := hown
  have hi8 : ∀ w ∈ u_ws RX8 TX8 11, w ∈ wsX8_takeBoth := by decide +kernel
  have fl41 := hts (.fieldLink RX8 41 "PlaneColumn" "first" "LPlaneColumn$Tally;") (by decide +kernel)
  have fl45 := hts (.fieldLink RX8 45 "PlaneColumn" "second" "LPlaneColumn$Tally;") (by decide +kernel)
  have fl9 := hts (.fieldLink RX8 9 "PlaneColumn" "numbers" "[I") (by decide +kernel)
  refine lv_aload_n hx hb dX8_takeBoth_0 rfl (lv_at hl 0 rfl) ?_
  refine lv_iload_n hx hb dX8_takeBoth_1 rfl (lv_at hl 1 rfl) ?_
  refine lv_iload_n hx hb dX8_takeBoth_2 rfl (lv_at hl 2 rfl) ?_
  refine my_gpI (my_pV (As := [.int l9, .int r9]) (rest := []) (ci := 8) ⟨hx, hb, hml, hown, hts⟩ (cwV 2 hts gX8_takeBoth_X8_isSpan rfl rfl rfl (by decide +kernel) ⟨Nat.le_of_ble_eq_true rfl, Nat.le_of_ble_eq_true rfl⟩) hN hK hP [0] rfl 0 rfl rfl rfl rfl hl.1 rfl (Nat.le_of_ble_eq_true rfl) dX8_takeBoth_3 ⟨Nat.le_of_ble_eq_true rfl, Nat.le_of_ble_eq_true rfl⟩  (k_X8_isSpan l D cI cJ cK x0 xn xl xt xo xf xs xp xq xr xc z l9 r9 (by first | assumption | omega | decide +kernel))) (fun r hp => ?_)
  rcases hp with ⟨a_1, b_2, rfl, rfl, rfl, ha_3, hb_4⟩ | ⟨rfl, ho_5⟩
  ·
    refine lv_if_eq (tgt := 19) hx hb dX8_takeBoth_6 (by decide) (fun c6 => ?_) (fun c6 => ?_)
    ·
      exact absurd c6 (by decide +kernel)
    ·
      refine lv_aload_n hx hb dX8_takeBoth_9 rfl (lv_at hl 0 rfl) ?_
      refine lv_iload_n hx hb dX8_takeBoth_10 rfl (lv_at hl 3 rfl) ?_
      refine lv_iload hx hb dX8_takeBoth_11 (lv_at hl 4 rfl) ?_
      refine my_gpI (my_pV (As := [.int s9, .int t9]) (rest := []) (ci := 8) ⟨hx, hb, hml, hown, hts⟩ (cwV 2 hts gX8_takeBoth_X8_isSpan rfl rfl rfl (by decide +kernel) ⟨Nat.le_of_ble_eq_true rfl, Nat.le_of_ble_eq_true rfl⟩) hN hK hP [0] rfl 0 rfl rfl rfl rfl hl.1 rfl (Nat.le_of_ble_eq_true rfl) dX8_takeBoth_13 ⟨Nat.le_of_ble_eq_true rfl, Nat.le_of_ble_eq_true rfl⟩  (k_X8_isSpan l D cI cJ cK x0 xn xl xt xo xf xs xp xq xr xc z s9 t9 (by first | assumption | omega | decide +kernel))) (fun r hp => ?_)
      rcases hp with ⟨a_6, b_7, rfl, rfl, rfl, ha_8, hb_9⟩ | ⟨rfl, ho_10⟩
      ·
        refine lv_if_ne (tgt := 21) hx hb dX8_takeBoth_16 (by decide) (fun c16 => ?_) (fun c16 => ?_)
        ·
          refine lv_aload_n hx hb dX8_takeBoth_21 rfl (lv_at hl 0 rfl) ?_
          refine va_get (ci := 8) (v := .ref xf) (C := RX8) (T := TX8) (N := 11) hx hb hts hi8 hown hK hP 0 rfl rfl 5 (by decide) fl41 (fun _ h9 => h9) rfl dX8_takeBoth_22 ?_
          refine lv_aload_n hx hb dX8_takeBoth_25 rfl (lv_at hl 0 rfl) ?_
          refine va_get (ci := 8) (v := .ref xn) (C := RX8) (T := TX8) (N := 11) hx hb hts hi8 hown hK hP 0 rfl rfl 0 (by decide) fl9 (fun _ h9 => h9) rfl dX8_takeBoth_26 ?_
          refine lv_iload_n hx hb dX8_takeBoth_29 rfl (lv_at hl 1 rfl) ?_
          refine lv_iload_n hx hb dX8_takeBoth_30 rfl (lv_at hl 2 rfl) ?_
          refine my_goVS (wc := (wl_k_X6_take cI cJ cK xf f1 f2 xn (nI fz) fn fs nf)) hP hD hS hA [2, 3, 4, 1] rfl [none, some 3, some 0, some 1, some 2] (by decide +kernel) (my_cV (As := [.ref xn, .int (nI a_1), .int (nI b_2)]) (rest := []) (ci := 6) (wc := (wl_k_X6_take cI cJ cK xf f1 f2 xn (nI fz) fn fs nf)) ⟨hx, hb, hml, hown, hts⟩ (cwV 3 hts gX8_takeBoth_X6_take rfl rfl rfl (by decide +kernel) ⟨Nat.le_of_ble_eq_true rfl, Nat.le_of_ble_eq_true rfl⟩) hN hK hP hD [2, 3, 4, 1] rfl (by decide) rfl 2 rfl rfl rfl rfl hl.1 rfl (Nat.le_of_ble_eq_true rfl) dX8_takeBoth_31 ⟨Nat.le_of_ble_eq_true rfl, Nat.le_of_ble_eq_true rfl⟩  ((k_X6_take l D cI cJ cK xf f1 f2 xn fz fn fs nf a_1 b_2 (by first | assumption | omega | decide +kernel) hR_nf (by first | assumption | omega | decide +kernel) (by first | assumption | omega | decide +kernel)) _)) (fun u H locs hp hPD hS => ?_)
          obtain ⟨fz_11, fn_12, fs_13, rfl, hhz_fz_14, hnd, hn8, hfz, hsv⟩ := hp
          obtain ⟨hP, hD⟩ := hPD rfl
          have hP : va_P D vwCl (wl_k_X8_takeBoth cI cJ cK x0 xn xl xt xo xf xs xp xq xr xc f1 f2 s1 s2 (nI z) nf (nI fz_11) fn_12 fs_13 (nI sz) sn ss) H := hP
          have hD : va_D A (wl_k_X8_takeBoth cI cJ cK x0 xn xl xt xo xf xs xp xq xr xc f1 f2 s1 s2 (nI z) nf (nI fz_11) fn_12 fs_13 (nI sz) sn ss) := hD
          refine lv_aload_n hx hb dX8_takeBoth_34 rfl (lv_at hl 0 rfl) ?_
          refine va_get (ci := 8) (v := .ref xs) (C := RX8) (T := TX8) (N := 11) hx hb hts hi8 hown hK hP 0 rfl rfl 6 (by decide) fl45 (fun _ h9 => h9) rfl dX8_takeBoth_35 ?_
          refine lv_aload_n hx hb dX8_takeBoth_38 rfl (lv_at hl 0 rfl) ?_
          refine va_get (ci := 8) (v := .ref xn) (C := RX8) (T := TX8) (N := 11) hx hb hts hi8 hown hK hP 0 rfl rfl 0 (by decide) fl9 (fun _ h9 => h9) rfl dX8_takeBoth_39 ?_
          refine lv_iload_n hx hb dX8_takeBoth_42 rfl (lv_at hl 3 rfl) ?_
          refine lv_iload hx hb dX8_takeBoth_43 (lv_at hl 4 rfl) ?_
          have hn81 := hn8
          refine my_goVS (wc := (wl_k_X6_take cI cJ cK xs s1 s2 xn (nI sz) sn ss nf)) hP hD hS hA [5, 6, 7, 1] rfl [none, some 3, none, none, none, some 0, some 1, some 2] (by decide +kernel) (my_cV (As := [.ref xn, .int (nI a_6), .int (nI b_7)]) (rest := []) (ci := 6) (wc := (wl_k_X6_take cI cJ cK xs s1 s2 xn (nI sz) sn ss nf)) ⟨hx, hb, hml, hown, hts⟩ (cwV 3 hts gX8_takeBoth_X6_take rfl rfl rfl (by decide +kernel) ⟨Nat.le_of_ble_eq_true rfl, Nat.le_of_ble_eq_true rfl⟩) hN hK hP hD [5, 6, 7, 1] rfl (by decide) rfl 5 rfl rfl rfl rfl hl.1 rfl (Nat.le_of_ble_eq_true rfl) dX8_takeBoth_45 ⟨Nat.le_of_ble_eq_true rfl, Nat.le_of_ble_eq_true rfl⟩  ((k_X6_take l D cI cJ cK xs s1 s2 xn sz sn ss nf a_6 b_7 (by first | assumption | omega | decide +kernel) hR_nf (by first | assumption | omega | decide +kernel) (by first | assumption | omega | decide +kernel)) _)) (fun u H locs hp hPD hS => ?_)
          obtain ⟨fz_15, fn_16, fs_17, rfl, hhz_fz_18, hnd, hn8, hfz, hsv⟩ := hp
          obtain ⟨hP, hD⟩ := hPD rfl
          have hP : va_P D vwCl (wl_k_X8_takeBoth cI cJ cK x0 xn xl xt xo xf xs xp xq xr xc f1 f2 s1 s2 (nI z) nf (nI fz_11) fn_12 fs_13 (nI fz_15) fn_16 fs_17) H := hP
          have hD : va_D A (wl_k_X8_takeBoth cI cJ cK x0 xn xl xt xo xf xs xp xq xr xc f1 f2 s1 s2 (nI z) nf (nI fz_11) fn_12 fs_13 (nI fz_15) fn_16 fs_17) := hD
          refine lv_iconst (v := 1) hx hb dX8_takeBoth_48 (by decide +kernel) ?_
          exact my_retZ hx hb hr hlocks (by decide +kernel) hK hS (wl_k_X8_takeBoth cI cJ cK x0 xn xl xt xo xf xs xp xq xr xc f1 f2 s1 s2 (nI z) nf (nI fz_11) fn_12 fs_13 (nI fz_15) fn_16 fs_17) hP hD (Or.inl ⟨a_1, b_2, a_6, b_7, fz_11, fn_12, fs_13, fz_15, fn_16, fs_17, rfl, rfl, rfl, rfl, rfl, rfl, (by first | assumption | omega | trivial | decide +kernel), (by first | assumption | omega | trivial | decide +kernel), (by first | assumption | omega | trivial | decide +kernel), (by first | assumption | omega | trivial | decide +kernel), (by first | assumption | omega | trivial | decide +kernel), (by first | assumption | omega | trivial | decide +kernel), hn81, hn8⟩) dX8_takeBoth_49
        ·
          exact absurd c16 (by decide +kernel)
      ·
        refine lv_if_ne (tgt := 21) hx hb dX8_takeBoth_16 (by decide) (fun c16 => ?_) (fun c16 => ?_)
        ·
          exact absurd c16 (by decide +kernel)
        ·
          refine lv_iconst (v := 0) hx hb dX8_takeBoth_19 (by decide +kernel) ?_
          exact my_retZ hx hb hr hlocks (by decide +kernel) hK hS (wl_k_X8_takeBoth cI cJ cK x0 xn xl xt xo xf xs xp xq xr xc f1 f2 s1 s2 (nI z) nf (nI fz) fn fs (nI sz) sn ss) hP hD (Or.inr (⟨rfl, rfl, (by first | assumption | omega | trivial | decide +kernel)⟩)) dX8_takeBoth_20
  ·
    refine lv_if_eq (tgt := 19) hx hb dX8_takeBoth_6 (by decide) (fun c6 => ?_) (fun c6 => ?_)
    ·
      refine lv_iconst (v := 0) hx hb dX8_takeBoth_19 (by decide +kernel) ?_
      exact my_retZ hx hb hr hlocks (by decide +kernel) hK hS (wl_k_X8_takeBoth cI cJ cK x0 xn xl xt xo xf xs xp xq xr xc f1 f2 s1 s2 (nI z) nf (nI fz) fn fs (nI sz) sn ss) hP hD (Or.inr (⟨rfl, rfl, (by first | assumption | omega | trivial | decide +kernel)⟩)) dX8_takeBoth_20
    ·
      exact absurd c6 (by decide +kernel)
abbrev wl_k_X8_common (cI cJ cK : ClassId) (x0 : Nat) (xn : Nat) (xl : Nat) (xt : Nat) (xo : Nat) (xf : Nat) (xs : Nat) (xp : Nat) (xq : Nat) (xr : Nat) (xc : Nat) (f1 : Nat) (f2 : Nat) (s1 : Nat) (s2 : Nat) (o1 : Nat) (v0_ : Int32) (v1_ : Nat → Int32) (v2_ : Int32) (v3_ : Nat → Int32) (v4_ : Nat → Int32) (v5_ : Int32) (v6_ : Nat → Int32) (v7_ : Nat → Int32) (v8_ : Int32) (v9_ : Nat → Int64) : va_W := [(x0, .inr (8, [.ref xn, .int v0_, .ref xl, .ref xt, .ref xo, .ref xf, .ref xs, .ref xp, .ref xq, .ref xr, .ref xc])), (xn, .inl (cI, 64, .inl v1_)), (xf, .inr (6, [.ref f1, .ref f2, .int v2_])), (f1, .inl (cI, 512, .inl v3_)), (f2, .inl (cI, 64, .inl v4_)), (xs, .inr (6, [.ref s1, .ref s2, .int v5_])), (s1, .inl (cI, 512, .inl v6_)), (s2, .inl (cI, 64, .inl v7_)), (xo, .inr (7, [.ref o1, .int v8_])), (o1, .inl (cJ, 64, .inr (.inl v9_)))]
set_option maxHeartbeats 4000000 in
set_option maxRecDepth 100000 in
theorem k_X8_common (l : Launch) (D : va_G) (cI cJ cK : ClassId) (x0 : Nat) (xn : Nat) (xl : Nat) (xt : Nat) (xo : Nat) (xf : Nat) (xs : Nat) (xp : Nat) (xq : Nat) (xr : Nat) (xc : Nat) (f1 : Nat) (f2 : Nat) (s1 : Nat) (s2 : Nat) (o1 : Nat) (z : Nat) (nf : Nat → Int32) (fz : Nat) (fn : Nat → Int32) (fs : Nat → Int32) (sz : Nat) (sn : Nat → Int32) (ss : Nat → Int32) (oz : Nat) (of : Nat → Int64) (l9 : Int32) (r9 : Int32) (s9 : Int32) (t9 : Int32) (hz_z : z ≤ 64) (hR_nf : RB 0 255 nf) (hz_fz : fz ≤ 64) (hz_sz : sz ≤ 64) (hz_oz : oz ≤ 64) : ctI l yX8_common wsX8_common ({ frames := 5, cells := 0, slots := 0, locals := 300 } : Room) D (tyIJ cI cJ cK) [.ref x0, .int l9, .int r9, .int s9, .int t9] (wl_k_X8_common cI cJ cK x0 xn xl xt xo xf xs xp xq xr xc f1 f2 s1 s2 o1 (nI z) nf (nI fz) fn fs (nI sz) sn ss (nI oz) of) (fun (r : Int32) (u : va_W) => ∃ (fz' : Nat) (fn' : Nat → Int32) (fs' : Nat → Int32) (sz' : Nat) (sn' : Nat → Int32) (ss' : Nat → Int32) (oz' : Nat) (of' : Nat → Int64), u = (wl_k_X8_common cI cJ cK x0 xn xl xt xo xf xs xp xq xr xc f1 f2 s1 s2 o1 (nI z) nf (nI fz') fn' fs' (nI sz') sn' ss' (nI oz') of') ∧ fz' ≤ 64 ∧ sz' ≤ 64 ∧ oz' ≤ 64) := by
  refine ctI.of (cc := cX8_common) (maxL := 7) (ret := (some .int)) (by decide) rfl (Nat.le_of_ble_eq_true rfl) ?_
  intro p e s m below meth c ls A hx hb hr hts hown hml hlocks hname hA hK hN hP hD hS hl
  have hl : lv_has ls 7 [(0, .ref x0), (1, .int l9), (2, .int r9), (3, .int s9), (4, .int t9)] := hl
  have hown : s.vm.findClass RX8 = some m.cls := hown
  have hi8 : ∀ w ∈ u_ws RX8 TX8 11, w ∈ wsX8_common := by decide +kernel
  have fl34 := hts (.fieldLink RX8 34 "PlaneColumn" "told" "LPlaneColumn$Told;") (by decide +kernel)
  have fl41 := hts (.fieldLink RX8 41 "PlaneColumn" "first" "LPlaneColumn$Tally;") (by decide +kernel)
  have fl45 := hts (.fieldLink RX8 45 "PlaneColumn" "second" "LPlaneColumn$Tally;") (by decide +kernel)
  refine lv_aload_n hx hb dX8_common_0 rfl (lv_at hl 0 rfl) ?_
  refine lv_iload_n hx hb dX8_common_1 rfl (lv_at hl 1 rfl) ?_
  refine lv_iload_n hx hb dX8_common_2 rfl (lv_at hl 2 rfl) ?_
  refine lv_iload_n hx hb dX8_common_3 rfl (lv_at hl 3 rfl) ?_
  refine lv_iload hx hb dX8_common_4 (lv_at hl 4 rfl) ?_
  refine my_goIS (wc := (wl_k_X8_takeBoth cI cJ cK x0 xn xl xt xo xf xs xp xq xr xc f1 f2 s1 s2 (nI z) nf (nI fz) fn fs (nI sz) sn ss)) hP hD hS hA [0, 1, 2, 3, 4, 5, 6, 7] rfl [some 0, some 1, some 2, some 3, some 4, some 5, some 6, some 7] (by decide +kernel) (my_cV (As := [.int l9, .int r9, .int s9, .int t9]) (rest := []) (ci := 8) (wc := (wl_k_X8_takeBoth cI cJ cK x0 xn xl xt xo xf xs xp xq xr xc f1 f2 s1 s2 (nI z) nf (nI fz) fn fs (nI sz) sn ss)) ⟨hx, hb, hml, hown, hts⟩ (cwV 4 hts gX8_common_X8_takeBoth rfl rfl rfl (by decide +kernel) ⟨Nat.le_of_ble_eq_true rfl, Nat.le_of_ble_eq_true rfl⟩) hN hK hP hD [0, 1, 2, 3, 4, 5, 6, 7] rfl (by decide) rfl 0 rfl rfl rfl rfl hl.1 rfl (Nat.le_of_ble_eq_true rfl) dX8_common_6 ⟨Nat.le_of_ble_eq_true rfl, Nat.le_of_ble_eq_true rfl⟩  ((k_X8_takeBoth l D cI cJ cK x0 xn xl xt xo xf xs xp xq xr xc f1 f2 s1 s2 z nf fz fn fs sz sn ss l9 r9 s9 t9 (by first | assumption | omega | decide +kernel) hR_nf (by first | assumption | omega | decide +kernel) (by first | assumption | omega | decide +kernel)) _)) (fun r u H locs hp hPD hS => ?_)
  rcases hp with ⟨a_1, b_2, e_3, d_4, fz_5, fn_6, fs_7, sz_8, sn_9, ss_10, rfl, rfl, rfl, rfl, rfl, rfl, hhz_fz_11, hhz_sz_12, hx1_13, hx2_14, hx3_15, hx4_16, hnF, hnS⟩ | ⟨rfl, rfl, ho_17⟩
  ·
    obtain ⟨hP, hD⟩ := hPD rfl
    have hP : va_P D vwCl (wl_k_X8_common cI cJ cK x0 xn xl xt xo xf xs xp xq xr xc f1 f2 s1 s2 o1 (nI z) nf (nI fz_5) fn_6 fs_7 (nI sz_8) sn_9 ss_10 (nI oz) of) H := hP
    have hD : va_D A (wl_k_X8_common cI cJ cK x0 xn xl xt xo xf xs xp xq xr xc f1 f2 s1 s2 o1 (nI z) nf (nI fz_5) fn_6 fs_7 (nI sz_8) sn_9 ss_10 (nI oz) of) := hD
    refine lv_if_ne (tgt := 14) hx hb dX8_common_9 (by decide) (fun c9 => ?_) (fun c9 => ?_)
    ·
      refine lv_aload_n hx hb dX8_common_14 rfl (lv_at hl 0 rfl) ?_
      refine lv_aload_n hx hb dX8_common_15 rfl (lv_at hl 0 rfl) ?_
      refine va_get (ci := 8) (v := .ref xf) (C := RX8) (T := TX8) (N := 11) hx hb hts hi8 hown hK hP 0 rfl rfl 5 (by decide) fl41 (fun _ h9 => h9) rfl dX8_common_16 ?_
      refine lv_aload_n hx hb dX8_common_19 rfl (lv_at hl 0 rfl) ?_
      refine va_get (ci := 8) (v := .ref xs) (C := RX8) (T := TX8) (N := 11) hx hb hts hi8 hown hK hP 0 rfl rfl 6 (by decide) fl45 (fun _ h9 => h9) rfl dX8_common_20 ?_
      refine my_gpI (my_pV (As := [.ref xs]) (rest := [.ref x0]) (ci := 6) ⟨hx, hb, hml, hown, hts⟩ (cwV 1 hts gX8_common_X6_nodesSharedWith rfl rfl rfl (by decide +kernel) ⟨Nat.le_of_ble_eq_true rfl, Nat.le_of_ble_eq_true rfl⟩) hN hK hP [2, 3, 5, 6] rfl 2 rfl rfl rfl rfl hl.1 rfl (Nat.le_of_ble_eq_true rfl) dX8_common_23 ⟨Nat.le_of_ble_eq_true rfl, Nat.le_of_ble_eq_true rfl⟩  (k_X6_nodesSharedWith l D cI cJ cK xf f1 f2 xs s1 s2 fz_5 fn_6 sz_8 sn_9 (by first | assumption | omega | decide +kernel) (by first | assumption | omega | decide +kernel))) (fun r hp => ?_)
      obtain _ := hp
      obtain ⟨r_18, rfl⟩ : ∃ z, z = r := ⟨_, rfl⟩
      refine lv_i2l (v := r_18.toInt64) hx hb dX8_common_26 rfl ?_
      refine my_goVS (wc := (wl_k_X8_tell cI cJ cK x0 xn xl xt xo xf xs xp xq xr xc o1 (nI z) (nI oz) of)) hP hD hS hA [0, 8, 9] rfl [some 0, none, none, none, none, none, none, none, some 1, some 2] (by decide +kernel) (my_cV (As := [.long r_18.toInt64]) (rest := []) (ci := 8) (wc := (wl_k_X8_tell cI cJ cK x0 xn xl xt xo xf xs xp xq xr xc o1 (nI z) (nI oz) of)) ⟨hx, hb, hml, hown, hts⟩ (cwV 1 hts gX8_common_X8_tell rfl rfl rfl (by decide +kernel) ⟨Nat.le_of_ble_eq_true rfl, Nat.le_of_ble_eq_true rfl⟩) hN hK hP hD [0, 8, 9] rfl (by decide) rfl 0 rfl rfl rfl rfl hl.1 rfl (Nat.le_of_ble_eq_true rfl) dX8_common_27 ⟨Nat.le_of_ble_eq_true rfl, Nat.le_of_ble_eq_true rfl⟩  ((k_X8_tell l D cI cJ cK x0 xn xl xt xo xf xs xp xq xr xc o1 z oz of r_18.toInt64 (by first | assumption | omega | decide +kernel) (by first | assumption | omega | decide +kernel)) _)) (fun u H locs hp hPD hS => ?_)
      obtain ⟨oz_19, of_20, rfl, hhz_oz_21⟩ := hp
      obtain ⟨hP, hD⟩ := hPD rfl
      have hP : va_P D vwCl (wl_k_X8_common cI cJ cK x0 xn xl xt xo xf xs xp xq xr xc f1 f2 s1 s2 o1 (nI z) nf (nI fz_5) fn_6 fs_7 (nI sz_8) sn_9 ss_10 (nI oz_19) of_20) H := hP
      have hD : va_D A (wl_k_X8_common cI cJ cK x0 xn xl xt xo xf xs xp xq xr xc f1 f2 s1 s2 o1 (nI z) nf (nI fz_5) fn_6 fs_7 (nI sz_8) sn_9 ss_10 (nI oz_19) of_20) := hD
      refine lv_iconst (v := 0) hx hb dX8_common_30 (by decide +kernel) ?_
      refine lv_istore (lv' := [(5, .int 0), (0, .ref x0), (1, .int (nI a_1)), (2, .int (nI b_2)), (3, .int (nI e_3)), (4, .int (nI d_4))]) hx hb dX8_common_31 hl (by decide) rfl (fun ls hl => ?_)
      refine lv_iconst (v := 0) hx hb dX8_common_33 (by decide +kernel) ?_
      refine lv_istore (lv' := [(6, .int 0), (5, .int 0), (0, .ref x0), (1, .int (nI a_1)), (2, .int (nI b_2)), (3, .int (nI e_3)), (4, .int (nI d_4))]) hx hb dX8_common_34 hl (by decide) rfl (fun ls hl => ?_)
      have loop36 : ∀ (n9 : Nat) (k : Nat) (y5_36 : Int32) (xo_size_36 : Nat) (o1_36 : Nat → Int64), 256 - k < n9 → (k ≤ 256) → (xo_size_36 ≤ 64) → ∀ (H : Heap) (locs : List Loc) (ls : Array Slot), va_P D vwCl (wl_k_X8_common cI cJ cK x0 xn xl xt xo xf xs xp xq xr xc f1 f2 s1 s2 o1 (nI z) nf (nI fz_5) fn_6 fs_7 (nI sz_8) sn_9 ss_10 (nI xo_size_36) o1_36) H → va_D A (wl_k_X8_common cI cJ cK x0 xn xl xt xo xf xs xp xq xr xc f1 f2 s1 s2 o1 (nI z) nf (nI fz_5) fn_6 fs_7 (nI sz_8) sn_9 ss_10 (nI xo_size_36) o1_36) → va_S A s.heap H locs → lv_has ls 7 [(6, .int (nI k)), (5, .int y5_36), (0, .ref x0), (1, .int (nI a_1)), (2, .int (nI b_2)), (3, .int (nI e_3)), (4, .int (nI d_4))] → W p l e ({ frames := 5, cells := 0, slots := 0, locals := 300 } : Room) s m [.ref x0, .int (nI a_1), .int (nI b_2), .int (nI e_3), .int (nI d_4)].toArray below meth c H locs 0 0 (MQ below (va_Qi (fun (r : Int32) (u : va_W) => ∃ (fz' : Nat) (fn' : Nat → Int32) (fs' : Nat → Int32) (sz' : Nat) (sn' : Nat → Int32) (ss' : Nat → Int32) (oz' : Nat) (of' : Nat → Int64), u = (wl_k_X8_common cI cJ cK x0 xn xl xt xo xf xs xp xq xr xc f1 f2 s1 s2 o1 (nI z) nf (nI fz') fn' fs' (nI sz') sn' ss' (nI oz') of') ∧ fz' ≤ 64 ∧ sz' ≤ 64 ∧ oz' ≤ 64) (my_B D (tyIJ cI cJ cK) A) A) [.ref x0, .int (nI a_1), .int (nI b_2), .int (nI e_3), .int (nI d_4)].toArray s 0 0 A) (F0 m 36 ls []) := by
        intro n9
        induction n9 with
        | zero =>
          intro k y5_36 xo_size_36 o1_36 hn9
          exact absurd hn9 (Nat.not_lt_zero _)
        | succ n9 ih36 =>
          intro k y5_36 xo_size_36 o1_36 hn9 hk_k hz_xo_size_36 H locs ls hP hD hS hl
          refine lv_iload hx hb dX8_common_36 (lv_at hl 0 rfl) ?_
          refine lv_sipush (v := 255) hx hb dX8_common_38 (by decide +kernel) ?_
          refine lv_icmp_gt (tgt := 128) hx hb dX8_common_41 (by decide) (fun c41 => ?_) (fun c41 => ?_)
          ·
            have d41 : ((k : Nat) : Int) > (255 : Int) := my_gt c41 (nI_toInt (by omega)) (by decide +kernel)
            refine lv_iload hx hb dX8_common_128 (lv_at hl 1 rfl) ?_
            exact my_retI hx hb hr hlocks hK hS (wl_k_X8_common cI cJ cK x0 xn xl xt xo xf xs xp xq xr xc f1 f2 s1 s2 o1 (nI z) nf (nI fz_5) fn_6 fs_7 (nI sz_8) sn_9 ss_10 (nI xo_size_36) o1_36) hP hD (⟨fz_5, fn_6, fs_7, sz_8, sn_9, ss_10, xo_size_36, o1_36, rfl, (by first | assumption | omega | trivial | decide +kernel), (by first | assumption | omega | trivial | decide +kernel), (by first | assumption | omega | trivial | decide +kernel)⟩) dX8_common_130
          ·
            have d41 : ((k : Nat) : Int) ≤ (255 : Int) := my_ngt c41 (nI_toInt (by omega)) (by decide +kernel)
            refine lv_aload_n hx hb dX8_common_44 rfl (lv_at hl 2 rfl) ?_
            refine va_get (ci := 8) (v := .ref xf) (C := RX8) (T := TX8) (N := 11) hx hb hts hi8 hown hK hP 0 rfl rfl 5 (by decide) fl41 (fun _ h9 => h9) rfl dX8_common_45 ?_
            refine lv_iload hx hb dX8_common_48 (lv_at hl 0 rfl) ?_
            refine my_gpI (my_pV (As := [.int (nI k)]) (rest := []) (ci := 6) ⟨hx, hb, hml, hown, hts⟩ (cwV 1 hts gX8_common_X6_timesOf rfl rfl rfl (by decide +kernel) ⟨Nat.le_of_ble_eq_true rfl, Nat.le_of_ble_eq_true rfl⟩) hN hK hP [2, 3] rfl 2 rfl rfl rfl rfl hl.1 rfl (Nat.le_of_ble_eq_true rfl) dX8_common_50 ⟨Nat.le_of_ble_eq_true rfl, Nat.le_of_ble_eq_true rfl⟩  (k_X6_timesOf l D cI cJ cK xf f1 f2 fz_5 fn_6 (nI k) (by first | assumption | omega | decide +kernel))) (fun r hp => ?_)
            obtain _ := hp
            obtain ⟨r_22, rfl⟩ : ∃ z, z = r := ⟨_, rfl⟩
            refine lv_if_le (tgt := 122) hx hb dX8_common_53 (by decide) (fun c53 => ?_) (fun c53 => ?_)
            ·
              have d53 : r_22.toInt ≤ (0 : Int) := my_le c53 rfl (by decide +kernel)
              refine lv_iinc (v := nI (k + 1)) (lv' := [(6, .int (nI (k + 1))), (5, .int y5_36), (0, .ref x0), (1, .int (nI a_1)), (2, .int (nI b_2)), (3, .int (nI e_3)), (4, .int (nI d_4))]) hx hb dX8_common_122 hl (k := 0) rfl (my_incN k 1 (by decide +kernel)) (by decide) rfl (fun ls hl => ?_)
              refine lv_goto (tgt := 36) hx hb dX8_common_125 (by decide) ?_
              exact ih36  (k + 1) y5_36 xo_size_36 o1_36 (by omega) (by first | assumption | omega | decide +kernel) (by first | assumption | omega | decide +kernel) _ _ ls hP hD hS (lv_sub hl [0, 1, 2, 3, 4, 5, 6] rfl)
            ·
              have d53 : r_22.toInt > (0 : Int) := my_nle c53 rfl (by decide +kernel)
              refine lv_aload_n hx hb dX8_common_56 rfl (lv_at hl 2 rfl) ?_
              refine va_get (ci := 8) (v := .ref xs) (C := RX8) (T := TX8) (N := 11) hx hb hts hi8 hown hK hP 0 rfl rfl 6 (by decide) fl45 (fun _ h9 => h9) rfl dX8_common_57 ?_
              refine lv_iload hx hb dX8_common_60 (lv_at hl 0 rfl) ?_
              refine my_gpI (my_pV (As := [.int (nI k)]) (rest := []) (ci := 6) ⟨hx, hb, hml, hown, hts⟩ (cwV 1 hts gX8_common_X6_timesOf rfl rfl rfl (by decide +kernel) ⟨Nat.le_of_ble_eq_true rfl, Nat.le_of_ble_eq_true rfl⟩) hN hK hP [5, 6] rfl 5 rfl rfl rfl rfl hl.1 rfl (Nat.le_of_ble_eq_true rfl) dX8_common_62 ⟨Nat.le_of_ble_eq_true rfl, Nat.le_of_ble_eq_true rfl⟩  (k_X6_timesOf l D cI cJ cK xs s1 s2 sz_8 sn_9 (nI k) (by first | assumption | omega | decide +kernel))) (fun r hp => ?_)
              obtain _ := hp
              obtain ⟨r_23, rfl⟩ : ∃ z, z = r := ⟨_, rfl⟩
              refine lv_if_le (tgt := 122) hx hb dX8_common_65 (by decide) (fun c65 => ?_) (fun c65 => ?_)
              ·
                have d65 : r_23.toInt ≤ (0 : Int) := my_le c65 rfl (by decide +kernel)
                refine lv_iinc (v := nI (k + 1)) (lv' := [(6, .int (nI (k + 1))), (5, .int y5_36), (0, .ref x0), (1, .int (nI a_1)), (2, .int (nI b_2)), (3, .int (nI e_3)), (4, .int (nI d_4))]) hx hb dX8_common_122 hl (k := 0) rfl (my_incN k 1 (by decide +kernel)) (by decide) rfl (fun ls hl => ?_)
                refine lv_goto (tgt := 36) hx hb dX8_common_125 (by decide) ?_
                exact ih36  (k + 1) y5_36 xo_size_36 o1_36 (by omega) (by first | assumption | omega | decide +kernel) (by first | assumption | omega | decide +kernel) _ _ ls hP hD hS (lv_sub hl [0, 1, 2, 3, 4, 5, 6] rfl)
              ·
                have d65 : r_23.toInt > (0 : Int) := my_nle c65 rfl (by decide +kernel)
                refine lv_iload hx hb dX8_common_68 (lv_at hl 1 rfl) ?_
                refine lv_bipush (v := 16) hx hb dX8_common_70 (by decide +kernel) ?_
                refine lv_icmp_ge (tgt := 119) hx hb dX8_common_72 (by decide) (fun c72 => ?_) (fun c72 => ?_)
                ·
                  have d72 : y5_36.toInt ≥ (16 : Int) := my_ge c72 rfl (by decide +kernel)
                  obtain ⟨z_24, ez_24⟩ : ∃ y : Int32, y = y5_36 + (1) := ⟨_, rfl⟩
                  try have tz_24 : z_24.toInt = y5_36.toInt + (1) := by rw [ez_24]; exact my_addI rfl (by decide +kernel) (by omega) (by omega)
                  refine lv_iinc (v := z_24) (lv' := [(5, .int z_24), (6, .int (nI k)), (0, .ref x0), (1, .int (nI a_1)), (2, .int (nI b_2)), (3, .int (nI e_3)), (4, .int (nI d_4))]) hx hb dX8_common_119 hl (k := 1) rfl (by rw [ez_24]; rfl) (by decide) rfl (fun ls hl => ?_)
                  refine lv_iinc (v := nI (k + 1)) (lv' := [(6, .int (nI (k + 1))), (5, .int z_24), (0, .ref x0), (1, .int (nI a_1)), (2, .int (nI b_2)), (3, .int (nI e_3)), (4, .int (nI d_4))]) hx hb dX8_common_122 hl (k := 1) rfl (my_incN k 1 (by decide +kernel)) (by decide) rfl (fun ls hl => ?_)
                  refine lv_goto (tgt := 36) hx hb dX8_common_125 (by decide) ?_
                  exact ih36  (k + 1) z_24 xo_size_36 o1_36 (by omega) (by first | assumption | omega | decide +kernel) (by first | assumption | omega | decide +kernel) _ _ ls hP hD hS (lv_sub hl [0, 1, 2, 3, 4, 5, 6] rfl)
                ·
                  have d72 : y5_36.toInt < (16 : Int) := my_nge c72 rfl (by decide +kernel)
                  refine lv_aload_n hx hb dX8_common_75 rfl (lv_at hl 2 rfl) ?_
                  refine va_get (ci := 8) (v := .ref xo) (C := RX8) (T := TX8) (N := 11) hx hb hts hi8 hown hK hP 0 rfl rfl 4 (by decide) fl34 (fun _ h9 => h9) rfl dX8_common_76 ?_
                  refine lv_iload hx hb dX8_common_79 (lv_at hl 0 rfl) ?_
                  refine lv_i2l (v := lN k) hx hb dX8_common_81 (nI_l (by omega)) ?_
                  refine my_goVS (wc := (wl_k_X7_add cI cJ cK xo o1 (nI xo_size_36) o1_36)) hP hD hS hA [8, 9] rfl [none, none, none, none, none, none, none, none, some 0, some 1] (by decide +kernel) (my_cV (As := [.long (lN k)]) (rest := []) (ci := 7) (wc := (wl_k_X7_add cI cJ cK xo o1 (nI xo_size_36) o1_36)) ⟨hx, hb, hml, hown, hts⟩ (cwV 1 hts gX8_common_X7_add rfl rfl rfl (by decide +kernel) ⟨Nat.le_of_ble_eq_true rfl, Nat.le_of_ble_eq_true rfl⟩) hN hK hP hD [8, 9] rfl (by decide) rfl 8 rfl rfl rfl rfl hl.1 rfl (Nat.le_of_ble_eq_true rfl) dX8_common_82 ⟨Nat.le_of_ble_eq_true rfl, Nat.le_of_ble_eq_true rfl⟩  ((k_X7_add l D cI cJ cK xo o1 xo_size_36 o1_36 (lN k) (by first | assumption | omega | decide +kernel)) _)) (fun u H locs hp hPD hS => ?_)
                  obtain ⟨oz_25, of_26, rfl, hhz_oz_27⟩ := hp
                  obtain ⟨hP, hD⟩ := hPD rfl
                  have hP : va_P D vwCl (wl_k_X8_common cI cJ cK x0 xn xl xt xo xf xs xp xq xr xc f1 f2 s1 s2 o1 (nI z) nf (nI fz_5) fn_6 fs_7 (nI sz_8) sn_9 ss_10 (nI oz_25) of_26) H := hP
                  have hD : va_D A (wl_k_X8_common cI cJ cK x0 xn xl xt xo xf xs xp xq xr xc f1 f2 s1 s2 o1 (nI z) nf (nI fz_5) fn_6 fs_7 (nI sz_8) sn_9 ss_10 (nI oz_25) of_26) := hD
                  refine lv_aload_n hx hb dX8_common_85 rfl (lv_at hl 2 rfl) ?_
                  refine va_get (ci := 8) (v := .ref xo) (C := RX8) (T := TX8) (N := 11) hx hb hts hi8 hown hK hP 0 rfl rfl 4 (by decide) fl34 (fun _ h9 => h9) rfl dX8_common_86 ?_
                  refine lv_aload_n hx hb dX8_common_89 rfl (lv_at hl 2 rfl) ?_
                  refine va_get (ci := 8) (v := .ref xf) (C := RX8) (T := TX8) (N := 11) hx hb hts hi8 hown hK hP 0 rfl rfl 5 (by decide) fl41 (fun _ h9 => h9) rfl dX8_common_90 ?_
                  refine lv_iload hx hb dX8_common_93 (lv_at hl 0 rfl) ?_
                  refine my_gpI (my_pV (As := [.int (nI k)]) (rest := [.ref xo]) (ci := 6) ⟨hx, hb, hml, hown, hts⟩ (cwV 1 hts gX8_common_X6_timesOf rfl rfl rfl (by decide +kernel) ⟨Nat.le_of_ble_eq_true rfl, Nat.le_of_ble_eq_true rfl⟩) hN hK hP [2, 3] rfl 2 rfl rfl rfl rfl hl.1 rfl (Nat.le_of_ble_eq_true rfl) dX8_common_95 ⟨Nat.le_of_ble_eq_true rfl, Nat.le_of_ble_eq_true rfl⟩  (k_X6_timesOf l D cI cJ cK xf f1 f2 fz_5 fn_6 (nI k) (by first | assumption | omega | decide +kernel))) (fun r hp => ?_)
                  obtain _ := hp
                  obtain ⟨r_28, rfl⟩ : ∃ z, z = r := ⟨_, rfl⟩
                  refine lv_i2l (v := r_28.toInt64) hx hb dX8_common_98 rfl ?_
                  refine my_goVS (wc := (wl_k_X7_add cI cJ cK xo o1 (nI oz_25) of_26)) hP hD hS hA [8, 9] rfl [none, none, none, none, none, none, none, none, some 0, some 1] (by decide +kernel) (my_cV (As := [.long r_28.toInt64]) (rest := []) (ci := 7) (wc := (wl_k_X7_add cI cJ cK xo o1 (nI oz_25) of_26)) ⟨hx, hb, hml, hown, hts⟩ (cwV 1 hts gX8_common_X7_add rfl rfl rfl (by decide +kernel) ⟨Nat.le_of_ble_eq_true rfl, Nat.le_of_ble_eq_true rfl⟩) hN hK hP hD [8, 9] rfl (by decide) rfl 8 rfl rfl rfl rfl hl.1 rfl (Nat.le_of_ble_eq_true rfl) dX8_common_99 ⟨Nat.le_of_ble_eq_true rfl, Nat.le_of_ble_eq_true rfl⟩  ((k_X7_add l D cI cJ cK xo o1 oz_25 of_26 r_28.toInt64 (by first | assumption | omega | decide +kernel)) _)) (fun u H locs hp hPD hS => ?_)
                  obtain ⟨oz_29, of_30, rfl, hhz_oz_31⟩ := hp
                  obtain ⟨hP, hD⟩ := hPD rfl
                  have hP : va_P D vwCl (wl_k_X8_common cI cJ cK x0 xn xl xt xo xf xs xp xq xr xc f1 f2 s1 s2 o1 (nI z) nf (nI fz_5) fn_6 fs_7 (nI sz_8) sn_9 ss_10 (nI oz_29) of_30) H := hP
                  have hD : va_D A (wl_k_X8_common cI cJ cK x0 xn xl xt xo xf xs xp xq xr xc f1 f2 s1 s2 o1 (nI z) nf (nI fz_5) fn_6 fs_7 (nI sz_8) sn_9 ss_10 (nI oz_29) of_30) := hD
                  refine lv_aload_n hx hb dX8_common_102 rfl (lv_at hl 2 rfl) ?_
                  refine va_get (ci := 8) (v := .ref xo) (C := RX8) (T := TX8) (N := 11) hx hb hts hi8 hown hK hP 0 rfl rfl 4 (by decide) fl34 (fun _ h9 => h9) rfl dX8_common_103 ?_
                  refine lv_aload_n hx hb dX8_common_106 rfl (lv_at hl 2 rfl) ?_
                  refine va_get (ci := 8) (v := .ref xs) (C := RX8) (T := TX8) (N := 11) hx hb hts hi8 hown hK hP 0 rfl rfl 6 (by decide) fl45 (fun _ h9 => h9) rfl dX8_common_107 ?_
                  refine lv_iload hx hb dX8_common_110 (lv_at hl 0 rfl) ?_
                  refine my_gpI (my_pV (As := [.int (nI k)]) (rest := [.ref xo]) (ci := 6) ⟨hx, hb, hml, hown, hts⟩ (cwV 1 hts gX8_common_X6_timesOf rfl rfl rfl (by decide +kernel) ⟨Nat.le_of_ble_eq_true rfl, Nat.le_of_ble_eq_true rfl⟩) hN hK hP [5, 6] rfl 5 rfl rfl rfl rfl hl.1 rfl (Nat.le_of_ble_eq_true rfl) dX8_common_112 ⟨Nat.le_of_ble_eq_true rfl, Nat.le_of_ble_eq_true rfl⟩  (k_X6_timesOf l D cI cJ cK xs s1 s2 sz_8 sn_9 (nI k) (by first | assumption | omega | decide +kernel))) (fun r hp => ?_)
                  obtain _ := hp
                  obtain ⟨r_32, rfl⟩ : ∃ z, z = r := ⟨_, rfl⟩
                  refine lv_i2l (v := r_32.toInt64) hx hb dX8_common_115 rfl ?_
                  refine my_goVS (wc := (wl_k_X7_add cI cJ cK xo o1 (nI oz_29) of_30)) hP hD hS hA [8, 9] rfl [none, none, none, none, none, none, none, none, some 0, some 1] (by decide +kernel) (my_cV (As := [.long r_32.toInt64]) (rest := []) (ci := 7) (wc := (wl_k_X7_add cI cJ cK xo o1 (nI oz_29) of_30)) ⟨hx, hb, hml, hown, hts⟩ (cwV 1 hts gX8_common_X7_add rfl rfl rfl (by decide +kernel) ⟨Nat.le_of_ble_eq_true rfl, Nat.le_of_ble_eq_true rfl⟩) hN hK hP hD [8, 9] rfl (by decide) rfl 8 rfl rfl rfl rfl hl.1 rfl (Nat.le_of_ble_eq_true rfl) dX8_common_116 ⟨Nat.le_of_ble_eq_true rfl, Nat.le_of_ble_eq_true rfl⟩  ((k_X7_add l D cI cJ cK xo o1 oz_29 of_30 r_32.toInt64 (by first | assumption | omega | decide +kernel)) _)) (fun u H locs hp hPD hS => ?_)
                  obtain ⟨oz_33, of_34, rfl, hhz_oz_35⟩ := hp
                  obtain ⟨hP, hD⟩ := hPD rfl
                  have hP : va_P D vwCl (wl_k_X8_common cI cJ cK x0 xn xl xt xo xf xs xp xq xr xc f1 f2 s1 s2 o1 (nI z) nf (nI fz_5) fn_6 fs_7 (nI sz_8) sn_9 ss_10 (nI oz_33) of_34) H := hP
                  have hD : va_D A (wl_k_X8_common cI cJ cK x0 xn xl xt xo xf xs xp xq xr xc f1 f2 s1 s2 o1 (nI z) nf (nI fz_5) fn_6 fs_7 (nI sz_8) sn_9 ss_10 (nI oz_33) of_34) := hD
                  obtain ⟨z_36, ez_36⟩ : ∃ y : Int32, y = y5_36 + (1) := ⟨_, rfl⟩
                  try have tz_36 : z_36.toInt = y5_36.toInt + (1) := by rw [ez_36]; exact my_addI rfl (by decide +kernel) (by omega) (by omega)
                  refine lv_iinc (v := z_36) (lv' := [(5, .int z_36), (6, .int (nI k)), (0, .ref x0), (1, .int (nI a_1)), (2, .int (nI b_2)), (3, .int (nI e_3)), (4, .int (nI d_4))]) hx hb dX8_common_119 hl (k := 1) rfl (by rw [ez_36]; rfl) (by decide) rfl (fun ls hl => ?_)
                  refine lv_iinc (v := nI (k + 1)) (lv' := [(6, .int (nI (k + 1))), (5, .int z_36), (0, .ref x0), (1, .int (nI a_1)), (2, .int (nI b_2)), (3, .int (nI e_3)), (4, .int (nI d_4))]) hx hb dX8_common_122 hl (k := 1) rfl (my_incN k 1 (by decide +kernel)) (by decide) rfl (fun ls hl => ?_)
                  refine lv_goto (tgt := 36) hx hb dX8_common_125 (by decide) ?_
                  exact ih36  (k + 1) z_36 oz_33 of_34 (by omega) (by first | assumption | omega | decide +kernel) (by first | assumption | omega | decide +kernel) _ _ ls hP hD hS (lv_sub hl [0, 1, 2, 3, 4, 5, 6] rfl)
      have ec_37 : (0 : Int32).toInt = 0 := by decide +kernel
      exact loop36 ((256 - 0) + 1) 0 (0 : Int32) oz_19 of_20 (Nat.lt_succ_self _) (by first | assumption | omega | decide +kernel) (by first | assumption | omega | decide +kernel) _ _ ls hP hD hS (lv_sub hl [0, 1, 2, 3, 4, 5, 6] rfl)
    ·
      exact absurd c9 (by decide +kernel)
  ·
    obtain ⟨hP, hD⟩ := hPD rfl
    have hP : va_P D vwCl (wl_k_X8_common cI cJ cK x0 xn xl xt xo xf xs xp xq xr xc f1 f2 s1 s2 o1 (nI z) nf (nI fz) fn fs (nI sz) sn ss (nI oz) of) H := hP
    have hD : va_D A (wl_k_X8_common cI cJ cK x0 xn xl xt xo xf xs xp xq xr xc f1 f2 s1 s2 o1 (nI z) nf (nI fz) fn fs (nI sz) sn ss (nI oz) of) := hD
    refine lv_if_ne (tgt := 14) hx hb dX8_common_9 (by decide) (fun c9 => ?_) (fun c9 => ?_)
    ·
      exact absurd c9 (by decide +kernel)
    ·
      refine lv_iconst (v := (-1)) hx hb dX8_common_12 (by decide +kernel) ?_
      exact my_retI hx hb hr hlocks hK hS (wl_k_X8_common cI cJ cK x0 xn xl xt xo xf xs xp xq xr xc f1 f2 s1 s2 o1 (nI z) nf (nI fz) fn fs (nI sz) sn ss (nI oz) of) hP hD (⟨fz, fn, fs, sz, sn, ss, oz, of, rfl, (by first | assumption | omega | trivial | decide +kernel), (by first | assumption | omega | trivial | decide +kernel), (by first | assumption | omega | trivial | decide +kernel)⟩) dX8_common_13
abbrev wl_k_X8_lacking (cI cJ cK : ClassId) (x0 : Nat) (xn : Nat) (xl : Nat) (xt : Nat) (xo : Nat) (xf : Nat) (xs : Nat) (xp : Nat) (xq : Nat) (xr : Nat) (xc : Nat) (f1 : Nat) (f2 : Nat) (s1 : Nat) (s2 : Nat) (o1 : Nat) (v0_ : Int32) (v1_ : Nat → Int32) (v2_ : Int32) (v3_ : Nat → Int32) (v4_ : Nat → Int32) (v5_ : Int32) (v6_ : Nat → Int32) (v7_ : Nat → Int32) (v8_ : Int32) (v9_ : Nat → Int64) : va_W := [(x0, .inr (8, [.ref xn, .int v0_, .ref xl, .ref xt, .ref xo, .ref xf, .ref xs, .ref xp, .ref xq, .ref xr, .ref xc])), (xn, .inl (cI, 64, .inl v1_)), (xf, .inr (6, [.ref f1, .ref f2, .int v2_])), (f1, .inl (cI, 512, .inl v3_)), (f2, .inl (cI, 64, .inl v4_)), (xs, .inr (6, [.ref s1, .ref s2, .int v5_])), (s1, .inl (cI, 512, .inl v6_)), (s2, .inl (cI, 64, .inl v7_)), (xo, .inr (7, [.ref o1, .int v8_])), (o1, .inl (cJ, 64, .inr (.inl v9_)))]
set_option maxHeartbeats 4000000 in
set_option maxRecDepth 100000 in
theorem k_X8_lacking (l : Launch) (D : va_G) (cI cJ cK : ClassId) (x0 : Nat) (xn : Nat) (xl : Nat) (xt : Nat) (xo : Nat) (xf : Nat) (xs : Nat) (xp : Nat) (xq : Nat) (xr : Nat) (xc : Nat) (f1 : Nat) (f2 : Nat) (s1 : Nat) (s2 : Nat) (o1 : Nat) (z : Nat) (nf : Nat → Int32) (fz : Nat) (fn : Nat → Int32) (fs : Nat → Int32) (sz : Nat) (sn : Nat → Int32) (ss : Nat → Int32) (oz : Nat) (of : Nat → Int64) (l9 : Int32) (r9 : Int32) (s9 : Int32) (t9 : Int32) (hz_z : z ≤ 64) (hR_nf : RB 0 255 nf) (hz_fz : fz ≤ 64) (hz_sz : sz ≤ 64) (hz_oz : oz ≤ 64) : ctI l yX8_lacking wsX8_lacking ({ frames := 5, cells := 0, slots := 0, locals := 300 } : Room) D (tyIJ cI cJ cK) [.ref x0, .int l9, .int r9, .int s9, .int t9] (wl_k_X8_lacking cI cJ cK x0 xn xl xt xo xf xs xp xq xr xc f1 f2 s1 s2 o1 (nI z) nf (nI fz) fn fs (nI sz) sn ss (nI oz) of) (fun (r : Int32) (u : va_W) => ∃ (fz' : Nat) (fn' : Nat → Int32) (fs' : Nat → Int32) (sz' : Nat) (sn' : Nat → Int32) (ss' : Nat → Int32) (oz' : Nat) (of' : Nat → Int64), u = (wl_k_X8_lacking cI cJ cK x0 xn xl xt xo xf xs xp xq xr xc f1 f2 s1 s2 o1 (nI z) nf (nI fz') fn' fs' (nI sz') sn' ss' (nI oz') of') ∧ fz' ≤ 64 ∧ sz' ≤ 64 ∧ oz' ≤ 64) := by
  refine ctI.of (cc := cX8_lacking) (maxL := 7) (ret := (some .int)) (by decide) rfl (Nat.le_of_ble_eq_true rfl) ?_
  intro p e s m below meth c ls A hx hb hr hts hown hml hlocks hname hA hK hN hP hD hS hl
  have hl : lv_has ls 7 [(0, .ref x0), (1, .int l9), (2, .int r9), (3, .int s9), (4, .int t9)] := hl
  have hown : s.vm.findClass RX8 = some m.cls := hown
  have hi8 : ∀ w ∈ u_ws RX8 TX8 11, w ∈ wsX8_lacking := by decide +kernel
  have fl34 := hts (.fieldLink RX8 34 "PlaneColumn" "told" "LPlaneColumn$Told;") (by decide +kernel)
  have fl41 := hts (.fieldLink RX8 41 "PlaneColumn" "first" "LPlaneColumn$Tally;") (by decide +kernel)
  have fl45 := hts (.fieldLink RX8 45 "PlaneColumn" "second" "LPlaneColumn$Tally;") (by decide +kernel)
  refine lv_aload_n hx hb dX8_lacking_0 rfl (lv_at hl 0 rfl) ?_
  refine lv_iload_n hx hb dX8_lacking_1 rfl (lv_at hl 1 rfl) ?_
  refine lv_iload_n hx hb dX8_lacking_2 rfl (lv_at hl 2 rfl) ?_
  refine lv_iload_n hx hb dX8_lacking_3 rfl (lv_at hl 3 rfl) ?_
  refine lv_iload hx hb dX8_lacking_4 (lv_at hl 4 rfl) ?_
  refine my_goIS (wc := (wl_k_X8_takeBoth cI cJ cK x0 xn xl xt xo xf xs xp xq xr xc f1 f2 s1 s2 (nI z) nf (nI fz) fn fs (nI sz) sn ss)) hP hD hS hA [0, 1, 2, 3, 4, 5, 6, 7] rfl [some 0, some 1, some 2, some 3, some 4, some 5, some 6, some 7] (by decide +kernel) (my_cV (As := [.int l9, .int r9, .int s9, .int t9]) (rest := []) (ci := 8) (wc := (wl_k_X8_takeBoth cI cJ cK x0 xn xl xt xo xf xs xp xq xr xc f1 f2 s1 s2 (nI z) nf (nI fz) fn fs (nI sz) sn ss)) ⟨hx, hb, hml, hown, hts⟩ (cwV 4 hts gX8_lacking_X8_takeBoth rfl rfl rfl (by decide +kernel) ⟨Nat.le_of_ble_eq_true rfl, Nat.le_of_ble_eq_true rfl⟩) hN hK hP hD [0, 1, 2, 3, 4, 5, 6, 7] rfl (by decide) rfl 0 rfl rfl rfl rfl hl.1 rfl (Nat.le_of_ble_eq_true rfl) dX8_lacking_6 ⟨Nat.le_of_ble_eq_true rfl, Nat.le_of_ble_eq_true rfl⟩  ((k_X8_takeBoth l D cI cJ cK x0 xn xl xt xo xf xs xp xq xr xc f1 f2 s1 s2 z nf fz fn fs sz sn ss l9 r9 s9 t9 (by first | assumption | omega | decide +kernel) hR_nf (by first | assumption | omega | decide +kernel) (by first | assumption | omega | decide +kernel)) _)) (fun r u H locs hp hPD hS => ?_)
  rcases hp with ⟨a_1, b_2, e_3, d_4, fz_5, fn_6, fs_7, sz_8, sn_9, ss_10, rfl, rfl, rfl, rfl, rfl, rfl, hhz_fz_11, hhz_sz_12, hx1_13, hx2_14, hx3_15, hx4_16, hnF, hnS⟩ | ⟨rfl, rfl, ho_17⟩
  ·
    obtain ⟨hP, hD⟩ := hPD rfl
    have hP : va_P D vwCl (wl_k_X8_lacking cI cJ cK x0 xn xl xt xo xf xs xp xq xr xc f1 f2 s1 s2 o1 (nI z) nf (nI fz_5) fn_6 fs_7 (nI sz_8) sn_9 ss_10 (nI oz) of) H := hP
    have hD : va_D A (wl_k_X8_lacking cI cJ cK x0 xn xl xt xo xf xs xp xq xr xc f1 f2 s1 s2 o1 (nI z) nf (nI fz_5) fn_6 fs_7 (nI sz_8) sn_9 ss_10 (nI oz) of) := hD
    refine lv_if_ne (tgt := 14) hx hb dX8_lacking_9 (by decide) (fun c9 => ?_) (fun c9 => ?_)
    ·
      refine lv_aload_n hx hb dX8_lacking_14 rfl (lv_at hl 0 rfl) ?_
      refine va_get (ci := 8) (v := .ref xo) (C := RX8) (T := TX8) (N := 11) hx hb hts hi8 hown hK hP 0 rfl rfl 4 (by decide) fl34 (fun _ h9 => h9) rfl dX8_lacking_15 ?_
      refine my_goVS (wc := (wl_k_X7_begin cI cJ cK xo o1 (nI oz))) hP hD hS hA [8] rfl [none, none, none, none, none, none, none, none, some 0] (by decide +kernel) (my_cV (As := []) (rest := []) (ci := 7) (wc := (wl_k_X7_begin cI cJ cK xo o1 (nI oz))) ⟨hx, hb, hml, hown, hts⟩ (cwV 0 hts gX8_lacking_X7_begin rfl rfl rfl (by decide +kernel) ⟨Nat.le_of_ble_eq_true rfl, Nat.le_of_ble_eq_true rfl⟩) hN hK hP hD [8] rfl (by decide) rfl 8 rfl rfl rfl rfl hl.1 rfl (Nat.le_of_ble_eq_true rfl) dX8_lacking_18 ⟨Nat.le_of_ble_eq_true rfl, Nat.le_of_ble_eq_true rfl⟩  ((k_X7_begin l D cI cJ cK xo o1 oz (by first | assumption | omega | decide +kernel)) _)) (fun u H locs hp hPD hS => ?_)
      obtain rfl := hp
      obtain ⟨hP, hD⟩ := hPD rfl
      have hP : va_P D vwCl (wl_k_X8_lacking cI cJ cK x0 xn xl xt xo xf xs xp xq xr xc f1 f2 s1 s2 o1 (nI z) nf (nI fz_5) fn_6 fs_7 (nI sz_8) sn_9 ss_10 0 of) H := hP
      have hD : va_D A (wl_k_X8_lacking cI cJ cK x0 xn xl xt xo xf xs xp xq xr xc f1 f2 s1 s2 o1 (nI z) nf (nI fz_5) fn_6 fs_7 (nI sz_8) sn_9 ss_10 0 of) := hD
      refine lv_iconst (v := 0) hx hb dX8_lacking_21 (by decide +kernel) ?_
      refine lv_istore (lv' := [(5, .int 0), (0, .ref x0), (1, .int (nI a_1)), (2, .int (nI b_2)), (3, .int (nI e_3)), (4, .int (nI d_4))]) hx hb dX8_lacking_22 hl (by decide) rfl (fun ls hl => ?_)
      refine lv_iconst (v := 0) hx hb dX8_lacking_24 (by decide +kernel) ?_
      refine lv_istore (lv' := [(6, .int 0), (5, .int 0), (0, .ref x0), (1, .int (nI a_1)), (2, .int (nI b_2)), (3, .int (nI e_3)), (4, .int (nI d_4))]) hx hb dX8_lacking_25 hl (by decide) rfl (fun ls hl => ?_)
      have loop27 : ∀ (n9 : Nat) (k : Nat) (y5_27 : Int32) (xo_size_27 : Nat) (o1_27 : Nat → Int64), 256 - k < n9 → (k ≤ 256) → (xo_size_27 ≤ 64) → ∀ (H : Heap) (locs : List Loc) (ls : Array Slot), va_P D vwCl (wl_k_X8_lacking cI cJ cK x0 xn xl xt xo xf xs xp xq xr xc f1 f2 s1 s2 o1 (nI z) nf (nI fz_5) fn_6 fs_7 (nI sz_8) sn_9 ss_10 (nI xo_size_27) o1_27) H → va_D A (wl_k_X8_lacking cI cJ cK x0 xn xl xt xo xf xs xp xq xr xc f1 f2 s1 s2 o1 (nI z) nf (nI fz_5) fn_6 fs_7 (nI sz_8) sn_9 ss_10 (nI xo_size_27) o1_27) → va_S A s.heap H locs → lv_has ls 7 [(6, .int (nI k)), (5, .int y5_27), (0, .ref x0), (1, .int (nI a_1)), (2, .int (nI b_2)), (3, .int (nI e_3)), (4, .int (nI d_4))] → W p l e ({ frames := 5, cells := 0, slots := 0, locals := 300 } : Room) s m [.ref x0, .int (nI a_1), .int (nI b_2), .int (nI e_3), .int (nI d_4)].toArray below meth c H locs 0 0 (MQ below (va_Qi (fun (r : Int32) (u : va_W) => ∃ (fz' : Nat) (fn' : Nat → Int32) (fs' : Nat → Int32) (sz' : Nat) (sn' : Nat → Int32) (ss' : Nat → Int32) (oz' : Nat) (of' : Nat → Int64), u = (wl_k_X8_lacking cI cJ cK x0 xn xl xt xo xf xs xp xq xr xc f1 f2 s1 s2 o1 (nI z) nf (nI fz') fn' fs' (nI sz') sn' ss' (nI oz') of') ∧ fz' ≤ 64 ∧ sz' ≤ 64 ∧ oz' ≤ 64) (my_B D (tyIJ cI cJ cK) A) A) [.ref x0, .int (nI a_1), .int (nI b_2), .int (nI e_3), .int (nI d_4)].toArray s 0 0 A) (F0 m 27 ls []) := by
        intro n9
        induction n9 with
        | zero =>
          intro k y5_27 xo_size_27 o1_27 hn9
          exact absurd hn9 (Nat.not_lt_zero _)
        | succ n9 ih27 =>
          intro k y5_27 xo_size_27 o1_27 hn9 hk_k hz_xo_size_27 H locs ls hP hD hS hl
          refine lv_iload hx hb dX8_lacking_27 (lv_at hl 0 rfl) ?_
          refine lv_sipush (v := 255) hx hb dX8_lacking_29 (by decide +kernel) ?_
          refine lv_icmp_gt (tgt := 102) hx hb dX8_lacking_32 (by decide) (fun c32 => ?_) (fun c32 => ?_)
          ·
            have d32 : ((k : Nat) : Int) > (255 : Int) := my_gt c32 (nI_toInt (by omega)) (by decide +kernel)
            refine lv_iload hx hb dX8_lacking_102 (lv_at hl 1 rfl) ?_
            exact my_retI hx hb hr hlocks hK hS (wl_k_X8_lacking cI cJ cK x0 xn xl xt xo xf xs xp xq xr xc f1 f2 s1 s2 o1 (nI z) nf (nI fz_5) fn_6 fs_7 (nI sz_8) sn_9 ss_10 (nI xo_size_27) o1_27) hP hD (⟨fz_5, fn_6, fs_7, sz_8, sn_9, ss_10, xo_size_27, o1_27, rfl, (by first | assumption | omega | trivial | decide +kernel), (by first | assumption | omega | trivial | decide +kernel), (by first | assumption | omega | trivial | decide +kernel)⟩) dX8_lacking_104
          ·
            have d32 : ((k : Nat) : Int) ≤ (255 : Int) := my_ngt c32 (nI_toInt (by omega)) (by decide +kernel)
            refine lv_aload_n hx hb dX8_lacking_35 rfl (lv_at hl 2 rfl) ?_
            refine va_get (ci := 8) (v := .ref xf) (C := RX8) (T := TX8) (N := 11) hx hb hts hi8 hown hK hP 0 rfl rfl 5 (by decide) fl41 (fun _ h9 => h9) rfl dX8_lacking_36 ?_
            refine lv_iload hx hb dX8_lacking_39 (lv_at hl 0 rfl) ?_
            refine my_gpI (my_pV (As := [.int (nI k)]) (rest := []) (ci := 6) ⟨hx, hb, hml, hown, hts⟩ (cwV 1 hts gX8_lacking_X6_timesOf rfl rfl rfl (by decide +kernel) ⟨Nat.le_of_ble_eq_true rfl, Nat.le_of_ble_eq_true rfl⟩) hN hK hP [2, 3] rfl 2 rfl rfl rfl rfl hl.1 rfl (Nat.le_of_ble_eq_true rfl) dX8_lacking_41 ⟨Nat.le_of_ble_eq_true rfl, Nat.le_of_ble_eq_true rfl⟩  (k_X6_timesOf l D cI cJ cK xf f1 f2 fz_5 fn_6 (nI k) (by first | assumption | omega | decide +kernel))) (fun r hp => ?_)
            obtain _ := hp
            obtain ⟨r_18, rfl⟩ : ∃ z, z = r := ⟨_, rfl⟩
            refine lv_if_le (tgt := 96) hx hb dX8_lacking_44 (by decide) (fun c44 => ?_) (fun c44 => ?_)
            ·
              have d44 : r_18.toInt ≤ (0 : Int) := my_le c44 rfl (by decide +kernel)
              refine lv_iinc (v := nI (k + 1)) (lv' := [(6, .int (nI (k + 1))), (5, .int y5_27), (0, .ref x0), (1, .int (nI a_1)), (2, .int (nI b_2)), (3, .int (nI e_3)), (4, .int (nI d_4))]) hx hb dX8_lacking_96 hl (k := 0) rfl (my_incN k 1 (by decide +kernel)) (by decide) rfl (fun ls hl => ?_)
              refine lv_goto (tgt := 27) hx hb dX8_lacking_99 (by decide) ?_
              exact ih27  (k + 1) y5_27 xo_size_27 o1_27 (by omega) (by first | assumption | omega | decide +kernel) (by first | assumption | omega | decide +kernel) _ _ ls hP hD hS (lv_sub hl [0, 1, 2, 3, 4, 5, 6] rfl)
            ·
              have d44 : r_18.toInt > (0 : Int) := my_nle c44 rfl (by decide +kernel)
              refine lv_aload_n hx hb dX8_lacking_47 rfl (lv_at hl 2 rfl) ?_
              refine va_get (ci := 8) (v := .ref xs) (C := RX8) (T := TX8) (N := 11) hx hb hts hi8 hown hK hP 0 rfl rfl 6 (by decide) fl45 (fun _ h9 => h9) rfl dX8_lacking_48 ?_
              refine lv_iload hx hb dX8_lacking_51 (lv_at hl 0 rfl) ?_
              refine my_gpI (my_pV (As := [.int (nI k)]) (rest := []) (ci := 6) ⟨hx, hb, hml, hown, hts⟩ (cwV 1 hts gX8_lacking_X6_timesOf rfl rfl rfl (by decide +kernel) ⟨Nat.le_of_ble_eq_true rfl, Nat.le_of_ble_eq_true rfl⟩) hN hK hP [5, 6] rfl 5 rfl rfl rfl rfl hl.1 rfl (Nat.le_of_ble_eq_true rfl) dX8_lacking_53 ⟨Nat.le_of_ble_eq_true rfl, Nat.le_of_ble_eq_true rfl⟩  (k_X6_timesOf l D cI cJ cK xs s1 s2 sz_8 sn_9 (nI k) (by first | assumption | omega | decide +kernel))) (fun r hp => ?_)
              obtain _ := hp
              obtain ⟨r_19, rfl⟩ : ∃ z, z = r := ⟨_, rfl⟩
              refine lv_if_ne (tgt := 96) hx hb dX8_lacking_56 (by decide) (fun c56 => ?_) (fun c56 => ?_)
              ·
                have d56 : r_19.toInt ≠ (0 : Int) := my_ne c56 rfl (by decide +kernel)
                refine lv_iinc (v := nI (k + 1)) (lv' := [(6, .int (nI (k + 1))), (5, .int y5_27), (0, .ref x0), (1, .int (nI a_1)), (2, .int (nI b_2)), (3, .int (nI e_3)), (4, .int (nI d_4))]) hx hb dX8_lacking_96 hl (k := 0) rfl (my_incN k 1 (by decide +kernel)) (by decide) rfl (fun ls hl => ?_)
                refine lv_goto (tgt := 27) hx hb dX8_lacking_99 (by decide) ?_
                exact ih27  (k + 1) y5_27 xo_size_27 o1_27 (by omega) (by first | assumption | omega | decide +kernel) (by first | assumption | omega | decide +kernel) _ _ ls hP hD hS (lv_sub hl [0, 1, 2, 3, 4, 5, 6] rfl)
              ·
                have d56 : r_19.toInt = (0 : Int) := my_eq c56 rfl (by decide +kernel)
                refine lv_iload hx hb dX8_lacking_59 (lv_at hl 1 rfl) ?_
                refine lv_bipush (v := 16) hx hb dX8_lacking_61 (by decide +kernel) ?_
                refine lv_icmp_ge (tgt := 93) hx hb dX8_lacking_63 (by decide) (fun c63 => ?_) (fun c63 => ?_)
                ·
                  have d63 : y5_27.toInt ≥ (16 : Int) := my_ge c63 rfl (by decide +kernel)
                  obtain ⟨z_20, ez_20⟩ : ∃ y : Int32, y = y5_27 + (1) := ⟨_, rfl⟩
                  try have tz_20 : z_20.toInt = y5_27.toInt + (1) := by rw [ez_20]; exact my_addI rfl (by decide +kernel) (by omega) (by omega)
                  refine lv_iinc (v := z_20) (lv' := [(5, .int z_20), (6, .int (nI k)), (0, .ref x0), (1, .int (nI a_1)), (2, .int (nI b_2)), (3, .int (nI e_3)), (4, .int (nI d_4))]) hx hb dX8_lacking_93 hl (k := 1) rfl (by rw [ez_20]; rfl) (by decide) rfl (fun ls hl => ?_)
                  refine lv_iinc (v := nI (k + 1)) (lv' := [(6, .int (nI (k + 1))), (5, .int z_20), (0, .ref x0), (1, .int (nI a_1)), (2, .int (nI b_2)), (3, .int (nI e_3)), (4, .int (nI d_4))]) hx hb dX8_lacking_96 hl (k := 1) rfl (my_incN k 1 (by decide +kernel)) (by decide) rfl (fun ls hl => ?_)
                  refine lv_goto (tgt := 27) hx hb dX8_lacking_99 (by decide) ?_
                  exact ih27  (k + 1) z_20 xo_size_27 o1_27 (by omega) (by first | assumption | omega | decide +kernel) (by first | assumption | omega | decide +kernel) _ _ ls hP hD hS (lv_sub hl [0, 1, 2, 3, 4, 5, 6] rfl)
                ·
                  have d63 : y5_27.toInt < (16 : Int) := my_nge c63 rfl (by decide +kernel)
                  refine lv_aload_n hx hb dX8_lacking_66 rfl (lv_at hl 2 rfl) ?_
                  refine va_get (ci := 8) (v := .ref xo) (C := RX8) (T := TX8) (N := 11) hx hb hts hi8 hown hK hP 0 rfl rfl 4 (by decide) fl34 (fun _ h9 => h9) rfl dX8_lacking_67 ?_
                  refine lv_iload hx hb dX8_lacking_70 (lv_at hl 0 rfl) ?_
                  refine lv_i2l (v := lN k) hx hb dX8_lacking_72 (nI_l (by omega)) ?_
                  refine my_goVS (wc := (wl_k_X7_add cI cJ cK xo o1 (nI xo_size_27) o1_27)) hP hD hS hA [8, 9] rfl [none, none, none, none, none, none, none, none, some 0, some 1] (by decide +kernel) (my_cV (As := [.long (lN k)]) (rest := []) (ci := 7) (wc := (wl_k_X7_add cI cJ cK xo o1 (nI xo_size_27) o1_27)) ⟨hx, hb, hml, hown, hts⟩ (cwV 1 hts gX8_lacking_X7_add rfl rfl rfl (by decide +kernel) ⟨Nat.le_of_ble_eq_true rfl, Nat.le_of_ble_eq_true rfl⟩) hN hK hP hD [8, 9] rfl (by decide) rfl 8 rfl rfl rfl rfl hl.1 rfl (Nat.le_of_ble_eq_true rfl) dX8_lacking_73 ⟨Nat.le_of_ble_eq_true rfl, Nat.le_of_ble_eq_true rfl⟩  ((k_X7_add l D cI cJ cK xo o1 xo_size_27 o1_27 (lN k) (by first | assumption | omega | decide +kernel)) _)) (fun u H locs hp hPD hS => ?_)
                  obtain ⟨oz_21, of_22, rfl, hhz_oz_23⟩ := hp
                  obtain ⟨hP, hD⟩ := hPD rfl
                  have hP : va_P D vwCl (wl_k_X8_lacking cI cJ cK x0 xn xl xt xo xf xs xp xq xr xc f1 f2 s1 s2 o1 (nI z) nf (nI fz_5) fn_6 fs_7 (nI sz_8) sn_9 ss_10 (nI oz_21) of_22) H := hP
                  have hD : va_D A (wl_k_X8_lacking cI cJ cK x0 xn xl xt xo xf xs xp xq xr xc f1 f2 s1 s2 o1 (nI z) nf (nI fz_5) fn_6 fs_7 (nI sz_8) sn_9 ss_10 (nI oz_21) of_22) := hD
                  refine lv_aload_n hx hb dX8_lacking_76 rfl (lv_at hl 2 rfl) ?_
                  refine va_get (ci := 8) (v := .ref xo) (C := RX8) (T := TX8) (N := 11) hx hb hts hi8 hown hK hP 0 rfl rfl 4 (by decide) fl34 (fun _ h9 => h9) rfl dX8_lacking_77 ?_
                  refine lv_aload_n hx hb dX8_lacking_80 rfl (lv_at hl 2 rfl) ?_
                  refine va_get (ci := 8) (v := .ref xf) (C := RX8) (T := TX8) (N := 11) hx hb hts hi8 hown hK hP 0 rfl rfl 5 (by decide) fl41 (fun _ h9 => h9) rfl dX8_lacking_81 ?_
                  refine lv_iload hx hb dX8_lacking_84 (lv_at hl 0 rfl) ?_
                  refine my_gpI (my_pV (As := [.int (nI k)]) (rest := [.ref xo]) (ci := 6) ⟨hx, hb, hml, hown, hts⟩ (cwV 1 hts gX8_lacking_X6_timesOf rfl rfl rfl (by decide +kernel) ⟨Nat.le_of_ble_eq_true rfl, Nat.le_of_ble_eq_true rfl⟩) hN hK hP [2, 3] rfl 2 rfl rfl rfl rfl hl.1 rfl (Nat.le_of_ble_eq_true rfl) dX8_lacking_86 ⟨Nat.le_of_ble_eq_true rfl, Nat.le_of_ble_eq_true rfl⟩  (k_X6_timesOf l D cI cJ cK xf f1 f2 fz_5 fn_6 (nI k) (by first | assumption | omega | decide +kernel))) (fun r hp => ?_)
                  obtain _ := hp
                  obtain ⟨r_24, rfl⟩ : ∃ z, z = r := ⟨_, rfl⟩
                  refine lv_i2l (v := r_24.toInt64) hx hb dX8_lacking_89 rfl ?_
                  refine my_goVS (wc := (wl_k_X7_add cI cJ cK xo o1 (nI oz_21) of_22)) hP hD hS hA [8, 9] rfl [none, none, none, none, none, none, none, none, some 0, some 1] (by decide +kernel) (my_cV (As := [.long r_24.toInt64]) (rest := []) (ci := 7) (wc := (wl_k_X7_add cI cJ cK xo o1 (nI oz_21) of_22)) ⟨hx, hb, hml, hown, hts⟩ (cwV 1 hts gX8_lacking_X7_add rfl rfl rfl (by decide +kernel) ⟨Nat.le_of_ble_eq_true rfl, Nat.le_of_ble_eq_true rfl⟩) hN hK hP hD [8, 9] rfl (by decide) rfl 8 rfl rfl rfl rfl hl.1 rfl (Nat.le_of_ble_eq_true rfl) dX8_lacking_90 ⟨Nat.le_of_ble_eq_true rfl, Nat.le_of_ble_eq_true rfl⟩  ((k_X7_add l D cI cJ cK xo o1 oz_21 of_22 r_24.toInt64 (by first | assumption | omega | decide +kernel)) _)) (fun u H locs hp hPD hS => ?_)
                  obtain ⟨oz_25, of_26, rfl, hhz_oz_27⟩ := hp
                  obtain ⟨hP, hD⟩ := hPD rfl
                  have hP : va_P D vwCl (wl_k_X8_lacking cI cJ cK x0 xn xl xt xo xf xs xp xq xr xc f1 f2 s1 s2 o1 (nI z) nf (nI fz_5) fn_6 fs_7 (nI sz_8) sn_9 ss_10 (nI oz_25) of_26) H := hP
                  have hD : va_D A (wl_k_X8_lacking cI cJ cK x0 xn xl xt xo xf xs xp xq xr xc f1 f2 s1 s2 o1 (nI z) nf (nI fz_5) fn_6 fs_7 (nI sz_8) sn_9 ss_10 (nI oz_25) of_26) := hD
                  obtain ⟨z_28, ez_28⟩ : ∃ y : Int32, y = y5_27 + (1) := ⟨_, rfl⟩
                  try have tz_28 : z_28.toInt = y5_27.toInt + (1) := by rw [ez_28]; exact my_addI rfl (by decide +kernel) (by omega) (by omega)
                  refine lv_iinc (v := z_28) (lv' := [(5, .int z_28), (6, .int (nI k)), (0, .ref x0), (1, .int (nI a_1)), (2, .int (nI b_2)), (3, .int (nI e_3)), (4, .int (nI d_4))]) hx hb dX8_lacking_93 hl (k := 1) rfl (by rw [ez_28]; rfl) (by decide) rfl (fun ls hl => ?_)
                  refine lv_iinc (v := nI (k + 1)) (lv' := [(6, .int (nI (k + 1))), (5, .int z_28), (0, .ref x0), (1, .int (nI a_1)), (2, .int (nI b_2)), (3, .int (nI e_3)), (4, .int (nI d_4))]) hx hb dX8_lacking_96 hl (k := 1) rfl (my_incN k 1 (by decide +kernel)) (by decide) rfl (fun ls hl => ?_)
                  refine lv_goto (tgt := 27) hx hb dX8_lacking_99 (by decide) ?_
                  exact ih27  (k + 1) z_28 oz_25 of_26 (by omega) (by first | assumption | omega | decide +kernel) (by first | assumption | omega | decide +kernel) _ _ ls hP hD hS (lv_sub hl [0, 1, 2, 3, 4, 5, 6] rfl)
      have ec_29 : (0 : Int32).toInt = 0 := by decide +kernel
      exact loop27 ((256 - 0) + 1) 0 (0 : Int32) 0 of (Nat.lt_succ_self _) (by first | assumption | omega | decide +kernel) (by first | assumption | omega | decide +kernel) _ _ ls hP hD hS (lv_sub hl [0, 1, 2, 3, 4, 5, 6] rfl)
    ·
      exact absurd c9 (by decide +kernel)
  ·
    obtain ⟨hP, hD⟩ := hPD rfl
    have hP : va_P D vwCl (wl_k_X8_lacking cI cJ cK x0 xn xl xt xo xf xs xp xq xr xc f1 f2 s1 s2 o1 (nI z) nf (nI fz) fn fs (nI sz) sn ss (nI oz) of) H := hP
    have hD : va_D A (wl_k_X8_lacking cI cJ cK x0 xn xl xt xo xf xs xp xq xr xc f1 f2 s1 s2 o1 (nI z) nf (nI fz) fn fs (nI sz) sn ss (nI oz) of) := hD
    refine lv_if_ne (tgt := 14) hx hb dX8_lacking_9 (by decide) (fun c9 => ?_) (fun c9 => ?_)
    ·
      exact absurd c9 (by decide +kernel)
    ·
      refine lv_iconst (v := (-1)) hx hb dX8_lacking_12 (by decide +kernel) ?_
      exact my_retI hx hb hr hlocks hK hS (wl_k_X8_lacking cI cJ cK x0 xn xl xt xo xf xs xp xq xr xc f1 f2 s1 s2 o1 (nI z) nf (nI fz) fn fs (nI sz) sn ss (nI oz) of) hP hD (⟨fz, fn, fs, sz, sn, ss, oz, of, rfl, (by first | assumption | omega | trivial | decide +kernel), (by first | assumption | omega | trivial | decide +kernel), (by first | assumption | omega | trivial | decide +kernel)⟩) dX8_lacking_13
abbrev wl_k_X8_both (cI cJ cK : ClassId) (x0 : Nat) (xn : Nat) (xl : Nat) (xt : Nat) (xo : Nat) (xf : Nat) (xs : Nat) (xp : Nat) (xq : Nat) (xr : Nat) (xc : Nat) (f1 : Nat) (f2 : Nat) (s1 : Nat) (s2 : Nat) (o1 : Nat) (v0_ : Int32) (v1_ : Nat → Int32) (v2_ : Int32) (v3_ : Nat → Int32) (v4_ : Nat → Int32) (v5_ : Int32) (v6_ : Nat → Int32) (v7_ : Nat → Int32) (v8_ : Int32) (v9_ : Nat → Int64) : va_W := [(x0, .inr (8, [.ref xn, .int v0_, .ref xl, .ref xt, .ref xo, .ref xf, .ref xs, .ref xp, .ref xq, .ref xr, .ref xc])), (xn, .inl (cI, 64, .inl v1_)), (xf, .inr (6, [.ref f1, .ref f2, .int v2_])), (f1, .inl (cI, 512, .inl v3_)), (f2, .inl (cI, 64, .inl v4_)), (xs, .inr (6, [.ref s1, .ref s2, .int v5_])), (s1, .inl (cI, 512, .inl v6_)), (s2, .inl (cI, 64, .inl v7_)), (xo, .inr (7, [.ref o1, .int v8_])), (o1, .inl (cJ, 64, .inr (.inl v9_)))]
set_option maxHeartbeats 4000000 in
set_option maxRecDepth 100000 in
theorem k_X8_both (l : Launch) (D : va_G) (cI cJ cK : ClassId) (x0 : Nat) (xn : Nat) (xl : Nat) (xt : Nat) (xo : Nat) (xf : Nat) (xs : Nat) (xp : Nat) (xq : Nat) (xr : Nat) (xc : Nat) (f1 : Nat) (f2 : Nat) (s1 : Nat) (s2 : Nat) (o1 : Nat) (z : Nat) (nf : Nat → Int32) (fz : Nat) (fn : Nat → Int32) (fs : Nat → Int32) (sz : Nat) (sn : Nat → Int32) (ss : Nat → Int32) (oz : Nat) (of : Nat → Int64) (l9 : Int32) (r9 : Int32) (s9 : Int32) (t9 : Int32) (k9 : Int32) (hz_z : z ≤ 64) (hR_nf : RB 0 255 nf) (hz_fz : fz ≤ 64) (hz_sz : sz ≤ 64) (hz_oz : oz ≤ 64) : ctI l yX8_both wsX8_both ({ frames := 5, cells := 0, slots := 0, locals := 300 } : Room) D (tyIJ cI cJ cK) [.ref x0, .int l9, .int r9, .int s9, .int t9, .int k9] (wl_k_X8_both cI cJ cK x0 xn xl xt xo xf xs xp xq xr xc f1 f2 s1 s2 o1 (nI z) nf (nI fz) fn fs (nI sz) sn ss (nI oz) of) (fun (r : Int32) (u : va_W) => ∃ (fz' : Nat) (fn' : Nat → Int32) (fs' : Nat → Int32) (sz' : Nat) (sn' : Nat → Int32) (ss' : Nat → Int32) (oz' : Nat) (of' : Nat → Int64), u = (wl_k_X8_both cI cJ cK x0 xn xl xt xo xf xs xp xq xr xc f1 f2 s1 s2 o1 (nI z) nf (nI fz') fn' fs' (nI sz') sn' ss' (nI oz') of') ∧ fz' ≤ 64 ∧ sz' ≤ 64 ∧ oz' ≤ 64) := by
  refine ctI.of (cc := cX8_both) (maxL := 8) (ret := (some .int)) (by decide) rfl (Nat.le_of_ble_eq_true rfl) ?_
  intro p e s m below meth c ls A hx hb hr hts hown hml hlocks hname hA hK hN hP hD hS hl
  have hl : lv_has ls 8 [(0, .ref x0), (1, .int l9), (2, .int r9), (3, .int s9), (4, .int t9), (5, .int k9)] := hl
  have hown : s.vm.findClass RX8 = some m.cls := hown
  have hi8 : ∀ w ∈ u_ws RX8 TX8 11, w ∈ wsX8_both := by decide +kernel
  have fl41 := hts (.fieldLink RX8 41 "PlaneColumn" "first" "LPlaneColumn$Tally;") (by decide +kernel)
  have fl45 := hts (.fieldLink RX8 45 "PlaneColumn" "second" "LPlaneColumn$Tally;") (by decide +kernel)
  refine lv_iload hx hb dX8_both_0 (lv_at hl 5 rfl) ?_
  refine lv_if_lt (tgt := 17) hx hb dX8_both_2 (by decide) (fun c2 => ?_) (fun c2 => ?_)
  ·
    have d2 : k9.toInt < (0 : Int) := my_lt c2 rfl (by decide +kernel)
    refine lv_iconst (v := (-1)) hx hb dX8_both_17 (by decide +kernel) ?_
    exact my_retI hx hb hr hlocks hK hS (wl_k_X8_both cI cJ cK x0 xn xl xt xo xf xs xp xq xr xc f1 f2 s1 s2 o1 (nI z) nf (nI fz) fn fs (nI sz) sn ss (nI oz) of) hP hD (⟨fz, fn, fs, sz, sn, ss, oz, of, rfl, (by first | assumption | omega | trivial | decide +kernel), (by first | assumption | omega | trivial | decide +kernel), (by first | assumption | omega | trivial | decide +kernel)⟩) dX8_both_18
  ·
    have d2 : k9.toInt ≥ (0 : Int) := my_nlt c2 rfl (by decide +kernel)
    refine lv_aload_n hx hb dX8_both_5 rfl (lv_at hl 0 rfl) ?_
    refine lv_iload_n hx hb dX8_both_6 rfl (lv_at hl 1 rfl) ?_
    refine lv_iload_n hx hb dX8_both_7 rfl (lv_at hl 2 rfl) ?_
    refine lv_iload_n hx hb dX8_both_8 rfl (lv_at hl 3 rfl) ?_
    refine lv_iload hx hb dX8_both_9 (lv_at hl 4 rfl) ?_
    refine my_goIS (wc := (wl_k_X8_takeBoth cI cJ cK x0 xn xl xt xo xf xs xp xq xr xc f1 f2 s1 s2 (nI z) nf (nI fz) fn fs (nI sz) sn ss)) hP hD hS hA [0, 1, 2, 3, 4, 5, 6, 7] rfl [some 0, some 1, some 2, some 3, some 4, some 5, some 6, some 7] (by decide +kernel) (my_cV (As := [.int l9, .int r9, .int s9, .int t9]) (rest := []) (ci := 8) (wc := (wl_k_X8_takeBoth cI cJ cK x0 xn xl xt xo xf xs xp xq xr xc f1 f2 s1 s2 (nI z) nf (nI fz) fn fs (nI sz) sn ss)) ⟨hx, hb, hml, hown, hts⟩ (cwV 4 hts gX8_both_X8_takeBoth rfl rfl rfl (by decide +kernel) ⟨Nat.le_of_ble_eq_true rfl, Nat.le_of_ble_eq_true rfl⟩) hN hK hP hD [0, 1, 2, 3, 4, 5, 6, 7] rfl (by decide) rfl 0 rfl rfl rfl rfl hl.1 rfl (Nat.le_of_ble_eq_true rfl) dX8_both_11 ⟨Nat.le_of_ble_eq_true rfl, Nat.le_of_ble_eq_true rfl⟩  ((k_X8_takeBoth l D cI cJ cK x0 xn xl xt xo xf xs xp xq xr xc f1 f2 s1 s2 z nf fz fn fs sz sn ss l9 r9 s9 t9 (by first | assumption | omega | decide +kernel) hR_nf (by first | assumption | omega | decide +kernel) (by first | assumption | omega | decide +kernel)) _)) (fun r u H locs hp hPD hS => ?_)
    rcases hp with ⟨a_1, b_2, e_3, d_4, fz_5, fn_6, fs_7, sz_8, sn_9, ss_10, rfl, rfl, rfl, rfl, rfl, rfl, hhz_fz_11, hhz_sz_12, hx1_13, hx2_14, hx3_15, hx4_16, hnF, hnS⟩ | ⟨rfl, rfl, ho_17⟩
    ·
      obtain ⟨hP, hD⟩ := hPD rfl
      have hP : va_P D vwCl (wl_k_X8_both cI cJ cK x0 xn xl xt xo xf xs xp xq xr xc f1 f2 s1 s2 o1 (nI z) nf (nI fz_5) fn_6 fs_7 (nI sz_8) sn_9 ss_10 (nI oz) of) H := hP
      have hD : va_D A (wl_k_X8_both cI cJ cK x0 xn xl xt xo xf xs xp xq xr xc f1 f2 s1 s2 o1 (nI z) nf (nI fz_5) fn_6 fs_7 (nI sz_8) sn_9 ss_10 (nI oz) of) := hD
      refine lv_if_ne (tgt := 19) hx hb dX8_both_14 (by decide) (fun c14 => ?_) (fun c14 => ?_)
      ·
        refine lv_iconst (v := 0) hx hb dX8_both_19 (by decide +kernel) ?_
        refine lv_istore (lv' := [(6, .int 0), (0, .ref x0), (1, .int (nI a_1)), (2, .int (nI b_2)), (3, .int (nI e_3)), (4, .int (nI d_4)), (5, .int k9)]) hx hb dX8_both_20 hl (by decide) rfl (fun ls hl => ?_)
        refine lv_iconst (v := 0) hx hb dX8_both_22 (by decide +kernel) ?_
        refine lv_istore (lv' := [(7, .int 0), (6, .int 0), (0, .ref x0), (1, .int (nI a_1)), (2, .int (nI b_2)), (3, .int (nI e_3)), (4, .int (nI d_4)), (5, .int k9)]) hx hb dX8_both_23 hl (by decide) rfl (fun ls hl => ?_)
        have loop25 : ∀ (n9 : Nat) (k : Nat) (y6_25 : Int32), 256 - k < n9 → (k ≤ 256) → ∀ (H : Heap) (locs : List Loc) (ls : Array Slot), va_P D vwCl (wl_k_X8_both cI cJ cK x0 xn xl xt xo xf xs xp xq xr xc f1 f2 s1 s2 o1 (nI z) nf (nI fz_5) fn_6 fs_7 (nI sz_8) sn_9 ss_10 (nI oz) of) H → va_D A (wl_k_X8_both cI cJ cK x0 xn xl xt xo xf xs xp xq xr xc f1 f2 s1 s2 o1 (nI z) nf (nI fz_5) fn_6 fs_7 (nI sz_8) sn_9 ss_10 (nI oz) of) → va_S A s.heap H locs → lv_has ls 8 [(7, .int (nI k)), (6, .int y6_25), (0, .ref x0), (1, .int (nI a_1)), (2, .int (nI b_2)), (3, .int (nI e_3)), (4, .int (nI d_4)), (5, .int k9)] → W p l e ({ frames := 5, cells := 0, slots := 0, locals := 300 } : Room) s m [.ref x0, .int (nI a_1), .int (nI b_2), .int (nI e_3), .int (nI d_4), .int k9].toArray below meth c H locs 0 0 (MQ below (va_Qi (fun (r : Int32) (u : va_W) => ∃ (fz' : Nat) (fn' : Nat → Int32) (fs' : Nat → Int32) (sz' : Nat) (sn' : Nat → Int32) (ss' : Nat → Int32) (oz' : Nat) (of' : Nat → Int64), u = (wl_k_X8_both cI cJ cK x0 xn xl xt xo xf xs xp xq xr xc f1 f2 s1 s2 o1 (nI z) nf (nI fz') fn' fs' (nI sz') sn' ss' (nI oz') of') ∧ fz' ≤ 64 ∧ sz' ≤ 64 ∧ oz' ≤ 64) (my_B D (tyIJ cI cJ cK) A) A) [.ref x0, .int (nI a_1), .int (nI b_2), .int (nI e_3), .int (nI d_4), .int k9].toArray s 0 0 A) (F0 m 25 ls []) := by
          intro n9
          induction n9 with
          | zero =>
            intro k y6_25 hn9
            exact absurd hn9 (Nat.not_lt_zero _)
          | succ n9 ih25 =>
            intro k y6_25 hn9 hk_k H locs ls hP hD hS hl
            refine lv_iload hx hb dX8_both_25 (lv_at hl 0 rfl) ?_
            refine lv_sipush (v := 255) hx hb dX8_both_27 (by decide +kernel) ?_
            refine lv_icmp_gt (tgt := 97) hx hb dX8_both_30 (by decide) (fun c30 => ?_) (fun c30 => ?_)
            ·
              have d30 : ((k : Nat) : Int) > (255 : Int) := my_gt c30 (nI_toInt (by omega)) (by decide +kernel)
              refine lv_bipush (v := (-2)) hx hb dX8_both_97 (by decide +kernel) ?_
              exact my_retI hx hb hr hlocks hK hS (wl_k_X8_both cI cJ cK x0 xn xl xt xo xf xs xp xq xr xc f1 f2 s1 s2 o1 (nI z) nf (nI fz_5) fn_6 fs_7 (nI sz_8) sn_9 ss_10 (nI oz) of) hP hD (⟨fz_5, fn_6, fs_7, sz_8, sn_9, ss_10, oz, of, rfl, (by first | assumption | omega | trivial | decide +kernel), (by first | assumption | omega | trivial | decide +kernel), (by first | assumption | omega | trivial | decide +kernel)⟩) dX8_both_99
            ·
              have d30 : ((k : Nat) : Int) ≤ (255 : Int) := my_ngt c30 (nI_toInt (by omega)) (by decide +kernel)
              refine lv_iload hx hb dX8_both_33 (lv_at hl 1 rfl) ?_
              refine lv_aload_n hx hb dX8_both_35 rfl (lv_at hl 2 rfl) ?_
              refine va_get (ci := 8) (v := .ref xf) (C := RX8) (T := TX8) (N := 11) hx hb hts hi8 hown hK hP 0 rfl rfl 5 (by decide) fl41 (fun _ h9 => h9) rfl dX8_both_36 ?_
              refine lv_iload hx hb dX8_both_39 (lv_at hl 0 rfl) ?_
              refine my_gpI (my_pV (As := [.int (nI k)]) (rest := [.int y6_25]) (ci := 6) ⟨hx, hb, hml, hown, hts⟩ (cwV 1 hts gX8_both_X6_timesOf rfl rfl rfl (by decide +kernel) ⟨Nat.le_of_ble_eq_true rfl, Nat.le_of_ble_eq_true rfl⟩) hN hK hP [2, 3] rfl 2 rfl rfl rfl rfl hl.1 rfl (Nat.le_of_ble_eq_true rfl) dX8_both_41 ⟨Nat.le_of_ble_eq_true rfl, Nat.le_of_ble_eq_true rfl⟩  (k_X6_timesOf l D cI cJ cK xf f1 f2 fz_5 fn_6 (nI k) (by first | assumption | omega | decide +kernel))) (fun r hp => ?_)
              obtain _ := hp
              obtain ⟨r_18, rfl⟩ : ∃ z, z = r := ⟨_, rfl⟩
              refine lv_aload_n hx hb dX8_both_44 rfl (lv_at hl 2 rfl) ?_
              refine va_get (ci := 8) (v := .ref xs) (C := RX8) (T := TX8) (N := 11) hx hb hts hi8 hown hK hP 0 rfl rfl 6 (by decide) fl45 (fun _ h9 => h9) rfl dX8_both_45 ?_
              refine lv_iload hx hb dX8_both_48 (lv_at hl 0 rfl) ?_
              refine my_gpI (my_pV (As := [.int (nI k)]) (rest := [.int r_18, .int y6_25]) (ci := 6) ⟨hx, hb, hml, hown, hts⟩ (cwV 1 hts gX8_both_X6_timesOf rfl rfl rfl (by decide +kernel) ⟨Nat.le_of_ble_eq_true rfl, Nat.le_of_ble_eq_true rfl⟩) hN hK hP [5, 6] rfl 5 rfl rfl rfl rfl hl.1 rfl (Nat.le_of_ble_eq_true rfl) dX8_both_50 ⟨Nat.le_of_ble_eq_true rfl, Nat.le_of_ble_eq_true rfl⟩  (k_X6_timesOf l D cI cJ cK xs s1 s2 sz_8 sn_9 (nI k) (by first | assumption | omega | decide +kernel))) (fun r hp => ?_)
              obtain _ := hp
              obtain ⟨r_19, rfl⟩ : ∃ z, z = r := ⟨_, rfl⟩
              refine lv_iadd hx hb dX8_both_53 ?_
              refine lv_topi (fun z_20 ez_20 => ?_)
              try have tz_20 : z_20.toInt = r_18.toInt + r_19.toInt := by rw [ez_20]; exact my_addI rfl rfl (by omega) (by omega)
              refine lv_iadd hx hb dX8_both_54 ?_
              refine lv_topi (fun z_21 ez_21 => ?_)
              try have tz_21 : z_21.toInt = y6_25.toInt + z_20.toInt := by rw [ez_21]; exact my_addI rfl rfl (by omega) (by omega)
              refine lv_istore (lv' := [(6, .int z_21), (7, .int (nI k)), (0, .ref x0), (1, .int (nI a_1)), (2, .int (nI b_2)), (3, .int (nI e_3)), (4, .int (nI d_4)), (5, .int k9)]) hx hb dX8_both_55 hl (by decide) rfl (fun ls hl => ?_)
              refine lv_iload hx hb dX8_both_57 (lv_at hl 7 rfl) ?_
              refine lv_iload hx hb dX8_both_59 (lv_at hl 0 rfl) ?_
              refine lv_icmp_ge (tgt := 91) hx hb dX8_both_61 (by decide) (fun c61 => ?_) (fun c61 => ?_)
              ·
                have d61 : k9.toInt ≥ z_21.toInt := my_ge c61 rfl rfl
                refine lv_iinc (v := nI (k + 1)) (lv' := [(7, .int (nI (k + 1))), (6, .int z_21), (0, .ref x0), (1, .int (nI a_1)), (2, .int (nI b_2)), (3, .int (nI e_3)), (4, .int (nI d_4)), (5, .int k9)]) hx hb dX8_both_91 hl (k := 1) rfl (my_incN k 1 (by decide +kernel)) (by decide) rfl (fun ls hl => ?_)
                refine lv_goto (tgt := 25) hx hb dX8_both_94 (by decide) ?_
                exact ih25  (k + 1) z_21 (by omega) (by first | assumption | omega | decide +kernel) _ _ ls hP hD hS (lv_sub hl [0, 1, 2, 3, 4, 5, 6, 7] rfl)
              ·
                have d61 : k9.toInt < z_21.toInt := my_nge c61 rfl rfl
                refine lv_aload_n hx hb dX8_both_64 rfl (lv_at hl 2 rfl) ?_
                refine lv_aload_n hx hb dX8_both_65 rfl (lv_at hl 2 rfl) ?_
                refine va_get (ci := 8) (v := .ref xf) (C := RX8) (T := TX8) (N := 11) hx hb hts hi8 hown hK hP 0 rfl rfl 5 (by decide) fl41 (fun _ h9 => h9) rfl dX8_both_66 ?_
                refine lv_iload hx hb dX8_both_69 (lv_at hl 1 rfl) ?_
                refine my_gpI (my_pV (As := [.int (nI k)]) (rest := [.ref x0]) (ci := 6) ⟨hx, hb, hml, hown, hts⟩ (cwV 1 hts gX8_both_X6_timesOf rfl rfl rfl (by decide +kernel) ⟨Nat.le_of_ble_eq_true rfl, Nat.le_of_ble_eq_true rfl⟩) hN hK hP [2, 3] rfl 2 rfl rfl rfl rfl hl.1 rfl (Nat.le_of_ble_eq_true rfl) dX8_both_71 ⟨Nat.le_of_ble_eq_true rfl, Nat.le_of_ble_eq_true rfl⟩  (k_X6_timesOf l D cI cJ cK xf f1 f2 fz_5 fn_6 (nI k) (by first | assumption | omega | decide +kernel))) (fun r hp => ?_)
                obtain _ := hp
                obtain ⟨r_22, rfl⟩ : ∃ z, z = r := ⟨_, rfl⟩
                refine lv_i2l (v := r_22.toInt64) hx hb dX8_both_74 rfl ?_
                refine lv_aload_n hx hb dX8_both_75 rfl (lv_at hl 2 rfl) ?_
                refine va_get (ci := 8) (v := .ref xs) (C := RX8) (T := TX8) (N := 11) hx hb hts hi8 hown hK hP 0 rfl rfl 6 (by decide) fl45 (fun _ h9 => h9) rfl dX8_both_76 ?_
                refine lv_iload hx hb dX8_both_79 (lv_at hl 1 rfl) ?_
                refine my_gpI (my_pV (As := [.int (nI k)]) (rest := [.long r_22.toInt64, .ref x0]) (ci := 6) ⟨hx, hb, hml, hown, hts⟩ (cwV 1 hts gX8_both_X6_timesOf rfl rfl rfl (by decide +kernel) ⟨Nat.le_of_ble_eq_true rfl, Nat.le_of_ble_eq_true rfl⟩) hN hK hP [5, 6] rfl 5 rfl rfl rfl rfl hl.1 rfl (Nat.le_of_ble_eq_true rfl) dX8_both_81 ⟨Nat.le_of_ble_eq_true rfl, Nat.le_of_ble_eq_true rfl⟩  (k_X6_timesOf l D cI cJ cK xs s1 s2 sz_8 sn_9 (nI k) (by first | assumption | omega | decide +kernel))) (fun r hp => ?_)
                obtain _ := hp
                obtain ⟨r_23, rfl⟩ : ∃ z, z = r := ⟨_, rfl⟩
                refine lv_i2l (v := r_23.toInt64) hx hb dX8_both_84 rfl ?_
                refine my_goVS (wc := (wl_k_X8_tell_ cI cJ cK x0 xn xl xt xo xf xs xp xq xr xc o1 (nI z) (nI oz) of)) hP hD hS hA [0, 8, 9] rfl [some 0, none, none, none, none, none, none, none, some 1, some 2] (by decide +kernel) (my_cV (As := [.long r_22.toInt64, .long r_23.toInt64]) (rest := []) (ci := 8) (wc := (wl_k_X8_tell_ cI cJ cK x0 xn xl xt xo xf xs xp xq xr xc o1 (nI z) (nI oz) of)) ⟨hx, hb, hml, hown, hts⟩ (cwV 2 hts gX8_both_X8_tell_ rfl rfl rfl (by decide +kernel) ⟨Nat.le_of_ble_eq_true rfl, Nat.le_of_ble_eq_true rfl⟩) hN hK hP hD [0, 8, 9] rfl (by decide) rfl 0 rfl rfl rfl rfl hl.1 rfl (Nat.le_of_ble_eq_true rfl) dX8_both_85 ⟨Nat.le_of_ble_eq_true rfl, Nat.le_of_ble_eq_true rfl⟩  ((k_X8_tell_ l D cI cJ cK x0 xn xl xt xo xf xs xp xq xr xc o1 z oz of r_22.toInt64 r_23.toInt64 (by first | assumption | omega | decide +kernel) (by first | assumption | omega | decide +kernel)) _)) (fun u H locs hp hPD hS => ?_)
                obtain ⟨oz_24, of_25, rfl, hhz_oz_26⟩ := hp
                obtain ⟨hP, hD⟩ := hPD rfl
                have hP : va_P D vwCl (wl_k_X8_both cI cJ cK x0 xn xl xt xo xf xs xp xq xr xc f1 f2 s1 s2 o1 (nI z) nf (nI fz_5) fn_6 fs_7 (nI sz_8) sn_9 ss_10 (nI oz_24) of_25) H := hP
                have hD : va_D A (wl_k_X8_both cI cJ cK x0 xn xl xt xo xf xs xp xq xr xc f1 f2 s1 s2 o1 (nI z) nf (nI fz_5) fn_6 fs_7 (nI sz_8) sn_9 ss_10 (nI oz_24) of_25) := hD
                refine lv_iload hx hb dX8_both_88 (lv_at hl 1 rfl) ?_
                exact my_retI hx hb hr hlocks hK hS (wl_k_X8_both cI cJ cK x0 xn xl xt xo xf xs xp xq xr xc f1 f2 s1 s2 o1 (nI z) nf (nI fz_5) fn_6 fs_7 (nI sz_8) sn_9 ss_10 (nI oz_24) of_25) hP hD (⟨fz_5, fn_6, fs_7, sz_8, sn_9, ss_10, oz_24, of_25, rfl, (by first | assumption | omega | trivial | decide +kernel), (by first | assumption | omega | trivial | decide +kernel), (by first | assumption | omega | trivial | decide +kernel)⟩) dX8_both_90
        have ec_27 : (0 : Int32).toInt = 0 := by decide +kernel
        exact loop25 ((256 - 0) + 1) 0 (0 : Int32) (Nat.lt_succ_self _) (by first | assumption | omega | decide +kernel) _ _ ls hP hD hS (lv_sub hl [0, 1, 2, 3, 4, 5, 6, 7] rfl)
      ·
        exact absurd c14 (by decide +kernel)
    ·
      obtain ⟨hP, hD⟩ := hPD rfl
      have hP : va_P D vwCl (wl_k_X8_both cI cJ cK x0 xn xl xt xo xf xs xp xq xr xc f1 f2 s1 s2 o1 (nI z) nf (nI fz) fn fs (nI sz) sn ss (nI oz) of) H := hP
      have hD : va_D A (wl_k_X8_both cI cJ cK x0 xn xl xt xo xf xs xp xq xr xc f1 f2 s1 s2 o1 (nI z) nf (nI fz) fn fs (nI sz) sn ss (nI oz) of) := hD
      refine lv_if_ne (tgt := 19) hx hb dX8_both_14 (by decide) (fun c14 => ?_) (fun c14 => ?_)
      ·
        exact absurd c14 (by decide +kernel)
      ·
        refine lv_iconst (v := (-1)) hx hb dX8_both_17 (by decide +kernel) ?_
        exact my_retI hx hb hr hlocks hK hS (wl_k_X8_both cI cJ cK x0 xn xl xt xo xf xs xp xq xr xc f1 f2 s1 s2 o1 (nI z) nf (nI fz) fn fs (nI sz) sn ss (nI oz) of) hP hD (⟨fz, fn, fs, sz, sn, ss, oz, of, rfl, (by first | assumption | omega | trivial | decide +kernel), (by first | assumption | omega | trivial | decide +kernel), (by first | assumption | omega | trivial | decide +kernel)⟩) dX8_both_18
abbrev wl_k_X8_same (cI cJ cK : ClassId) (x0 : Nat) (xn : Nat) (xl : Nat) (xt : Nat) (xo : Nat) (xf : Nat) (xs : Nat) (xp : Nat) (xq : Nat) (xr : Nat) (xc : Nat) (f1 : Nat) (f2 : Nat) (s1 : Nat) (s2 : Nat) (o1 : Nat) (v0_ : Int32) (v1_ : Nat → Int32) (v2_ : Int32) (v3_ : Nat → Int32) (v4_ : Nat → Int32) (v5_ : Int32) (v6_ : Nat → Int32) (v7_ : Nat → Int32) (v8_ : Int32) (v9_ : Nat → Int64) : va_W := [(x0, .inr (8, [.ref xn, .int v0_, .ref xl, .ref xt, .ref xo, .ref xf, .ref xs, .ref xp, .ref xq, .ref xr, .ref xc])), (xn, .inl (cI, 64, .inl v1_)), (xf, .inr (6, [.ref f1, .ref f2, .int v2_])), (f1, .inl (cI, 512, .inl v3_)), (f2, .inl (cI, 64, .inl v4_)), (xs, .inr (6, [.ref s1, .ref s2, .int v5_])), (s1, .inl (cI, 512, .inl v6_)), (s2, .inl (cI, 64, .inl v7_)), (xo, .inr (7, [.ref o1, .int v8_])), (o1, .inl (cJ, 64, .inr (.inl v9_)))]
set_option maxHeartbeats 4000000 in
set_option maxRecDepth 100000 in
theorem k_X8_same (l : Launch) (D : va_G) (cI cJ cK : ClassId) (x0 : Nat) (xn : Nat) (xl : Nat) (xt : Nat) (xo : Nat) (xf : Nat) (xs : Nat) (xp : Nat) (xq : Nat) (xr : Nat) (xc : Nat) (f1 : Nat) (f2 : Nat) (s1 : Nat) (s2 : Nat) (o1 : Nat) (z : Nat) (nf : Nat → Int32) (fz : Nat) (fn : Nat → Int32) (fs : Nat → Int32) (sz : Nat) (sn : Nat → Int32) (ss : Nat → Int32) (oz : Nat) (of : Nat → Int64) (l9 : Int32) (r9 : Int32) (s9 : Int32) (t9 : Int32) (hz_z : z ≤ 64) (hR_nf : RB 0 255 nf) (hz_fz : fz ≤ 64) (hz_sz : sz ≤ 64) (hz_oz : oz ≤ 64) : ctI l yX8_same wsX8_same ({ frames := 5, cells := 0, slots := 0, locals := 300 } : Room) D (tyIJ cI cJ cK) [.ref x0, .int l9, .int r9, .int s9, .int t9] (wl_k_X8_same cI cJ cK x0 xn xl xt xo xf xs xp xq xr xc f1 f2 s1 s2 o1 (nI z) nf (nI fz) fn fs (nI sz) sn ss (nI oz) of) (fun (r : Int32) (u : va_W) => ∃ (fz' : Nat) (fn' : Nat → Int32) (fs' : Nat → Int32) (sz' : Nat) (sn' : Nat → Int32) (ss' : Nat → Int32) (oz' : Nat) (of' : Nat → Int64), u = (wl_k_X8_same cI cJ cK x0 xn xl xt xo xf xs xp xq xr xc f1 f2 s1 s2 o1 (nI z) nf (nI fz') fn' fs' (nI sz') sn' ss' (nI oz') of') ∧ fz' ≤ 64 ∧ sz' ≤ 64 ∧ oz' ≤ 64) := by
  refine ctI.of (cc := cX8_same) (maxL := 10) (ret := (some .int)) (by decide) rfl (Nat.le_of_ble_eq_true rfl) ?_
  intro p e s m below meth c ls A hx hb hr hts hown hml hlocks hname hA hK hN hP hD hS hl
  have hl : lv_has ls 10 [(0, .ref x0), (1, .int l9), (2, .int r9), (3, .int s9), (4, .int t9)] := hl
  have hown : s.vm.findClass RX8 = some m.cls := hown
  have hi8 : ∀ w ∈ u_ws RX8 TX8 11, w ∈ wsX8_same := by decide +kernel
  have fl34 := hts (.fieldLink RX8 34 "PlaneColumn" "told" "LPlaneColumn$Told;") (by decide +kernel)
  have fl41 := hts (.fieldLink RX8 41 "PlaneColumn" "first" "LPlaneColumn$Tally;") (by decide +kernel)
  have fl45 := hts (.fieldLink RX8 45 "PlaneColumn" "second" "LPlaneColumn$Tally;") (by decide +kernel)
  refine lv_aload_n hx hb dX8_same_0 rfl (lv_at hl 0 rfl) ?_
  refine lv_iload_n hx hb dX8_same_1 rfl (lv_at hl 1 rfl) ?_
  refine lv_iload_n hx hb dX8_same_2 rfl (lv_at hl 2 rfl) ?_
  refine lv_iload_n hx hb dX8_same_3 rfl (lv_at hl 3 rfl) ?_
  refine lv_iload hx hb dX8_same_4 (lv_at hl 4 rfl) ?_
  refine my_goIS (wc := (wl_k_X8_takeBoth cI cJ cK x0 xn xl xt xo xf xs xp xq xr xc f1 f2 s1 s2 (nI z) nf (nI fz) fn fs (nI sz) sn ss)) hP hD hS hA [0, 1, 2, 3, 4, 5, 6, 7] rfl [some 0, some 1, some 2, some 3, some 4, some 5, some 6, some 7] (by decide +kernel) (my_cV (As := [.int l9, .int r9, .int s9, .int t9]) (rest := []) (ci := 8) (wc := (wl_k_X8_takeBoth cI cJ cK x0 xn xl xt xo xf xs xp xq xr xc f1 f2 s1 s2 (nI z) nf (nI fz) fn fs (nI sz) sn ss)) ⟨hx, hb, hml, hown, hts⟩ (cwV 4 hts gX8_same_X8_takeBoth rfl rfl rfl (by decide +kernel) ⟨Nat.le_of_ble_eq_true rfl, Nat.le_of_ble_eq_true rfl⟩) hN hK hP hD [0, 1, 2, 3, 4, 5, 6, 7] rfl (by decide) rfl 0 rfl rfl rfl rfl hl.1 rfl (Nat.le_of_ble_eq_true rfl) dX8_same_6 ⟨Nat.le_of_ble_eq_true rfl, Nat.le_of_ble_eq_true rfl⟩  ((k_X8_takeBoth l D cI cJ cK x0 xn xl xt xo xf xs xp xq xr xc f1 f2 s1 s2 z nf fz fn fs sz sn ss l9 r9 s9 t9 (by first | assumption | omega | decide +kernel) hR_nf (by first | assumption | omega | decide +kernel) (by first | assumption | omega | decide +kernel)) _)) (fun r u H locs hp hPD hS => ?_)
  rcases hp with ⟨a_1, b_2, e_3, d_4, fz_5, fn_6, fs_7, sz_8, sn_9, ss_10, rfl, rfl, rfl, rfl, rfl, rfl, hhz_fz_11, hhz_sz_12, hx1_13, hx2_14, hx3_15, hx4_16, hnF, hnS⟩ | ⟨rfl, rfl, ho_17⟩
  ·
    obtain ⟨hP, hD⟩ := hPD rfl
    have hP : va_P D vwCl (wl_k_X8_same cI cJ cK x0 xn xl xt xo xf xs xp xq xr xc f1 f2 s1 s2 o1 (nI z) nf (nI fz_5) fn_6 fs_7 (nI sz_8) sn_9 ss_10 (nI oz) of) H := hP
    have hD : va_D A (wl_k_X8_same cI cJ cK x0 xn xl xt xo xf xs xp xq xr xc f1 f2 s1 s2 o1 (nI z) nf (nI fz_5) fn_6 fs_7 (nI sz_8) sn_9 ss_10 (nI oz) of) := hD
    refine lv_if_ne (tgt := 14) hx hb dX8_same_9 (by decide) (fun c9 => ?_) (fun c9 => ?_)
    ·
      refine lv_iconst (v := (-1)) hx hb dX8_same_14 (by decide +kernel) ?_
      refine lv_istore (lv' := [(5, .int (-1)), (0, .ref x0), (1, .int (nI a_1)), (2, .int (nI b_2)), (3, .int (nI e_3)), (4, .int (nI d_4))]) hx hb dX8_same_15 hl (by decide) rfl (fun ls hl => ?_)
      refine lv_iconst (v := 0) hx hb dX8_same_17 (by decide +kernel) ?_
      refine lv_istore (lv' := [(6, .int 0), (5, .int (-1)), (0, .ref x0), (1, .int (nI a_1)), (2, .int (nI b_2)), (3, .int (nI e_3)), (4, .int (nI d_4))]) hx hb dX8_same_18 hl (by decide) rfl (fun ls hl => ?_)
      refine lv_iconst (v := 0) hx hb dX8_same_20 (by decide +kernel) ?_
      refine lv_istore (lv' := [(7, .int 0), (6, .int 0), (5, .int (-1)), (0, .ref x0), (1, .int (nI a_1)), (2, .int (nI b_2)), (3, .int (nI e_3)), (4, .int (nI d_4))]) hx hb dX8_same_21 hl (by decide) rfl (fun ls hl => ?_)
      refine lv_iconst (v := 0) hx hb dX8_same_23 (by decide +kernel) ?_
      refine lv_istore (lv' := [(8, .int 0), (7, .int 0), (6, .int 0), (5, .int (-1)), (0, .ref x0), (1, .int (nI a_1)), (2, .int (nI b_2)), (3, .int (nI e_3)), (4, .int (nI d_4))]) hx hb dX8_same_24 hl (by decide) rfl (fun ls hl => ?_)
      have loop26 : ∀ (n9 : Nat) (k : Nat) (y7_26 : Int32) (y6_26 : Int32) (y5_26 : Int32), 256 - k < n9 → (k ≤ 256) → ∀ (H : Heap) (locs : List Loc) (ls : Array Slot), va_P D vwCl (wl_k_X8_same cI cJ cK x0 xn xl xt xo xf xs xp xq xr xc f1 f2 s1 s2 o1 (nI z) nf (nI fz_5) fn_6 fs_7 (nI sz_8) sn_9 ss_10 (nI oz) of) H → va_D A (wl_k_X8_same cI cJ cK x0 xn xl xt xo xf xs xp xq xr xc f1 f2 s1 s2 o1 (nI z) nf (nI fz_5) fn_6 fs_7 (nI sz_8) sn_9 ss_10 (nI oz) of) → va_S A s.heap H locs → lv_has ls 10 [(8, .int (nI k)), (7, .int y7_26), (6, .int y6_26), (5, .int y5_26), (0, .ref x0), (1, .int (nI a_1)), (2, .int (nI b_2)), (3, .int (nI e_3)), (4, .int (nI d_4))] → W p l e ({ frames := 5, cells := 0, slots := 0, locals := 300 } : Room) s m [.ref x0, .int (nI a_1), .int (nI b_2), .int (nI e_3), .int (nI d_4)].toArray below meth c H locs 0 0 (MQ below (va_Qi (fun (r : Int32) (u : va_W) => ∃ (fz' : Nat) (fn' : Nat → Int32) (fs' : Nat → Int32) (sz' : Nat) (sn' : Nat → Int32) (ss' : Nat → Int32) (oz' : Nat) (of' : Nat → Int64), u = (wl_k_X8_same cI cJ cK x0 xn xl xt xo xf xs xp xq xr xc f1 f2 s1 s2 o1 (nI z) nf (nI fz') fn' fs' (nI sz') sn' ss' (nI oz') of') ∧ fz' ≤ 64 ∧ sz' ≤ 64 ∧ oz' ≤ 64) (my_B D (tyIJ cI cJ cK) A) A) [.ref x0, .int (nI a_1), .int (nI b_2), .int (nI e_3), .int (nI d_4)].toArray s 0 0 A) (F0 m 26 ls []) := by
        intro n9
        induction n9 with
        | zero =>
          intro k y7_26 y6_26 y5_26 hn9
          exact absurd hn9 (Nat.not_lt_zero _)
        | succ n9 ih26 =>
          intro k y7_26 y6_26 y5_26 hn9 hk_k H locs ls hP hD hS hl
          refine lv_iload hx hb dX8_same_26 (lv_at hl 0 rfl) ?_
          refine lv_sipush (v := 255) hx hb dX8_same_28 (by decide +kernel) ?_
          refine lv_icmp_gt (tgt := 99) hx hb dX8_same_31 (by decide) (fun c31 => ?_) (fun c31 => ?_)
          ·
            have d31 : ((k : Nat) : Int) > (255 : Int) := my_gt c31 (nI_toInt (by omega)) (by decide +kernel)
            refine lv_aload_n hx hb dX8_same_99 rfl (lv_at hl 4 rfl) ?_
            refine lv_iload hx hb dX8_same_100 (lv_at hl 3 rfl) ?_
            refine lv_i2l (v := y5_26.toInt64) hx hb dX8_same_102 rfl ?_
            refine lv_iload hx hb dX8_same_103 (lv_at hl 2 rfl) ?_
            refine lv_i2l (v := y6_26.toInt64) hx hb dX8_same_105 rfl ?_
            refine my_goVS (wc := (wl_k_X8_tell_ cI cJ cK x0 xn xl xt xo xf xs xp xq xr xc o1 (nI z) (nI oz) of)) hP hD hS hA [0, 8, 9] rfl [some 0, none, none, none, none, none, none, none, some 1, some 2] (by decide +kernel) (my_cV (As := [.long y5_26.toInt64, .long y6_26.toInt64]) (rest := []) (ci := 8) (wc := (wl_k_X8_tell_ cI cJ cK x0 xn xl xt xo xf xs xp xq xr xc o1 (nI z) (nI oz) of)) ⟨hx, hb, hml, hown, hts⟩ (cwV 2 hts gX8_same_X8_tell_ rfl rfl rfl (by decide +kernel) ⟨Nat.le_of_ble_eq_true rfl, Nat.le_of_ble_eq_true rfl⟩) hN hK hP hD [0, 8, 9] rfl (by decide) rfl 0 rfl rfl rfl rfl hl.1 rfl (Nat.le_of_ble_eq_true rfl) dX8_same_106 ⟨Nat.le_of_ble_eq_true rfl, Nat.le_of_ble_eq_true rfl⟩  ((k_X8_tell_ l D cI cJ cK x0 xn xl xt xo xf xs xp xq xr xc o1 z oz of y5_26.toInt64 y6_26.toInt64 (by first | assumption | omega | decide +kernel) (by first | assumption | omega | decide +kernel)) _)) (fun u H locs hp hPD hS => ?_)
            obtain ⟨oz_18, of_19, rfl, hhz_oz_20⟩ := hp
            obtain ⟨hP, hD⟩ := hPD rfl
            have hP : va_P D vwCl (wl_k_X8_same cI cJ cK x0 xn xl xt xo xf xs xp xq xr xc f1 f2 s1 s2 o1 (nI z) nf (nI fz_5) fn_6 fs_7 (nI sz_8) sn_9 ss_10 (nI oz_18) of_19) H := hP
            have hD : va_D A (wl_k_X8_same cI cJ cK x0 xn xl xt xo xf xs xp xq xr xc f1 f2 s1 s2 o1 (nI z) nf (nI fz_5) fn_6 fs_7 (nI sz_8) sn_9 ss_10 (nI oz_18) of_19) := hD
            refine lv_aload_n hx hb dX8_same_109 rfl (lv_at hl 4 rfl) ?_
            refine va_get (ci := 8) (v := .ref xo) (C := RX8) (T := TX8) (N := 11) hx hb hts hi8 hown hK hP 0 rfl rfl 4 (by decide) fl34 (fun _ h9 => h9) rfl dX8_same_110 ?_
            refine lv_iload hx hb dX8_same_113 (lv_at hl 1 rfl) ?_
            refine lv_i2l (v := y7_26.toInt64) hx hb dX8_same_115 rfl ?_
            refine my_goVS (wc := (wl_k_X7_add cI cJ cK xo o1 (nI oz_18) of_19)) hP hD hS hA [8, 9] rfl [none, none, none, none, none, none, none, none, some 0, some 1] (by decide +kernel) (my_cV (As := [.long y7_26.toInt64]) (rest := []) (ci := 7) (wc := (wl_k_X7_add cI cJ cK xo o1 (nI oz_18) of_19)) ⟨hx, hb, hml, hown, hts⟩ (cwV 1 hts gX8_same_X7_add rfl rfl rfl (by decide +kernel) ⟨Nat.le_of_ble_eq_true rfl, Nat.le_of_ble_eq_true rfl⟩) hN hK hP hD [8, 9] rfl (by decide) rfl 8 rfl rfl rfl rfl hl.1 rfl (Nat.le_of_ble_eq_true rfl) dX8_same_116 ⟨Nat.le_of_ble_eq_true rfl, Nat.le_of_ble_eq_true rfl⟩  ((k_X7_add l D cI cJ cK xo o1 oz_18 of_19 y7_26.toInt64 (by first | assumption | omega | decide +kernel)) _)) (fun u H locs hp hPD hS => ?_)
            obtain ⟨oz_21, of_22, rfl, hhz_oz_23⟩ := hp
            obtain ⟨hP, hD⟩ := hPD rfl
            have hP : va_P D vwCl (wl_k_X8_same cI cJ cK x0 xn xl xt xo xf xs xp xq xr xc f1 f2 s1 s2 o1 (nI z) nf (nI fz_5) fn_6 fs_7 (nI sz_8) sn_9 ss_10 (nI oz_21) of_22) H := hP
            have hD : va_D A (wl_k_X8_same cI cJ cK x0 xn xl xt xo xf xs xp xq xr xc f1 f2 s1 s2 o1 (nI z) nf (nI fz_5) fn_6 fs_7 (nI sz_8) sn_9 ss_10 (nI oz_21) of_22) := hD
            refine lv_iload hx hb dX8_same_119 (lv_at hl 3 rfl) ?_
            refine lv_iconst (v := (-1)) hx hb dX8_same_121 (by decide +kernel) ?_
            refine lv_icmp_ne (tgt := 129) hx hb dX8_same_122 (by decide) (fun c122 => ?_) (fun c122 => ?_)
            ·
              have d122 : y5_26.toInt ≠ (-1 : Int) := my_ne c122 rfl (by decide +kernel)
              refine lv_iconst (v := 0) hx hb dX8_same_129 (by decide +kernel) ?_
              exact my_retI hx hb hr hlocks hK hS (wl_k_X8_same cI cJ cK x0 xn xl xt xo xf xs xp xq xr xc f1 f2 s1 s2 o1 (nI z) nf (nI fz_5) fn_6 fs_7 (nI sz_8) sn_9 ss_10 (nI oz_21) of_22) hP hD (⟨fz_5, fn_6, fs_7, sz_8, sn_9, ss_10, oz_21, of_22, rfl, (by first | assumption | omega | trivial | decide +kernel), (by first | assumption | omega | trivial | decide +kernel), (by first | assumption | omega | trivial | decide +kernel)⟩) dX8_same_130
            ·
              have d122 : y5_26.toInt = (-1 : Int) := my_eq c122 rfl (by decide +kernel)
              refine lv_iconst (v := 1) hx hb dX8_same_125 (by decide +kernel) ?_
              refine lv_goto (tgt := 130) hx hb dX8_same_126 (by decide) ?_
              exact my_retI hx hb hr hlocks hK hS (wl_k_X8_same cI cJ cK x0 xn xl xt xo xf xs xp xq xr xc f1 f2 s1 s2 o1 (nI z) nf (nI fz_5) fn_6 fs_7 (nI sz_8) sn_9 ss_10 (nI oz_21) of_22) hP hD (⟨fz_5, fn_6, fs_7, sz_8, sn_9, ss_10, oz_21, of_22, rfl, (by first | assumption | omega | trivial | decide +kernel), (by first | assumption | omega | trivial | decide +kernel), (by first | assumption | omega | trivial | decide +kernel)⟩) dX8_same_130
          ·
            have d31 : ((k : Nat) : Int) ≤ (255 : Int) := my_ngt c31 (nI_toInt (by omega)) (by decide +kernel)
            refine lv_aload_n hx hb dX8_same_34 rfl (lv_at hl 4 rfl) ?_
            refine va_get (ci := 8) (v := .ref xf) (C := RX8) (T := TX8) (N := 11) hx hb hts hi8 hown hK hP 0 rfl rfl 5 (by decide) fl41 (fun _ h9 => h9) rfl dX8_same_35 ?_
            refine lv_iload hx hb dX8_same_38 (lv_at hl 0 rfl) ?_
            refine my_gpI (my_pV (As := [.int (nI k)]) (rest := []) (ci := 6) ⟨hx, hb, hml, hown, hts⟩ (cwV 1 hts gX8_same_X6_timesOf rfl rfl rfl (by decide +kernel) ⟨Nat.le_of_ble_eq_true rfl, Nat.le_of_ble_eq_true rfl⟩) hN hK hP [2, 3] rfl 2 rfl rfl rfl rfl hl.1 rfl (Nat.le_of_ble_eq_true rfl) dX8_same_40 ⟨Nat.le_of_ble_eq_true rfl, Nat.le_of_ble_eq_true rfl⟩  (k_X6_timesOf l D cI cJ cK xf f1 f2 fz_5 fn_6 (nI k) (by first | assumption | omega | decide +kernel))) (fun r hp => ?_)
            obtain _ := hp
            obtain ⟨r_24, rfl⟩ : ∃ z, z = r := ⟨_, rfl⟩
            refine lv_aload_n hx hb dX8_same_43 rfl (lv_at hl 4 rfl) ?_
            refine va_get (ci := 8) (v := .ref xs) (C := RX8) (T := TX8) (N := 11) hx hb hts hi8 hown hK hP 0 rfl rfl 6 (by decide) fl45 (fun _ h9 => h9) rfl dX8_same_44 ?_
            refine lv_iload hx hb dX8_same_47 (lv_at hl 0 rfl) ?_
            refine my_gpI (my_pV (As := [.int (nI k)]) (rest := [.int r_24]) (ci := 6) ⟨hx, hb, hml, hown, hts⟩ (cwV 1 hts gX8_same_X6_timesOf rfl rfl rfl (by decide +kernel) ⟨Nat.le_of_ble_eq_true rfl, Nat.le_of_ble_eq_true rfl⟩) hN hK hP [5, 6] rfl 5 rfl rfl rfl rfl hl.1 rfl (Nat.le_of_ble_eq_true rfl) dX8_same_49 ⟨Nat.le_of_ble_eq_true rfl, Nat.le_of_ble_eq_true rfl⟩  (k_X6_timesOf l D cI cJ cK xs s1 s2 sz_8 sn_9 (nI k) (by first | assumption | omega | decide +kernel))) (fun r hp => ?_)
            obtain _ := hp
            obtain ⟨r_25, rfl⟩ : ∃ z, z = r := ⟨_, rfl⟩
            refine lv_isub hx hb dX8_same_52 ?_
            refine lv_topi (fun z_26 ez_26 => ?_)
            try have tz_26 : z_26.toInt = r_24.toInt - r_25.toInt := by rw [ez_26]; exact my_subI rfl rfl (by omega) (by omega)
            refine lv_istore (lv' := [(9, .int z_26), (8, .int (nI k)), (7, .int y7_26), (6, .int y6_26), (5, .int y5_26), (0, .ref x0), (1, .int (nI a_1)), (2, .int (nI b_2)), (3, .int (nI e_3)), (4, .int (nI d_4))]) hx hb dX8_same_53 hl (by decide) rfl (fun ls hl => ?_)
            refine lv_iload hx hb dX8_same_55 (lv_at hl 0 rfl) ?_
            refine lv_if_eq (tgt := 70) hx hb dX8_same_57 (by decide) (fun c57 => ?_) (fun c57 => ?_)
            ·
              have d57 : z_26.toInt = (0 : Int) := my_eq c57 rfl (by decide +kernel)
              refine lv_iload hx hb dX8_same_70 (lv_at hl 3 rfl) ?_
              refine lv_iload hx hb dX8_same_72 (lv_at hl 0 rfl) ?_
              refine lv_iconst (v := 0) hx hb dX8_same_74 (by decide +kernel) ?_
              refine va_mmax hx hb (hml.trans hl.1.symm) hown (hts (.methodLink RX8 234 Lib.Math.max.name) (by decide +kernel)) (hts (.static Lib.Math.max.name) (by decide +kernel)) (hts (.initialized "java/lang/Math") (by decide +kernel)) (hts (.code Lib.Math.max.name Lib.Math.max.code 2 (some .int)) (by decide +kernel)) (Nat.le_of_ble_eq_true rfl) (Nat.le_of_ble_eq_true rfl) (Nat.le_of_ble_eq_true rfl) (Nat.le_of_ble_eq_true rfl) dX8_same_75 ?_
              refine lv_topi (fun z_27 ez_27 => ?_)
              have tz_27 := my_maxI (a := z_26.toInt) (b := (0 : Int)) ez_27 rfl (by decide +kernel)
              refine lv_iadd hx hb dX8_same_78 ?_
              refine lv_topi (fun z_28 ez_28 => ?_)
              try have tz_28 : z_28.toInt = y6_26.toInt + z_27.toInt := by rw [ez_28]; exact my_addI rfl rfl (by omega) (by omega)
              refine lv_istore (lv' := [(6, .int z_28), (9, .int z_26), (8, .int (nI k)), (7, .int y7_26), (5, .int y5_26), (0, .ref x0), (1, .int (nI a_1)), (2, .int (nI b_2)), (3, .int (nI e_3)), (4, .int (nI d_4))]) hx hb dX8_same_79 hl (by decide) rfl (fun ls hl => ?_)
              refine lv_iload hx hb dX8_same_81 (lv_at hl 3 rfl) ?_
              refine lv_iload hx hb dX8_same_83 (lv_at hl 1 rfl) ?_
              refine lv_ineg hx hb dX8_same_85 ?_
              refine lv_topi (fun z_29 ez_29 => ?_)
              refine lv_iconst (v := 0) hx hb dX8_same_86 (by decide +kernel) ?_
              refine va_mmax hx hb (hml.trans hl.1.symm) hown (hts (.methodLink RX8 234 Lib.Math.max.name) (by decide +kernel)) (hts (.static Lib.Math.max.name) (by decide +kernel)) (hts (.initialized "java/lang/Math") (by decide +kernel)) (hts (.code Lib.Math.max.name Lib.Math.max.code 2 (some .int)) (by decide +kernel)) (Nat.le_of_ble_eq_true rfl) (Nat.le_of_ble_eq_true rfl) (Nat.le_of_ble_eq_true rfl) (Nat.le_of_ble_eq_true rfl) dX8_same_87 ?_
              refine lv_topi (fun z_30 ez_30 => ?_)
              have tz_30 := my_maxI (a := z_29.toInt) (b := (0 : Int)) ez_30 rfl (by decide +kernel)
              refine lv_iadd hx hb dX8_same_90 ?_
              refine lv_topi (fun z_31 ez_31 => ?_)
              try have tz_31 : z_31.toInt = y7_26.toInt + z_30.toInt := by rw [ez_31]; exact my_addI rfl rfl (by omega) (by omega)
              refine lv_istore (lv' := [(7, .int z_31), (6, .int z_28), (9, .int z_26), (8, .int (nI k)), (5, .int y5_26), (0, .ref x0), (1, .int (nI a_1)), (2, .int (nI b_2)), (3, .int (nI e_3)), (4, .int (nI d_4))]) hx hb dX8_same_91 hl (by decide) rfl (fun ls hl => ?_)
              refine lv_iinc (v := nI (k + 1)) (lv' := [(8, .int (nI (k + 1))), (7, .int z_31), (6, .int z_28), (9, .int z_26), (5, .int y5_26), (0, .ref x0), (1, .int (nI a_1)), (2, .int (nI b_2)), (3, .int (nI e_3)), (4, .int (nI d_4))]) hx hb dX8_same_93 hl (k := 3) rfl (my_incN k 1 (by decide +kernel)) (by decide) rfl (fun ls hl => ?_)
              refine lv_goto (tgt := 26) hx hb dX8_same_96 (by decide) ?_
              exact ih26  (k + 1) z_31 z_28 y5_26 (by omega) (by first | assumption | omega | decide +kernel) _ _ ls hP hD hS (lv_sub hl [0, 1, 2, 4, 5, 6, 7, 8, 9] rfl)
            ·
              have d57 : z_26.toInt ≠ (0 : Int) := my_ne c57 rfl (by decide +kernel)
              refine lv_iload hx hb dX8_same_60 (lv_at hl 4 rfl) ?_
              refine lv_iconst (v := (-1)) hx hb dX8_same_62 (by decide +kernel) ?_
              refine lv_icmp_ne (tgt := 70) hx hb dX8_same_63 (by decide) (fun c63 => ?_) (fun c63 => ?_)
              ·
                have d63 : y5_26.toInt ≠ (-1 : Int) := my_ne c63 rfl (by decide +kernel)
                refine lv_iload hx hb dX8_same_70 (lv_at hl 3 rfl) ?_
                refine lv_iload hx hb dX8_same_72 (lv_at hl 0 rfl) ?_
                refine lv_iconst (v := 0) hx hb dX8_same_74 (by decide +kernel) ?_
                refine va_mmax hx hb (hml.trans hl.1.symm) hown (hts (.methodLink RX8 234 Lib.Math.max.name) (by decide +kernel)) (hts (.static Lib.Math.max.name) (by decide +kernel)) (hts (.initialized "java/lang/Math") (by decide +kernel)) (hts (.code Lib.Math.max.name Lib.Math.max.code 2 (some .int)) (by decide +kernel)) (Nat.le_of_ble_eq_true rfl) (Nat.le_of_ble_eq_true rfl) (Nat.le_of_ble_eq_true rfl) (Nat.le_of_ble_eq_true rfl) dX8_same_75 ?_
                refine lv_topi (fun z_32 ez_32 => ?_)
                have tz_32 := my_maxI (a := z_26.toInt) (b := (0 : Int)) ez_32 rfl (by decide +kernel)
                refine lv_iadd hx hb dX8_same_78 ?_
                refine lv_topi (fun z_33 ez_33 => ?_)
                try have tz_33 : z_33.toInt = y6_26.toInt + z_32.toInt := by rw [ez_33]; exact my_addI rfl rfl (by omega) (by omega)
                refine lv_istore (lv' := [(6, .int z_33), (9, .int z_26), (8, .int (nI k)), (7, .int y7_26), (5, .int y5_26), (0, .ref x0), (1, .int (nI a_1)), (2, .int (nI b_2)), (3, .int (nI e_3)), (4, .int (nI d_4))]) hx hb dX8_same_79 hl (by decide) rfl (fun ls hl => ?_)
                refine lv_iload hx hb dX8_same_81 (lv_at hl 3 rfl) ?_
                refine lv_iload hx hb dX8_same_83 (lv_at hl 1 rfl) ?_
                refine lv_ineg hx hb dX8_same_85 ?_
                refine lv_topi (fun z_34 ez_34 => ?_)
                refine lv_iconst (v := 0) hx hb dX8_same_86 (by decide +kernel) ?_
                refine va_mmax hx hb (hml.trans hl.1.symm) hown (hts (.methodLink RX8 234 Lib.Math.max.name) (by decide +kernel)) (hts (.static Lib.Math.max.name) (by decide +kernel)) (hts (.initialized "java/lang/Math") (by decide +kernel)) (hts (.code Lib.Math.max.name Lib.Math.max.code 2 (some .int)) (by decide +kernel)) (Nat.le_of_ble_eq_true rfl) (Nat.le_of_ble_eq_true rfl) (Nat.le_of_ble_eq_true rfl) (Nat.le_of_ble_eq_true rfl) dX8_same_87 ?_
                refine lv_topi (fun z_35 ez_35 => ?_)
                have tz_35 := my_maxI (a := z_34.toInt) (b := (0 : Int)) ez_35 rfl (by decide +kernel)
                refine lv_iadd hx hb dX8_same_90 ?_
                refine lv_topi (fun z_36 ez_36 => ?_)
                try have tz_36 : z_36.toInt = y7_26.toInt + z_35.toInt := by rw [ez_36]; exact my_addI rfl rfl (by omega) (by omega)
                refine lv_istore (lv' := [(7, .int z_36), (6, .int z_33), (9, .int z_26), (8, .int (nI k)), (5, .int y5_26), (0, .ref x0), (1, .int (nI a_1)), (2, .int (nI b_2)), (3, .int (nI e_3)), (4, .int (nI d_4))]) hx hb dX8_same_91 hl (by decide) rfl (fun ls hl => ?_)
                refine lv_iinc (v := nI (k + 1)) (lv' := [(8, .int (nI (k + 1))), (7, .int z_36), (6, .int z_33), (9, .int z_26), (5, .int y5_26), (0, .ref x0), (1, .int (nI a_1)), (2, .int (nI b_2)), (3, .int (nI e_3)), (4, .int (nI d_4))]) hx hb dX8_same_93 hl (k := 3) rfl (my_incN k 1 (by decide +kernel)) (by decide) rfl (fun ls hl => ?_)
                refine lv_goto (tgt := 26) hx hb dX8_same_96 (by decide) ?_
                exact ih26  (k + 1) z_36 z_33 y5_26 (by omega) (by first | assumption | omega | decide +kernel) _ _ ls hP hD hS (lv_sub hl [0, 1, 2, 4, 5, 6, 7, 8, 9] rfl)
              ·
                have d63 : y5_26.toInt = (-1 : Int) := my_eq c63 rfl (by decide +kernel)
                refine lv_iload hx hb dX8_same_66 (lv_at hl 1 rfl) ?_
                refine lv_istore (lv' := [(5, .int (nI k)), (9, .int z_26), (8, .int (nI k)), (7, .int y7_26), (6, .int y6_26), (0, .ref x0), (1, .int (nI a_1)), (2, .int (nI b_2)), (3, .int (nI e_3)), (4, .int (nI d_4))]) hx hb dX8_same_68 hl (by decide) rfl (fun ls hl => ?_)
                refine lv_iload hx hb dX8_same_70 (lv_at hl 4 rfl) ?_
                refine lv_iload hx hb dX8_same_72 (lv_at hl 1 rfl) ?_
                refine lv_iconst (v := 0) hx hb dX8_same_74 (by decide +kernel) ?_
                refine va_mmax hx hb (hml.trans hl.1.symm) hown (hts (.methodLink RX8 234 Lib.Math.max.name) (by decide +kernel)) (hts (.static Lib.Math.max.name) (by decide +kernel)) (hts (.initialized "java/lang/Math") (by decide +kernel)) (hts (.code Lib.Math.max.name Lib.Math.max.code 2 (some .int)) (by decide +kernel)) (Nat.le_of_ble_eq_true rfl) (Nat.le_of_ble_eq_true rfl) (Nat.le_of_ble_eq_true rfl) (Nat.le_of_ble_eq_true rfl) dX8_same_75 ?_
                refine lv_topi (fun z_37 ez_37 => ?_)
                have tz_37 := my_maxI (a := z_26.toInt) (b := (0 : Int)) ez_37 rfl (by decide +kernel)
                refine lv_iadd hx hb dX8_same_78 ?_
                refine lv_topi (fun z_38 ez_38 => ?_)
                try have tz_38 : z_38.toInt = y6_26.toInt + z_37.toInt := by rw [ez_38]; exact my_addI rfl rfl (by omega) (by omega)
                refine lv_istore (lv' := [(6, .int z_38), (5, .int (nI k)), (9, .int z_26), (8, .int (nI k)), (7, .int y7_26), (0, .ref x0), (1, .int (nI a_1)), (2, .int (nI b_2)), (3, .int (nI e_3)), (4, .int (nI d_4))]) hx hb dX8_same_79 hl (by decide) rfl (fun ls hl => ?_)
                refine lv_iload hx hb dX8_same_81 (lv_at hl 4 rfl) ?_
                refine lv_iload hx hb dX8_same_83 (lv_at hl 2 rfl) ?_
                refine lv_ineg hx hb dX8_same_85 ?_
                refine lv_topi (fun z_39 ez_39 => ?_)
                refine lv_iconst (v := 0) hx hb dX8_same_86 (by decide +kernel) ?_
                refine va_mmax hx hb (hml.trans hl.1.symm) hown (hts (.methodLink RX8 234 Lib.Math.max.name) (by decide +kernel)) (hts (.static Lib.Math.max.name) (by decide +kernel)) (hts (.initialized "java/lang/Math") (by decide +kernel)) (hts (.code Lib.Math.max.name Lib.Math.max.code 2 (some .int)) (by decide +kernel)) (Nat.le_of_ble_eq_true rfl) (Nat.le_of_ble_eq_true rfl) (Nat.le_of_ble_eq_true rfl) (Nat.le_of_ble_eq_true rfl) dX8_same_87 ?_
                refine lv_topi (fun z_40 ez_40 => ?_)
                have tz_40 := my_maxI (a := z_39.toInt) (b := (0 : Int)) ez_40 rfl (by decide +kernel)
                refine lv_iadd hx hb dX8_same_90 ?_
                refine lv_topi (fun z_41 ez_41 => ?_)
                try have tz_41 : z_41.toInt = y7_26.toInt + z_40.toInt := by rw [ez_41]; exact my_addI rfl rfl (by omega) (by omega)
                refine lv_istore (lv' := [(7, .int z_41), (6, .int z_38), (5, .int (nI k)), (9, .int z_26), (8, .int (nI k)), (0, .ref x0), (1, .int (nI a_1)), (2, .int (nI b_2)), (3, .int (nI e_3)), (4, .int (nI d_4))]) hx hb dX8_same_91 hl (by decide) rfl (fun ls hl => ?_)
                refine lv_iinc (v := nI (k + 1)) (lv' := [(8, .int (nI (k + 1))), (7, .int z_41), (6, .int z_38), (5, .int (nI k)), (9, .int z_26), (0, .ref x0), (1, .int (nI a_1)), (2, .int (nI b_2)), (3, .int (nI e_3)), (4, .int (nI d_4))]) hx hb dX8_same_93 hl (k := 4) rfl (my_incN k 1 (by decide +kernel)) (by decide) rfl (fun ls hl => ?_)
                refine lv_goto (tgt := 26) hx hb dX8_same_96 (by decide) ?_
                have ec_42 : (nI k).toInt = _ := nI_toInt (by omega)
                exact ih26  (k + 1) z_41 z_38 (nI k) (by omega) (by first | assumption | omega | decide +kernel) _ _ ls hP hD hS (lv_sub hl [0, 1, 2, 3, 5, 6, 7, 8, 9] rfl)
      have ec_43 : (0 : Int32).toInt = 0 := by decide +kernel
      have ec_44 : (0 : Int32).toInt = 0 := by decide +kernel
      have ec_45 : (-1 : Int32).toInt = -1 := by decide +kernel
      exact loop26 ((256 - 0) + 1) 0 (0 : Int32) (0 : Int32) (-1 : Int32) (Nat.lt_succ_self _) (by first | assumption | omega | decide +kernel) _ _ ls hP hD hS (lv_sub hl [0, 1, 2, 3, 4, 5, 6, 7, 8] rfl)
    ·
      exact absurd c9 (by decide +kernel)
  ·
    obtain ⟨hP, hD⟩ := hPD rfl
    have hP : va_P D vwCl (wl_k_X8_same cI cJ cK x0 xn xl xt xo xf xs xp xq xr xc f1 f2 s1 s2 o1 (nI z) nf (nI fz) fn fs (nI sz) sn ss (nI oz) of) H := hP
    have hD : va_D A (wl_k_X8_same cI cJ cK x0 xn xl xt xo xf xs xp xq xr xc f1 f2 s1 s2 o1 (nI z) nf (nI fz) fn fs (nI sz) sn ss (nI oz) of) := hD
    refine lv_if_ne (tgt := 14) hx hb dX8_same_9 (by decide) (fun c9 => ?_) (fun c9 => ?_)
    ·
      exact absurd c9 (by decide +kernel)
    ·
      refine lv_iconst (v := (-1)) hx hb dX8_same_12 (by decide +kernel) ?_
      exact my_retI hx hb hr hlocks hK hS (wl_k_X8_same cI cJ cK x0 xn xl xt xo xf xs xp xq xr xc f1 f2 s1 s2 o1 (nI z) nf (nI fz) fn fs (nI sz) sn ss (nI oz) of) hP hD (⟨fz, fn, fs, sz, sn, ss, oz, of, rfl, (by first | assumption | omega | trivial | decide +kernel), (by first | assumption | omega | trivial | decide +kernel), (by first | assumption | omega | trivial | decide +kernel)⟩) dX8_same_13
set_option maxHeartbeats 4000000 in
set_option maxRecDepth 100000 in
theorem k_X8_count (l : Launch) (D : va_G) (cI cJ cK : ClassId) (x0 : Nat) (xn : Nat) (xl : Nat) (xt : Nat) (xo : Nat) (xf : Nat) (xs : Nat) (xp : Nat) (xq : Nat) (xr : Nat) (xc : Nat) (t1 : Nat) (o1 : Nat) (z : Nat) (nf : Nat → Int32) (tz : Nat) (oz : Nat) (w9 : Int32) (hz_z : z ≤ 64) (hR_nf : RB 0 255 nf) (hz_tz : tz ≤ 100) (hz_oz : oz ≤ 64) : cpI l yX8_count wsX8_count ({ frames := 2, cells := 0, slots := 0, locals := 120 } : Room) D (tyIJ cI cJ cK) [.ref x0, .int w9] [(x0, .inr (8, [.ref xn, .int (nI z), .ref xl, .ref xt, .ref xo, .ref xf, .ref xs, .ref xp, .ref xq, .ref xr, .ref xc])), (xn, .inl (cI, 64, .inl nf)), (xt, .inr (5, [.ref t1, .int (nI tz)])), (xo, .inr (7, [.ref o1, .int (nI oz)]))] (fun (r : Int32) => True) := by
  refine cpI.of (cc := cX8_count) (maxL := 2) (ret := (some .int)) (by decide) rfl (Nat.le_of_ble_eq_true rfl) ?_
  intro p e s m below meth c ls hx hb hr hts hown hml hlocks hname hK hN hP hl
  have hl : lv_has ls 2 [(0, .ref x0), (1, .int w9)] := hl
  have hown : s.vm.findClass RX8 = some m.cls := hown
  have hi5 : ∀ w ∈ u_ws RX5 TX5 2, w ∈ wsX8_count := by decide +kernel
  have hi7 : ∀ w ∈ u_ws RX7 TX7 2, w ∈ wsX8_count := by decide +kernel
  have hi8 : ∀ w ∈ u_ws RX8 TX8 11, w ∈ wsX8_count := by decide +kernel
  have fl13 := hts (.fieldLink RX8 13 "PlaneColumn" "size" "I") (by decide +kernel)
  have fl27 := hts (.fieldLink RX8 27 "PlaneColumn" "text" "LPlaneColumn$Signs;") (by decide +kernel)
  have fl34 := hts (.fieldLink RX8 34 "PlaneColumn" "told" "LPlaneColumn$Told;") (by decide +kernel)
  refine lv_iload_n hx hb dX8_count_0 rfl (lv_at hl 1 rfl) ?_
  by_cases cs1 : w9.toInt < 0 ∨ 5 < w9.toInt
  ·
    refine lv_tableOut (tgt := 76) hx hb dX8_count_1 cs1 (by decide) ?_
    refine lv_iconst (v := (-1)) hx hb dX8_count_76 (by decide +kernel) ?_
    exact my_rpI hx hb hr hlocks (trivial) dX8_count_77
  ·
    by_cases cv1_0 : w9.toInt = 0
    ·
      refine lv_tableIn (off := 39) (tgt := 40) hx hb dX8_count_1 (by omega) (by omega) (by rw [cv1_0]; rfl) (by decide) ?_
      refine lv_aload_n hx hb dX8_count_40 rfl (lv_at hl 0 rfl) ?_
      refine va_get (ci := 8) (v := .int (nI z)) (C := RX8) (T := TX8) (N := 11) hx hb hts hi8 hown hK hP 0 rfl rfl 1 (by decide) fl13 (fun _ h9 => h9) rfl dX8_count_41 ?_
      exact my_rpI hx hb hr hlocks (trivial) dX8_count_44
    ·
      by_cases cv1_1 : w9.toInt = 1
      ·
        refine lv_tableIn (off := 44) (tgt := 45) hx hb dX8_count_1 (by omega) (by omega) (by rw [cv1_1]; rfl) (by decide) ?_
        refine lv_aload_n hx hb dX8_count_45 rfl (lv_at hl 0 rfl) ?_
        refine va_get (ci := 8) (v := .ref xt) (C := RX8) (T := TX8) (N := 11) hx hb hts hi8 hown hK hP 0 rfl rfl 3 (by decide) fl27 (fun _ h9 => h9) rfl dX8_count_46 ?_
        refine va_getN (ci := 5) (v := .int (nI tz)) (C := RX5) (T := TX5) (N := 2) hx hb hts hi5 hown hK hP 2 rfl rfl 1 (by decide) (nw_f_RX8_129 hN) (fun _ h9 => h9) rfl dX8_count_49 ?_
        exact my_rpI hx hb hr hlocks (trivial) dX8_count_52
      ·
        by_cases cv1_2 : w9.toInt = 2
        ·
          refine lv_tableIn (off := 52) (tgt := 53) hx hb dX8_count_1 (by omega) (by omega) (by rw [cv1_2]; rfl) (by decide) ?_
          refine lv_aload_n hx hb dX8_count_53 rfl (lv_at hl 0 rfl) ?_
          refine va_get (ci := 8) (v := .ref xo) (C := RX8) (T := TX8) (N := 11) hx hb hts hi8 hown hK hP 0 rfl rfl 4 (by decide) fl34 (fun _ h9 => h9) rfl dX8_count_54 ?_
          refine va_getN (ci := 7) (v := .int (nI oz)) (C := RX7) (T := TX7) (N := 2) hx hb hts hi7 hown hK hP 3 rfl rfl 1 (by decide) (nw_f_RX8_237 hN) (fun _ h9 => h9) rfl dX8_count_57 ?_
          exact my_rpI hx hb hr hlocks (trivial) dX8_count_60
        ·
          by_cases cv1_3 : w9.toInt = 3
          ·
            refine lv_tableIn (off := 60) (tgt := 61) hx hb dX8_count_1 (by omega) (by omega) (by rw [cv1_3]; rfl) (by decide) ?_
            refine lv_aload_n hx hb dX8_count_61 rfl (lv_at hl 0 rfl) ?_
            refine my_gpI (my_pV (As := []) (rest := []) (ci := 8) ⟨hx, hb, hml, hown, hts⟩ (cwV 0 hts gX8_count_X8_unlikeNumbers rfl rfl rfl (by decide +kernel) ⟨Nat.le_of_ble_eq_true rfl, Nat.le_of_ble_eq_true rfl⟩) hN hK hP [0, 1] rfl 0 rfl rfl rfl rfl hl.1 rfl (Nat.le_of_ble_eq_true rfl) dX8_count_62 ⟨Nat.le_of_ble_eq_true rfl, Nat.le_of_ble_eq_true rfl⟩  (k_X8_unlikeNumbers l D cI cJ cK x0 xn xl xt xo xf xs xp xq xr xc z nf (by first | assumption | omega | decide +kernel) hR_nf)) (fun r hp => ?_)
            obtain _ := hp
            obtain ⟨r_1, rfl⟩ : ∃ z, z = r := ⟨_, rfl⟩
            exact my_rpI hx hb hr hlocks (trivial) dX8_count_65
          ·
            by_cases cv1_4 : w9.toInt = 4
            ·
              refine lv_tableIn (off := 65) (tgt := 66) hx hb dX8_count_1 (by omega) (by omega) (by rw [cv1_4]; rfl) (by decide) ?_
              refine lv_aload_n hx hb dX8_count_66 rfl (lv_at hl 0 rfl) ?_
              refine my_gpI (my_pV (As := []) (rest := []) (ci := 8) ⟨hx, hb, hml, hown, hts⟩ (cwV 0 hts gX8_count_X8_sumOfAll rfl rfl rfl (by decide +kernel) ⟨Nat.le_of_ble_eq_true rfl, Nat.le_of_ble_eq_true rfl⟩) hN hK hP [0, 1] rfl 0 rfl rfl rfl rfl hl.1 rfl (Nat.le_of_ble_eq_true rfl) dX8_count_67 ⟨Nat.le_of_ble_eq_true rfl, Nat.le_of_ble_eq_true rfl⟩  (k_X8_sumOfAll l D cI cJ cK x0 xn xl xt xo xf xs xp xq xr xc z nf (by first | assumption | omega | decide +kernel) hR_nf)) (fun r hp => ?_)
              obtain _ := hp
              obtain ⟨r_2, rfl⟩ : ∃ z, z = r := ⟨_, rfl⟩
              exact my_rpI hx hb hr hlocks (trivial) dX8_count_70
            ·
              have cv1_5 : w9.toInt = 5 := by omega
              refine lv_tableIn (off := 70) (tgt := 71) hx hb dX8_count_1 (by omega) (by omega) (by rw [cv1_5]; rfl) (by decide) ?_
              refine lv_aload_n hx hb dX8_count_71 rfl (lv_at hl 0 rfl) ?_
              refine my_gpI (my_pV (As := []) (rest := []) (ci := 8) ⟨hx, hb, hml, hown, hts⟩ (cwV 0 hts gX8_count_X8_onesOfAll rfl rfl rfl (by decide +kernel) ⟨Nat.le_of_ble_eq_true rfl, Nat.le_of_ble_eq_true rfl⟩) hN hK hP [0, 1] rfl 0 rfl rfl rfl rfl hl.1 rfl (Nat.le_of_ble_eq_true rfl) dX8_count_72 ⟨Nat.le_of_ble_eq_true rfl, Nat.le_of_ble_eq_true rfl⟩  (k_X8_onesOfAll l D cI cJ cK x0 xn xl xt xo xf xs xp xq xr xc z nf (by first | assumption | omega | decide +kernel) hR_nf)) (fun r hp => ?_)
              obtain _ := hp
              obtain ⟨r_3, rfl⟩ : ∃ z, z = r := ⟨_, rfl⟩
              exact my_rpI hx hb hr hlocks (trivial) dX8_count_75
