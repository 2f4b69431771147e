abbrev wl_k_X8_nearest (cI cJ cK : ClassId) (x0 : Nat) (xn : Nat) (xl : Nat) (xt : Nat) (xo : Nat) (xf : Nat) (xs : Nat) (xp : Nat) (xq : Nat) (xr : Nat) (xc : Nat) (f1 : Nat) (f2 : Nat) (o1 : Nat) (v0_ : Int32) (v1_ : Nat → Int32) (v2_ : Int32) (v3_ : Nat → Int32) (v4_ : Nat → Int32) (v5_ : Int32) (v6_ : Nat → Int64) : va_W := [(x0, .inr (8, [.ref xn, .int v0_, .ref xl, .ref xt, .ref xo, .ref xf, .ref xs, .ref xp, .ref xq, .ref xr, .ref xc])), (xn, .inl (cI, 64, .inl v1_)), (xf, .inr (6, [.ref f1, .ref f2, .int v2_])), (f1, .inl (cI, 512, .inl v3_)), (f2, .inl (cI, 64, .inl v4_)), (xo, .inr (7, [.ref o1, .int v5_])), (o1, .inl (cJ, 64, .inr (.inl v6_)))]
set_option maxHeartbeats 4000000 in
set_option maxRecDepth 100000 in
theorem k_X8_nearest (l : Launch) (D : va_G) (cI cJ cK : ClassId) (x0 : Nat) (xn : Nat) (xl : Nat) (xt : Nat) (xo : Nat) (xf : Nat) (xs : Nat) (xp : Nat) (xq : Nat) (xr : Nat) (xc : Nat) (f1 : Nat) (f2 : Nat) (o1 : Nat) (z : Nat) (nf : Nat → Int32) (fz : Nat) (fn : Nat → Int32) (fs : Nat → Int32) (oz : Nat) (of : Nat → Int64) (l9 : Int32) (r9 : Int32) (hz_z : z ≤ 64) (hR_nf : RB 0 255 nf) (hz_fz : fz ≤ 64) (hz_oz : oz ≤ 64) : ctI l yX8_nearest wsX8_nearest ({ frames := 4, cells := 0, slots := 0, locals := 240 } : Room) D (tyIJ cI cJ cK) [.ref x0, .int l9, .int r9] (wl_k_X8_nearest cI cJ cK x0 xn xl xt xo xf xs xp xq xr xc f1 f2 o1 (nI z) nf (nI fz) fn fs (nI oz) of) (fun (r : Int32) (u : va_W) => (u = (wl_k_X8_nearest cI cJ cK x0 xn xl xt xo xf xs xp xq xr xc f1 f2 o1 (nI z) nf (nI fz) fn fs (nI oz) of) ∧ r = (-1) ∧ (l9.toInt < 0 ∨ r9.toInt < l9.toInt ∨ z < r9.toInt)) ∨ (u = (wl_k_X8_nearest cI cJ cK x0 xn xl xt xo xf xs xp xq xr xc f1 f2 o1 (nI z) nf (nI fz) fn fs (nI oz) of) ∧ r = (-2) ∧ 0 ≤ l9.toInt ∧ l9.toInt ≤ r9.toInt ∧ r9.toInt ≤ z ∧ r9.toInt - l9.toInt < 2) ∨ (∃ (t' : Nat) (fz' : Nat) (fn' : Nat → Int32) (fs' : Nat → Int32) (oz' : Nat) (of' : Nat → Int64), u = (wl_k_X8_nearest cI cJ cK x0 xn xl xt xo xf xs xp xq xr xc f1 f2 o1 (nI z) nf (nI fz') fn' fs' (nI oz') of') ∧ r = nI t' ∧ fz' ≤ 64 ∧ oz' ≤ 64 ∧ 0 ≤ l9.toInt ∧ l9.toInt ≤ r9.toInt ∧ r9.toInt ≤ z ∧ 2 ≤ r9.toInt - l9.toInt ∧ nsP nf l9.toInt.toNat r9.toInt.toNat t' ∧ oz' = 2)) := by
  refine ctI.of (cc := cX8_nearest) (maxL := 5) (ret := (some .int)) (by decide) rfl (Nat.le_of_ble_eq_true rfl) ?_
  intro p e s m below meth c ls A hx hb hr hts hown hml hlocks hname hA hK hN hP hD hS hl
  have hl : lv_has ls 5 [(0, .ref x0), (1, .int l9), (2, .int r9)] := hl
  have hown : s.vm.findClass RX8 = some m.cls := hown
  have hi8 : ∀ w ∈ u_ws RX8 TX8 11, w ∈ wsX8_nearest := by decide +kernel
  have fl41 := hts (.fieldLink RX8 41 "PlaneColumn" "first" "LPlaneColumn$Tally;") (by decide +kernel)
  have fl9 := hts (.fieldLink RX8 9 "PlaneColumn" "numbers" "[I") (by decide +kernel)
  refine lv_aload_n hx hb dX8_nearest_0 rfl (lv_at hl 0 rfl) ?_
  refine lv_iload_n hx hb dX8_nearest_1 rfl (lv_at hl 1 rfl) ?_
  refine lv_iload_n hx hb dX8_nearest_2 rfl (lv_at hl 2 rfl) ?_
  refine my_gpI (my_pV (As := [.int l9, .int r9]) (rest := []) (ci := 8) ⟨hx, hb, hml, hown, hts⟩ (cwV 2 hts gX8_nearest_X8_isSpan rfl rfl rfl (by decide +kernel) ⟨Nat.le_of_ble_eq_true rfl, Nat.le_of_ble_eq_true rfl⟩) hN hK hP [0] rfl 0 rfl rfl rfl rfl hl.1 rfl (Nat.le_of_ble_eq_true rfl) dX8_nearest_3 ⟨Nat.le_of_ble_eq_true rfl, Nat.le_of_ble_eq_true rfl⟩  (k_X8_isSpan l D cI cJ cK x0 xn xl xt xo xf xs xp xq xr xc z l9 r9 (by first | assumption | omega | decide +kernel))) (fun r hp => ?_)
  rcases hp with ⟨a_1, b_2, rfl, rfl, rfl, ha_3, hb_4⟩ | ⟨rfl, ho_5⟩
  ·
    refine lv_if_ne (tgt := 11) hx hb dX8_nearest_6 (by decide) (fun c6 => ?_) (fun c6 => ?_)
    ·
      refine lv_iload_n hx hb dX8_nearest_11 rfl (lv_at hl 2 rfl) ?_
      refine lv_iload_n hx hb dX8_nearest_12 rfl (lv_at hl 1 rfl) ?_
      refine lv_isub hx hb dX8_nearest_13 ?_
      refine lv_topi (fun z_6 ez_6 => ?_)
      try have tz_6 : z_6.toInt = ((b_2 : Nat) : Int) - ((a_1 : Nat) : Int) := by rw [ez_6]; exact my_subI (nI_toInt (by omega)) (nI_toInt (by omega)) (by omega) (by omega)
      refine lv_iconst (v := 2) hx hb dX8_nearest_14 (by decide +kernel) ?_
      refine lv_icmp_ge (tgt := 21) hx hb dX8_nearest_15 (by decide) (fun c15 => ?_) (fun c15 => ?_)
      ·
        have d15 : z_6.toInt ≥ (2 : Int) := my_ge c15 rfl (by decide +kernel)
        refine lv_aload_n hx hb dX8_nearest_21 rfl (lv_at hl 0 rfl) ?_
        refine va_get (ci := 8) (v := .ref xf) (C := RX8) (T := TX8) (N := 11) hx hb hts hi8 hown hK hP 0 rfl rfl 5 (by decide) fl41 (fun _ h9 => h9) rfl dX8_nearest_22 ?_
        refine lv_aload_n hx hb dX8_nearest_25 rfl (lv_at hl 0 rfl) ?_
        refine va_get (ci := 8) (v := .ref xn) (C := RX8) (T := TX8) (N := 11) hx hb hts hi8 hown hK hP 0 rfl rfl 0 (by decide) fl9 (fun _ h9 => h9) rfl dX8_nearest_26 ?_
        refine lv_iload_n hx hb dX8_nearest_29 rfl (lv_at hl 1 rfl) ?_
        refine lv_iload_n hx hb dX8_nearest_30 rfl (lv_at hl 2 rfl) ?_
        refine my_goVS (wc := (wl_k_X6_take cI cJ cK xf f1 f2 xn (nI fz) fn fs nf)) hP hD hS hA [2, 3, 4, 1] rfl [none, some 3, some 0, some 1, some 2] (by decide +kernel) (my_cV (As := [.ref xn, .int (nI a_1), .int (nI b_2)]) (rest := []) (ci := 6) (wc := (wl_k_X6_take cI cJ cK xf f1 f2 xn (nI fz) fn fs nf)) ⟨hx, hb, hml, hown, hts⟩ (cwV 3 hts gX8_nearest_X6_take rfl rfl rfl (by decide +kernel) ⟨Nat.le_of_ble_eq_true rfl, Nat.le_of_ble_eq_true rfl⟩) hN hK hP hD [2, 3, 4, 1] rfl (by decide) rfl 2 rfl rfl rfl rfl hl.1 rfl (Nat.le_of_ble_eq_true rfl) dX8_nearest_31 ⟨Nat.le_of_ble_eq_true rfl, Nat.le_of_ble_eq_true rfl⟩  ((k_X6_take l D cI cJ cK xf f1 f2 xn fz fn fs nf a_1 b_2 (by first | assumption | omega | decide +kernel) hR_nf (by first | assumption | omega | decide +kernel) (by first | assumption | omega | decide +kernel)) _)) (fun u H locs hp hPD hS => ?_)
        obtain ⟨fz_7, fn_8, fs_9, rfl, hhz_fz_10, hnd, hn8, hfz, hsv⟩ := hp
        obtain ⟨hP, hD⟩ := hPD rfl
        have hP : va_P D vwCl (wl_k_X8_nearest cI cJ cK x0 xn xl xt xo xf xs xp xq xr xc f1 f2 o1 (nI z) nf (nI fz_7) fn_8 fs_9 (nI oz) of) H := hP
        have hD : va_D A (wl_k_X8_nearest cI cJ cK x0 xn xl xt xo xf xs xp xq xr xc f1 f2 o1 (nI z) nf (nI fz_7) fn_8 fs_9 (nI oz) of) := hD
        refine lv_iconst (v := 0) hx hb dX8_nearest_34 (by decide +kernel) ?_
        refine lv_istore_n (lv' := [(3, .int 0), (0, .ref x0), (1, .int (nI a_1)), (2, .int (nI b_2))]) hx hb dX8_nearest_35 rfl hl (by decide) rfl (fun ls hl => ?_)
        refine lv_iconst (v := 1) hx hb dX8_nearest_36 (by decide +kernel) ?_
        refine lv_istore (lv' := [(4, .int 1), (3, .int 0), (0, .ref x0), (1, .int (nI a_1)), (2, .int (nI b_2))]) hx hb dX8_nearest_37 hl (by decide) rfl (fun ls hl => ?_)
        have loop39 : ∀ (n9 : Nat) (v : Nat) (ct : Nat), 64 - v < n9 → (ct ≤ 64) → (v ≤ 64) → (1 ≤ v) → (ct < v) → (v ≤ b_2 - a_1 - 1) → (nbP fs_9 ct v) → ∀ (H : Heap) (locs : List Loc) (ls : Array Slot), va_P D vwCl (wl_k_X8_nearest cI cJ cK x0 xn xl xt xo xf xs xp xq xr xc f1 f2 o1 (nI z) nf (nI fz_7) fn_8 fs_9 (nI oz) of) H → va_D A (wl_k_X8_nearest cI cJ cK x0 xn xl xt xo xf xs xp xq xr xc f1 f2 o1 (nI z) nf (nI fz_7) fn_8 fs_9 (nI oz) of) → va_S A s.heap H locs → lv_has ls 5 [(4, .int (nI v)), (3, .int (nI ct)), (0, .ref x0), (1, .int (nI a_1)), (2, .int (nI b_2))] → W p l e ({ frames := 4, cells := 0, slots := 0, locals := 240 } : Room) s m [.ref x0, .int (nI a_1), .int (nI b_2)].toArray below meth c H locs 0 0 (MQ below (va_Qi (fun (r : Int32) (u : va_W) => (u = (wl_k_X8_nearest cI cJ cK x0 xn xl xt xo xf xs xp xq xr xc f1 f2 o1 (nI z) nf (nI fz) fn fs (nI oz) of) ∧ r = (-1) ∧ ((nI a_1).toInt < 0 ∨ (nI b_2).toInt < (nI a_1).toInt ∨ z < (nI b_2).toInt)) ∨ (u = (wl_k_X8_nearest cI cJ cK x0 xn xl xt xo xf xs xp xq xr xc f1 f2 o1 (nI z) nf (nI fz) fn fs (nI oz) of) ∧ r = (-2) ∧ 0 ≤ (nI a_1).toInt ∧ (nI a_1).toInt ≤ (nI b_2).toInt ∧ (nI b_2).toInt ≤ z ∧ (nI b_2).toInt - (nI a_1).toInt < 2) ∨ (∃ (t' : Nat) (fz' : Nat) (fn' : Nat → Int32) (fs' : Nat → Int32) (oz' : Nat) (of' : Nat → Int64), u = (wl_k_X8_nearest cI cJ cK x0 xn xl xt xo xf xs xp xq xr xc f1 f2 o1 (nI z) nf (nI fz') fn' fs' (nI oz') of') ∧ r = nI t' ∧ fz' ≤ 64 ∧ oz' ≤ 64 ∧ 0 ≤ (nI a_1).toInt ∧ (nI a_1).toInt ≤ (nI b_2).toInt ∧ (nI b_2).toInt ≤ z ∧ 2 ≤ (nI b_2).toInt - (nI a_1).toInt ∧ nsP nf (nI a_1).toInt.toNat (nI b_2).toInt.toNat t' ∧ oz' = 2)) (my_B D (tyIJ cI cJ cK) A) A) [.ref x0, .int (nI a_1), .int (nI b_2)].toArray s 0 0 A) (F0 m 39 ls []) := by
          intro n9
          induction n9 with
          | zero =>
            intro v ct hn9
            exact absurd hn9 (Nat.not_lt_zero _)
          | succ n9 ih39 =>
            intro v ct hn9 hk_ct hk_v hv1 hcv hvb hnb H locs ls hP hD hS hl
            refine lv_iload hx hb dX8_nearest_39 (lv_at hl 0 rfl) ?_
            refine lv_iload_n hx hb dX8_nearest_41 rfl (lv_at hl 4 rfl) ?_
            refine lv_iload_n hx hb dX8_nearest_42 rfl (lv_at hl 3 rfl) ?_
            refine lv_isub hx hb dX8_nearest_43 ?_
            refine my_eqi (y := nI (b_2 - a_1)) (my_subN (a := b_2) (b := a_1) (by omega)) ?_
            refine lv_iconst (v := 1) hx hb dX8_nearest_44 (by decide +kernel) ?_
            refine lv_isub hx hb dX8_nearest_45 ?_
            refine my_eqi (y := nI ((b_2 - a_1) - 1)) (my_subN (a := b_2 - a_1) (b := 1) (by omega)) ?_
            refine lv_icmp_ge (tgt := 72) hx hb dX8_nearest_46 (by decide) (fun c46 => ?_) (fun c46 => ?_)
            ·
              have d46 : ((v : Nat) : Int) ≥ (((b_2 - a_1) - 1 : Nat) : Int) := my_ge c46 (nI_toInt (by omega)) (nI_toInt (by omega))
              refine lv_aload_n hx hb dX8_nearest_72 rfl (lv_at hl 2 rfl) ?_
              refine lv_aload_n hx hb dX8_nearest_73 rfl (lv_at hl 2 rfl) ?_
              refine va_get (ci := 8) (v := .ref xf) (C := RX8) (T := TX8) (N := 11) hx hb hts hi8 hown hK hP 0 rfl rfl 5 (by decide) fl41 (fun _ h9 => h9) rfl dX8_nearest_74 ?_
              refine lv_iload_n hx hb dX8_nearest_77 rfl (lv_at hl 1 rfl) ?_
              refine my_gpI (my_pV (As := [.int (nI ct)]) (rest := [.ref x0]) (ci := 6) ⟨hx, hb, hml, hown, hts⟩ (cwV 1 hts gX8_nearest_X6_sortedAt rfl rfl rfl (by decide +kernel) ⟨Nat.le_of_ble_eq_true rfl, Nat.le_of_ble_eq_true rfl⟩) hN hK hP [2, 4] rfl 2 rfl rfl rfl rfl hl.1 rfl (Nat.le_of_ble_eq_true rfl) dX8_nearest_78 ⟨Nat.le_of_ble_eq_true rfl, Nat.le_of_ble_eq_true rfl⟩  (k_X6_sortedAt l D cI cJ cK xf f1 f2 fz_7 fs_9 (nI ct) (by first | assumption | omega | decide +kernel))) (fun r hp => ?_)
              obtain _ := hp
              obtain ⟨r_11, rfl⟩ : ∃ z, z = r := ⟨_, rfl⟩
              refine lv_i2l (v := r_11.toInt64) hx hb dX8_nearest_81 rfl ?_
              refine lv_aload_n hx hb dX8_nearest_82 rfl (lv_at hl 2 rfl) ?_
              refine va_get (ci := 8) (v := .ref xf) (C := RX8) (T := TX8) (N := 11) hx hb hts hi8 hown hK hP 0 rfl rfl 5 (by decide) fl41 (fun _ h9 => h9) rfl dX8_nearest_83 ?_
              refine lv_iload_n hx hb dX8_nearest_86 rfl (lv_at hl 1 rfl) ?_
              refine lv_iconst (v := 1) hx hb dX8_nearest_87 (by decide +kernel) ?_
              refine lv_iadd hx hb dX8_nearest_88 ?_
              refine my_eqi (y := nI (ct + 1)) (my_addN ct 1) ?_
              refine my_gpI (my_pV (As := [.int (nI (ct + 1))]) (rest := [.long r_11.toInt64, .ref x0]) (ci := 6) ⟨hx, hb, hml, hown, hts⟩ (cwV 1 hts gX8_nearest_X6_sortedAt rfl rfl rfl (by decide +kernel) ⟨Nat.le_of_ble_eq_true rfl, Nat.le_of_ble_eq_true rfl⟩) hN hK hP [2, 4] rfl 2 rfl rfl rfl rfl hl.1 rfl (Nat.le_of_ble_eq_true rfl) dX8_nearest_89 ⟨Nat.le_of_ble_eq_true rfl, Nat.le_of_ble_eq_true rfl⟩  (k_X6_sortedAt l D cI cJ cK xf f1 f2 fz_7 fs_9 (nI (ct + 1)) (by first | assumption | omega | decide +kernel))) (fun r hp => ?_)
              obtain _ := hp
              obtain ⟨r_12, rfl⟩ : ∃ z, z = r := ⟨_, rfl⟩
              refine lv_i2l (v := r_12.toInt64) hx hb dX8_nearest_92 rfl ?_
              refine my_goVS (wc := (wl_k_X8_tell_ cI cJ cK x0 xn xl xt xo xf xs xp xq xr xc o1 (nI z) (nI oz) of)) hP hD hS hA [0, 5, 6] rfl [some 0, none, none, none, none, some 1, some 2] (by decide +kernel) (my_cV (As := [.long r_11.toInt64, .long r_12.toInt64]) (rest := []) (ci := 8) (wc := (wl_k_X8_tell_ cI cJ cK x0 xn xl xt xo xf xs xp xq xr xc o1 (nI z) (nI oz) of)) ⟨hx, hb, hml, hown, hts⟩ (cwV 2 hts gX8_nearest_X8_tell_ rfl rfl rfl (by decide +kernel) ⟨Nat.le_of_ble_eq_true rfl, Nat.le_of_ble_eq_true rfl⟩) hN hK hP hD [0, 5, 6] rfl (by decide) rfl 0 rfl rfl rfl rfl hl.1 rfl (Nat.le_of_ble_eq_true rfl) dX8_nearest_93 ⟨Nat.le_of_ble_eq_true rfl, Nat.le_of_ble_eq_true rfl⟩  ((k_X8_tell_ l D cI cJ cK x0 xn xl xt xo xf xs xp xq xr xc o1 z oz of r_11.toInt64 r_12.toInt64 (by first | assumption | omega | decide +kernel) (by first | assumption | omega | decide +kernel)) _)) (fun u H locs hp hPD hS => ?_)
              obtain ⟨of_13, rfl, hv0, hv1⟩ := hp
              obtain ⟨hP, hD⟩ := hPD rfl
              have hP : va_P D vwCl (wl_k_X8_nearest cI cJ cK x0 xn xl xt xo xf xs xp xq xr xc f1 f2 o1 (nI z) nf (nI fz_7) fn_8 fs_9 2 of_13) H := hP
              have hD : va_D A (wl_k_X8_nearest cI cJ cK x0 xn xl xt xo xf xs xp xq xr xc f1 f2 o1 (nI z) nf (nI fz_7) fn_8 fs_9 2 of_13) := hD
              refine lv_aload_n hx hb dX8_nearest_96 rfl (lv_at hl 2 rfl) ?_
              refine lv_iload_n hx hb dX8_nearest_97 rfl (lv_at hl 1 rfl) ?_
              refine my_gpI (my_pV (As := [.int (nI ct)]) (rest := []) (ci := 8) ⟨hx, hb, hml, hown, hts⟩ (cwV 1 hts gX8_nearest_X8_apart rfl rfl rfl (by decide +kernel) ⟨Nat.le_of_ble_eq_true rfl, Nat.le_of_ble_eq_true rfl⟩) hN hK hP [0, 2, 4] rfl 0 rfl rfl rfl rfl hl.1 rfl (Nat.le_of_ble_eq_true rfl) dX8_nearest_98 ⟨Nat.le_of_ble_eq_true rfl, Nat.le_of_ble_eq_true rfl⟩  (kf_X8_apart l D cI cJ cK x0 xn xl xt xo xf xs xp xq xr xc f1 f2 z fz_7 fs_9 ct (by first | assumption | omega | decide +kernel) (by first | assumption | omega | decide +kernel) (by first | assumption | omega | decide +kernel) (fun q hq => sr_rng hsv (by rw [cnF_sum hR_nf (by omega)]; omega)))) (fun r hp => ?_)
              obtain ⟨q_14, rfl, hap, hq_15⟩ := hp
              have hsI_l9 : (nI a_1).toInt = ((a_1 : Nat) : Int) := nI_toInt (by omega)
              have hsN_l9 : (nI a_1).toInt.toNat = a_1 := nIt (by omega)
              have hsI_r9 : (nI b_2).toInt = ((b_2 : Nat) : Int) := nI_toInt (by omega)
              have hsN_r9 : (nI b_2).toInt.toNat = b_2 := nIt (by omega)
              exact my_retI hx hb hr hlocks hK hS (wl_k_X8_nearest cI cJ cK x0 xn xl xt xo xf xs xp xq xr xc f1 f2 o1 (nI z) nf (nI fz_7) fn_8 fs_9 2 of_13) hP hD (Or.inr (Or.inr (⟨q_14, fz_7, fn_8, fs_9, 2, of_13, rfl, rfl, (by first | assumption | omega | trivial | decide +kernel), (by first | assumption | omega | trivial | decide +kernel), (by first | assumption | omega | trivial | decide +kernel), (by first | assumption | omega | trivial | decide +kernel), (by first | assumption | omega | trivial | decide +kernel), (by first | assumption | omega | trivial | decide +kernel), (by rw [hsN_l9, hsN_r9]; exact ns_c hsv (cnF_sum hR_nf (by omega)) (by omega) hnb (by omega) hap), (by first | assumption | omega | trivial | decide +kernel)⟩))) dX8_nearest_101
            ·
              have d46 : ((v : Nat) : Int) < (((b_2 - a_1) - 1 : Nat) : Int) := my_nge c46 (nI_toInt (by omega)) (nI_toInt (by omega))
              refine lv_aload_n hx hb dX8_nearest_49 rfl (lv_at hl 2 rfl) ?_
              refine lv_iload hx hb dX8_nearest_50 (lv_at hl 0 rfl) ?_
              refine my_gpI (my_pV (As := [.int (nI v)]) (rest := []) (ci := 8) ⟨hx, hb, hml, hown, hts⟩ (cwV 1 hts gX8_nearest_X8_apart rfl rfl rfl (by decide +kernel) ⟨Nat.le_of_ble_eq_true rfl, Nat.le_of_ble_eq_true rfl⟩) hN hK hP [0, 2, 4] rfl 0 rfl rfl rfl rfl hl.1 rfl (Nat.le_of_ble_eq_true rfl) dX8_nearest_52 ⟨Nat.le_of_ble_eq_true rfl, Nat.le_of_ble_eq_true rfl⟩  (kf_X8_apart l D cI cJ cK x0 xn xl xt xo xf xs xp xq xr xc f1 f2 z fz_7 fs_9 v (by first | assumption | omega | decide +kernel) (by first | assumption | omega | decide +kernel) (by first | assumption | omega | decide +kernel) (fun q hq => sr_rng hsv (by rw [cnF_sum hR_nf (by omega)]; omega)))) (fun r hp => ?_)
              obtain ⟨q_16, rfl, hap, hq_17⟩ := hp
              refine lv_aload_n hx hb dX8_nearest_55 rfl (lv_at hl 2 rfl) ?_
              refine lv_iload_n hx hb dX8_nearest_56 rfl (lv_at hl 1 rfl) ?_
              refine my_gpI (my_pV (As := [.int (nI ct)]) (rest := [.int (nI q_16)]) (ci := 8) ⟨hx, hb, hml, hown, hts⟩ (cwV 1 hts gX8_nearest_X8_apart rfl rfl rfl (by decide +kernel) ⟨Nat.le_of_ble_eq_true rfl, Nat.le_of_ble_eq_true rfl⟩) hN hK hP [0, 2, 4] rfl 0 rfl rfl rfl rfl hl.1 rfl (Nat.le_of_ble_eq_true rfl) dX8_nearest_57 ⟨Nat.le_of_ble_eq_true rfl, Nat.le_of_ble_eq_true rfl⟩  (kf_X8_apart l D cI cJ cK x0 xn xl xt xo xf xs xp xq xr xc f1 f2 z fz_7 fs_9 ct (by first | assumption | omega | decide +kernel) (by first | assumption | omega | decide +kernel) (by first | assumption | omega | decide +kernel) (fun q hq => sr_rng hsv (by rw [cnF_sum hR_nf (by omega)]; omega)))) (fun r hp => ?_)
              obtain ⟨q_18, rfl, hap, hq_19⟩ := hp
              refine lv_icmp_ge (tgt := 66) hx hb dX8_nearest_60 (by decide) (fun c60 => ?_) (fun c60 => ?_)
              ·
                have d60 : ((q_16 : Nat) : Int) ≥ ((q_18 : Nat) : Int) := my_ge c60 (nI_toInt (by omega)) (nI_toInt (by omega))
                refine lv_iinc (v := nI (v + 1)) (lv' := [(4, .int (nI (v + 1))), (3, .int (nI ct)), (0, .ref x0), (1, .int (nI a_1)), (2, .int (nI b_2))]) hx hb dX8_nearest_66 hl (k := 0) rfl (my_incN v 1 (by decide +kernel)) (by decide) rfl (fun ls hl => ?_)
                refine lv_goto (tgt := 39) hx hb dX8_nearest_69 (by decide) ?_
                exact ih39  (v + 1) ct (by omega) (by first | assumption | omega | decide +kernel) (by first | assumption | omega | decide +kernel) (by first | assumption | omega | decide +kernel) (by first | assumption | omega | decide +kernel) (by first | assumption | omega | decide +kernel) (by first | exact nb_old hnb (show xrF fs_9 ct (ct + 1) ≤ xrF fs_9 v (v + 1) from (by omega)) | exact nb_new hnb (show xrF fs_9 v (v + 1) < xrF fs_9 ct (ct + 1) from (by omega))) _ _ ls hP hD hS (lv_sub hl [0, 1, 2, 3, 4] rfl)
              ·
                have d60 : ((q_16 : Nat) : Int) < ((q_18 : Nat) : Int) := my_nge c60 (nI_toInt (by omega)) (nI_toInt (by omega))
                refine lv_iload hx hb dX8_nearest_63 (lv_at hl 0 rfl) ?_
                refine lv_istore_n (lv' := [(3, .int (nI v)), (4, .int (nI v)), (0, .ref x0), (1, .int (nI a_1)), (2, .int (nI b_2))]) hx hb dX8_nearest_65 rfl hl (by decide) rfl (fun ls hl => ?_)
                refine lv_iinc (v := nI (v + 1)) (lv' := [(4, .int (nI (v + 1))), (3, .int (nI v)), (0, .ref x0), (1, .int (nI a_1)), (2, .int (nI b_2))]) hx hb dX8_nearest_66 hl (k := 1) rfl (my_incN v 1 (by decide +kernel)) (by decide) rfl (fun ls hl => ?_)
                refine lv_goto (tgt := 39) hx hb dX8_nearest_69 (by decide) ?_
                exact ih39  (v + 1) v (by omega) (by first | assumption | omega | decide +kernel) (by first | assumption | omega | decide +kernel) (by first | assumption | omega | decide +kernel) (by first | assumption | omega | decide +kernel) (by first | assumption | omega | decide +kernel) (by first | exact nb_old hnb (show xrF fs_9 ct (ct + 1) ≤ xrF fs_9 v (v + 1) from (by omega)) | exact nb_new hnb (show xrF fs_9 v (v + 1) < xrF fs_9 ct (ct + 1) from (by omega))) _ _ ls hP hD hS (lv_sub hl [0, 1, 2, 3, 4] rfl)
        exact loop39 ((64 - 1) + 1) 1 0 (Nat.lt_succ_self _) (by first | assumption | omega | decide +kernel) (by first | assumption | omega | decide +kernel) (by first | assumption | omega | decide +kernel) (by first | assumption | omega | decide +kernel) (by first | assumption | omega | decide +kernel) (nb_0) _ _ ls hP hD hS (lv_sub hl [0, 1, 2, 3, 4] rfl)
      ·
        have d15 : z_6.toInt < (2 : Int) := my_nge c15 rfl (by decide +kernel)
        refine lv_bipush (v := (-2)) hx hb dX8_nearest_18 (by decide +kernel) ?_
        have hsI_l9 : (nI a_1).toInt = ((a_1 : Nat) : Int) := nI_toInt (by omega)
        have hsN_l9 : (nI a_1).toInt.toNat = a_1 := nIt (by omega)
        have hsI_r9 : (nI b_2).toInt = ((b_2 : Nat) : Int) := nI_toInt (by omega)
        have hsN_r9 : (nI b_2).toInt.toNat = b_2 := nIt (by omega)
        exact my_retI hx hb hr hlocks hK hS (wl_k_X8_nearest cI cJ cK x0 xn xl xt xo xf xs xp xq xr xc f1 f2 o1 (nI z) nf (nI fz) fn fs (nI oz) of) hP hD (Or.inr (Or.inl ⟨rfl, rfl, (by first | assumption | omega | trivial | decide +kernel), (by first | assumption | omega | trivial | decide +kernel), (by first | assumption | omega | trivial | decide +kernel), (by first | assumption | omega | trivial | decide +kernel)⟩)) dX8_nearest_20
    ·
      exact absurd c6 (by decide +kernel)
  ·
    refine lv_if_ne (tgt := 11) hx hb dX8_nearest_6 (by decide) (fun c6 => ?_) (fun c6 => ?_)
    ·
      exact absurd c6 (by decide +kernel)
    ·
      refine lv_iconst (v := (-1)) hx hb dX8_nearest_9 (by decide +kernel) ?_
      exact my_retI hx hb hr hlocks hK hS (wl_k_X8_nearest cI cJ cK x0 xn xl xt xo xf xs xp xq xr xc f1 f2 o1 (nI z) nf (nI fz) fn fs (nI oz) of) hP hD (Or.inl ⟨rfl, rfl, (by first | assumption | omega | trivial | decide +kernel)⟩) dX8_nearest_10
abbrev wl_k_X8_dense (cI cJ cK : ClassId) (x0 : Nat) (xn : Nat) (xl : Nat) (xt : Nat) (xo : Nat) (xf : Nat) (xs : Nat) (xp : Nat) (xq : Nat) (xr : Nat) (xc : Nat) (f1 : Nat) (f2 : Nat) (o1 : Nat) (v0_ : Int32) (v1_ : Nat → Int32) (v2_ : Int32) (v3_ : Nat → Int32) (v4_ : Nat → Int32) (v5_ : Int32) (v6_ : Nat → Int64) : va_W := [(x0, .inr (8, [.ref xn, .int v0_, .ref xl, .ref xt, .ref xo, .ref xf, .ref xs, .ref xp, .ref xq, .ref xr, .ref xc])), (xn, .inl (cI, 64, .inl v1_)), (xf, .inr (6, [.ref f1, .ref f2, .int v2_])), (f1, .inl (cI, 512, .inl v3_)), (f2, .inl (cI, 64, .inl v4_)), (xo, .inr (7, [.ref o1, .int v5_])), (o1, .inl (cJ, 64, .inr (.inl v6_)))]
set_option maxHeartbeats 4000000 in
set_option maxRecDepth 100000 in
theorem k_X8_dense (l : Launch) (D : va_G) (cI cJ cK : ClassId) (x0 : Nat) (xn : Nat) (xl : Nat) (xt : Nat) (xo : Nat) (xf : Nat) (xs : Nat) (xp : Nat) (xq : Nat) (xr : Nat) (xc : Nat) (f1 : Nat) (f2 : Nat) (o1 : Nat) (z : Nat) (nf : Nat → Int32) (fz : Nat) (fn : Nat → Int32) (fs : Nat → Int32) (oz : Nat) (of : Nat → Int64) (l9 : Int32) (r9 : Int32) (w9 : Int32) (hz_z : z ≤ 64) (hR_nf : RB 0 255 nf) (hz_fz : fz ≤ 64) (hz_oz : oz ≤ 64) : ctI l yX8_dense wsX8_dense ({ frames := 4, cells := 0, slots := 0, locals := 240 } : Room) D (tyIJ cI cJ cK) [.ref x0, .int l9, .int r9, .int w9] (wl_k_X8_dense cI cJ cK x0 xn xl xt xo xf xs xp xq xr xc f1 f2 o1 (nI z) nf (nI fz) fn fs (nI oz) of) (fun (r : Int32) (u : va_W) => (u = (wl_k_X8_dense cI cJ cK x0 xn xl xt xo xf xs xp xq xr xc f1 f2 o1 (nI z) nf (nI fz) fn fs (nI oz) of) ∧ r = (-1) ∧ (l9.toInt < 0 ∨ r9.toInt < l9.toInt ∨ z < r9.toInt ∨ w9.toInt < 0 ∨ 255 < w9.toInt)) ∨ (∃ (t' : Nat) (fz' : Nat) (fn' : Nat → Int32) (fs' : Nat → Int32) (oz' : Nat) (of' : Nat → Int64), u = (wl_k_X8_dense cI cJ cK x0 xn xl xt xo xf xs xp xq xr xc f1 f2 o1 (nI z) nf (nI fz') fn' fs' (nI oz') of') ∧ r = nI t' ∧ fz' ≤ 64 ∧ oz' ≤ 64 ∧ 0 ≤ l9.toInt ∧ l9.toInt ≤ r9.toInt ∧ r9.toInt ≤ z ∧ 0 ≤ w9.toInt ∧ w9.toInt ≤ 255 ∧ dnP (cnF nf l9.toInt.toNat r9.toInt.toNat) w9.toInt.toNat (r9.toInt.toNat - l9.toInt.toNat) t' ∧ oz' = 1)) := by
  refine ctI.of (cc := cX8_dense) (maxL := 8) (ret := (some .int)) (by decide) rfl (Nat.le_of_ble_eq_true rfl) ?_
  intro p e s m below meth c ls A hx hb hr hts hown hml hlocks hname hA hK hN hP hD hS hl
  have hl : lv_has ls 8 [(0, .ref x0), (1, .int l9), (2, .int r9), (3, .int w9)] := hl
  have hown : s.vm.findClass RX8 = some m.cls := hown
  have hi8 : ∀ w ∈ u_ws RX8 TX8 11, w ∈ wsX8_dense := by decide +kernel
  have fl41 := hts (.fieldLink RX8 41 "PlaneColumn" "first" "LPlaneColumn$Tally;") (by decide +kernel)
  have fl9 := hts (.fieldLink RX8 9 "PlaneColumn" "numbers" "[I") (by decide +kernel)
  refine lv_aload_n hx hb dX8_dense_0 rfl (lv_at hl 0 rfl) ?_
  refine lv_iload_n hx hb dX8_dense_1 rfl (lv_at hl 1 rfl) ?_
  refine lv_iload_n hx hb dX8_dense_2 rfl (lv_at hl 2 rfl) ?_
  refine my_gpI (my_pV (As := [.int l9, .int r9]) (rest := []) (ci := 8) ⟨hx, hb, hml, hown, hts⟩ (cwV 2 hts gX8_dense_X8_isSpan rfl rfl rfl (by decide +kernel) ⟨Nat.le_of_ble_eq_true rfl, Nat.le_of_ble_eq_true rfl⟩) hN hK hP [0] rfl 0 rfl rfl rfl rfl hl.1 rfl (Nat.le_of_ble_eq_true rfl) dX8_dense_3 ⟨Nat.le_of_ble_eq_true rfl, Nat.le_of_ble_eq_true rfl⟩  (k_X8_isSpan l D cI cJ cK x0 xn xl xt xo xf xs xp xq xr xc z l9 r9 (by first | assumption | omega | decide +kernel))) (fun r hp => ?_)
  rcases hp with ⟨a_1, b_2, rfl, rfl, rfl, ha_3, hb_4⟩ | ⟨rfl, ho_5⟩
  ·
    refine lv_if_eq (tgt := 16) hx hb dX8_dense_6 (by decide) (fun c6 => ?_) (fun c6 => ?_)
    ·
      exact absurd c6 (by decide +kernel)
    ·
      refine lv_iload_n hx hb dX8_dense_9 rfl (lv_at hl 3 rfl) ?_
      refine my_gpI (my_pS (As := [.int w9]) (rest := []) ⟨hx, hb, hml, hown, hts⟩ (va_cwS 1 hts gX8_dense_X8_isNumber rfl rfl rfl (by decide +kernel) ⟨Nat.le_of_ble_eq_true rfl, Nat.le_of_ble_eq_true rfl⟩) hN hK hP [] rfl rfl hl.1 rfl (Nat.le_of_ble_eq_true rfl) dX8_dense_10 ⟨Nat.le_of_ble_eq_true rfl, Nat.le_of_ble_eq_true rfl⟩  (k_X8_isNumber l D cI cJ cK w9)) (fun r hp => ?_)
      rcases hp with ⟨k_6, rfl, rfl, ha_7⟩ | ⟨rfl, ho_8⟩
      ·
        refine lv_if_ne (tgt := 18) hx hb dX8_dense_13 (by decide) (fun c13 => ?_) (fun c13 => ?_)
        ·
          refine lv_aload_n hx hb dX8_dense_18 rfl (lv_at hl 0 rfl) ?_
          refine va_get (ci := 8) (v := .ref xf) (C := RX8) (T := TX8) (N := 11) hx hb hts hi8 hown hK hP 0 rfl rfl 5 (by decide) fl41 (fun _ h9 => h9) rfl dX8_dense_19 ?_
          refine lv_aload_n hx hb dX8_dense_22 rfl (lv_at hl 0 rfl) ?_
          refine va_get (ci := 8) (v := .ref xn) (C := RX8) (T := TX8) (N := 11) hx hb hts hi8 hown hK hP 0 rfl rfl 0 (by decide) fl9 (fun _ h9 => h9) rfl dX8_dense_23 ?_
          refine lv_iload_n hx hb dX8_dense_26 rfl (lv_at hl 1 rfl) ?_
          refine lv_iload_n hx hb dX8_dense_27 rfl (lv_at hl 2 rfl) ?_
          refine my_goVS (wc := (wl_k_X6_take cI cJ cK xf f1 f2 xn (nI fz) fn fs nf)) hP hD hS hA [2, 3, 4, 1] rfl [none, some 3, some 0, some 1, some 2] (by decide +kernel) (my_cV (As := [.ref xn, .int (nI a_1), .int (nI b_2)]) (rest := []) (ci := 6) (wc := (wl_k_X6_take cI cJ cK xf f1 f2 xn (nI fz) fn fs nf)) ⟨hx, hb, hml, hown, hts⟩ (cwV 3 hts gX8_dense_X6_take rfl rfl rfl (by decide +kernel) ⟨Nat.le_of_ble_eq_true rfl, Nat.le_of_ble_eq_true rfl⟩) hN hK hP hD [2, 3, 4, 1] rfl (by decide) rfl 2 rfl rfl rfl rfl hl.1 rfl (Nat.le_of_ble_eq_true rfl) dX8_dense_28 ⟨Nat.le_of_ble_eq_true rfl, Nat.le_of_ble_eq_true rfl⟩  ((k_X6_take l D cI cJ cK xf f1 f2 xn fz fn fs nf a_1 b_2 (by first | assumption | omega | decide +kernel) hR_nf (by first | assumption | omega | decide +kernel) (by first | assumption | omega | decide +kernel)) _)) (fun u H locs hp hPD hS => ?_)
          obtain ⟨fz_9, fn_10, fs_11, rfl, hhz_fz_12, hnd, hn8, hfz, hsv⟩ := hp
          obtain ⟨hP, hD⟩ := hPD rfl
          have hP : va_P D vwCl (wl_k_X8_dense cI cJ cK x0 xn xl xt xo xf xs xp xq xr xc f1 f2 o1 (nI z) nf (nI fz_9) fn_10 fs_11 (nI oz) of) H := hP
          have hD : va_D A (wl_k_X8_dense cI cJ cK x0 xn xl xt xo xf xs xp xq xr xc f1 f2 o1 (nI z) nf (nI fz_9) fn_10 fs_11 (nI oz) of) := hD
          refine lv_iconst (v := 0) hx hb dX8_dense_31 (by decide +kernel) ?_
          refine lv_istore (lv' := [(4, .int 0), (0, .ref x0), (1, .int (nI a_1)), (2, .int (nI b_2)), (3, .int (nI k_6))]) hx hb dX8_dense_32 hl (by decide) rfl (fun ls hl => ?_)
          refine lv_iconst (v := (-1)) hx hb dX8_dense_34 (by decide +kernel) ?_
          refine lv_istore (lv' := [(5, .int (-1)), (4, .int 0), (0, .ref x0), (1, .int (nI a_1)), (2, .int (nI b_2)), (3, .int (nI k_6))]) hx hb dX8_dense_35 hl (by decide) rfl (fun ls hl => ?_)
          refine lv_iconst (v := 0) hx hb dX8_dense_37 (by decide +kernel) ?_
          refine lv_istore (lv' := [(6, .int 0), (5, .int (-1)), (4, .int 0), (0, .ref x0), (1, .int (nI a_1)), (2, .int (nI b_2)), (3, .int (nI k_6))]) hx hb dX8_dense_38 hl (by decide) rfl (fun ls hl => ?_)
          have loop40 : ∀ (n9 : Nat) (k : Nat) (y5_40 : Int32) (t : Nat), 64 - k < n9 → (t ≤ 64) → (k ≤ 64) → (k ≤ b_2 - a_1) → (mxP (fun i => fb_ct (rcP fs_11 i k_6) (b_2 - a_1)) t k) → ∀ (H : Heap) (locs : List Loc) (ls : Array Slot), va_P D vwCl (wl_k_X8_dense cI cJ cK x0 xn xl xt xo xf xs xp xq xr xc f1 f2 o1 (nI z) nf (nI fz_9) fn_10 fs_11 (nI oz) of) H → va_D A (wl_k_X8_dense cI cJ cK x0 xn xl xt xo xf xs xp xq xr xc f1 f2 o1 (nI z) nf (nI fz_9) fn_10 fs_11 (nI oz) of) → va_S A s.heap H locs → lv_has ls 8 [(6, .int (nI k)), (5, .int y5_40), (4, .int (nI t)), (0, .ref x0), (1, .int (nI a_1)), (2, .int (nI b_2)), (3, .int (nI k_6))] → W p l e ({ frames := 4, cells := 0, slots := 0, locals := 240 } : Room) s m [.ref x0, .int (nI a_1), .int (nI b_2), .int (nI k_6)].toArray below meth c H locs 0 0 (MQ below (va_Qi (fun (r : Int32) (u : va_W) => (u = (wl_k_X8_dense cI cJ cK x0 xn xl xt xo xf xs xp xq xr xc f1 f2 o1 (nI z) nf (nI fz) fn fs (nI oz) of) ∧ r = (-1) ∧ ((nI a_1).toInt < 0 ∨ (nI b_2).toInt < (nI a_1).toInt ∨ z < (nI b_2).toInt ∨ (nI k_6).toInt < 0 ∨ 255 < (nI k_6).toInt)) ∨ (∃ (t' : Nat) (fz' : Nat) (fn' : Nat → Int32) (fs' : Nat → Int32) (oz' : Nat) (of' : Nat → Int64), u = (wl_k_X8_dense cI cJ cK x0 xn xl xt xo xf xs xp xq xr xc f1 f2 o1 (nI z) nf (nI fz') fn' fs' (nI oz') of') ∧ r = nI t' ∧ fz' ≤ 64 ∧ oz' ≤ 64 ∧ 0 ≤ (nI a_1).toInt ∧ (nI a_1).toInt ≤ (nI b_2).toInt ∧ (nI b_2).toInt ≤ z ∧ 0 ≤ (nI k_6).toInt ∧ (nI k_6).toInt ≤ 255 ∧ dnP (cnF nf (nI a_1).toInt.toNat (nI b_2).toInt.toNat) (nI k_6).toInt.toNat ((nI b_2).toInt.toNat - (nI a_1).toInt.toNat) t' ∧ oz' = 1)) (my_B D (tyIJ cI cJ cK) A) A) [.ref x0, .int (nI a_1), .int (nI b_2), .int (nI k_6)].toArray s 0 0 A) (F0 m 40 ls []) := by
            intro n9
            induction n9 with
            | zero =>
              intro k y5_40 t hn9
              exact absurd hn9 (Nat.not_lt_zero _)
            | succ n9 ih40 =>
              intro k y5_40 t hn9 hk_t hk_k hkb hmx H locs ls hP hD hS hl
              refine lv_iload hx hb dX8_dense_40 (lv_at hl 0 rfl) ?_
              refine lv_iload_n hx hb dX8_dense_42 rfl (lv_at hl 5 rfl) ?_
              refine lv_iload_n hx hb dX8_dense_43 rfl (lv_at hl 4 rfl) ?_
              refine lv_isub hx hb dX8_dense_44 ?_
              refine my_eqi (y := nI (b_2 - a_1)) (my_subN (a := b_2) (b := a_1) (by omega)) ?_
              refine lv_icmp_ge (tgt := 85) hx hb dX8_dense_45 (by decide) (fun c45 => ?_) (fun c45 => ?_)
              ·
                have d45 : ((k : Nat) : Int) ≥ ((b_2 - a_1 : Nat) : Int) := my_ge c45 (nI_toInt (by omega)) (nI_toInt (by omega))
                have hke : k = b_2 - a_1 := by omega
                refine lv_aload_n hx hb dX8_dense_85 rfl (lv_at hl 3 rfl) ?_
                refine lv_iload hx hb dX8_dense_86 (lv_at hl 1 rfl) ?_
                refine lv_i2l (v := y5_40.toInt64) hx hb dX8_dense_88 rfl ?_
                refine my_goVS (wc := (wl_k_X8_tell cI cJ cK x0 xn xl xt xo xf xs xp xq xr xc o1 (nI z) (nI oz) of)) hP hD hS hA [0, 5, 6] rfl [some 0, none, none, none, none, some 1, some 2] (by decide +kernel) (my_cV (As := [.long y5_40.toInt64]) (rest := []) (ci := 8) (wc := (wl_k_X8_tell cI cJ cK x0 xn xl xt xo xf xs xp xq xr xc o1 (nI z) (nI oz) of)) ⟨hx, hb, hml, hown, hts⟩ (cwV 1 hts gX8_dense_X8_tell rfl rfl rfl (by decide +kernel) ⟨Nat.le_of_ble_eq_true rfl, Nat.le_of_ble_eq_true rfl⟩) hN hK hP hD [0, 5, 6] rfl (by decide) rfl 0 rfl rfl rfl rfl hl.1 rfl (Nat.le_of_ble_eq_true rfl) dX8_dense_89 ⟨Nat.le_of_ble_eq_true rfl, Nat.le_of_ble_eq_true rfl⟩  ((k_X8_tell l D cI cJ cK x0 xn xl xt xo xf xs xp xq xr xc o1 z oz of y5_40.toInt64 (by first | assumption | omega | decide +kernel) (by first | assumption | omega | decide +kernel)) _)) (fun u H locs hp hPD hS => ?_)
                obtain ⟨of_13, rfl, hv0, ht_14⟩ := hp
                obtain ⟨hP, hD⟩ := hPD rfl
                have hP : va_P D vwCl (wl_k_X8_dense cI cJ cK x0 xn xl xt xo xf xs xp xq xr xc f1 f2 o1 (nI z) nf (nI fz_9) fn_10 fs_11 1 of_13) H := hP
                have hD : va_D A (wl_k_X8_dense cI cJ cK x0 xn xl xt xo xf xs xp xq xr xc f1 f2 o1 (nI z) nf (nI fz_9) fn_10 fs_11 1 of_13) := hD
                refine lv_iload hx hb dX8_dense_92 (lv_at hl 2 rfl) ?_
                have hsI_l9 : (nI a_1).toInt = ((a_1 : Nat) : Int) := nI_toInt (by omega)
                have hsN_l9 : (nI a_1).toInt.toNat = a_1 := nIt (by omega)
                have hsI_r9 : (nI b_2).toInt = ((b_2 : Nat) : Int) := nI_toInt (by omega)
                have hsN_r9 : (nI b_2).toInt.toNat = b_2 := nIt (by omega)
                have hsI_w9 : (nI k_6).toInt = ((k_6 : Nat) : Int) := nI_toInt (by omega)
                have hsN_w9 : (nI k_6).toInt.toNat = k_6 := nIt (by omega)
                exact my_retI hx hb hr hlocks hK hS (wl_k_X8_dense cI cJ cK x0 xn xl xt xo xf xs xp xq xr xc f1 f2 o1 (nI z) nf (nI fz_9) fn_10 fs_11 1 of_13) hP hD (Or.inr (⟨t, fz_9, fn_10, fs_11, 1, of_13, rfl, rfl, (by first | assumption | omega | trivial | decide +kernel), (by first | assumption | omega | trivial | decide +kernel), (by first | assumption | omega | trivial | decide +kernel), (by first | assumption | omega | trivial | decide +kernel), (by first | assumption | omega | trivial | decide +kernel), (by first | assumption | omega | trivial | decide +kernel), (by first | assumption | omega | trivial | decide +kernel), (by rw [hsN_l9, hsN_r9, hsN_w9]; rw [hke] at hmx; exact dn_c hsv (cnF_sum hR_nf (by omega)) hmx), (by first | assumption | omega | trivial | decide +kernel)⟩)) dX8_dense_94
              ·
                have d45 : ((k : Nat) : Int) < ((b_2 - a_1 : Nat) : Int) := my_nge c45 (nI_toInt (by omega)) (nI_toInt (by omega))
                refine lv_aload_n hx hb dX8_dense_48 rfl (lv_at hl 3 rfl) ?_
                refine lv_iload hx hb dX8_dense_49 (lv_at hl 0 rfl) ?_
                refine lv_iload_n hx hb dX8_dense_51 rfl (lv_at hl 6 rfl) ?_
                refine my_gpI (my_pV (As := [.int (nI k), .int (nI k_6)]) (rest := []) (ci := 8) ⟨hx, hb, hml, hown, hts⟩ (cwV 2 hts gX8_dense_X8_reachFrom rfl rfl rfl (by decide +kernel) ⟨Nat.le_of_ble_eq_true rfl, Nat.le_of_ble_eq_true rfl⟩) hN hK hP [0, 2, 4] rfl 0 rfl rfl rfl rfl hl.1 rfl (Nat.le_of_ble_eq_true rfl) dX8_dense_52 ⟨Nat.le_of_ble_eq_true rfl, Nat.le_of_ble_eq_true rfl⟩  (kf_X8_reachFrom l D cI cJ cK x0 xn xl xt xo xf xs xp xq xr xc f1 f2 z fz_9 fs_11 k k_6 (by first | assumption | omega | decide +kernel) (by first | assumption | omega | decide +kernel) (by first | assumption | omega | decide +kernel) (by first | assumption | omega | decide +kernel) (fun q hq => sr_rng hsv (by rw [cnF_sum hR_nf (by omega)]; omega)))) (fun r hp => ?_)
                obtain ⟨t_15, rfl, hrf, hq_16⟩ := hp
                have hre : t_15 = fb_ct (rcP fs_11 k k_6) (b_2 - a_1) := by rw [hrf, hfz]
                refine lv_istore (lv' := [(7, .int (nI t_15)), (6, .int (nI k)), (5, .int y5_40), (4, .int (nI t)), (0, .ref x0), (1, .int (nI a_1)), (2, .int (nI b_2)), (3, .int (nI k_6))]) hx hb dX8_dense_55 hl (by decide) rfl (fun ls hl => ?_)
                refine lv_iload hx hb dX8_dense_57 (lv_at hl 0 rfl) ?_
                refine lv_iload hx hb dX8_dense_59 (lv_at hl 3 rfl) ?_
                refine lv_icmp_le (tgt := 79) hx hb dX8_dense_61 (by decide) (fun c61 => ?_) (fun c61 => ?_)
                ·
                  have d61 : ((t_15 : Nat) : Int) ≤ ((t : Nat) : Int) := my_le c61 (nI_toInt (by omega)) (nI_toInt (by omega))
                  refine lv_iinc (v := nI (k + 1)) (lv' := [(6, .int (nI (k + 1))), (7, .int (nI t_15)), (5, .int y5_40), (4, .int (nI t)), (0, .ref x0), (1, .int (nI a_1)), (2, .int (nI b_2)), (3, .int (nI k_6))]) hx hb dX8_dense_79 hl (k := 1) rfl (my_incN k 1 (by decide +kernel)) (by decide) rfl (fun ls hl => ?_)
                  refine lv_goto (tgt := 40) hx hb dX8_dense_82 (by decide) ?_
                  exact ih40  (k + 1) y5_40 t (by omega) (by first | assumption | omega | decide +kernel) (by first | assumption | omega | decide +kernel) (by first | assumption | omega | decide +kernel) (by first | exact mx_old hmx hre (by omega) | exact mx_new hmx hre (by omega)) _ _ ls hP hD hS (lv_sub hl [0, 2, 3, 4, 5, 6, 7] rfl)
                ·
                  have d61 : ((t_15 : Nat) : Int) > ((t : Nat) : Int) := my_nle c61 (nI_toInt (by omega)) (nI_toInt (by omega))
                  refine lv_iload hx hb dX8_dense_64 (lv_at hl 0 rfl) ?_
                  refine lv_istore (lv' := [(4, .int (nI t_15)), (7, .int (nI t_15)), (6, .int (nI k)), (5, .int y5_40), (0, .ref x0), (1, .int (nI a_1)), (2, .int (nI b_2)), (3, .int (nI k_6))]) hx hb dX8_dense_66 hl (by decide) rfl (fun ls hl => ?_)
                  refine lv_aload_n hx hb dX8_dense_68 rfl (lv_at hl 4 rfl) ?_
                  refine va_get (ci := 8) (v := .ref xf) (C := RX8) (T := TX8) (N := 11) hx hb hts hi8 hown hK hP 0 rfl rfl 5 (by decide) fl41 (fun _ h9 => h9) rfl dX8_dense_69 ?_
                  refine lv_iload hx hb dX8_dense_72 (lv_at hl 2 rfl) ?_
                  refine my_gpI (my_pV (As := [.int (nI k)]) (rest := []) (ci := 6) ⟨hx, hb, hml, hown, hts⟩ (cwV 1 hts gX8_dense_X6_sortedAt rfl rfl rfl (by decide +kernel) ⟨Nat.le_of_ble_eq_true rfl, Nat.le_of_ble_eq_true rfl⟩) hN hK hP [2, 4] rfl 2 rfl rfl rfl rfl hl.1 rfl (Nat.le_of_ble_eq_true rfl) dX8_dense_74 ⟨Nat.le_of_ble_eq_true rfl, Nat.le_of_ble_eq_true rfl⟩  (k_X6_sortedAt l D cI cJ cK xf f1 f2 fz_9 fs_11 (nI k) (by first | assumption | omega | decide +kernel))) (fun r hp => ?_)
                  obtain _ := hp
                  obtain ⟨r_17, rfl⟩ : ∃ z, z = r := ⟨_, rfl⟩
                  refine lv_istore (lv' := [(5, .int r_17), (4, .int (nI t_15)), (7, .int (nI t_15)), (6, .int (nI k)), (0, .ref x0), (1, .int (nI a_1)), (2, .int (nI b_2)), (3, .int (nI k_6))]) hx hb dX8_dense_77 hl (by decide) rfl (fun ls hl => ?_)
                  refine lv_iinc (v := nI (k + 1)) (lv' := [(6, .int (nI (k + 1))), (5, .int r_17), (4, .int (nI t_15)), (7, .int (nI t_15)), (0, .ref x0), (1, .int (nI a_1)), (2, .int (nI b_2)), (3, .int (nI k_6))]) hx hb dX8_dense_79 hl (k := 3) rfl (my_incN k 1 (by decide +kernel)) (by decide) rfl (fun ls hl => ?_)
                  refine lv_goto (tgt := 40) hx hb dX8_dense_82 (by decide) ?_
                  exact ih40  (k + 1) r_17 t_15 (by omega) (by first | assumption | omega | decide +kernel) (by first | assumption | omega | decide +kernel) (by first | assumption | omega | decide +kernel) (by first | exact mx_old hmx hre (by omega) | exact mx_new hmx hre (by omega)) _ _ ls hP hD hS (lv_sub hl [0, 1, 2, 4, 5, 6, 7] rfl)
          have ec_18 : (-1 : Int32).toInt = -1 := by decide +kernel
          exact loop40 ((64 - 0) + 1) 0 (-1 : Int32) 0 (Nat.lt_succ_self _) (by first | assumption | omega | decide +kernel) (by first | assumption | omega | decide +kernel) (by first | assumption | omega | decide +kernel) (mx_0) _ _ ls hP hD hS (lv_sub hl [0, 1, 2, 3, 4, 5, 6] rfl)
        ·
          exact absurd c13 (by decide +kernel)
      ·
        refine lv_if_ne (tgt := 18) hx hb dX8_dense_13 (by decide) (fun c13 => ?_) (fun c13 => ?_)
        ·
          exact absurd c13 (by decide +kernel)
        ·
          refine lv_iconst (v := (-1)) hx hb dX8_dense_16 (by decide +kernel) ?_
          have hsI_l9 : (nI a_1).toInt = ((a_1 : Nat) : Int) := nI_toInt (by omega)
          have hsN_l9 : (nI a_1).toInt.toNat = a_1 := nIt (by omega)
          have hsI_r9 : (nI b_2).toInt = ((b_2 : Nat) : Int) := nI_toInt (by omega)
          have hsN_r9 : (nI b_2).toInt.toNat = b_2 := nIt (by omega)
          exact my_retI hx hb hr hlocks hK hS (wl_k_X8_dense cI cJ cK x0 xn xl xt xo xf xs xp xq xr xc f1 f2 o1 (nI z) nf (nI fz) fn fs (nI oz) of) hP hD (Or.inl ⟨rfl, rfl, (by first | assumption | omega | trivial | decide +kernel)⟩) dX8_dense_17
  ·
    refine lv_if_eq (tgt := 16) hx hb dX8_dense_6 (by decide) (fun c6 => ?_) (fun c6 => ?_)
    ·
      refine lv_iconst (v := (-1)) hx hb dX8_dense_16 (by decide +kernel) ?_
      exact my_retI hx hb hr hlocks hK hS (wl_k_X8_dense cI cJ cK x0 xn xl xt xo xf xs xp xq xr xc f1 f2 o1 (nI z) nf (nI fz) fn fs (nI oz) of) hP hD (Or.inl ⟨rfl, rfl, (by first | assumption | omega | trivial | decide +kernel)⟩) dX8_dense_17
    ·
      exact absurd c6 (by decide +kernel)
abbrev wl_k_X8_farthest (cI cJ cK : ClassId) (x0 : Nat) (xn : Nat) (xl : Nat) (xt : Nat) (xo : Nat) (xf : Nat) (xs : Nat) (xp : Nat) (xq : Nat) (xr : Nat) (xc : Nat) (f1 : Nat) (f2 : Nat) (o1 : Nat) (v0_ : Int32) (v1_ : Nat → Int32) (v2_ : Int32) (v3_ : Nat → Int32) (v4_ : Nat → Int32) (v5_ : Int32) (v6_ : Nat → Int64) : va_W := [(x0, .inr (8, [.ref xn, .int v0_, .ref xl, .ref xt, .ref xo, .ref xf, .ref xs, .ref xp, .ref xq, .ref xr, .ref xc])), (xn, .inl (cI, 64, .inl v1_)), (xf, .inr (6, [.ref f1, .ref f2, .int v2_])), (f1, .inl (cI, 512, .inl v3_)), (f2, .inl (cI, 64, .inl v4_)), (xo, .inr (7, [.ref o1, .int v5_])), (o1, .inl (cJ, 64, .inr (.inl v6_)))]
set_option maxHeartbeats 4000000 in
set_option maxRecDepth 100000 in
theorem k_X8_farthest (l : Launch) (D : va_G) (cI cJ cK : ClassId) (x0 : Nat) (xn : Nat) (xl : Nat) (xt : Nat) (xo : Nat) (xf : Nat) (xs : Nat) (xp : Nat) (xq : Nat) (xr : Nat) (xc : Nat) (f1 : Nat) (f2 : Nat) (o1 : Nat) (z : Nat) (nf : Nat → Int32) (fz : Nat) (fn : Nat → Int32) (fs : Nat → Int32) (oz : Nat) (of : Nat → Int64) (l9 : Int32) (r9 : Int32) (w9 : Int32) (hz_z : z ≤ 64) (hR_nf : RB 0 255 nf) (hz_fz : fz ≤ 64) (hz_oz : oz ≤ 64) : ctI l yX8_farthest wsX8_farthest ({ frames := 4, cells := 0, slots := 0, locals := 240 } : Room) D (tyIJ cI cJ cK) [.ref x0, .int l9, .int r9, .int w9] (wl_k_X8_farthest cI cJ cK x0 xn xl xt xo xf xs xp xq xr xc f1 f2 o1 (nI z) nf (nI fz) fn fs (nI oz) of) (fun (r : Int32) (u : va_W) => (u = (wl_k_X8_farthest cI cJ cK x0 xn xl xt xo xf xs xp xq xr xc f1 f2 o1 (nI z) nf (nI fz) fn fs (nI oz) of) ∧ r = (-1) ∧ (l9.toInt < 0 ∨ r9.toInt < l9.toInt ∨ z < r9.toInt ∨ w9.toInt < 0 ∨ 255 < w9.toInt)) ∨ (∃ (fz' : Nat) (fn' : Nat → Int32) (fs' : Nat → Int32) (oz' : Nat) (of' : Nat → Int64), u = (wl_k_X8_farthest cI cJ cK x0 xn xl xt xo xf xs xp xq xr xc f1 f2 o1 (nI z) nf (nI fz') fn' fs' (nI oz') of') ∧ r = (-2) ∧ fz' ≤ 64 ∧ oz' ≤ 64 ∧ 0 ≤ l9.toInt ∧ l9.toInt ≤ r9.toInt ∧ r9.toInt ≤ z ∧ 0 ≤ w9.toInt ∧ w9.toInt ≤ 255 ∧ blN (axF (cnF nf l9.toInt.toNat r9.toInt.toNat) w9.toInt.toNat) 256 ∧ oz' = oz) ∨ (∃ (fz' : Nat) (fn' : Nat → Int32) (fs' : Nat → Int32) (oz' : Nat) (of' : Nat → Int64), u = (wl_k_X8_farthest cI cJ cK x0 xn xl xt xo xf xs xp xq xr xc f1 f2 o1 (nI z) nf (nI fz') fn' fs' (nI oz') of') ∧ fz' ≤ 64 ∧ oz' ≤ 64 ∧ 0 ≤ l9.toInt ∧ l9.toInt ≤ r9.toInt ∧ r9.toInt ≤ z ∧ 0 ≤ w9.toInt ∧ w9.toInt ≤ 255 ∧ blP (axF (cnF nf l9.toInt.toNat r9.toInt.toNat) w9.toInt.toNat) 256 r ∧ oz' = 2)) := by
  refine ctI.of (cc := cX8_farthest) (maxL := 6) (ret := (some .int)) (by decide) rfl (Nat.le_of_ble_eq_true rfl) ?_
  intro p e s m below meth c ls A hx hb hr hts hown hml hlocks hname hA hK hN hP hD hS hl
  have hl : lv_has ls 6 [(0, .ref x0), (1, .int l9), (2, .int r9), (3, .int w9)] := hl
  have hown : s.vm.findClass RX8 = some m.cls := hown
  have hi8 : ∀ w ∈ u_ws RX8 TX8 11, w ∈ wsX8_farthest := by decide +kernel
  have fl41 := hts (.fieldLink RX8 41 "PlaneColumn" "first" "LPlaneColumn$Tally;") (by decide +kernel)
  have fl9 := hts (.fieldLink RX8 9 "PlaneColumn" "numbers" "[I") (by decide +kernel)
  refine lv_aload_n hx hb dX8_farthest_0 rfl (lv_at hl 0 rfl) ?_
  refine lv_iload_n hx hb dX8_farthest_1 rfl (lv_at hl 1 rfl) ?_
  refine lv_iload_n hx hb dX8_farthest_2 rfl (lv_at hl 2 rfl) ?_
  refine my_gpI (my_pV (As := [.int l9, .int r9]) (rest := []) (ci := 8) ⟨hx, hb, hml, hown, hts⟩ (cwV 2 hts gX8_farthest_X8_isSpan rfl rfl rfl (by decide +kernel) ⟨Nat.le_of_ble_eq_true rfl, Nat.le_of_ble_eq_true rfl⟩) hN hK hP [0] rfl 0 rfl rfl rfl rfl hl.1 rfl (Nat.le_of_ble_eq_true rfl) dX8_farthest_3 ⟨Nat.le_of_ble_eq_true rfl, Nat.le_of_ble_eq_true rfl⟩  (k_X8_isSpan l D cI cJ cK x0 xn xl xt xo xf xs xp xq xr xc z l9 r9 (by first | assumption | omega | decide +kernel))) (fun r hp => ?_)
  rcases hp with ⟨a_1, b_2, rfl, rfl, rfl, ha_3, hb_4⟩ | ⟨rfl, ho_5⟩
  ·
    refine lv_if_eq (tgt := 16) hx hb dX8_farthest_6 (by decide) (fun c6 => ?_) (fun c6 => ?_)
    ·
      exact absurd c6 (by decide +kernel)
    ·
      refine lv_iload_n hx hb dX8_farthest_9 rfl (lv_at hl 3 rfl) ?_
      refine my_gpI (my_pS (As := [.int w9]) (rest := []) ⟨hx, hb, hml, hown, hts⟩ (va_cwS 1 hts gX8_farthest_X8_isNumber rfl rfl rfl (by decide +kernel) ⟨Nat.le_of_ble_eq_true rfl, Nat.le_of_ble_eq_true rfl⟩) hN hK hP [] rfl rfl hl.1 rfl (Nat.le_of_ble_eq_true rfl) dX8_farthest_10 ⟨Nat.le_of_ble_eq_true rfl, Nat.le_of_ble_eq_true rfl⟩  (k_X8_isNumber l D cI cJ cK w9)) (fun r hp => ?_)
      rcases hp with ⟨k_6, rfl, rfl, ha_7⟩ | ⟨rfl, ho_8⟩
      ·
        refine lv_if_ne (tgt := 18) hx hb dX8_farthest_13 (by decide) (fun c13 => ?_) (fun c13 => ?_)
        ·
          refine lv_aload_n hx hb dX8_farthest_18 rfl (lv_at hl 0 rfl) ?_
          refine va_get (ci := 8) (v := .ref xf) (C := RX8) (T := TX8) (N := 11) hx hb hts hi8 hown hK hP 0 rfl rfl 5 (by decide) fl41 (fun _ h9 => h9) rfl dX8_farthest_19 ?_
          refine lv_aload_n hx hb dX8_farthest_22 rfl (lv_at hl 0 rfl) ?_
          refine va_get (ci := 8) (v := .ref xn) (C := RX8) (T := TX8) (N := 11) hx hb hts hi8 hown hK hP 0 rfl rfl 0 (by decide) fl9 (fun _ h9 => h9) rfl dX8_farthest_23 ?_
          refine lv_iload_n hx hb dX8_farthest_26 rfl (lv_at hl 1 rfl) ?_
          refine lv_iload_n hx hb dX8_farthest_27 rfl (lv_at hl 2 rfl) ?_
          refine my_goVS (wc := (wl_k_X6_take cI cJ cK xf f1 f2 xn (nI fz) fn fs nf)) hP hD hS hA [2, 3, 4, 1] rfl [none, some 3, some 0, some 1, some 2] (by decide +kernel) (my_cV (As := [.ref xn, .int (nI a_1), .int (nI b_2)]) (rest := []) (ci := 6) (wc := (wl_k_X6_take cI cJ cK xf f1 f2 xn (nI fz) fn fs nf)) ⟨hx, hb, hml, hown, hts⟩ (cwV 3 hts gX8_farthest_X6_take rfl rfl rfl (by decide +kernel) ⟨Nat.le_of_ble_eq_true rfl, Nat.le_of_ble_eq_true rfl⟩) hN hK hP hD [2, 3, 4, 1] rfl (by decide) rfl 2 rfl rfl rfl rfl hl.1 rfl (Nat.le_of_ble_eq_true rfl) dX8_farthest_28 ⟨Nat.le_of_ble_eq_true rfl, Nat.le_of_ble_eq_true rfl⟩  ((k_X6_take l D cI cJ cK xf f1 f2 xn fz fn fs nf a_1 b_2 (by first | assumption | omega | decide +kernel) hR_nf (by first | assumption | omega | decide +kernel) (by first | assumption | omega | decide +kernel)) _)) (fun u H locs hp hPD hS => ?_)
          obtain ⟨fz_9, fn_10, fs_11, rfl, hhz_fz_12, hnd, hn8, hfz, hsv⟩ := hp
          obtain ⟨hP, hD⟩ := hPD rfl
          have hP : va_P D vwCl (wl_k_X8_farthest cI cJ cK x0 xn xl xt xo xf xs xp xq xr xc f1 f2 o1 (nI z) nf (nI fz_9) fn_10 fs_11 (nI oz) of) H := hP
          have hD : va_D A (wl_k_X8_farthest cI cJ cK x0 xn xl xt xo xf xs xp xq xr xc f1 f2 o1 (nI z) nf (nI fz_9) fn_10 fs_11 (nI oz) of) := hD
          refine lv_sipush (v := 255) hx hb dX8_farthest_31 (by decide +kernel) ?_
          refine lv_istore (lv' := [(4, .int 255), (0, .ref x0), (1, .int (nI a_1)), (2, .int (nI b_2)), (3, .int (nI k_6))]) hx hb dX8_farthest_34 hl (by decide) rfl (fun ls hl => ?_)
          have loop36 : ∀ (n9 : Nat) (x : Int32), (x.toInt + 1).toNat < n9 → (-1 ≤ x.toInt) → (x.toInt ≤ 255) → (∀ u : Nat, x.toInt < (u : Int) → (u : Int) < 256 → (axF (cnF nf a_1 b_2) k_6) u = 0) → ∀ (H : Heap) (locs : List Loc) (ls : Array Slot), va_P D vwCl (wl_k_X8_farthest cI cJ cK x0 xn xl xt xo xf xs xp xq xr xc f1 f2 o1 (nI z) nf (nI fz_9) fn_10 fs_11 (nI oz) of) H → va_D A (wl_k_X8_farthest cI cJ cK x0 xn xl xt xo xf xs xp xq xr xc f1 f2 o1 (nI z) nf (nI fz_9) fn_10 fs_11 (nI oz) of) → va_S A s.heap H locs → lv_has ls 6 [(4, .int x), (0, .ref x0), (1, .int (nI a_1)), (2, .int (nI b_2)), (3, .int (nI k_6))] → W p l e ({ frames := 4, cells := 0, slots := 0, locals := 240 } : Room) s m [.ref x0, .int (nI a_1), .int (nI b_2), .int (nI k_6)].toArray below meth c H locs 0 0 (MQ below (va_Qi (fun (r : Int32) (u : va_W) => (u = (wl_k_X8_farthest cI cJ cK x0 xn xl xt xo xf xs xp xq xr xc f1 f2 o1 (nI z) nf (nI fz) fn fs (nI oz) of) ∧ r = (-1) ∧ ((nI a_1).toInt < 0 ∨ (nI b_2).toInt < (nI a_1).toInt ∨ z < (nI b_2).toInt ∨ (nI k_6).toInt < 0 ∨ 255 < (nI k_6).toInt)) ∨ (∃ (fz' : Nat) (fn' : Nat → Int32) (fs' : Nat → Int32) (oz' : Nat) (of' : Nat → Int64), u = (wl_k_X8_farthest cI cJ cK x0 xn xl xt xo xf xs xp xq xr xc f1 f2 o1 (nI z) nf (nI fz') fn' fs' (nI oz') of') ∧ r = (-2) ∧ fz' ≤ 64 ∧ oz' ≤ 64 ∧ 0 ≤ (nI a_1).toInt ∧ (nI a_1).toInt ≤ (nI b_2).toInt ∧ (nI b_2).toInt ≤ z ∧ 0 ≤ (nI k_6).toInt ∧ (nI k_6).toInt ≤ 255 ∧ blN (axF (cnF nf (nI a_1).toInt.toNat (nI b_2).toInt.toNat) (nI k_6).toInt.toNat) 256 ∧ oz' = oz) ∨ (∃ (fz' : Nat) (fn' : Nat → Int32) (fs' : Nat → Int32) (oz' : Nat) (of' : Nat → Int64), u = (wl_k_X8_farthest cI cJ cK x0 xn xl xt xo xf xs xp xq xr xc f1 f2 o1 (nI z) nf (nI fz') fn' fs' (nI oz') of') ∧ fz' ≤ 64 ∧ oz' ≤ 64 ∧ 0 ≤ (nI a_1).toInt ∧ (nI a_1).toInt ≤ (nI b_2).toInt ∧ (nI b_2).toInt ≤ z ∧ 0 ≤ (nI k_6).toInt ∧ (nI k_6).toInt ≤ 255 ∧ blP (axF (cnF nf (nI a_1).toInt.toNat (nI b_2).toInt.toNat) (nI k_6).toInt.toNat) 256 r ∧ oz' = 2)) (my_B D (tyIJ cI cJ cK) A) A) [.ref x0, .int (nI a_1), .int (nI b_2), .int (nI k_6)].toArray s 0 0 A) (F0 m 36 ls []) := by
            intro n9
            induction n9 with
            | zero =>
              intro x hn9
              exact absurd hn9 (Nat.not_lt_zero _)
            | succ n9 ih36 =>
              intro x hn9 hx0 hx1 hbl9 H locs ls hP hD hS hl
              refine lv_iload hx hb dX8_farthest_36 (lv_at hl 0 rfl) ?_
              refine lv_if_lt (tgt := 80) hx hb dX8_farthest_38 (by decide) (fun c38 => ?_) (fun c38 => ?_)
              ·
                have d38 : x.toInt < (0 : Int) := my_lt c38 rfl (by decide +kernel)
                refine lv_bipush (v := (-2)) hx hb dX8_farthest_80 (by decide +kernel) ?_
                have hsI_l9 : (nI a_1).toInt = ((a_1 : Nat) : Int) := nI_toInt (by omega)
                have hsN_l9 : (nI a_1).toInt.toNat = a_1 := nIt (by omega)
                have hsI_r9 : (nI b_2).toInt = ((b_2 : Nat) : Int) := nI_toInt (by omega)
                have hsN_r9 : (nI b_2).toInt.toNat = b_2 := nIt (by omega)
                have hsI_w9 : (nI k_6).toInt = ((k_6 : Nat) : Int) := nI_toInt (by omega)
                have hsN_w9 : (nI k_6).toInt.toNat = k_6 := nIt (by omega)
                exact my_retI hx hb hr hlocks hK hS (wl_k_X8_farthest cI cJ cK x0 xn xl xt xo xf xs xp xq xr xc f1 f2 o1 (nI z) nf (nI fz_9) fn_10 fs_11 (nI oz) of) hP hD (Or.inr (Or.inl ⟨fz_9, fn_10, fs_11, oz, of, rfl, rfl, (by first | assumption | omega | trivial | decide +kernel), (by first | assumption | omega | trivial | decide +kernel), (by first | assumption | omega | trivial | decide +kernel), (by first | assumption | omega | trivial | decide +kernel), (by first | assumption | omega | trivial | decide +kernel), (by first | assumption | omega | trivial | decide +kernel), (by first | assumption | omega | trivial | decide +kernel), (by rw [hsN_l9, hsN_r9, hsN_w9]; exact bl_nmk (by omega) hbl9), (by first | assumption | omega | trivial | decide +kernel)⟩)) dX8_farthest_82
              ·
                have d38 : x.toInt ≥ (0 : Int) := my_nlt c38 rfl (by decide +kernel)
                refine lv_aload_n hx hb dX8_farthest_41 rfl (lv_at hl 1 rfl) ?_
                refine va_get (ci := 8) (v := .ref xf) (C := RX8) (T := TX8) (N := 11) hx hb hts hi8 hown hK hP 0 rfl rfl 5 (by decide) fl41 (fun _ h9 => h9) rfl dX8_farthest_42 ?_
                refine lv_iload hx hb dX8_farthest_45 (lv_at hl 0 rfl) ?_
                obtain ⟨w_13, ew_13, hw_13⟩ : ∃ w : Nat, x = nI w ∧ (w : Int) = (x : Int32).toInt := my_natE (by omega)
                refine my_eqi (y := nI w_13) ew_13 ?_
                refine lv_iload_n hx hb dX8_farthest_47 rfl (lv_at hl 4 rfl) ?_
                refine lv_ixor hx hb dX8_farthest_48 ?_
                refine my_eqi (y := nI (w_13 ^^^ k_6)) (fb_xorI _ _) ?_
                try have hxl_14 : w_13 ^^^ k_6 < 256 := Nat.xor_lt_two_pow (n := 8) (by omega) (by omega)
                refine my_gpI (my_pV (As := [.int (nI (w_13 ^^^ k_6))]) (rest := []) (ci := 6) ⟨hx, hb, hml, hown, hts⟩ (cwV 1 hts gX8_farthest_X6_timesOf rfl rfl rfl (by decide +kernel) ⟨Nat.le_of_ble_eq_true rfl, Nat.le_of_ble_eq_true rfl⟩) hN hK hP [2, 3] rfl 2 rfl rfl rfl rfl hl.1 rfl (Nat.le_of_ble_eq_true rfl) dX8_farthest_49 ⟨Nat.le_of_ble_eq_true rfl, Nat.le_of_ble_eq_true rfl⟩  (kt_X6_timesOf l D cI cJ cK xf f1 f2 fz_9 fn_10 (w_13 ^^^ k_6) (cnF nf a_1 b_2) (by first | assumption | omega | decide +kernel) (by first | assumption | omega | decide +kernel) (hn8) (cnF_64 (by omega)))) (fun r hp => ?_)
                obtain ⟨t_15, rfl, htm, hq_16⟩ := hp
                refine lv_istore (lv' := [(5, .int (nI t_15)), (4, .int x), (0, .ref x0), (1, .int (nI a_1)), (2, .int (nI b_2)), (3, .int (nI k_6))]) hx hb dX8_farthest_52 hl (by decide) rfl (fun ls hl => ?_)
                refine lv_iload hx hb dX8_farthest_54 (lv_at hl 0 rfl) ?_
                refine lv_if_le (tgt := 74) hx hb dX8_farthest_56 (by decide) (fun c56 => ?_) (fun c56 => ?_)
                ·
                  have d56 : ((t_15 : Nat) : Int) ≤ (0 : Int) := my_le c56 (nI_toInt (by omega)) (by decide +kernel)
                  obtain ⟨z_17, ez_17⟩ : ∃ y : Int32, y = x + (-1) := ⟨_, rfl⟩
                  try have tz_17 : z_17.toInt = x.toInt + (-1) := by rw [ez_17]; exact my_addI rfl (by decide +kernel) (by omega) (by omega)
                  refine lv_iinc (v := z_17) (lv' := [(4, .int z_17), (5, .int (nI t_15)), (0, .ref x0), (1, .int (nI a_1)), (2, .int (nI b_2)), (3, .int (nI k_6))]) hx hb dX8_farthest_74 hl (k := 1) rfl (by rw [ez_17]; rfl) (by decide) rfl (fun ls hl => ?_)
                  refine lv_goto (tgt := 36) hx hb dX8_farthest_77 (by decide) ?_
                  exact ih36  z_17 (by omega) (by first | assumption | omega | decide +kernel) (by first | assumption | omega | decide +kernel) (bl_back (c := (axF (cnF nf a_1 b_2) k_6)) hbl9 (by assumption) htm (by omega) (by omega)) _ _ ls hP hD hS (lv_sub hl [0, 2, 3, 4, 5] rfl)
                ·
                  have d56 : ((t_15 : Nat) : Int) > (0 : Int) := my_nle c56 (nI_toInt (by omega)) (by decide +kernel)
                  have hfd := bl_ne (c := (axF (cnF nf a_1 b_2) k_6)) (x := x.toInt) (by assumption) htm (by omega)
                  refine lv_aload_n hx hb dX8_farthest_59 rfl (lv_at hl 2 rfl) ?_
                  refine lv_iload hx hb dX8_farthest_60 (lv_at hl 1 rfl) ?_
                  obtain ⟨w_18, ew_18, hw_18⟩ : ∃ w : Nat, x = nI w ∧ (w : Int) = (x : Int32).toInt := my_natE (by omega)
                  refine my_eqi (y := nI w_18) ew_18 ?_
                  refine lv_iload_n hx hb dX8_farthest_62 rfl (lv_at hl 5 rfl) ?_
                  refine lv_ixor hx hb dX8_farthest_63 ?_
                  refine my_eqi (y := nI (w_18 ^^^ k_6)) (fb_xorI _ _) ?_
                  try have hxl_19 : w_18 ^^^ k_6 < 256 := Nat.xor_lt_two_pow (n := 8) (by omega) (by omega)
                  refine lv_i2l (v := lN (w_18 ^^^ k_6)) hx hb dX8_farthest_64 (nI_l (by omega)) ?_
                  refine lv_iload hx hb dX8_farthest_65 (lv_at hl 0 rfl) ?_
                  refine lv_i2l (v := lN t_15) hx hb dX8_farthest_67 (nI_l (by omega)) ?_
                  refine my_goVS (wc := (wl_k_X8_tell_ cI cJ cK x0 xn xl xt xo xf xs xp xq xr xc o1 (nI z) (nI oz) of)) hP hD hS hA [0, 5, 6] rfl [some 0, none, none, none, none, some 1, some 2] (by decide +kernel) (my_cV (As := [.long (lN (w_18 ^^^ k_6)), .long (lN t_15)]) (rest := []) (ci := 8) (wc := (wl_k_X8_tell_ cI cJ cK x0 xn xl xt xo xf xs xp xq xr xc o1 (nI z) (nI oz) of)) ⟨hx, hb, hml, hown, hts⟩ (cwV 2 hts gX8_farthest_X8_tell_ rfl rfl rfl (by decide +kernel) ⟨Nat.le_of_ble_eq_true rfl, Nat.le_of_ble_eq_true rfl⟩) hN hK hP hD [0, 5, 6] rfl (by decide) rfl 0 rfl rfl rfl rfl hl.1 rfl (Nat.le_of_ble_eq_true rfl) dX8_farthest_68 ⟨Nat.le_of_ble_eq_true rfl, Nat.le_of_ble_eq_true rfl⟩  ((k_X8_tell_ l D cI cJ cK x0 xn xl xt xo xf xs xp xq xr xc o1 z oz of (lN (w_18 ^^^ k_6)) (lN t_15) (by first | assumption | omega | decide +kernel) (by first | assumption | omega | decide +kernel)) _)) (fun u H locs hp hPD hS => ?_)
                  obtain ⟨of_20, rfl, hv0, hv1⟩ := hp
                  obtain ⟨hP, hD⟩ := hPD rfl
                  have hP : va_P D vwCl (wl_k_X8_farthest cI cJ cK x0 xn xl xt xo xf xs xp xq xr xc f1 f2 o1 (nI z) nf (nI fz_9) fn_10 fs_11 2 of_20) H := hP
                  have hD : va_D A (wl_k_X8_farthest cI cJ cK x0 xn xl xt xo xf xs xp xq xr xc f1 f2 o1 (nI z) nf (nI fz_9) fn_10 fs_11 2 of_20) := hD
                  refine lv_iload hx hb dX8_farthest_71 (lv_at hl 1 rfl) ?_
                  have hsI_l9 : (nI a_1).toInt = ((a_1 : Nat) : Int) := nI_toInt (by omega)
                  have hsN_l9 : (nI a_1).toInt.toNat = a_1 := nIt (by omega)
                  have hsI_r9 : (nI b_2).toInt = ((b_2 : Nat) : Int) := nI_toInt (by omega)
                  have hsN_r9 : (nI b_2).toInt.toNat = b_2 := nIt (by omega)
                  have hsI_w9 : (nI k_6).toInt = ((k_6 : Nat) : Int) := nI_toInt (by omega)
                  have hsN_w9 : (nI k_6).toInt.toNat = k_6 := nIt (by omega)
                  exact my_retI hx hb hr hlocks hK hS (wl_k_X8_farthest cI cJ cK x0 xn xl xt xo xf xs xp xq xr xc f1 f2 o1 (nI z) nf (nI fz_9) fn_10 fs_11 2 of_20) hP hD (Or.inr (Or.inr (⟨fz_9, fn_10, fs_11, 2, of_20, rfl, (by first | assumption | omega | trivial | decide +kernel), (by first | assumption | omega | trivial | decide +kernel), (by first | assumption | omega | trivial | decide +kernel), (by first | assumption | omega | trivial | decide +kernel), (by first | assumption | omega | trivial | decide +kernel), (by first | assumption | omega | trivial | decide +kernel), (by first | assumption | omega | trivial | decide +kernel), (by rw [hsN_l9, hsN_r9, hsN_w9]; exact bl_mk (by omega) (by omega) hfd hbl9), (by first | assumption | omega | trivial | decide +kernel)⟩))) dX8_farthest_73
          have ec_21 : (255 : Int32).toInt = 255 := by decide +kernel
          exact loop36 ((((255 : Int32).toInt + 1).toNat) + 1) (255 : Int32) (Nat.lt_succ_self _) (by first | assumption | omega | decide +kernel) (by first | assumption | omega | decide +kernel) (fun u h1 h2 => absurd h1 (by omega)) _ _ ls hP hD hS (lv_sub hl [0, 1, 2, 3, 4] rfl)
        ·
          exact absurd c13 (by decide +kernel)
      ·
        refine lv_if_ne (tgt := 18) hx hb dX8_farthest_13 (by decide) (fun c13 => ?_) (fun c13 => ?_)
        ·
          exact absurd c13 (by decide +kernel)
        ·
          refine lv_iconst (v := (-1)) hx hb dX8_farthest_16 (by decide +kernel) ?_
          have hsI_l9 : (nI a_1).toInt = ((a_1 : Nat) : Int) := nI_toInt (by omega)
          have hsN_l9 : (nI a_1).toInt.toNat = a_1 := nIt (by omega)
          have hsI_r9 : (nI b_2).toInt = ((b_2 : Nat) : Int) := nI_toInt (by omega)
          have hsN_r9 : (nI b_2).toInt.toNat = b_2 := nIt (by omega)
          exact my_retI hx hb hr hlocks hK hS (wl_k_X8_farthest cI cJ cK x0 xn xl xt xo xf xs xp xq xr xc f1 f2 o1 (nI z) nf (nI fz) fn fs (nI oz) of) hP hD (Or.inl ⟨rfl, rfl, (by first | assumption | omega | trivial | decide +kernel)⟩) dX8_farthest_17
  ·
    refine lv_if_eq (tgt := 16) hx hb dX8_farthest_6 (by decide) (fun c6 => ?_) (fun c6 => ?_)
    ·
      refine lv_iconst (v := (-1)) hx hb dX8_farthest_16 (by decide +kernel) ?_
      exact my_retI hx hb hr hlocks hK hS (wl_k_X8_farthest cI cJ cK x0 xn xl xt xo xf xs xp xq xr xc f1 f2 o1 (nI z) nf (nI fz) fn fs (nI oz) of) hP hD (Or.inl ⟨rfl, rfl, (by first | assumption | omega | trivial | decide +kernel)⟩) dX8_farthest_17
    ·
      exact absurd c6 (by decide +kernel)
abbrev wl_k_X8_fit (cI cJ cK : ClassId) (x0 : Nat) (xn : Nat) (xl : Nat) (xt : Nat) (xo : Nat) (xf : Nat) (xs : Nat) (xp : Nat) (xq : Nat) (xr : Nat) (xc : Nat) (f1 : Nat) (f2 : Nat) (o1 : Nat) (v0_ : Int32) (v1_ : Nat → Int32) (v2_ : Int32) (v3_ : Nat → Int32) (v4_ : Nat → Int32) (v5_ : Int32) (v6_ : Nat → Int64) : va_W := [(x0, .inr (8, [.ref xn, .int v0_, .ref xl, .ref xt, .ref xo, .ref xf, .ref xs, .ref xp, .ref xq, .ref xr, .ref xc])), (xn, .inl (cI, 64, .inl v1_)), (xf, .inr (6, [.ref f1, .ref f2, .int v2_])), (f1, .inl (cI, 512, .inl v3_)), (f2, .inl (cI, 64, .inl v4_)), (xo, .inr (7, [.ref o1, .int v5_])), (o1, .inl (cJ, 64, .inr (.inl v6_)))]
set_option maxHeartbeats 4000000 in
set_option maxRecDepth 100000 in
theorem k_X8_fit (l : Launch) (D : va_G) (cI cJ cK : ClassId) (x0 : Nat) (xn : Nat) (xl : Nat) (xt : Nat) (xo : Nat) (xf : Nat) (xs : Nat) (xp : Nat) (xq : Nat) (xr : Nat) (xc : Nat) (f1 : Nat) (f2 : Nat) (o1 : Nat) (z : Nat) (nf : Nat → Int32) (fz : Nat) (fn : Nat → Int32) (fs : Nat → Int32) (oz : Nat) (of : Nat → Int64) (l9 : Int32) (r9 : Int32) (k9 : Int32) (hz_z : z ≤ 64) (hR_nf : RB 0 255 nf) (hz_fz : fz ≤ 64) (hz_oz : oz ≤ 64) : ctI l yX8_fit wsX8_fit ({ frames := 4, cells := 0, slots := 0, locals := 240 } : Room) D (tyIJ cI cJ cK) [.ref x0, .int l9, .int r9, .int k9] (wl_k_X8_fit cI cJ cK x0 xn xl xt xo xf xs xp xq xr xc f1 f2 o1 (nI z) nf (nI fz) fn fs (nI oz) of) (fun (r : Int32) (u : va_W) => (u = (wl_k_X8_fit cI cJ cK x0 xn xl xt xo xf xs xp xq xr xc f1 f2 o1 (nI z) nf (nI fz) fn fs (nI oz) of) ∧ r = (-1) ∧ (l9.toInt < 0 ∨ r9.toInt < l9.toInt ∨ z < r9.toInt ∨ k9.toInt < 0)) ∨ (∃ (t' : Nat) (fz' : Nat) (fn' : Nat → Int32) (fs' : Nat → Int32) (oz' : Nat) (of' : Nat → Int64), u = (wl_k_X8_fit cI cJ cK x0 xn xl xt xo xf xs xp xq xr xc f1 f2 o1 (nI z) nf (nI fz') fn' fs' (nI oz') of') ∧ r = nI t' ∧ fz' ≤ 64 ∧ oz' ≤ 64 ∧ 0 ≤ l9.toInt ∧ l9.toInt ≤ r9.toInt ∧ r9.toInt ≤ z ∧ 0 ≤ k9.toInt ∧ ftP nf l9.toInt.toNat r9.toInt.toNat k9.toInt t' ∧ oz' = 1)) := by
  refine ctI.of (cc := cX8_fit) (maxL := 6) (ret := (some .int)) (by decide) rfl (Nat.le_of_ble_eq_true rfl) ?_
  intro p e s m below meth c ls A hx hb hr hts hown hml hlocks hname hA hK hN hP hD hS hl
  have hl : lv_has ls 6 [(0, .ref x0), (1, .int l9), (2, .int r9), (3, .int k9)] := hl
  have hown : s.vm.findClass RX8 = some m.cls := hown
  have hi8 : ∀ w ∈ u_ws RX8 TX8 11, w ∈ wsX8_fit := by decide +kernel
  have fl41 := hts (.fieldLink RX8 41 "PlaneColumn" "first" "LPlaneColumn$Tally;") (by decide +kernel)
  have fl9 := hts (.fieldLink RX8 9 "PlaneColumn" "numbers" "[I") (by decide +kernel)
  refine lv_aload_n hx hb dX8_fit_0 rfl (lv_at hl 0 rfl) ?_
  refine lv_iload_n hx hb dX8_fit_1 rfl (lv_at hl 1 rfl) ?_
  refine lv_iload_n hx hb dX8_fit_2 rfl (lv_at hl 2 rfl) ?_
  refine my_gpI (my_pV (As := [.int l9, .int r9]) (rest := []) (ci := 8) ⟨hx, hb, hml, hown, hts⟩ (cwV 2 hts gX8_fit_X8_isSpan rfl rfl rfl (by decide +kernel) ⟨Nat.le_of_ble_eq_true rfl, Nat.le_of_ble_eq_true rfl⟩) hN hK hP [0] rfl 0 rfl rfl rfl rfl hl.1 rfl (Nat.le_of_ble_eq_true rfl) dX8_fit_3 ⟨Nat.le_of_ble_eq_true rfl, Nat.le_of_ble_eq_true rfl⟩  (k_X8_isSpan l D cI cJ cK x0 xn xl xt xo xf xs xp xq xr xc z l9 r9 (by first | assumption | omega | decide +kernel))) (fun r hp => ?_)
  rcases hp with ⟨a_1, b_2, rfl, rfl, rfl, ha_3, hb_4⟩ | ⟨rfl, ho_5⟩
  ·
    refine lv_if_eq (tgt := 13) hx hb dX8_fit_6 (by decide) (fun c6 => ?_) (fun c6 => ?_)
    ·
      exact absurd c6 (by decide +kernel)
    ·
      refine lv_iload_n hx hb dX8_fit_9 rfl (lv_at hl 3 rfl) ?_
      refine lv_if_ge (tgt := 15) hx hb dX8_fit_10 (by decide) (fun c10 => ?_) (fun c10 => ?_)
      ·
        have d10 : k9.toInt ≥ (0 : Int) := my_ge c10 rfl (by decide +kernel)
        refine lv_aload_n hx hb dX8_fit_15 rfl (lv_at hl 0 rfl) ?_
        refine va_get (ci := 8) (v := .ref xf) (C := RX8) (T := TX8) (N := 11) hx hb hts hi8 hown hK hP 0 rfl rfl 5 (by decide) fl41 (fun _ h9 => h9) rfl dX8_fit_16 ?_
        refine lv_aload_n hx hb dX8_fit_19 rfl (lv_at hl 0 rfl) ?_
        refine va_get (ci := 8) (v := .ref xn) (C := RX8) (T := TX8) (N := 11) hx hb hts hi8 hown hK hP 0 rfl rfl 0 (by decide) fl9 (fun _ h9 => h9) rfl dX8_fit_20 ?_
        refine lv_iload_n hx hb dX8_fit_23 rfl (lv_at hl 1 rfl) ?_
        refine lv_iload_n hx hb dX8_fit_24 rfl (lv_at hl 2 rfl) ?_
        refine my_goVS (wc := (wl_k_X6_take cI cJ cK xf f1 f2 xn (nI fz) fn fs nf)) hP hD hS hA [2, 3, 4, 1] rfl [none, some 3, some 0, some 1, some 2] (by decide +kernel) (my_cV (As := [.ref xn, .int (nI a_1), .int (nI b_2)]) (rest := []) (ci := 6) (wc := (wl_k_X6_take cI cJ cK xf f1 f2 xn (nI fz) fn fs nf)) ⟨hx, hb, hml, hown, hts⟩ (cwV 3 hts gX8_fit_X6_take rfl rfl rfl (by decide +kernel) ⟨Nat.le_of_ble_eq_true rfl, Nat.le_of_ble_eq_true rfl⟩) hN hK hP hD [2, 3, 4, 1] rfl (by decide) rfl 2 rfl rfl rfl rfl hl.1 rfl (Nat.le_of_ble_eq_true rfl) dX8_fit_25 ⟨Nat.le_of_ble_eq_true rfl, Nat.le_of_ble_eq_true rfl⟩  ((k_X6_take l D cI cJ cK xf f1 f2 xn fz fn fs nf a_1 b_2 (by first | assumption | omega | decide +kernel) hR_nf (by first | assumption | omega | decide +kernel) (by first | assumption | omega | decide +kernel)) _)) (fun u H locs hp hPD hS => ?_)
        obtain ⟨fz_6, fn_7, fs_8, rfl, hhz_fz_9, hnd, hn8, hfz, hsv⟩ := hp
        obtain ⟨hP, hD⟩ := hPD rfl
        have hP : va_P D vwCl (wl_k_X8_fit cI cJ cK x0 xn xl xt xo xf xs xp xq xr xc f1 f2 o1 (nI z) nf (nI fz_6) fn_7 fs_8 (nI oz) of) H := hP
        have hD : va_D A (wl_k_X8_fit cI cJ cK x0 xn xl xt xo xf xs xp xq xr xc f1 f2 o1 (nI z) nf (nI fz_6) fn_7 fs_8 (nI oz) of) := hD
        refine lv_iconst (v := 0) hx hb dX8_fit_28 (by decide +kernel) ?_
        refine lv_istore (lv' := [(4, .int 0), (0, .ref x0), (1, .int (nI a_1)), (2, .int (nI b_2)), (3, .int k9)]) hx hb dX8_fit_29 hl (by decide) rfl (fun ls hl => ?_)
        refine lv_iconst (v := 0) hx hb dX8_fit_31 (by decide +kernel) ?_
        refine lv_istore (lv' := [(5, .int 0), (4, .int 0), (0, .ref x0), (1, .int (nI a_1)), (2, .int (nI b_2)), (3, .int k9)]) hx hb dX8_fit_32 hl (by decide) rfl (fun ls hl => ?_)
        have loop34 : ∀ (n9 : Nat) (x : Int32) (k : Nat), 64 - k < n9 → (k ≤ 64) → (k ≤ b_2 - a_1) → (x.toInt = ((fb_sm (fun i => (fs_8 i).toInt.toNat) k : Nat) : Int)) → (x.toInt ≤ k9.toInt) → ∀ (H : Heap) (locs : List Loc) (ls : Array Slot), va_P D vwCl (wl_k_X8_fit cI cJ cK x0 xn xl xt xo xf xs xp xq xr xc f1 f2 o1 (nI z) nf (nI fz_6) fn_7 fs_8 (nI oz) of) H → va_D A (wl_k_X8_fit cI cJ cK x0 xn xl xt xo xf xs xp xq xr xc f1 f2 o1 (nI z) nf (nI fz_6) fn_7 fs_8 (nI oz) of) → va_S A s.heap H locs → lv_has ls 6 [(5, .int x), (4, .int (nI k)), (0, .ref x0), (1, .int (nI a_1)), (2, .int (nI b_2)), (3, .int k9)] → W p l e ({ frames := 4, cells := 0, slots := 0, locals := 240 } : Room) s m [.ref x0, .int (nI a_1), .int (nI b_2), .int k9].toArray below meth c H locs 0 0 (MQ below (va_Qi (fun (r : Int32) (u : va_W) => (u = (wl_k_X8_fit cI cJ cK x0 xn xl xt xo xf xs xp xq xr xc f1 f2 o1 (nI z) nf (nI fz) fn fs (nI oz) of) ∧ r = (-1) ∧ ((nI a_1).toInt < 0 ∨ (nI b_2).toInt < (nI a_1).toInt ∨ z < (nI b_2).toInt ∨ k9.toInt < 0)) ∨ (∃ (t' : Nat) (fz' : Nat) (fn' : Nat → Int32) (fs' : Nat → Int32) (oz' : Nat) (of' : Nat → Int64), u = (wl_k_X8_fit cI cJ cK x0 xn xl xt xo xf xs xp xq xr xc f1 f2 o1 (nI z) nf (nI fz') fn' fs' (nI oz') of') ∧ r = nI t' ∧ fz' ≤ 64 ∧ oz' ≤ 64 ∧ 0 ≤ (nI a_1).toInt ∧ (nI a_1).toInt ≤ (nI b_2).toInt ∧ (nI b_2).toInt ≤ z ∧ 0 ≤ k9.toInt ∧ ftP nf (nI a_1).toInt.toNat (nI b_2).toInt.toNat k9.toInt t' ∧ oz' = 1)) (my_B D (tyIJ cI cJ cK) A) A) [.ref x0, .int (nI a_1), .int (nI b_2), .int k9].toArray s 0 0 A) (F0 m 34 ls []) := by
          intro n9
          induction n9 with
          | zero =>
            intro x k hn9
            exact absurd hn9 (Nat.not_lt_zero _)
          | succ n9 ih34 =>
            intro x k hn9 hk_k hkb hxs hxk H locs ls hP hD hS hl
            have hsz9 := cnF_sum hR_nf (a := a_1) (b := b_2) (by omega)
            have hbd := sm_bd hsv k (by omega)
            have hrg := fun h9 => sr_rng hsv (k := k) h9
            refine lv_iload hx hb dX8_fit_34 (lv_at hl 1 rfl) ?_
            refine lv_iload_n hx hb dX8_fit_36 rfl (lv_at hl 4 rfl) ?_
            refine lv_iload_n hx hb dX8_fit_37 rfl (lv_at hl 3 rfl) ?_
            refine lv_isub hx hb dX8_fit_38 ?_
            refine my_eqi (y := nI (b_2 - a_1)) (my_subN (a := b_2) (b := a_1) (by omega)) ?_
            refine lv_icmp_ge (tgt := 78) hx hb dX8_fit_39 (by decide) (fun c39 => ?_) (fun c39 => ?_)
            ·
              have d39 : ((k : Nat) : Int) ≥ ((b_2 - a_1 : Nat) : Int) := my_ge c39 (nI_toInt (by omega)) (nI_toInt (by omega))
              refine lv_aload_n hx hb dX8_fit_78 rfl (lv_at hl 2 rfl) ?_
              refine lv_iload hx hb dX8_fit_79 (lv_at hl 0 rfl) ?_
              refine lv_i2l (v := x.toInt64) hx hb dX8_fit_81 rfl ?_
              refine my_goVS (wc := (wl_k_X8_tell cI cJ cK x0 xn xl xt xo xf xs xp xq xr xc o1 (nI z) (nI oz) of)) hP hD hS hA [0, 5, 6] rfl [some 0, none, none, none, none, some 1, some 2] (by decide +kernel) (my_cV (As := [.long x.toInt64]) (rest := []) (ci := 8) (wc := (wl_k_X8_tell cI cJ cK x0 xn xl xt xo xf xs xp xq xr xc o1 (nI z) (nI oz) of)) ⟨hx, hb, hml, hown, hts⟩ (cwV 1 hts gX8_fit_X8_tell rfl rfl rfl (by decide +kernel) ⟨Nat.le_of_ble_eq_true rfl, Nat.le_of_ble_eq_true rfl⟩) hN hK hP hD [0, 5, 6] rfl (by decide) rfl 0 rfl rfl rfl rfl hl.1 rfl (Nat.le_of_ble_eq_true rfl) dX8_fit_82 ⟨Nat.le_of_ble_eq_true rfl, Nat.le_of_ble_eq_true rfl⟩  ((k_X8_tell l D cI cJ cK x0 xn xl xt xo xf xs xp xq xr xc o1 z oz of x.toInt64 (by first | assumption | omega | decide +kernel) (by first | assumption | omega | decide +kernel)) _)) (fun u H locs hp hPD hS => ?_)
              obtain ⟨of_10, rfl, hv0, ht_11⟩ := hp
              obtain ⟨hP, hD⟩ := hPD rfl
              have hP : va_P D vwCl (wl_k_X8_fit cI cJ cK x0 xn xl xt xo xf xs xp xq xr xc f1 f2 o1 (nI z) nf (nI fz_6) fn_7 fs_8 1 of_10) H := hP
              have hD : va_D A (wl_k_X8_fit cI cJ cK x0 xn xl xt xo xf xs xp xq xr xc f1 f2 o1 (nI z) nf (nI fz_6) fn_7 fs_8 1 of_10) := hD
              refine lv_iload hx hb dX8_fit_85 (lv_at hl 1 rfl) ?_
              have hsI_l9 : (nI a_1).toInt = ((a_1 : Nat) : Int) := nI_toInt (by omega)
              have hsN_l9 : (nI a_1).toInt.toNat = a_1 := nIt (by omega)
              have hsI_r9 : (nI b_2).toInt = ((b_2 : Nat) : Int) := nI_toInt (by omega)
              have hsN_r9 : (nI b_2).toInt.toNat = b_2 := nIt (by omega)
              exact my_retI hx hb hr hlocks hK hS (wl_k_X8_fit cI cJ cK x0 xn xl xt xo xf xs xp xq xr xc f1 f2 o1 (nI z) nf (nI fz_6) fn_7 fs_8 1 of_10) hP hD (Or.inr (⟨k, fz_6, fn_7, fs_8, 1, of_10, rfl, rfl, (by first | assumption | omega | trivial | decide +kernel), (by first | assumption | omega | trivial | decide +kernel), (by first | assumption | omega | trivial | decide +kernel), (by first | assumption | omega | trivial | decide +kernel), (by first | assumption | omega | trivial | decide +kernel), (by first | assumption | omega | trivial | decide +kernel), (by rw [hsN_l9, hsN_r9]; exact ft_mk hsv (by omega) (by omega) (fun h9 => by first | (exfalso; omega) | (have h8 := sm_step hsv (by omega) hxs (by assumption); omega))), (by first | assumption | omega | trivial | decide +kernel)⟩)) dX8_fit_87
            ·
              have d39 : ((k : Nat) : Int) < ((b_2 - a_1 : Nat) : Int) := my_nge c39 (nI_toInt (by omega)) (nI_toInt (by omega))
              refine lv_iload hx hb dX8_fit_42 (lv_at hl 0 rfl) ?_
              refine lv_aload_n hx hb dX8_fit_44 rfl (lv_at hl 2 rfl) ?_
              refine va_get (ci := 8) (v := .ref xf) (C := RX8) (T := TX8) (N := 11) hx hb hts hi8 hown hK hP 0 rfl rfl 5 (by decide) fl41 (fun _ h9 => h9) rfl dX8_fit_45 ?_
              refine lv_iload hx hb dX8_fit_48 (lv_at hl 1 rfl) ?_
              refine my_gpI (my_pV (As := [.int (nI k)]) (rest := [.int x]) (ci := 6) ⟨hx, hb, hml, hown, hts⟩ (cwV 1 hts gX8_fit_X6_sortedAt rfl rfl rfl (by decide +kernel) ⟨Nat.le_of_ble_eq_true rfl, Nat.le_of_ble_eq_true rfl⟩) hN hK hP [2, 4] rfl 2 rfl rfl rfl rfl hl.1 rfl (Nat.le_of_ble_eq_true rfl) dX8_fit_50 ⟨Nat.le_of_ble_eq_true rfl, Nat.le_of_ble_eq_true rfl⟩  (kf_X6_sortedAt l D cI cJ cK xf f1 f2 fz_6 fs_8 k (by first | assumption | omega | decide +kernel) (by first | assumption | omega | decide +kernel))) (fun r hp => ?_)
              rcases hp with ⟨rfl, ha_12⟩ | ⟨rfl, ha_13⟩
              ·
                have hrg1 := hrg (by omega)
                refine lv_iadd hx hb dX8_fit_53 ?_
                refine lv_topi (fun z_14 ez_14 => ?_)
                try have tz_14 : z_14.toInt = x.toInt + (fs_8 k).toInt := by rw [ez_14]; exact my_addI rfl rfl (by omega) (by omega)
                refine lv_iload_n hx hb dX8_fit_54 rfl (lv_at hl 5 rfl) ?_
                refine lv_icmp_gt (tgt := 78) hx hb dX8_fit_55 (by decide) (fun c55 => ?_) (fun c55 => ?_)
                ·
                  have d55 : z_14.toInt > k9.toInt := my_gt c55 rfl rfl
                  refine lv_aload_n hx hb dX8_fit_78 rfl (lv_at hl 2 rfl) ?_
                  refine lv_iload hx hb dX8_fit_79 (lv_at hl 0 rfl) ?_
                  refine lv_i2l (v := x.toInt64) hx hb dX8_fit_81 rfl ?_
                  refine my_goVS (wc := (wl_k_X8_tell cI cJ cK x0 xn xl xt xo xf xs xp xq xr xc o1 (nI z) (nI oz) of)) hP hD hS hA [0, 5, 6] rfl [some 0, none, none, none, none, some 1, some 2] (by decide +kernel) (my_cV (As := [.long x.toInt64]) (rest := []) (ci := 8) (wc := (wl_k_X8_tell cI cJ cK x0 xn xl xt xo xf xs xp xq xr xc o1 (nI z) (nI oz) of)) ⟨hx, hb, hml, hown, hts⟩ (cwV 1 hts gX8_fit_X8_tell rfl rfl rfl (by decide +kernel) ⟨Nat.le_of_ble_eq_true rfl, Nat.le_of_ble_eq_true rfl⟩) hN hK hP hD [0, 5, 6] rfl (by decide) rfl 0 rfl rfl rfl rfl hl.1 rfl (Nat.le_of_ble_eq_true rfl) dX8_fit_82 ⟨Nat.le_of_ble_eq_true rfl, Nat.le_of_ble_eq_true rfl⟩  ((k_X8_tell l D cI cJ cK x0 xn xl xt xo xf xs xp xq xr xc o1 z oz of x.toInt64 (by first | assumption | omega | decide +kernel) (by first | assumption | omega | decide +kernel)) _)) (fun u H locs hp hPD hS => ?_)
                  obtain ⟨of_15, rfl, hv0, ht_16⟩ := hp
                  obtain ⟨hP, hD⟩ := hPD rfl
                  have hP : va_P D vwCl (wl_k_X8_fit cI cJ cK x0 xn xl xt xo xf xs xp xq xr xc f1 f2 o1 (nI z) nf (nI fz_6) fn_7 fs_8 1 of_15) H := hP
                  have hD : va_D A (wl_k_X8_fit cI cJ cK x0 xn xl xt xo xf xs xp xq xr xc f1 f2 o1 (nI z) nf (nI fz_6) fn_7 fs_8 1 of_15) := hD
                  refine lv_iload hx hb dX8_fit_85 (lv_at hl 1 rfl) ?_
                  have hsI_l9 : (nI a_1).toInt = ((a_1 : Nat) : Int) := nI_toInt (by omega)
                  have hsN_l9 : (nI a_1).toInt.toNat = a_1 := nIt (by omega)
                  have hsI_r9 : (nI b_2).toInt = ((b_2 : Nat) : Int) := nI_toInt (by omega)
                  have hsN_r9 : (nI b_2).toInt.toNat = b_2 := nIt (by omega)
                  exact my_retI hx hb hr hlocks hK hS (wl_k_X8_fit cI cJ cK x0 xn xl xt xo xf xs xp xq xr xc f1 f2 o1 (nI z) nf (nI fz_6) fn_7 fs_8 1 of_15) hP hD (Or.inr (⟨k, fz_6, fn_7, fs_8, 1, of_15, rfl, rfl, (by first | assumption | omega | trivial | decide +kernel), (by first | assumption | omega | trivial | decide +kernel), (by first | assumption | omega | trivial | decide +kernel), (by first | assumption | omega | trivial | decide +kernel), (by first | assumption | omega | trivial | decide +kernel), (by first | assumption | omega | trivial | decide +kernel), (by rw [hsN_l9, hsN_r9]; exact ft_mk hsv (by omega) (by omega) (fun h9 => by first | (exfalso; omega) | (have h8 := sm_step hsv (by omega) hxs (by assumption); omega))), (by first | assumption | omega | trivial | decide +kernel)⟩)) dX8_fit_87
                ·
                  have d55 : z_14.toInt ≤ k9.toInt := my_ngt c55 rfl rfl
                  refine lv_iload hx hb dX8_fit_58 (lv_at hl 0 rfl) ?_
                  refine lv_aload_n hx hb dX8_fit_60 rfl (lv_at hl 2 rfl) ?_
                  refine va_get (ci := 8) (v := .ref xf) (C := RX8) (T := TX8) (N := 11) hx hb hts hi8 hown hK hP 0 rfl rfl 5 (by decide) fl41 (fun _ h9 => h9) rfl dX8_fit_61 ?_
                  refine lv_iload hx hb dX8_fit_64 (lv_at hl 1 rfl) ?_
                  refine my_gpI (my_pV (As := [.int (nI k)]) (rest := [.int x]) (ci := 6) ⟨hx, hb, hml, hown, hts⟩ (cwV 1 hts gX8_fit_X6_sortedAt rfl rfl rfl (by decide +kernel) ⟨Nat.le_of_ble_eq_true rfl, Nat.le_of_ble_eq_true rfl⟩) hN hK hP [2, 4] rfl 2 rfl rfl rfl rfl hl.1 rfl (Nat.le_of_ble_eq_true rfl) dX8_fit_66 ⟨Nat.le_of_ble_eq_true rfl, Nat.le_of_ble_eq_true rfl⟩  (kf_X6_sortedAt l D cI cJ cK xf f1 f2 fz_6 fs_8 k (by first | assumption | omega | decide +kernel) (by first | assumption | omega | decide +kernel))) (fun r hp => ?_)
                  rcases hp with ⟨rfl, ha_17⟩ | ⟨rfl, ha_18⟩
                  ·
                    refine lv_iadd hx hb dX8_fit_69 ?_
                    refine lv_topi (fun z_19 ez_19 => ?_)
                    try have tz_19 : z_19.toInt = x.toInt + (fs_8 k).toInt := by rw [ez_19]; exact my_addI rfl rfl (by omega) (by omega)
                    refine lv_istore (lv' := [(5, .int z_19), (4, .int (nI k)), (0, .ref x0), (1, .int (nI a_1)), (2, .int (nI b_2)), (3, .int k9)]) hx hb dX8_fit_70 hl (by decide) rfl (fun ls hl => ?_)
                    refine lv_iinc (v := nI (k + 1)) (lv' := [(4, .int (nI (k + 1))), (5, .int z_19), (0, .ref x0), (1, .int (nI a_1)), (2, .int (nI b_2)), (3, .int k9)]) hx hb dX8_fit_72 hl (k := 1) rfl (my_incN k 1 (by decide +kernel)) (by decide) rfl (fun ls hl => ?_)
                    refine lv_goto (tgt := 34) hx hb dX8_fit_75 (by decide) ?_
                    exact ih34  z_19 (k + 1) (by omega) (by first | assumption | omega | decide +kernel) (by first | assumption | omega | decide +kernel) (sm_step hsv (by omega) hxs (by assumption)) (by first | assumption | omega | decide +kernel) _ _ ls hP hD hS (lv_sub hl [1, 0, 2, 3, 4, 5] rfl)
                  ·
                    exfalso; omega
              ·
                exfalso; omega
        have ec_20 : (0 : Int32).toInt = 0 := by decide +kernel
        exact loop34 ((64 - 0) + 1) (0 : Int32) 0 (Nat.lt_succ_self _) (by first | assumption | omega | decide +kernel) (by first | assumption | omega | decide +kernel) (rfl) (by first | assumption | omega | decide +kernel) _ _ ls hP hD hS (lv_sub hl [0, 1, 2, 3, 4, 5] rfl)
      ·
        have d10 : k9.toInt < (0 : Int) := my_nge c10 rfl (by decide +kernel)
        refine lv_iconst (v := (-1)) hx hb dX8_fit_13 (by decide +kernel) ?_
        have hsI_l9 : (nI a_1).toInt = ((a_1 : Nat) : Int) := nI_toInt (by omega)
        have hsN_l9 : (nI a_1).toInt.toNat = a_1 := nIt (by omega)
        have hsI_r9 : (nI b_2).toInt = ((b_2 : Nat) : Int) := nI_toInt (by omega)
        have hsN_r9 : (nI b_2).toInt.toNat = b_2 := nIt (by omega)
        exact my_retI hx hb hr hlocks hK hS (wl_k_X8_fit cI cJ cK x0 xn xl xt xo xf xs xp xq xr xc f1 f2 o1 (nI z) nf (nI fz) fn fs (nI oz) of) hP hD (Or.inl ⟨rfl, rfl, (by first | assumption | omega | trivial | decide +kernel)⟩) dX8_fit_14
  ·
    refine lv_if_eq (tgt := 13) hx hb dX8_fit_6 (by decide) (fun c6 => ?_) (fun c6 => ?_)
    ·
      refine lv_iconst (v := (-1)) hx hb dX8_fit_13 (by decide +kernel) ?_
      exact my_retI hx hb hr hlocks hK hS (wl_k_X8_fit cI cJ cK x0 xn xl xt xo xf xs xp xq xr xc f1 f2 o1 (nI z) nf (nI fz) fn fs (nI oz) of) hP hD (Or.inl ⟨rfl, rfl, (by first | assumption | omega | trivial | decide +kernel)⟩) dX8_fit_14
    ·
      exact absurd c6 (by decide +kernel)
abbrev wl_k_X8_gap (cI cJ cK : ClassId) (x0 : Nat) (xn : Nat) (xl : Nat) (xt : Nat) (xo : Nat) (xf : Nat) (xs : Nat) (xp : Nat) (xq : Nat) (xr : Nat) (xc : Nat) (f1 : Nat) (f2 : Nat) (o1 : Nat) (v0_ : Int32) (v1_ : Nat → Int32) (v2_ : Int32) (v3_ : Nat → Int32) (v4_ : Nat → Int32) (v5_ : Int32) (v6_ : Nat → Int64) : va_W := [(x0, .inr (8, [.ref xn, .int v0_, .ref xl, .ref xt, .ref xo, .ref xf, .ref xs, .ref xp, .ref xq, .ref xr, .ref xc])), (xn, .inl (cI, 64, .inl v1_)), (xf, .inr (6, [.ref f1, .ref f2, .int v2_])), (f1, .inl (cI, 512, .inl v3_)), (f2, .inl (cI, 64, .inl v4_)), (xo, .inr (7, [.ref o1, .int v5_])), (o1, .inl (cJ, 64, .inr (.inl v6_)))]
set_option maxHeartbeats 4000000 in
set_option maxRecDepth 100000 in
theorem k_X8_gap (l : Launch) (D : va_G) (cI cJ cK : ClassId) (x0 : Nat) (xn : Nat) (xl : Nat) (xt : Nat) (xo : Nat) (xf : Nat) (xs : Nat) (xp : Nat) (xq : Nat) (xr : Nat) (xc : Nat) (f1 : Nat) (f2 : Nat) (o1 : Nat) (z : Nat) (nf : Nat → Int32) (fz : Nat) (fn : Nat → Int32) (fs : Nat → Int32) (oz : Nat) (of : Nat → Int64) (l9 : Int32) (r9 : Int32) (hz_z : z ≤ 64) (hR_nf : RB 0 255 nf) (hz_fz : fz ≤ 64) (hz_oz : oz ≤ 64) : ctI l yX8_gap wsX8_gap ({ frames := 4, cells := 0, slots := 0, locals := 240 } : Room) D (tyIJ cI cJ cK) [.ref x0, .int l9, .int r9] (wl_k_X8_gap cI cJ cK x0 xn xl xt xo xf xs xp xq xr xc f1 f2 o1 (nI z) nf (nI fz) fn fs (nI oz) of) (fun (r : Int32) (u : va_W) => (u = (wl_k_X8_gap cI cJ cK x0 xn xl xt xo xf xs xp xq xr xc f1 f2 o1 (nI z) nf (nI fz) fn fs (nI oz) of) ∧ r = (-1) ∧ (l9.toInt < 0 ∨ r9.toInt < l9.toInt ∨ z < r9.toInt)) ∨ (u = (wl_k_X8_gap cI cJ cK x0 xn xl xt xo xf xs xp xq xr xc f1 f2 o1 (nI z) nf (nI fz) fn fs (nI oz) of) ∧ r = (-2) ∧ 0 ≤ l9.toInt ∧ l9.toInt ≤ r9.toInt ∧ r9.toInt ≤ z ∧ r9.toInt - l9.toInt < 2) ∨ (∃ (fz' : Nat) (fn' : Nat → Int32) (fs' : Nat → Int32) (oz' : Nat) (of' : Nat → Int64), u = (wl_k_X8_gap cI cJ cK x0 xn xl xt xo xf xs xp xq xr xc f1 f2 o1 (nI z) nf (nI fz') fn' fs' (nI oz') of') ∧ fz' ≤ 64 ∧ oz' ≤ 64 ∧ 0 ≤ l9.toInt ∧ l9.toInt ≤ r9.toInt ∧ r9.toInt ≤ z ∧ 2 ≤ r9.toInt - l9.toInt ∧ gpA nf l9.toInt.toNat r9.toInt.toNat r ∧ oz' = 2)) := by
  refine ctI.of (cc := cX8_gap) (maxL := 5) (ret := (some .int)) (by decide) rfl (Nat.le_of_ble_eq_true rfl) ?_
  intro p e s m below meth c ls A hx hb hr hts hown hml hlocks hname hA hK hN hP hD hS hl
  have hl : lv_has ls 5 [(0, .ref x0), (1, .int l9), (2, .int r9)] := hl
  have hown : s.vm.findClass RX8 = some m.cls := hown
  have hi8 : ∀ w ∈ u_ws RX8 TX8 11, w ∈ wsX8_gap := by decide +kernel
  have fl41 := hts (.fieldLink RX8 41 "PlaneColumn" "first" "LPlaneColumn$Tally;") (by decide +kernel)
  have fl9 := hts (.fieldLink RX8 9 "PlaneColumn" "numbers" "[I") (by decide +kernel)
  refine lv_aload_n hx hb dX8_gap_0 rfl (lv_at hl 0 rfl) ?_
  refine lv_iload_n hx hb dX8_gap_1 rfl (lv_at hl 1 rfl) ?_
  refine lv_iload_n hx hb dX8_gap_2 rfl (lv_at hl 2 rfl) ?_
  refine my_gpI (my_pV (As := [.int l9, .int r9]) (rest := []) (ci := 8) ⟨hx, hb, hml, hown, hts⟩ (cwV 2 hts gX8_gap_X8_isSpan rfl rfl rfl (by decide +kernel) ⟨Nat.le_of_ble_eq_true rfl, Nat.le_of_ble_eq_true rfl⟩) hN hK hP [0] rfl 0 rfl rfl rfl rfl hl.1 rfl (Nat.le_of_ble_eq_true rfl) dX8_gap_3 ⟨Nat.le_of_ble_eq_true rfl, Nat.le_of_ble_eq_true rfl⟩  (k_X8_isSpan l D cI cJ cK x0 xn xl xt xo xf xs xp xq xr xc z l9 r9 (by first | assumption | omega | decide +kernel))) (fun r hp => ?_)
  rcases hp with ⟨a_1, b_2, rfl, rfl, rfl, ha_3, hb_4⟩ | ⟨rfl, ho_5⟩
  ·
    refine lv_if_ne (tgt := 11) hx hb dX8_gap_6 (by decide) (fun c6 => ?_) (fun c6 => ?_)
    ·
      refine lv_iload_n hx hb dX8_gap_11 rfl (lv_at hl 2 rfl) ?_
      refine lv_iload_n hx hb dX8_gap_12 rfl (lv_at hl 1 rfl) ?_
      refine lv_isub hx hb dX8_gap_13 ?_
      refine lv_topi (fun z_6 ez_6 => ?_)
      try have tz_6 : z_6.toInt = ((b_2 : Nat) : Int) - ((a_1 : Nat) : Int) := by rw [ez_6]; exact my_subI (nI_toInt (by omega)) (nI_toInt (by omega)) (by omega) (by omega)
      refine lv_iconst (v := 2) hx hb dX8_gap_14 (by decide +kernel) ?_
      refine lv_icmp_ge (tgt := 21) hx hb dX8_gap_15 (by decide) (fun c15 => ?_) (fun c15 => ?_)
      ·
        have d15 : z_6.toInt ≥ (2 : Int) := my_ge c15 rfl (by decide +kernel)
        refine lv_aload_n hx hb dX8_gap_21 rfl (lv_at hl 0 rfl) ?_
        refine va_get (ci := 8) (v := .ref xf) (C := RX8) (T := TX8) (N := 11) hx hb hts hi8 hown hK hP 0 rfl rfl 5 (by decide) fl41 (fun _ h9 => h9) rfl dX8_gap_22 ?_
        refine lv_aload_n hx hb dX8_gap_25 rfl (lv_at hl 0 rfl) ?_
        refine va_get (ci := 8) (v := .ref xn) (C := RX8) (T := TX8) (N := 11) hx hb hts hi8 hown hK hP 0 rfl rfl 0 (by decide) fl9 (fun _ h9 => h9) rfl dX8_gap_26 ?_
        refine lv_iload_n hx hb dX8_gap_29 rfl (lv_at hl 1 rfl) ?_
        refine lv_iload_n hx hb dX8_gap_30 rfl (lv_at hl 2 rfl) ?_
        refine my_goVS (wc := (wl_k_X6_take cI cJ cK xf f1 f2 xn (nI fz) fn fs nf)) hP hD hS hA [2, 3, 4, 1] rfl [none, some 3, some 0, some 1, some 2] (by decide +kernel) (my_cV (As := [.ref xn, .int (nI a_1), .int (nI b_2)]) (rest := []) (ci := 6) (wc := (wl_k_X6_take cI cJ cK xf f1 f2 xn (nI fz) fn fs nf)) ⟨hx, hb, hml, hown, hts⟩ (cwV 3 hts gX8_gap_X6_take rfl rfl rfl (by decide +kernel) ⟨Nat.le_of_ble_eq_true rfl, Nat.le_of_ble_eq_true rfl⟩) hN hK hP hD [2, 3, 4, 1] rfl (by decide) rfl 2 rfl rfl rfl rfl hl.1 rfl (Nat.le_of_ble_eq_true rfl) dX8_gap_31 ⟨Nat.le_of_ble_eq_true rfl, Nat.le_of_ble_eq_true rfl⟩  ((k_X6_take l D cI cJ cK xf f1 f2 xn fz fn fs nf a_1 b_2 (by first | assumption | omega | decide +kernel) hR_nf (by first | assumption | omega | decide +kernel) (by first | assumption | omega | decide +kernel)) _)) (fun u H locs hp hPD hS => ?_)
        obtain ⟨fz_7, fn_8, fs_9, rfl, hhz_fz_10, hnd, hn8, hfz, hsv⟩ := hp
        obtain ⟨hP, hD⟩ := hPD rfl
        have hP : va_P D vwCl (wl_k_X8_gap cI cJ cK x0 xn xl xt xo xf xs xp xq xr xc f1 f2 o1 (nI z) nf (nI fz_7) fn_8 fs_9 (nI oz) of) H := hP
        have hD : va_D A (wl_k_X8_gap cI cJ cK x0 xn xl xt xo xf xs xp xq xr xc f1 f2 o1 (nI z) nf (nI fz_7) fn_8 fs_9 (nI oz) of) := hD
        refine lv_iconst (v := 0) hx hb dX8_gap_34 (by decide +kernel) ?_
        refine lv_istore_n (lv' := [(3, .int 0), (0, .ref x0), (1, .int (nI a_1)), (2, .int (nI b_2))]) hx hb dX8_gap_35 rfl hl (by decide) rfl (fun ls hl => ?_)
        refine lv_iconst (v := 1) hx hb dX8_gap_36 (by decide +kernel) ?_
        refine lv_istore (lv' := [(4, .int 1), (3, .int 0), (0, .ref x0), (1, .int (nI a_1)), (2, .int (nI b_2))]) hx hb dX8_gap_37 hl (by decide) rfl (fun ls hl => ?_)
        have loop39 : ∀ (n9 : Nat) (v : Nat) (ct : Nat), 64 - v < n9 → (ct ≤ 64) → (v ≤ 64) → (1 ≤ v) → (ct < v) → (v ≤ b_2 - a_1 - 1) → (gpP fs_9 ct v) → ∀ (H : Heap) (locs : List Loc) (ls : Array Slot), va_P D vwCl (wl_k_X8_gap cI cJ cK x0 xn xl xt xo xf xs xp xq xr xc f1 f2 o1 (nI z) nf (nI fz_7) fn_8 fs_9 (nI oz) of) H → va_D A (wl_k_X8_gap cI cJ cK x0 xn xl xt xo xf xs xp xq xr xc f1 f2 o1 (nI z) nf (nI fz_7) fn_8 fs_9 (nI oz) of) → va_S A s.heap H locs → lv_has ls 5 [(4, .int (nI v)), (3, .int (nI ct)), (0, .ref x0), (1, .int (nI a_1)), (2, .int (nI b_2))] → W p l e ({ frames := 4, cells := 0, slots := 0, locals := 240 } : Room) s m [.ref x0, .int (nI a_1), .int (nI b_2)].toArray below meth c H locs 0 0 (MQ below (va_Qi (fun (r : Int32) (u : va_W) => (u = (wl_k_X8_gap cI cJ cK x0 xn xl xt xo xf xs xp xq xr xc f1 f2 o1 (nI z) nf (nI fz) fn fs (nI oz) of) ∧ r = (-1) ∧ ((nI a_1).toInt < 0 ∨ (nI b_2).toInt < (nI a_1).toInt ∨ z < (nI b_2).toInt)) ∨ (u = (wl_k_X8_gap cI cJ cK x0 xn xl xt xo xf xs xp xq xr xc f1 f2 o1 (nI z) nf (nI fz) fn fs (nI oz) of) ∧ r = (-2) ∧ 0 ≤ (nI a_1).toInt ∧ (nI a_1).toInt ≤ (nI b_2).toInt ∧ (nI b_2).toInt ≤ z ∧ (nI b_2).toInt - (nI a_1).toInt < 2) ∨ (∃ (fz' : Nat) (fn' : Nat → Int32) (fs' : Nat → Int32) (oz' : Nat) (of' : Nat → Int64), u = (wl_k_X8_gap cI cJ cK x0 xn xl xt xo xf xs xp xq xr xc f1 f2 o1 (nI z) nf (nI fz') fn' fs' (nI oz') of') ∧ fz' ≤ 64 ∧ oz' ≤ 64 ∧ 0 ≤ (nI a_1).toInt ∧ (nI a_1).toInt ≤ (nI b_2).toInt ∧ (nI b_2).toInt ≤ z ∧ 2 ≤ (nI b_2).toInt - (nI a_1).toInt ∧ gpA nf (nI a_1).toInt.toNat (nI b_2).toInt.toNat r ∧ oz' = 2)) (my_B D (tyIJ cI cJ cK) A) A) [.ref x0, .int (nI a_1), .int (nI b_2)].toArray s 0 0 A) (F0 m 39 ls []) := by
          intro n9
          induction n9 with
          | zero =>
            intro v ct hn9
            exact absurd hn9 (Nat.not_lt_zero _)
          | succ n9 ih39 =>
            intro v ct hn9 hk_ct hk_v hv1 hcv hvb hgp H locs ls hP hD hS hl
            refine lv_iload hx hb dX8_gap_39 (lv_at hl 0 rfl) ?_
            refine lv_iload_n hx hb dX8_gap_41 rfl (lv_at hl 4 rfl) ?_
            refine lv_iload_n hx hb dX8_gap_42 rfl (lv_at hl 3 rfl) ?_
            refine lv_isub hx hb dX8_gap_43 ?_
            refine my_eqi (y := nI (b_2 - a_1)) (my_subN (a := b_2) (b := a_1) (by omega)) ?_
            refine lv_iconst (v := 1) hx hb dX8_gap_44 (by decide +kernel) ?_
            refine lv_isub hx hb dX8_gap_45 ?_
            refine my_eqi (y := nI ((b_2 - a_1) - 1)) (my_subN (a := b_2 - a_1) (b := 1) (by omega)) ?_
            refine lv_icmp_ge (tgt := 72) hx hb dX8_gap_46 (by decide) (fun c46 => ?_) (fun c46 => ?_)
            ·
              have d46 : ((v : Nat) : Int) ≥ (((b_2 - a_1) - 1 : Nat) : Int) := my_ge c46 (nI_toInt (by omega)) (nI_toInt (by omega))
              refine lv_aload_n hx hb dX8_gap_72 rfl (lv_at hl 2 rfl) ?_
              refine lv_aload_n hx hb dX8_gap_73 rfl (lv_at hl 2 rfl) ?_
              refine va_get (ci := 8) (v := .ref xf) (C := RX8) (T := TX8) (N := 11) hx hb hts hi8 hown hK hP 0 rfl rfl 5 (by decide) fl41 (fun _ h9 => h9) rfl dX8_gap_74 ?_
              refine lv_iload_n hx hb dX8_gap_77 rfl (lv_at hl 1 rfl) ?_
              refine my_gpI (my_pV (As := [.int (nI ct)]) (rest := [.ref x0]) (ci := 6) ⟨hx, hb, hml, hown, hts⟩ (cwV 1 hts gX8_gap_X6_sortedAt rfl rfl rfl (by decide +kernel) ⟨Nat.le_of_ble_eq_true rfl, Nat.le_of_ble_eq_true rfl⟩) hN hK hP [2, 4] rfl 2 rfl rfl rfl rfl hl.1 rfl (Nat.le_of_ble_eq_true rfl) dX8_gap_78 ⟨Nat.le_of_ble_eq_true rfl, Nat.le_of_ble_eq_true rfl⟩  (k_X6_sortedAt l D cI cJ cK xf f1 f2 fz_7 fs_9 (nI ct) (by first | assumption | omega | decide +kernel))) (fun r hp => ?_)
              obtain _ := hp
              obtain ⟨r_11, rfl⟩ : ∃ z, z = r := ⟨_, rfl⟩
              refine lv_i2l (v := r_11.toInt64) hx hb dX8_gap_81 rfl ?_
              refine lv_aload_n hx hb dX8_gap_82 rfl (lv_at hl 2 rfl) ?_
              refine va_get (ci := 8) (v := .ref xf) (C := RX8) (T := TX8) (N := 11) hx hb hts hi8 hown hK hP 0 rfl rfl 5 (by decide) fl41 (fun _ h9 => h9) rfl dX8_gap_83 ?_
              refine lv_iload_n hx hb dX8_gap_86 rfl (lv_at hl 1 rfl) ?_
              refine lv_iconst (v := 1) hx hb dX8_gap_87 (by decide +kernel) ?_
              refine lv_iadd hx hb dX8_gap_88 ?_
              refine my_eqi (y := nI (ct + 1)) (my_addN ct 1) ?_
              refine my_gpI (my_pV (As := [.int (nI (ct + 1))]) (rest := [.long r_11.toInt64, .ref x0]) (ci := 6) ⟨hx, hb, hml, hown, hts⟩ (cwV 1 hts gX8_gap_X6_sortedAt rfl rfl rfl (by decide +kernel) ⟨Nat.le_of_ble_eq_true rfl, Nat.le_of_ble_eq_true rfl⟩) hN hK hP [2, 4] rfl 2 rfl rfl rfl rfl hl.1 rfl (Nat.le_of_ble_eq_true rfl) dX8_gap_89 ⟨Nat.le_of_ble_eq_true rfl, Nat.le_of_ble_eq_true rfl⟩  (k_X6_sortedAt l D cI cJ cK xf f1 f2 fz_7 fs_9 (nI (ct + 1)) (by first | assumption | omega | decide +kernel))) (fun r hp => ?_)
              obtain _ := hp
              obtain ⟨r_12, rfl⟩ : ∃ z, z = r := ⟨_, rfl⟩
              refine lv_i2l (v := r_12.toInt64) hx hb dX8_gap_92 rfl ?_
              refine my_goVS (wc := (wl_k_X8_tell_ cI cJ cK x0 xn xl xt xo xf xs xp xq xr xc o1 (nI z) (nI oz) of)) hP hD hS hA [0, 5, 6] rfl [some 0, none, none, none, none, some 1, some 2] (by decide +kernel) (my_cV (As := [.long r_11.toInt64, .long r_12.toInt64]) (rest := []) (ci := 8) (wc := (wl_k_X8_tell_ cI cJ cK x0 xn xl xt xo xf xs xp xq xr xc o1 (nI z) (nI oz) of)) ⟨hx, hb, hml, hown, hts⟩ (cwV 2 hts gX8_gap_X8_tell_ rfl rfl rfl (by decide +kernel) ⟨Nat.le_of_ble_eq_true rfl, Nat.le_of_ble_eq_true rfl⟩) hN hK hP hD [0, 5, 6] rfl (by decide) rfl 0 rfl rfl rfl rfl hl.1 rfl (Nat.le_of_ble_eq_true rfl) dX8_gap_93 ⟨Nat.le_of_ble_eq_true rfl, Nat.le_of_ble_eq_true rfl⟩  ((k_X8_tell_ l D cI cJ cK x0 xn xl xt xo xf xs xp xq xr xc o1 z oz of r_11.toInt64 r_12.toInt64 (by first | assumption | omega | decide +kernel) (by first | assumption | omega | decide +kernel)) _)) (fun u H locs hp hPD hS => ?_)
              obtain ⟨of_13, rfl, hv0, hv1⟩ := hp
              obtain ⟨hP, hD⟩ := hPD rfl
              have hP : va_P D vwCl (wl_k_X8_gap cI cJ cK x0 xn xl xt xo xf xs xp xq xr xc f1 f2 o1 (nI z) nf (nI fz_7) fn_8 fs_9 2 of_13) H := hP
              have hD : va_D A (wl_k_X8_gap cI cJ cK x0 xn xl xt xo xf xs xp xq xr xc f1 f2 o1 (nI z) nf (nI fz_7) fn_8 fs_9 2 of_13) := hD
              refine lv_aload_n hx hb dX8_gap_96 rfl (lv_at hl 2 rfl) ?_
              refine lv_iload_n hx hb dX8_gap_97 rfl (lv_at hl 1 rfl) ?_
              refine my_gpI (my_pV (As := [.int (nI ct)]) (rest := []) (ci := 8) ⟨hx, hb, hml, hown, hts⟩ (cwV 1 hts gX8_gap_X8_step rfl rfl rfl (by decide +kernel) ⟨Nat.le_of_ble_eq_true rfl, Nat.le_of_ble_eq_true rfl⟩) hN hK hP [0, 2, 4] rfl 0 rfl rfl rfl rfl hl.1 rfl (Nat.le_of_ble_eq_true rfl) dX8_gap_98 ⟨Nat.le_of_ble_eq_true rfl, Nat.le_of_ble_eq_true rfl⟩  (kf_X8_step l D cI cJ cK x0 xn xl xt xo xf xs xp xq xr xc f1 f2 z fz_7 fs_9 ct (by first | assumption | omega | decide +kernel) (by first | assumption | omega | decide +kernel) (by first | assumption | omega | decide +kernel) (fun q hq => sr_rng hsv (by rw [cnF_sum hR_nf (by omega)]; omega)))) (fun r hp => ?_)
              obtain ⟨hst, ht_14⟩ := hp
              obtain ⟨r_15, rfl⟩ : ∃ z, z = r := ⟨_, rfl⟩
              have hsI_l9 : (nI a_1).toInt = ((a_1 : Nat) : Int) := nI_toInt (by omega)
              have hsN_l9 : (nI a_1).toInt.toNat = a_1 := nIt (by omega)
              have hsI_r9 : (nI b_2).toInt = ((b_2 : Nat) : Int) := nI_toInt (by omega)
              have hsN_r9 : (nI b_2).toInt.toNat = b_2 := nIt (by omega)
              exact my_retI hx hb hr hlocks hK hS (wl_k_X8_gap cI cJ cK x0 xn xl xt xo xf xs xp xq xr xc f1 f2 o1 (nI z) nf (nI fz_7) fn_8 fs_9 2 of_13) hP hD (Or.inr (Or.inr (⟨fz_7, fn_8, fs_9, 2, of_13, rfl, (by first | assumption | omega | trivial | decide +kernel), (by first | assumption | omega | trivial | decide +kernel), (by first | assumption | omega | trivial | decide +kernel), (by first | assumption | omega | trivial | decide +kernel), (by first | assumption | omega | trivial | decide +kernel), (by first | assumption | omega | trivial | decide +kernel), (by rw [hsN_l9, hsN_r9]; exact gp_mk hsv (by omega) hgp (by omega) hst), (by first | assumption | omega | trivial | decide +kernel)⟩))) dX8_gap_101
            ·
              have d46 : ((v : Nat) : Int) < (((b_2 - a_1) - 1 : Nat) : Int) := my_nge c46 (nI_toInt (by omega)) (nI_toInt (by omega))
              refine lv_aload_n hx hb dX8_gap_49 rfl (lv_at hl 2 rfl) ?_
              refine lv_iload hx hb dX8_gap_50 (lv_at hl 0 rfl) ?_
              refine my_gpI (my_pV (As := [.int (nI v)]) (rest := []) (ci := 8) ⟨hx, hb, hml, hown, hts⟩ (cwV 1 hts gX8_gap_X8_step rfl rfl rfl (by decide +kernel) ⟨Nat.le_of_ble_eq_true rfl, Nat.le_of_ble_eq_true rfl⟩) hN hK hP [0, 2, 4] rfl 0 rfl rfl rfl rfl hl.1 rfl (Nat.le_of_ble_eq_true rfl) dX8_gap_52 ⟨Nat.le_of_ble_eq_true rfl, Nat.le_of_ble_eq_true rfl⟩  (kf_X8_step l D cI cJ cK x0 xn xl xt xo xf xs xp xq xr xc f1 f2 z fz_7 fs_9 v (by first | assumption | omega | decide +kernel) (by first | assumption | omega | decide +kernel) (by first | assumption | omega | decide +kernel) (fun q hq => sr_rng hsv (by rw [cnF_sum hR_nf (by omega)]; omega)))) (fun r hp => ?_)
              obtain ⟨hst, ht_16⟩ := hp
              obtain ⟨r_17, rfl⟩ : ∃ z, z = r := ⟨_, rfl⟩
              refine lv_aload_n hx hb dX8_gap_55 rfl (lv_at hl 2 rfl) ?_
              refine lv_iload_n hx hb dX8_gap_56 rfl (lv_at hl 1 rfl) ?_
              refine my_gpI (my_pV (As := [.int (nI ct)]) (rest := [.int r_17]) (ci := 8) ⟨hx, hb, hml, hown, hts⟩ (cwV 1 hts gX8_gap_X8_step rfl rfl rfl (by decide +kernel) ⟨Nat.le_of_ble_eq_true rfl, Nat.le_of_ble_eq_true rfl⟩) hN hK hP [0, 2, 4] rfl 0 rfl rfl rfl rfl hl.1 rfl (Nat.le_of_ble_eq_true rfl) dX8_gap_57 ⟨Nat.le_of_ble_eq_true rfl, Nat.le_of_ble_eq_true rfl⟩  (kf_X8_step l D cI cJ cK x0 xn xl xt xo xf xs xp xq xr xc f1 f2 z fz_7 fs_9 ct (by first | assumption | omega | decide +kernel) (by first | assumption | omega | decide +kernel) (by first | assumption | omega | decide +kernel) (fun q hq => sr_rng hsv (by rw [cnF_sum hR_nf (by omega)]; omega)))) (fun r hp => ?_)
              obtain ⟨hst, ht_18⟩ := hp
              obtain ⟨r_19, rfl⟩ : ∃ z, z = r := ⟨_, rfl⟩
              refine lv_icmp_le (tgt := 66) hx hb dX8_gap_60 (by decide) (fun c60 => ?_) (fun c60 => ?_)
              ·
                have d60 : r_17.toInt ≤ r_19.toInt := my_le c60 rfl rfl
                refine lv_iinc (v := nI (v + 1)) (lv' := [(4, .int (nI (v + 1))), (3, .int (nI ct)), (0, .ref x0), (1, .int (nI a_1)), (2, .int (nI b_2))]) hx hb dX8_gap_66 hl (k := 0) rfl (my_incN v 1 (by decide +kernel)) (by decide) rfl (fun ls hl => ?_)
                refine lv_goto (tgt := 39) hx hb dX8_gap_69 (by decide) ?_
                exact ih39  (v + 1) ct (by omega) (by first | assumption | omega | decide +kernel) (by first | assumption | omega | decide +kernel) (by first | assumption | omega | decide +kernel) (by first | assumption | omega | decide +kernel) (by first | assumption | omega | decide +kernel) (by first | exact gp_old hgp (by omega) | exact gp_new hgp (by omega)) _ _ ls hP hD hS (lv_sub hl [0, 1, 2, 3, 4] rfl)
              ·
                have d60 : r_17.toInt > r_19.toInt := my_nle c60 rfl rfl
                refine lv_iload hx hb dX8_gap_63 (lv_at hl 0 rfl) ?_
                refine lv_istore_n (lv' := [(3, .int (nI v)), (4, .int (nI v)), (0, .ref x0), (1, .int (nI a_1)), (2, .int (nI b_2))]) hx hb dX8_gap_65 rfl hl (by decide) rfl (fun ls hl => ?_)
                refine lv_iinc (v := nI (v + 1)) (lv' := [(4, .int (nI (v + 1))), (3, .int (nI v)), (0, .ref x0), (1, .int (nI a_1)), (2, .int (nI b_2))]) hx hb dX8_gap_66 hl (k := 1) rfl (my_incN v 1 (by decide +kernel)) (by decide) rfl (fun ls hl => ?_)
                refine lv_goto (tgt := 39) hx hb dX8_gap_69 (by decide) ?_
                exact ih39  (v + 1) v (by omega) (by first | assumption | omega | decide +kernel) (by first | assumption | omega | decide +kernel) (by first | assumption | omega | decide +kernel) (by first | assumption | omega | decide +kernel) (by first | assumption | omega | decide +kernel) (by first | exact gp_old hgp (by omega) | exact gp_new hgp (by omega)) _ _ ls hP hD hS (lv_sub hl [0, 1, 2, 3, 4] rfl)
        exact loop39 ((64 - 1) + 1) 1 0 (Nat.lt_succ_self _) (by first | assumption | omega | decide +kernel) (by first | assumption | omega | decide +kernel) (by first | assumption | omega | decide +kernel) (by first | assumption | omega | decide +kernel) (by first | assumption | omega | decide +kernel) (gp_0) _ _ ls hP hD hS (lv_sub hl [0, 1, 2, 3, 4] rfl)
      ·
        have d15 : z_6.toInt < (2 : Int) := my_nge c15 rfl (by decide +kernel)
        refine lv_bipush (v := (-2)) hx hb dX8_gap_18 (by decide +kernel) ?_
        have hsI_l9 : (nI a_1).toInt = ((a_1 : Nat) : Int) := nI_toInt (by omega)
        have hsN_l9 : (nI a_1).toInt.toNat = a_1 := nIt (by omega)
        have hsI_r9 : (nI b_2).toInt = ((b_2 : Nat) : Int) := nI_toInt (by omega)
        have hsN_r9 : (nI b_2).toInt.toNat = b_2 := nIt (by omega)
        exact my_retI hx hb hr hlocks hK hS (wl_k_X8_gap cI cJ cK x0 xn xl xt xo xf xs xp xq xr xc f1 f2 o1 (nI z) nf (nI fz) fn fs (nI oz) of) hP hD (Or.inr (Or.inl ⟨rfl, rfl, (by first | assumption | omega | trivial | decide +kernel), (by first | assumption | omega | trivial | decide +kernel), (by first | assumption | omega | trivial | decide +kernel), (by first | assumption | omega | trivial | decide +kernel)⟩)) dX8_gap_20
    ·
      exact absurd c6 (by decide +kernel)
  ·
    refine lv_if_ne (tgt := 11) hx hb dX8_gap_6 (by decide) (fun c6 => ?_) (fun c6 => ?_)
    ·
      exact absurd c6 (by decide +kernel)
    ·
      refine lv_iconst (v := (-1)) hx hb dX8_gap_9 (by decide +kernel) ?_
      exact my_retI hx hb hr hlocks hK hS (wl_k_X8_gap cI cJ cK x0 xn xl xt xo xf xs xp xq xr xc f1 f2 o1 (nI z) nf (nI fz) fn fs (nI oz) of) hP hD (Or.inl ⟨rfl, rfl, (by first | assumption | omega | trivial | decide +kernel)⟩) dX8_gap_10
abbrev wl_k_X8_narrow (cI cJ cK : ClassId) (x0 : Nat) (xn : Nat) (xl : Nat) (xt : Nat) (xo : Nat) (xf : Nat) (xs : Nat) (xp : Nat) (xq : Nat) (xr : Nat) (xc : Nat) (o1 : Nat) (v0_ : Int32) (v1_ : Nat → Int32) (v2_ : Int32) (v3_ : Nat → Int64) : va_W := [(x0, .inr (8, [.ref xn, .int v0_, .ref xl, .ref xt, .ref xo, .ref xf, .ref xs, .ref xp, .ref xq, .ref xr, .ref xc])), (xn, .inl (cI, 64, .inl v1_)), (xo, .inr (7, [.ref o1, .int v2_])), (o1, .inl (cJ, 64, .inr (.inl v3_)))]
set_option maxHeartbeats 4000000 in
set_option maxRecDepth 100000 in
theorem k_X8_narrow (l : Launch) (D : va_G) (cI cJ cK : ClassId) (x0 : Nat) (xn : Nat) (xl : Nat) (xt : Nat) (xo : Nat) (xf : Nat) (xs : Nat) (xp : Nat) (xq : Nat) (xr : Nat) (xc : Nat) (o1 : Nat) (z : Nat) (nf : Nat → Int32) (oz : Nat) (of : Nat → Int64) (v9 : Int32) (m9 : Int32) (hz_z : z ≤ 64) (hR_nf : RB 0 255 nf) (hz_oz : oz ≤ 64) : ctI l yX8_narrow wsX8_narrow ({ frames := 2, cells := 0, slots := 0, locals := 120 } : Room) D (tyIJ cI cJ cK) [.ref x0, .int v9, .int m9] (wl_k_X8_narrow cI cJ cK x0 xn xl xt xo xf xs xp xq xr xc o1 (nI z) nf (nI oz) of) (fun (r : Int32) (u : va_W) => (u = (wl_k_X8_narrow cI cJ cK x0 xn xl xt xo xf xs xp xq xr xc o1 (nI z) nf (nI oz) of) ∧ r = (-1) ∧ (v9.toInt < 0 ∨ 255 < v9.toInt ∨ m9.toInt < 1 ∨ 64 < m9.toInt)) ∨ (u = (wl_k_X8_narrow cI cJ cK x0 xn xl xt xo xf xs xp xq xr xc o1 (nI z) nf (nI oz) of) ∧ r = (-2) ∧ 0 ≤ v9.toInt ∧ v9.toInt ≤ 255 ∧ 1 ≤ m9.toInt ∧ m9.toInt ≤ 64 ∧ nrN nf v9.toInt.toNat m9.toInt.toNat z) ∨ (∃ (oz' : Nat) (of' : Nat → Int64), u = (wl_k_X8_narrow cI cJ cK x0 xn xl xt xo xf xs xp xq xr xc o1 (nI z) nf (nI oz') of') ∧ oz' ≤ 64 ∧ 0 ≤ v9.toInt ∧ v9.toInt ≤ 255 ∧ 1 ≤ m9.toInt ∧ m9.toInt ≤ 64 ∧ 0 ≤ r.toInt ∧ nrA nf v9.toInt.toNat m9.toInt.toNat z r ∧ oz' = 3)) := by
  refine ctI.of (cc := cX8_narrow) (maxL := 8) (ret := (some .int)) (by decide) rfl (Nat.le_of_ble_eq_true rfl) ?_
  intro p e s m below meth c ls A hx hb hr hts hown hml hlocks hname hA hK hN hP hD hS hl
  have hl : lv_has ls 8 [(0, .ref x0), (1, .int v9), (2, .int m9)] := hl
  have hown : s.vm.findClass RX8 = some m.cls := hown
  have hi8 : ∀ w ∈ u_ws RX8 TX8 11, w ∈ wsX8_narrow := by decide +kernel
  have fl13 := hts (.fieldLink RX8 13 "PlaneColumn" "size" "I") (by decide +kernel)
  have fl34 := hts (.fieldLink RX8 34 "PlaneColumn" "told" "LPlaneColumn$Told;") (by decide +kernel)
  refine lv_iload_n hx hb dX8_narrow_0 rfl (lv_at hl 1 rfl) ?_
  refine my_gpI (my_pS (As := [.int v9]) (rest := []) ⟨hx, hb, hml, hown, hts⟩ (va_cwS 1 hts gX8_narrow_X8_isNumber rfl rfl rfl (by decide +kernel) ⟨Nat.le_of_ble_eq_true rfl, Nat.le_of_ble_eq_true rfl⟩) hN hK hP [] rfl rfl hl.1 rfl (Nat.le_of_ble_eq_true rfl) dX8_narrow_1 ⟨Nat.le_of_ble_eq_true rfl, Nat.le_of_ble_eq_true rfl⟩  (k_X8_isNumber l D cI cJ cK v9)) (fun r hp => ?_)
  rcases hp with ⟨k_1, rfl, rfl, ha_2⟩ | ⟨rfl, ho_3⟩
  ·
    refine lv_if_eq (tgt := 14) hx hb dX8_narrow_4 (by decide) (fun c4 => ?_) (fun c4 => ?_)
    ·
      exact absurd c4 (by decide +kernel)
    ·
      refine lv_iload_n hx hb dX8_narrow_7 rfl (lv_at hl 2 rfl) ?_
      refine my_gpI (my_pS (As := [.int m9]) (rest := []) ⟨hx, hb, hml, hown, hts⟩ (va_cwS 1 hts gX8_narrow_X8_isTimes rfl rfl rfl (by decide +kernel) ⟨Nat.le_of_ble_eq_true rfl, Nat.le_of_ble_eq_true rfl⟩) hN hK hP [] rfl rfl hl.1 rfl (Nat.le_of_ble_eq_true rfl) dX8_narrow_8 ⟨Nat.le_of_ble_eq_true rfl, Nat.le_of_ble_eq_true rfl⟩  (k_X8_isTimes l D cI cJ cK m9)) (fun r hp => ?_)
      rcases hp with ⟨k_4, rfl, rfl, ha_5, hb_6⟩ | ⟨rfl, ho_7⟩
      ·
        refine lv_if_ne (tgt := 16) hx hb dX8_narrow_11 (by decide) (fun c11 => ?_) (fun c11 => ?_)
        ·
          refine lv_bipush (v := 65) hx hb dX8_narrow_16 (by decide +kernel) ?_
          refine lv_istore_n (lv' := [(3, .int 65), (0, .ref x0), (1, .int (nI k_1)), (2, .int (nI k_4))]) hx hb dX8_narrow_18 rfl hl (by decide) rfl (fun ls hl => ?_)
          refine lv_iconst (v := 0) hx hb dX8_narrow_19 (by decide +kernel) ?_
          refine lv_istore (lv' := [(4, .int 0), (3, .int 65), (0, .ref x0), (1, .int (nI k_1)), (2, .int (nI k_4))]) hx hb dX8_narrow_20 hl (by decide) rfl (fun ls hl => ?_)
          refine lv_iconst (v := 0) hx hb dX8_narrow_22 (by decide +kernel) ?_
          refine lv_istore (lv' := [(5, .int 0), (4, .int 0), (3, .int 65), (0, .ref x0), (1, .int (nI k_1)), (2, .int (nI k_4))]) hx hb dX8_narrow_23 hl (by decide) rfl (fun ls hl => ?_)
          refine lv_iconst (v := 0) hx hb dX8_narrow_25 (by decide +kernel) ?_
          refine lv_istore (lv' := [(6, .int 0), (5, .int 0), (4, .int 0), (3, .int 65), (0, .ref x0), (1, .int (nI k_1)), (2, .int (nI k_4))]) hx hb dX8_narrow_26 hl (by decide) rfl (fun ls hl => ?_)
          have loop28 : ∀ (n9 : Nat) (k : Nat) (sp : Nat) (y4_28 : Int32) (s0 : Nat), 64 - k < n9 → (s0 ≤ 65) → (sp ≤ 64) → (k ≤ 64) → (k ≤ z) → (sp ≤ k) → (sp = 0 → s0 = 65) → (sp ≠ 0 → s0 ≤ 64) → (nrP nf k_1 k_4 z (if sp = 0 then -1 else (s0 : Int)) k) → ∀ (H : Heap) (locs : List Loc) (ls : Array Slot), va_P D vwCl (wl_k_X8_narrow cI cJ cK x0 xn xl xt xo xf xs xp xq xr xc o1 (nI z) nf (nI oz) of) H → va_D A (wl_k_X8_narrow cI cJ cK x0 xn xl xt xo xf xs xp xq xr xc o1 (nI z) nf (nI oz) of) → va_S A s.heap H locs → lv_has ls 8 [(6, .int (nI k)), (5, .int (nI sp)), (4, .int y4_28), (3, .int (nI s0)), (0, .ref x0), (1, .int (nI k_1)), (2, .int (nI k_4))] → W p l e ({ frames := 2, cells := 0, slots := 0, locals := 120 } : Room) s m [.ref x0, .int (nI k_1), .int (nI k_4)].toArray below meth c H locs 0 0 (MQ below (va_Qi (fun (r : Int32) (u : va_W) => (u = (wl_k_X8_narrow cI cJ cK x0 xn xl xt xo xf xs xp xq xr xc o1 (nI z) nf (nI oz) of) ∧ r = (-1) ∧ ((nI k_1).toInt < 0 ∨ 255 < (nI k_1).toInt ∨ (nI k_4).toInt < 1 ∨ 64 < (nI k_4).toInt)) ∨ (u = (wl_k_X8_narrow cI cJ cK x0 xn xl xt xo xf xs xp xq xr xc o1 (nI z) nf (nI oz) of) ∧ r = (-2) ∧ 0 ≤ (nI k_1).toInt ∧ (nI k_1).toInt ≤ 255 ∧ 1 ≤ (nI k_4).toInt ∧ (nI k_4).toInt ≤ 64 ∧ nrN nf (nI k_1).toInt.toNat (nI k_4).toInt.toNat z) ∨ (∃ (oz' : Nat) (of' : Nat → Int64), u = (wl_k_X8_narrow cI cJ cK x0 xn xl xt xo xf xs xp xq xr xc o1 (nI z) nf (nI oz') of') ∧ oz' ≤ 64 ∧ 0 ≤ (nI k_1).toInt ∧ (nI k_1).toInt ≤ 255 ∧ 1 ≤ (nI k_4).toInt ∧ (nI k_4).toInt ≤ 64 ∧ 0 ≤ r.toInt ∧ nrA nf (nI k_1).toInt.toNat (nI k_4).toInt.toNat z r ∧ oz' = 3)) (my_B D (tyIJ cI cJ cK) A) A) [.ref x0, .int (nI k_1), .int (nI k_4)].toArray s 0 0 A) (F0 m 28 ls []) := by
            intro n9
            induction n9 with
            | zero =>
              intro k sp y4_28 s0 hn9
              exact absurd hn9 (Nat.not_lt_zero _)
            | succ n9 ih28 =>
              intro k sp y4_28 s0 hn9 hk_s0 hk_sp hk_k hkz hspk hs65 hsx hnr H locs ls hP hD hS hl
              refine lv_iload hx hb dX8_narrow_28 (lv_at hl 0 rfl) ?_
              refine lv_aload_n hx hb dX8_narrow_30 rfl (lv_at hl 4 rfl) ?_
              refine va_get (ci := 8) (v := .int (nI z)) (C := RX8) (T := TX8) (N := 11) hx hb hts hi8 hown hK hP 0 rfl rfl 1 (by decide) fl13 (fun _ h9 => h9) rfl dX8_narrow_31 ?_
              refine lv_icmp_ge (tgt := 87) hx hb dX8_narrow_34 (by decide) (fun c34 => ?_) (fun c34 => ?_)
              ·
                have d34 : ((k : Nat) : Int) ≥ ((z : Nat) : Int) := my_ge c34 (nI_toInt (by omega)) (nI_toInt (by omega))
                refine lv_iload hx hb dX8_narrow_87 (lv_at hl 1 rfl) ?_
                refine lv_if_ne (tgt := 95) hx hb dX8_narrow_89 (by decide) (fun c89 => ?_) (fun c89 => ?_)
                ·
                  have d89 : ((sp : Nat) : Int) ≠ (0 : Int) := my_ne c89 (nI_toInt (by omega)) (by decide +kernel)
                  refine lv_aload_n hx hb dX8_narrow_95 rfl (lv_at hl 4 rfl) ?_
                  refine lv_iload hx hb dX8_narrow_96 (lv_at hl 2 rfl) ?_
                  refine lv_i2l (v := y4_28.toInt64) hx hb dX8_narrow_98 rfl ?_
                  refine lv_iload hx hb dX8_narrow_99 (lv_at hl 2 rfl) ?_
                  refine lv_iload_n hx hb dX8_narrow_101 rfl (lv_at hl 3 rfl) ?_
                  refine lv_iadd hx hb dX8_narrow_102 ?_
                  refine lv_topi (fun z_8 ez_8 => ?_)
                  try have tz_8 : z_8.toInt = y4_28.toInt + ((s0 : Nat) : Int) := by rw [ez_8]; exact my_addI rfl (nI_toInt (by omega)) (by omega) (by omega)
                  refine lv_i2l (v := z_8.toInt64) hx hb dX8_narrow_103 rfl ?_
                  refine my_goVS (wc := (wl_k_X8_tell_ cI cJ cK x0 xn xl xt xo xf xs xp xq xr xc o1 (nI z) (nI oz) of)) hP hD hS hA [0, 2, 3] rfl [some 0, none, some 1, some 2] (by decide +kernel) (my_cV (As := [.long y4_28.toInt64, .long z_8.toInt64]) (rest := []) (ci := 8) (wc := (wl_k_X8_tell_ cI cJ cK x0 xn xl xt xo xf xs xp xq xr xc o1 (nI z) (nI oz) of)) ⟨hx, hb, hml, hown, hts⟩ (cwV 2 hts gX8_narrow_X8_tell_ rfl rfl rfl (by decide +kernel) ⟨Nat.le_of_ble_eq_true rfl, Nat.le_of_ble_eq_true rfl⟩) hN hK hP hD [0, 2, 3] rfl (by decide) rfl 0 rfl rfl rfl rfl hl.1 rfl (Nat.le_of_ble_eq_true rfl) dX8_narrow_104 ⟨Nat.le_of_ble_eq_true rfl, Nat.le_of_ble_eq_true rfl⟩  ((k_X8_tell_ l D cI cJ cK x0 xn xl xt xo xf xs xp xq xr xc o1 z oz of y4_28.toInt64 z_8.toInt64 (by first | assumption | omega | decide +kernel) (by first | assumption | omega | decide +kernel)) _)) (fun u H locs hp hPD hS => ?_)
                  obtain ⟨of_9, rfl, hv0, hv1⟩ := hp
                  obtain ⟨hP, hD⟩ := hPD rfl
                  have hP : va_P D vwCl (wl_k_X8_narrow cI cJ cK x0 xn xl xt xo xf xs xp xq xr xc o1 (nI z) nf 2 of_9) H := hP
                  have hD : va_D A (wl_k_X8_narrow cI cJ cK x0 xn xl xt xo xf xs xp xq xr xc o1 (nI z) nf 2 of_9) := hD
                  refine lv_aload_n hx hb dX8_narrow_107 rfl (lv_at hl 4 rfl) ?_
                  refine va_get (ci := 8) (v := .ref xo) (C := RX8) (T := TX8) (N := 11) hx hb hts hi8 hown hK hP 0 rfl rfl 4 (by decide) fl34 (fun _ h9 => h9) rfl dX8_narrow_108 ?_
                  refine lv_iload hx hb dX8_narrow_111 (lv_at hl 1 rfl) ?_
                  refine lv_i2l (v := lN sp) hx hb dX8_narrow_113 (nI_l (by omega)) ?_
                  refine my_goVS (wc := (wl_kf_X7_add cI cJ cK xo o1 2 of_9)) hP hD hS hA [2, 3] rfl [none, none, some 0, some 1] (by decide +kernel) (my_cV (As := [.long (lN sp)]) (rest := []) (ci := 7) (wc := (wl_kf_X7_add cI cJ cK xo o1 2 of_9)) ⟨hx, hb, hml, hown, hts⟩ (cwV 1 hts gX8_narrow_X7_add rfl rfl rfl (by decide +kernel) ⟨Nat.le_of_ble_eq_true rfl, Nat.le_of_ble_eq_true rfl⟩) hN hK hP hD [2, 3] rfl (by decide) rfl 2 rfl rfl rfl rfl hl.1 rfl (Nat.le_of_ble_eq_true rfl) dX8_narrow_114 ⟨Nat.le_of_ble_eq_true rfl, Nat.le_of_ble_eq_true rfl⟩  ((kf_X7_add l D cI cJ cK xo o1 2 of_9 (lN sp) (by first | assumption | omega | decide +kernel) (by first | assumption | omega | decide +kernel)) _)) (fun u H locs hp hPD hS => ?_)
                  obtain ⟨of_10, rfl, hof, ht_11⟩ := hp
                  obtain ⟨hP, hD⟩ := hPD rfl
                  have hP : va_P D vwCl (wl_k_X8_narrow cI cJ cK x0 xn xl xt xo xf xs xp xq xr xc o1 (nI z) nf 3 of_10) H := hP
                  have hD : va_D A (wl_k_X8_narrow cI cJ cK x0 xn xl xt xo xf xs xp xq xr xc o1 (nI z) nf 3 of_10) := hD
                  refine lv_iload_n hx hb dX8_narrow_117 rfl (lv_at hl 3 rfl) ?_
                  have ec_12 : (nI s0).toInt = _ := nI_toInt (by omega)
                  have hsI_v9 : (nI k_1).toInt = ((k_1 : Nat) : Int) := nI_toInt (by omega)
                  have hsN_v9 : (nI k_1).toInt.toNat = k_1 := nIt (by omega)
                  have hsI_m9 : (nI k_4).toInt = ((k_4 : Nat) : Int) := nI_toInt (by omega)
                  have hsN_m9 : (nI k_4).toInt.toNat = k_4 := nIt (by omega)
                  exact my_retI hx hb hr hlocks hK hS (wl_k_X8_narrow cI cJ cK x0 xn xl xt xo xf xs xp xq xr xc o1 (nI z) nf 3 of_10) hP hD (Or.inr (Or.inr (⟨3, of_10, rfl, (by first | assumption | omega | trivial | decide +kernel), (by first | assumption | omega | trivial | decide +kernel), (by first | assumption | omega | trivial | decide +kernel), (by first | assumption | omega | trivial | decide +kernel), (by first | assumption | omega | trivial | decide +kernel), (by first | assumption | omega | trivial | decide +kernel), (by rw [hsN_v9, hsN_m9]; rw [if_neg (by omega)] at hnr; exact nr_yes hnr (by omega) (by omega) (nI_toInt (by omega))), (by first | assumption | omega | trivial | decide +kernel)⟩))) dX8_narrow_118
                ·
                  have d89 : ((sp : Nat) : Int) = (0 : Int) := my_eq c89 (nI_toInt (by omega)) (by decide +kernel)
                  refine lv_bipush (v := (-2)) hx hb dX8_narrow_92 (by decide +kernel) ?_
                  have ec_13 : ((-2) : Int32).toInt = -2 := by decide +kernel
                  have hsI_v9 : (nI k_1).toInt = ((k_1 : Nat) : Int) := nI_toInt (by omega)
                  have hsN_v9 : (nI k_1).toInt.toNat = k_1 := nIt (by omega)
                  have hsI_m9 : (nI k_4).toInt = ((k_4 : Nat) : Int) := nI_toInt (by omega)
                  have hsN_m9 : (nI k_4).toInt.toNat = k_4 := nIt (by omega)
                  exact my_retI hx hb hr hlocks hK hS (wl_k_X8_narrow cI cJ cK x0 xn xl xt xo xf xs xp xq xr xc o1 (nI z) nf (nI oz) of) hP hD (Or.inr (Or.inl ⟨rfl, rfl, (by first | assumption | omega | trivial | decide +kernel), (by first | assumption | omega | trivial | decide +kernel), (by first | assumption | omega | trivial | decide +kernel), (by first | assumption | omega | trivial | decide +kernel), (by rw [hsN_v9, hsN_m9]; rw [if_pos (by omega)] at hnr; exact nr_no hnr (by omega) (by decide))⟩)) dX8_narrow_94
              ·
                have d34 : ((k : Nat) : Int) < ((z : Nat) : Int) := my_nge c34 (nI_toInt (by omega)) (nI_toInt (by omega))
                refine lv_aload_n hx hb dX8_narrow_37 rfl (lv_at hl 4 rfl) ?_
                refine lv_iload_n hx hb dX8_narrow_38 rfl (lv_at hl 5 rfl) ?_
                refine lv_iload_n hx hb dX8_narrow_39 rfl (lv_at hl 6 rfl) ?_
                refine lv_iload hx hb dX8_narrow_40 (lv_at hl 0 rfl) ?_
                refine my_gpI (my_pV (As := [.int (nI k_1), .int (nI k_4), .int (nI k)]) (rest := []) (ci := 8) ⟨hx, hb, hml, hown, hts⟩ (cwV 3 hts gX8_narrow_X8_lengthWith rfl rfl rfl (by decide +kernel) ⟨Nat.le_of_ble_eq_true rfl, Nat.le_of_ble_eq_true rfl⟩) hN hK hP [0, 1] rfl 0 rfl rfl rfl rfl hl.1 rfl (Nat.le_of_ble_eq_true rfl) dX8_narrow_42 ⟨Nat.le_of_ble_eq_true rfl, Nat.le_of_ble_eq_true rfl⟩  (kf_X8_lengthWith l D cI cJ cK x0 xn xl xt xo xf xs xp xq xr xc z nf k_1 k_4 k (by first | assumption | omega | decide +kernel) hR_nf (by first | assumption | omega | decide +kernel) (by first | assumption | omega | decide +kernel) (by first | assumption | omega | decide +kernel) (by first | assumption | omega | decide +kernel))) (fun r hp => ?_)
                rcases hp with ⟨rfl, hln, ht_14⟩ | ⟨q_15, rfl, hlq, ha_16, hb_17⟩
                ·
                  refine lv_istore (lv' := [(7, .int (-1)), (6, .int (nI k)), (5, .int (nI sp)), (4, .int y4_28), (3, .int (nI s0)), (0, .ref x0), (1, .int (nI k_1)), (2, .int (nI k_4))]) hx hb dX8_narrow_45 hl (by decide) rfl (fun ls hl => ?_)
                  refine lv_iload hx hb dX8_narrow_47 (lv_at hl 0 rfl) ?_
                  refine lv_iconst (v := (-1)) hx hb dX8_narrow_49 (by decide +kernel) ?_
                  refine lv_icmp_eq (tgt := 72) hx hb dX8_narrow_50 (by decide) (fun c50 => ?_) (fun c50 => ?_)
                  ·
                    refine lv_iload hx hb dX8_narrow_72 (lv_at hl 0 rfl) ?_
                    refine lv_iload_n hx hb dX8_narrow_74 rfl (lv_at hl 4 rfl) ?_
                    refine lv_icmp_ne (tgt := 81) hx hb dX8_narrow_75 (by decide) (fun c75 => ?_) (fun c75 => ?_)
                    ·
                      have d75 : (-1 : Int) ≠ ((s0 : Nat) : Int) := my_ne c75 (by decide +kernel) (nI_toInt (by omega))
                      refine lv_iinc (v := nI (k + 1)) (lv' := [(6, .int (nI (k + 1))), (7, .int (-1)), (5, .int (nI sp)), (4, .int y4_28), (3, .int (nI s0)), (0, .ref x0), (1, .int (nI k_1)), (2, .int (nI k_4))]) hx hb dX8_narrow_81 hl (k := 1) rfl (my_incN k 1 (by decide +kernel)) (by decide) rfl (fun ls hl => ?_)
                      refine lv_goto (tgt := 28) hx hb dX8_narrow_84 (by decide) ?_
                      exact ih28  (k + 1) sp y4_28 s0 (by omega) (by first | assumption | omega | decide +kernel) (by first | assumption | omega | decide +kernel) (by first | assumption | omega | decide +kernel) (by first | assumption | omega | decide +kernel) (by first | assumption | omega | decide +kernel) (by first | assumption | omega | decide +kernel) (by first | assumption | omega | decide +kernel) (by first | (exfalso; omega) | exact nr_skip hnr hln | (rw [if_neg (by omega)]; refine nr_less hnr hlq rfl ?_; by_cases h9 : sp = 0; (left; rw [if_pos h9]; decide); (right; rw [if_neg h9]; omega)) | (rw [if_neg (by omega)] at hnr ⊢; exact nr_more hnr hlq (by omega) (by omega)) | (rw [if_neg (by omega)] at hnr; rw [if_neg (by omega)]; exact nr_more hnr hlq (by omega) (by omega))) _ _ ls hP hD hS (lv_sub hl [0, 2, 3, 4, 5, 6, 7] rfl)
                    ·
                      have d75 : (-1 : Int) = ((s0 : Nat) : Int) := my_eq c75 (by decide +kernel) (nI_toInt (by omega))
                      refine lv_iinc (v := nI (sp + 1)) (lv' := [(5, .int (nI (sp + 1))), (7, .int (-1)), (6, .int (nI k)), (4, .int y4_28), (3, .int (nI s0)), (0, .ref x0), (1, .int (nI k_1)), (2, .int (nI k_4))]) hx hb dX8_narrow_78 hl (k := 2) rfl (my_incN sp 1 (by decide +kernel)) (by decide) rfl (fun ls hl => ?_)
                      refine lv_iinc (v := nI (k + 1)) (lv' := [(6, .int (nI (k + 1))), (5, .int (nI (sp + 1))), (7, .int (-1)), (4, .int y4_28), (3, .int (nI s0)), (0, .ref x0), (1, .int (nI k_1)), (2, .int (nI k_4))]) hx hb dX8_narrow_81 hl (k := 2) rfl (my_incN k 1 (by decide +kernel)) (by decide) rfl (fun ls hl => ?_)
                      refine lv_goto (tgt := 28) hx hb dX8_narrow_84 (by decide) ?_
                      exact ih28  (k + 1) (sp + 1) y4_28 s0 (by omega) (by first | assumption | omega | decide +kernel) (by first | assumption | omega | decide +kernel) (by first | assumption | omega | decide +kernel) (by first | assumption | omega | decide +kernel) (by first | assumption | omega | decide +kernel) (by first | assumption | omega | decide +kernel) (by first | assumption | omega | decide +kernel) (by first | (exfalso; omega) | exact nr_skip hnr hln | (rw [if_neg (by omega)]; refine nr_less hnr hlq rfl ?_; by_cases h9 : sp = 0; (left; rw [if_pos h9]; decide); (right; rw [if_neg h9]; omega)) | (rw [if_neg (by omega)] at hnr ⊢; exact nr_more hnr hlq (by omega) (by omega)) | (rw [if_neg (by omega)] at hnr; rw [if_neg (by omega)]; exact nr_more hnr hlq (by omega) (by omega))) _ _ ls hP hD hS (lv_sub hl [0, 1, 3, 4, 5, 6, 7] rfl)
                  ·
                    exact absurd c50 (by decide +kernel)
                ·
                  refine lv_istore (lv' := [(7, .int (nI q_15)), (6, .int (nI k)), (5, .int (nI sp)), (4, .int y4_28), (3, .int (nI s0)), (0, .ref x0), (1, .int (nI k_1)), (2, .int (nI k_4))]) hx hb dX8_narrow_45 hl (by decide) rfl (fun ls hl => ?_)
                  refine lv_iload hx hb dX8_narrow_47 (lv_at hl 0 rfl) ?_
                  refine lv_iconst (v := (-1)) hx hb dX8_narrow_49 (by decide +kernel) ?_
                  refine lv_icmp_eq (tgt := 72) hx hb dX8_narrow_50 (by decide) (fun c50 => ?_) (fun c50 => ?_)
                  ·
                    have d50 : ((q_15 : Nat) : Int) = (-1 : Int) := my_eq c50 (nI_toInt (by omega)) (by decide +kernel)
                    refine lv_iload hx hb dX8_narrow_72 (lv_at hl 0 rfl) ?_
                    refine lv_iload_n hx hb dX8_narrow_74 rfl (lv_at hl 4 rfl) ?_
                    refine lv_icmp_ne (tgt := 81) hx hb dX8_narrow_75 (by decide) (fun c75 => ?_) (fun c75 => ?_)
                    ·
                      have d75 : ((q_15 : Nat) : Int) ≠ ((s0 : Nat) : Int) := my_ne c75 (nI_toInt (by omega)) (nI_toInt (by omega))
                      refine lv_iinc (v := nI (k + 1)) (lv' := [(6, .int (nI (k + 1))), (7, .int (nI q_15)), (5, .int (nI sp)), (4, .int y4_28), (3, .int (nI s0)), (0, .ref x0), (1, .int (nI k_1)), (2, .int (nI k_4))]) hx hb dX8_narrow_81 hl (k := 1) rfl (my_incN k 1 (by decide +kernel)) (by decide) rfl (fun ls hl => ?_)
                      refine lv_goto (tgt := 28) hx hb dX8_narrow_84 (by decide) ?_
                      exact ih28  (k + 1) sp y4_28 s0 (by omega) (by first | assumption | omega | decide +kernel) (by first | assumption | omega | decide +kernel) (by first | assumption | omega | decide +kernel) (by first | assumption | omega | decide +kernel) (by first | assumption | omega | decide +kernel) (by first | assumption | omega | decide +kernel) (by first | assumption | omega | decide +kernel) (by first | (exfalso; omega) | exact nr_skip hnr hln | (rw [if_neg (by omega)]; refine nr_less hnr hlq rfl ?_; by_cases h9 : sp = 0; (left; rw [if_pos h9]; decide); (right; rw [if_neg h9]; omega)) | (rw [if_neg (by omega)] at hnr ⊢; exact nr_more hnr hlq (by omega) (by omega)) | (rw [if_neg (by omega)] at hnr; rw [if_neg (by omega)]; exact nr_more hnr hlq (by omega) (by omega))) _ _ ls hP hD hS (lv_sub hl [0, 2, 3, 4, 5, 6, 7] rfl)
                    ·
                      have d75 : ((q_15 : Nat) : Int) = ((s0 : Nat) : Int) := my_eq c75 (nI_toInt (by omega)) (nI_toInt (by omega))
                      refine lv_iinc (v := nI (sp + 1)) (lv' := [(5, .int (nI (sp + 1))), (7, .int (nI q_15)), (6, .int (nI k)), (4, .int y4_28), (3, .int (nI s0)), (0, .ref x0), (1, .int (nI k_1)), (2, .int (nI k_4))]) hx hb dX8_narrow_78 hl (k := 2) rfl (my_incN sp 1 (by decide +kernel)) (by decide) rfl (fun ls hl => ?_)
                      refine lv_iinc (v := nI (k + 1)) (lv' := [(6, .int (nI (k + 1))), (5, .int (nI (sp + 1))), (7, .int (nI q_15)), (4, .int y4_28), (3, .int (nI s0)), (0, .ref x0), (1, .int (nI k_1)), (2, .int (nI k_4))]) hx hb dX8_narrow_81 hl (k := 2) rfl (my_incN k 1 (by decide +kernel)) (by decide) rfl (fun ls hl => ?_)
                      refine lv_goto (tgt := 28) hx hb dX8_narrow_84 (by decide) ?_
                      exact ih28  (k + 1) (sp + 1) y4_28 s0 (by omega) (by first | assumption | omega | decide +kernel) (by first | assumption | omega | decide +kernel) (by first | assumption | omega | decide +kernel) (by first | assumption | omega | decide +kernel) (by first | assumption | omega | decide +kernel) (by first | assumption | omega | decide +kernel) (by first | assumption | omega | decide +kernel) (by first | (exfalso; omega) | exact nr_skip hnr hln | (rw [if_neg (by omega)]; refine nr_less hnr hlq rfl ?_; by_cases h9 : sp = 0; (left; rw [if_pos h9]; decide); (right; rw [if_neg h9]; omega)) | (rw [if_neg (by omega)] at hnr ⊢; exact nr_more hnr hlq (by omega) (by omega)) | (rw [if_neg (by omega)] at hnr; rw [if_neg (by omega)]; exact nr_more hnr hlq (by omega) (by omega))) _ _ ls hP hD hS (lv_sub hl [0, 1, 3, 4, 5, 6, 7] rfl)
                  ·
                    have d50 : ((q_15 : Nat) : Int) ≠ (-1 : Int) := my_ne c50 (nI_toInt (by omega)) (by decide +kernel)
                    refine lv_iload hx hb dX8_narrow_53 (lv_at hl 0 rfl) ?_
                    refine lv_iload_n hx hb dX8_narrow_55 rfl (lv_at hl 4 rfl) ?_
                    refine lv_icmp_ge (tgt := 72) hx hb dX8_narrow_56 (by decide) (fun c56 => ?_) (fun c56 => ?_)
                    ·
                      have d56 : ((q_15 : Nat) : Int) ≥ ((s0 : Nat) : Int) := my_ge c56 (nI_toInt (by omega)) (nI_toInt (by omega))
                      refine lv_iload hx hb dX8_narrow_72 (lv_at hl 0 rfl) ?_
                      refine lv_iload_n hx hb dX8_narrow_74 rfl (lv_at hl 4 rfl) ?_
                      refine lv_icmp_ne (tgt := 81) hx hb dX8_narrow_75 (by decide) (fun c75 => ?_) (fun c75 => ?_)
                      ·
                        have d75 : ((q_15 : Nat) : Int) ≠ ((s0 : Nat) : Int) := my_ne c75 (nI_toInt (by omega)) (nI_toInt (by omega))
                        refine lv_iinc (v := nI (k + 1)) (lv' := [(6, .int (nI (k + 1))), (7, .int (nI q_15)), (5, .int (nI sp)), (4, .int y4_28), (3, .int (nI s0)), (0, .ref x0), (1, .int (nI k_1)), (2, .int (nI k_4))]) hx hb dX8_narrow_81 hl (k := 1) rfl (my_incN k 1 (by decide +kernel)) (by decide) rfl (fun ls hl => ?_)
                        refine lv_goto (tgt := 28) hx hb dX8_narrow_84 (by decide) ?_
                        exact ih28  (k + 1) sp y4_28 s0 (by omega) (by first | assumption | omega | decide +kernel) (by first | assumption | omega | decide +kernel) (by first | assumption | omega | decide +kernel) (by first | assumption | omega | decide +kernel) (by first | assumption | omega | decide +kernel) (by first | assumption | omega | decide +kernel) (by first | assumption | omega | decide +kernel) (by first | (exfalso; omega) | exact nr_skip hnr hln | (rw [if_neg (by omega)]; refine nr_less hnr hlq rfl ?_; by_cases h9 : sp = 0; (left; rw [if_pos h9]; decide); (right; rw [if_neg h9]; omega)) | (rw [if_neg (by omega)] at hnr ⊢; exact nr_more hnr hlq (by omega) (by omega)) | (rw [if_neg (by omega)] at hnr; rw [if_neg (by omega)]; exact nr_more hnr hlq (by omega) (by omega))) _ _ ls hP hD hS (lv_sub hl [0, 2, 3, 4, 5, 6, 7] rfl)
                      ·
                        have d75 : ((q_15 : Nat) : Int) = ((s0 : Nat) : Int) := my_eq c75 (nI_toInt (by omega)) (nI_toInt (by omega))
                        refine lv_iinc (v := nI (sp + 1)) (lv' := [(5, .int (nI (sp + 1))), (7, .int (nI q_15)), (6, .int (nI k)), (4, .int y4_28), (3, .int (nI s0)), (0, .ref x0), (1, .int (nI k_1)), (2, .int (nI k_4))]) hx hb dX8_narrow_78 hl (k := 2) rfl (my_incN sp 1 (by decide +kernel)) (by decide) rfl (fun ls hl => ?_)
                        refine lv_iinc (v := nI (k + 1)) (lv' := [(6, .int (nI (k + 1))), (5, .int (nI (sp + 1))), (7, .int (nI q_15)), (4, .int y4_28), (3, .int (nI s0)), (0, .ref x0), (1, .int (nI k_1)), (2, .int (nI k_4))]) hx hb dX8_narrow_81 hl (k := 2) rfl (my_incN k 1 (by decide +kernel)) (by decide) rfl (fun ls hl => ?_)
                        refine lv_goto (tgt := 28) hx hb dX8_narrow_84 (by decide) ?_
                        exact ih28  (k + 1) (sp + 1) y4_28 s0 (by omega) (by first | assumption | omega | decide +kernel) (by first | assumption | omega | decide +kernel) (by first | assumption | omega | decide +kernel) (by first | assumption | omega | decide +kernel) (by first | assumption | omega | decide +kernel) (by first | assumption | omega | decide +kernel) (by first | assumption | omega | decide +kernel) (by first | (exfalso; omega) | exact nr_skip hnr hln | (rw [if_neg (by omega)]; refine nr_less hnr hlq rfl ?_; by_cases h9 : sp = 0; (left; rw [if_pos h9]; decide); (right; rw [if_neg h9]; omega)) | (rw [if_neg (by omega)] at hnr ⊢; exact nr_more hnr hlq (by omega) (by omega)) | (rw [if_neg (by omega)] at hnr; rw [if_neg (by omega)]; exact nr_more hnr hlq (by omega) (by omega))) _ _ ls hP hD hS (lv_sub hl [0, 1, 3, 4, 5, 6, 7] rfl)
                    ·
                      have d56 : ((q_15 : Nat) : Int) < ((s0 : Nat) : Int) := my_nge c56 (nI_toInt (by omega)) (nI_toInt (by omega))
                      refine lv_iload hx hb dX8_narrow_59 (lv_at hl 0 rfl) ?_
                      refine lv_istore_n (lv' := [(3, .int (nI q_15)), (7, .int (nI q_15)), (6, .int (nI k)), (5, .int (nI sp)), (4, .int y4_28), (0, .ref x0), (1, .int (nI k_1)), (2, .int (nI k_4))]) hx hb dX8_narrow_61 rfl hl (by decide) rfl (fun ls hl => ?_)
                      refine lv_iload hx hb dX8_narrow_62 (lv_at hl 2 rfl) ?_
                      refine lv_istore (lv' := [(4, .int (nI k)), (3, .int (nI q_15)), (7, .int (nI q_15)), (6, .int (nI k)), (5, .int (nI sp)), (0, .ref x0), (1, .int (nI k_1)), (2, .int (nI k_4))]) hx hb dX8_narrow_64 hl (by decide) rfl (fun ls hl => ?_)
                      refine lv_iconst (v := 1) hx hb dX8_narrow_66 (by decide +kernel) ?_
                      refine lv_istore (lv' := [(5, .int 1), (4, .int (nI k)), (3, .int (nI q_15)), (7, .int (nI q_15)), (6, .int (nI k)), (0, .ref x0), (1, .int (nI k_1)), (2, .int (nI k_4))]) hx hb dX8_narrow_67 hl (by decide) rfl (fun ls hl => ?_)
                      refine lv_goto (tgt := 81) hx hb dX8_narrow_69 (by decide) ?_
                      refine lv_iinc (v := nI (k + 1)) (lv' := [(6, .int (nI (k + 1))), (5, .int 1), (4, .int (nI k)), (3, .int (nI q_15)), (7, .int (nI q_15)), (0, .ref x0), (1, .int (nI k_1)), (2, .int (nI k_4))]) hx hb dX8_narrow_81 hl (k := 4) rfl (my_incN k 1 (by decide +kernel)) (by decide) rfl (fun ls hl => ?_)
                      refine lv_goto (tgt := 28) hx hb dX8_narrow_84 (by decide) ?_
                      have ec_18 : (nI k).toInt = _ := nI_toInt (by omega)
                      exact ih28  (k + 1) 1 (nI k) q_15 (by omega) (by first | assumption | omega | decide +kernel) (by first | assumption | omega | decide +kernel) (by first | assumption | omega | decide +kernel) (by first | assumption | omega | decide +kernel) (by first | assumption | omega | decide +kernel) (by first | assumption | omega | decide +kernel) (by first | assumption | omega | decide +kernel) (by first | (exfalso; omega) | exact nr_skip hnr hln | (rw [if_neg (by omega)]; refine nr_less hnr hlq rfl ?_; by_cases h9 : sp = 0; (left; rw [if_pos h9]; decide); (right; rw [if_neg h9]; omega)) | (rw [if_neg (by omega)] at hnr ⊢; exact nr_more hnr hlq (by omega) (by omega)) | (rw [if_neg (by omega)] at hnr; rw [if_neg (by omega)]; exact nr_more hnr hlq (by omega) (by omega))) _ _ ls hP hD hS (lv_sub hl [0, 1, 2, 3, 5, 6, 7] rfl)
          have ec_19 : (0 : Int32).toInt = 0 := by decide +kernel
          exact loop28 ((64 - 0) + 1) 0 0 (0 : Int32) 65 (Nat.lt_succ_self _) (by first | assumption | omega | decide +kernel) (by first | assumption | omega | decide +kernel) (by first | assumption | omega | decide +kernel) (by first | assumption | omega | decide +kernel) (by first | assumption | omega | decide +kernel) (by first | assumption | omega | decide +kernel) (by first | assumption | omega | decide +kernel) (nr_0 (by decide)) _ _ ls hP hD hS (lv_sub hl [0, 1, 2, 3, 4, 5, 6] rfl)
        ·
          exact absurd c11 (by decide +kernel)
      ·
        refine lv_if_ne (tgt := 16) hx hb dX8_narrow_11 (by decide) (fun c11 => ?_) (fun c11 => ?_)
        ·
          exact absurd c11 (by decide +kernel)
        ·
          refine lv_iconst (v := (-1)) hx hb dX8_narrow_14 (by decide +kernel) ?_
          have ec_20 : ((-1) : Int32).toInt = -1 := by decide +kernel
          have hsI_v9 : (nI k_1).toInt = ((k_1 : Nat) : Int) := nI_toInt (by omega)
          have hsN_v9 : (nI k_1).toInt.toNat = k_1 := nIt (by omega)
          exact my_retI hx hb hr hlocks hK hS (wl_k_X8_narrow cI cJ cK x0 xn xl xt xo xf xs xp xq xr xc o1 (nI z) nf (nI oz) of) hP hD (Or.inl ⟨rfl, rfl, (by first | assumption | omega | trivial | decide +kernel)⟩) dX8_narrow_15
  ·
    refine lv_if_eq (tgt := 14) hx hb dX8_narrow_4 (by decide) (fun c4 => ?_) (fun c4 => ?_)
    ·
      refine lv_iconst (v := (-1)) hx hb dX8_narrow_14 (by decide +kernel) ?_
      have ec_21 : ((-1) : Int32).toInt = -1 := by decide +kernel
      exact my_retI hx hb hr hlocks hK hS (wl_k_X8_narrow cI cJ cK x0 xn xl xt xo xf xs xp xq xr xc o1 (nI z) nf (nI oz) of) hP hD (Or.inl ⟨rfl, rfl, (by first | assumption | omega | trivial | decide +kernel)⟩) dX8_narrow_15
    ·
      exact absurd c4 (by decide +kernel)
abbrev wl_k_X8_lone (cI cJ cK : ClassId) (x0 : Nat) (xn : Nat) (xl : Nat) (xt : Nat) (xo : Nat) (xf : Nat) (xs : Nat) (xp : Nat) (xq : Nat) (xr : Nat) (xc : Nat) (f1 : Nat) (f2 : Nat) (o1 : Nat) (v0_ : Int32) (v1_ : Nat → Int32) (v2_ : Int32) (v3_ : Nat → Int32) (v4_ : Nat → Int32) (v5_ : Int32) (v6_ : Nat → Int64) : va_W := [(x0, .inr (8, [.ref xn, .int v0_, .ref xl, .ref xt, .ref xo, .ref xf, .ref xs, .ref xp, .ref xq, .ref xr, .ref xc])), (xn, .inl (cI, 64, .inl v1_)), (xf, .inr (6, [.ref f1, .ref f2, .int v2_])), (f1, .inl (cI, 512, .inl v3_)), (f2, .inl (cI, 64, .inl v4_)), (xo, .inr (7, [.ref o1, .int v5_])), (o1, .inl (cJ, 64, .inr (.inl v6_)))]
set_option maxHeartbeats 4000000 in
set_option maxRecDepth 100000 in
theorem k_X8_lone (l : Launch) (D : va_G) (cI cJ cK : ClassId) (x0 : Nat) (xn : Nat) (xl : Nat) (xt : Nat) (xo : Nat) (xf : Nat) (xs : Nat) (xp : Nat) (xq : Nat) (xr : Nat) (xc : Nat) (f1 : Nat) (f2 : Nat) (o1 : Nat) (z : Nat) (nf : Nat → Int32) (fz : Nat) (fn : Nat → Int32) (fs : Nat → Int32) (oz : Nat) (of : Nat → Int64) (l9 : Int32) (r9 : Int32) (hz_z : z ≤ 64) (hR_nf : RB 0 255 nf) (hz_fz : fz ≤ 64) (hz_oz : oz ≤ 64) : ctI l yX8_lone wsX8_lone ({ frames := 4, cells := 0, slots := 0, locals := 240 } : Room) D (tyIJ cI cJ cK) [.ref x0, .int l9, .int r9] (wl_k_X8_lone cI cJ cK x0 xn xl xt xo xf xs xp xq xr xc f1 f2 o1 (nI z) nf (nI fz) fn fs (nI oz) of) (fun (r : Int32) (u : va_W) => (u = (wl_k_X8_lone cI cJ cK x0 xn xl xt xo xf xs xp xq xr xc f1 f2 o1 (nI z) nf (nI fz) fn fs (nI oz) of) ∧ r = (-1) ∧ (l9.toInt < 0 ∨ r9.toInt < l9.toInt ∨ z < r9.toInt)) ∨ (∃ (t' : Nat) (fz' : Nat) (fn' : Nat → Int32) (fs' : Nat → Int32) (oz' : Nat) (of' : Nat → Int64), u = (wl_k_X8_lone cI cJ cK x0 xn xl xt xo xf xs xp xq xr xc f1 f2 o1 (nI z) nf (nI fz') fn' fs' (nI oz') of') ∧ r = nI t' ∧ fz' ≤ 64 ∧ oz' ≤ 64 ∧ 0 ≤ l9.toInt ∧ l9.toInt ≤ r9.toInt ∧ r9.toInt ≤ z ∧ t' = fb_ct (lnP (cnF nf l9.toInt.toNat r9.toInt.toNat)) 256 ∧ oz' = 2)) := by
  refine ctI.of (cc := cX8_lone) (maxL := 7) (ret := (some .int)) (by decide) rfl (Nat.le_of_ble_eq_true rfl) ?_
  intro p e s m below meth c ls A hx hb hr hts hown hml hlocks hname hA hK hN hP hD hS hl
  have hl : lv_has ls 7 [(0, .ref x0), (1, .int l9), (2, .int r9)] := hl
  have hown : s.vm.findClass RX8 = some m.cls := hown
  have hi8 : ∀ w ∈ u_ws RX8 TX8 11, w ∈ wsX8_lone := by decide +kernel
  have fl41 := hts (.fieldLink RX8 41 "PlaneColumn" "first" "LPlaneColumn$Tally;") (by decide +kernel)
  have fl9 := hts (.fieldLink RX8 9 "PlaneColumn" "numbers" "[I") (by decide +kernel)
  refine lv_aload_n hx hb dX8_lone_0 rfl (lv_at hl 0 rfl) ?_
  refine lv_iload_n hx hb dX8_lone_1 rfl (lv_at hl 1 rfl) ?_
  refine lv_iload_n hx hb dX8_lone_2 rfl (lv_at hl 2 rfl) ?_
  refine my_gpI (my_pV (As := [.int l9, .int r9]) (rest := []) (ci := 8) ⟨hx, hb, hml, hown, hts⟩ (cwV 2 hts gX8_lone_X8_isSpan rfl rfl rfl (by decide +kernel) ⟨Nat.le_of_ble_eq_true rfl, Nat.le_of_ble_eq_true rfl⟩) hN hK hP [0] rfl 0 rfl rfl rfl rfl hl.1 rfl (Nat.le_of_ble_eq_true rfl) dX8_lone_3 ⟨Nat.le_of_ble_eq_true rfl, Nat.le_of_ble_eq_true rfl⟩  (k_X8_isSpan l D cI cJ cK x0 xn xl xt xo xf xs xp xq xr xc z l9 r9 (by first | assumption | omega | decide +kernel))) (fun r hp => ?_)
  rcases hp with ⟨a_1, b_2, rfl, rfl, rfl, ha_3, hb_4⟩ | ⟨rfl, ho_5⟩
  ·
    refine lv_if_ne (tgt := 11) hx hb dX8_lone_6 (by decide) (fun c6 => ?_) (fun c6 => ?_)
    ·
      refine lv_aload_n hx hb dX8_lone_11 rfl (lv_at hl 0 rfl) ?_
      refine va_get (ci := 8) (v := .ref xf) (C := RX8) (T := TX8) (N := 11) hx hb hts hi8 hown hK hP 0 rfl rfl 5 (by decide) fl41 (fun _ h9 => h9) rfl dX8_lone_12 ?_
      refine lv_aload_n hx hb dX8_lone_15 rfl (lv_at hl 0 rfl) ?_
      refine va_get (ci := 8) (v := .ref xn) (C := RX8) (T := TX8) (N := 11) hx hb hts hi8 hown hK hP 0 rfl rfl 0 (by decide) fl9 (fun _ h9 => h9) rfl dX8_lone_16 ?_
      refine lv_iload_n hx hb dX8_lone_19 rfl (lv_at hl 1 rfl) ?_
      refine lv_iload_n hx hb dX8_lone_20 rfl (lv_at hl 2 rfl) ?_
      refine my_goVS (wc := (wl_k_X6_take cI cJ cK xf f1 f2 xn (nI fz) fn fs nf)) hP hD hS hA [2, 3, 4, 1] rfl [none, some 3, some 0, some 1, some 2] (by decide +kernel) (my_cV (As := [.ref xn, .int (nI a_1), .int (nI b_2)]) (rest := []) (ci := 6) (wc := (wl_k_X6_take cI cJ cK xf f1 f2 xn (nI fz) fn fs nf)) ⟨hx, hb, hml, hown, hts⟩ (cwV 3 hts gX8_lone_X6_take rfl rfl rfl (by decide +kernel) ⟨Nat.le_of_ble_eq_true rfl, Nat.le_of_ble_eq_true rfl⟩) hN hK hP hD [2, 3, 4, 1] rfl (by decide) rfl 2 rfl rfl rfl rfl hl.1 rfl (Nat.le_of_ble_eq_true rfl) dX8_lone_21 ⟨Nat.le_of_ble_eq_true rfl, Nat.le_of_ble_eq_true rfl⟩  ((k_X6_take l D cI cJ cK xf f1 f2 xn fz fn fs nf a_1 b_2 (by first | assumption | omega | decide +kernel) hR_nf (by first | assumption | omega | decide +kernel) (by first | assumption | omega | decide +kernel)) _)) (fun u H locs hp hPD hS => ?_)
      obtain ⟨fz_6, fn_7, fs_8, rfl, hhz_fz_9, hnd, hn8, hfz, hsv⟩ := hp
      obtain ⟨hP, hD⟩ := hPD rfl
      have hP : va_P D vwCl (wl_k_X8_lone cI cJ cK x0 xn xl xt xo xf xs xp xq xr xc f1 f2 o1 (nI z) nf (nI fz_6) fn_7 fs_8 (nI oz) of) H := hP
      have hD : va_D A (wl_k_X8_lone cI cJ cK x0 xn xl xt xo xf xs xp xq xr xc f1 f2 o1 (nI z) nf (nI fz_6) fn_7 fs_8 (nI oz) of) := hD
      refine lv_iconst (v := 0) hx hb dX8_lone_24 (by decide +kernel) ?_
      refine lv_istore_n (lv' := [(3, .int 0), (0, .ref x0), (1, .int (nI a_1)), (2, .int (nI b_2))]) hx hb dX8_lone_25 rfl hl (by decide) rfl (fun ls hl => ?_)
      refine lv_iconst (v := (-1)) hx hb dX8_lone_26 (by decide +kernel) ?_
      refine lv_istore (lv' := [(4, .int (-1)), (3, .int 0), (0, .ref x0), (1, .int (nI a_1)), (2, .int (nI b_2))]) hx hb dX8_lone_27 hl (by decide) rfl (fun ls hl => ?_)
      refine lv_iconst (v := (-1)) hx hb dX8_lone_29 (by decide +kernel) ?_
      refine lv_istore (lv' := [(5, .int (-1)), (4, .int (-1)), (3, .int 0), (0, .ref x0), (1, .int (nI a_1)), (2, .int (nI b_2))]) hx hb dX8_lone_30 hl (by decide) rfl (fun ls hl => ?_)
      refine lv_iconst (v := 0) hx hb dX8_lone_32 (by decide +kernel) ?_
      refine lv_istore (lv' := [(6, .int 0), (5, .int (-1)), (4, .int (-1)), (3, .int 0), (0, .ref x0), (1, .int (nI a_1)), (2, .int (nI b_2))]) hx hb dX8_lone_33 hl (by decide) rfl (fun ls hl => ?_)
      have loop35 : ∀ (n9 : Nat) (v : Nat) (y5_35 : Int32) (y4_35 : Int32) (t : Nat), 256 - v < n9 → (t ≤ 256) → (v ≤ 256) → (t ≤ v) → (t = fb_ct (lnP (cnF nf a_1 b_2)) v) → ∀ (H : Heap) (locs : List Loc) (ls : Array Slot), va_P D vwCl (wl_k_X8_lone cI cJ cK x0 xn xl xt xo xf xs xp xq xr xc f1 f2 o1 (nI z) nf (nI fz_6) fn_7 fs_8 (nI oz) of) H → va_D A (wl_k_X8_lone cI cJ cK x0 xn xl xt xo xf xs xp xq xr xc f1 f2 o1 (nI z) nf (nI fz_6) fn_7 fs_8 (nI oz) of) → va_S A s.heap H locs → lv_has ls 7 [(6, .int (nI v)), (5, .int y5_35), (4, .int y4_35), (3, .int (nI t)), (0, .ref x0), (1, .int (nI a_1)), (2, .int (nI b_2))] → W p l e ({ frames := 4, cells := 0, slots := 0, locals := 240 } : Room) s m [.ref x0, .int (nI a_1), .int (nI b_2)].toArray below meth c H locs 0 0 (MQ below (va_Qi (fun (r : Int32) (u : va_W) => (u = (wl_k_X8_lone cI cJ cK x0 xn xl xt xo xf xs xp xq xr xc f1 f2 o1 (nI z) nf (nI fz) fn fs (nI oz) of) ∧ r = (-1) ∧ ((nI a_1).toInt < 0 ∨ (nI b_2).toInt < (nI a_1).toInt ∨ z < (nI b_2).toInt)) ∨ (∃ (t' : Nat) (fz' : Nat) (fn' : Nat → Int32) (fs' : Nat → Int32) (oz' : Nat) (of' : Nat → Int64), u = (wl_k_X8_lone cI cJ cK x0 xn xl xt xo xf xs xp xq xr xc f1 f2 o1 (nI z) nf (nI fz') fn' fs' (nI oz') of') ∧ r = nI t' ∧ fz' ≤ 64 ∧ oz' ≤ 64 ∧ 0 ≤ (nI a_1).toInt ∧ (nI a_1).toInt ≤ (nI b_2).toInt ∧ (nI b_2).toInt ≤ z ∧ t' = fb_ct (lnP (cnF nf (nI a_1).toInt.toNat (nI b_2).toInt.toNat)) 256 ∧ oz' = 2)) (my_B D (tyIJ cI cJ cK) A) A) [.ref x0, .int (nI a_1), .int (nI b_2)].toArray s 0 0 A) (F0 m 35 ls []) := by
        intro n9
        induction n9 with
        | zero =>
          intro v y5_35 y4_35 t hn9
          exact absurd hn9 (Nat.not_lt_zero _)
        | succ n9 ih35 =>
          intro v y5_35 y4_35 t hn9 hk_t hk_v htv ht H locs ls hP hD hS hl
          refine lv_iload hx hb dX8_lone_35 (lv_at hl 0 rfl) ?_
          refine lv_sipush (v := 255) hx hb dX8_lone_37 (by decide +kernel) ?_
          refine lv_icmp_gt (tgt := 84) hx hb dX8_lone_40 (by decide) (fun c40 => ?_) (fun c40 => ?_)
          ·
            have d40 : ((v : Nat) : Int) > (255 : Int) := my_gt c40 (nI_toInt (by omega)) (by decide +kernel)
            refine lv_aload_n hx hb dX8_lone_84 rfl (lv_at hl 4 rfl) ?_
            refine lv_iload hx hb dX8_lone_85 (lv_at hl 2 rfl) ?_
            refine lv_i2l (v := y4_35.toInt64) hx hb dX8_lone_87 rfl ?_
            refine lv_iload hx hb dX8_lone_88 (lv_at hl 1 rfl) ?_
            refine lv_i2l (v := y5_35.toInt64) hx hb dX8_lone_90 rfl ?_
            refine my_goVS (wc := (wl_k_X8_tell_ cI cJ cK x0 xn xl xt xo xf xs xp xq xr xc o1 (nI z) (nI oz) of)) hP hD hS hA [0, 5, 6] rfl [some 0, none, none, none, none, some 1, some 2] (by decide +kernel) (my_cV (As := [.long y4_35.toInt64, .long y5_35.toInt64]) (rest := []) (ci := 8) (wc := (wl_k_X8_tell_ cI cJ cK x0 xn xl xt xo xf xs xp xq xr xc o1 (nI z) (nI oz) of)) ⟨hx, hb, hml, hown, hts⟩ (cwV 2 hts gX8_lone_X8_tell_ rfl rfl rfl (by decide +kernel) ⟨Nat.le_of_ble_eq_true rfl, Nat.le_of_ble_eq_true rfl⟩) hN hK hP hD [0, 5, 6] rfl (by decide) rfl 0 rfl rfl rfl rfl hl.1 rfl (Nat.le_of_ble_eq_true rfl) dX8_lone_91 ⟨Nat.le_of_ble_eq_true rfl, Nat.le_of_ble_eq_true rfl⟩  ((k_X8_tell_ l D cI cJ cK x0 xn xl xt xo xf xs xp xq xr xc o1 z oz of y4_35.toInt64 y5_35.toInt64 (by first | assumption | omega | decide +kernel) (by first | assumption | omega | decide +kernel)) _)) (fun u H locs hp hPD hS => ?_)
            obtain ⟨of_10, rfl, hv0, hv1⟩ := hp
            obtain ⟨hP, hD⟩ := hPD rfl
            have hP : va_P D vwCl (wl_k_X8_lone cI cJ cK x0 xn xl xt xo xf xs xp xq xr xc f1 f2 o1 (nI z) nf (nI fz_6) fn_7 fs_8 2 of_10) H := hP
            have hD : va_D A (wl_k_X8_lone cI cJ cK x0 xn xl xt xo xf xs xp xq xr xc f1 f2 o1 (nI z) nf (nI fz_6) fn_7 fs_8 2 of_10) := hD
            refine lv_iload_n hx hb dX8_lone_94 rfl (lv_at hl 3 rfl) ?_
            have hsI_l9 : (nI a_1).toInt = ((a_1 : Nat) : Int) := nI_toInt (by omega)
            have hsN_l9 : (nI a_1).toInt.toNat = a_1 := nIt (by omega)
            have hsI_r9 : (nI b_2).toInt = ((b_2 : Nat) : Int) := nI_toInt (by omega)
            have hsN_r9 : (nI b_2).toInt.toNat = b_2 := nIt (by omega)
            exact my_retI hx hb hr hlocks hK hS (wl_k_X8_lone cI cJ cK x0 xn xl xt xo xf xs xp xq xr xc f1 f2 o1 (nI z) nf (nI fz_6) fn_7 fs_8 2 of_10) hP hD (Or.inr (⟨t, fz_6, fn_7, fs_8, 2, of_10, rfl, rfl, (by first | assumption | omega | trivial | decide +kernel), (by first | assumption | omega | trivial | decide +kernel), (by first | assumption | omega | trivial | decide +kernel), (by first | assumption | omega | trivial | decide +kernel), (by first | assumption | omega | trivial | decide +kernel), (by rw [hsN_l9, hsN_r9, ht, show v = 256 from (by omega)]), (by first | assumption | omega | trivial | decide +kernel)⟩)) dX8_lone_95
          ·
            have d40 : ((v : Nat) : Int) ≤ (255 : Int) := my_ngt c40 (nI_toInt (by omega)) (by decide +kernel)
            refine lv_aload_n hx hb dX8_lone_43 rfl (lv_at hl 4 rfl) ?_
            refine va_get (ci := 8) (v := .ref xf) (C := RX8) (T := TX8) (N := 11) hx hb hts hi8 hown hK hP 0 rfl rfl 5 (by decide) fl41 (fun _ h9 => h9) rfl dX8_lone_44 ?_
            refine lv_iload hx hb dX8_lone_47 (lv_at hl 0 rfl) ?_
            refine my_gpI (my_pV (As := [.int (nI v)]) (rest := []) (ci := 6) ⟨hx, hb, hml, hown, hts⟩ (cwV 1 hts gX8_lone_X6_timesOf rfl rfl rfl (by decide +kernel) ⟨Nat.le_of_ble_eq_true rfl, Nat.le_of_ble_eq_true rfl⟩) hN hK hP [2, 3] rfl 2 rfl rfl rfl rfl hl.1 rfl (Nat.le_of_ble_eq_true rfl) dX8_lone_49 ⟨Nat.le_of_ble_eq_true rfl, Nat.le_of_ble_eq_true rfl⟩  (kt_X6_timesOf l D cI cJ cK xf f1 f2 fz_6 fn_7 v (cnF nf a_1 b_2) (by first | assumption | omega | decide +kernel) (by first | assumption | omega | decide +kernel) (hn8) (cnF_64 (by omega)))) (fun r hp => ?_)
            obtain ⟨t_11, rfl, htm, hq_12⟩ := hp
            refine lv_iconst (v := 1) hx hb dX8_lone_52 (by decide +kernel) ?_
            refine lv_icmp_ne (tgt := 78) hx hb dX8_lone_53 (by decide) (fun c53 => ?_) (fun c53 => ?_)
            ·
              have d53 : ((t_11 : Nat) : Int) ≠ (1 : Int) := my_ne c53 (nI_toInt (by omega)) (by decide +kernel)
              refine lv_iinc (v := nI (v + 1)) (lv' := [(6, .int (nI (v + 1))), (5, .int y5_35), (4, .int y4_35), (3, .int (nI t)), (0, .ref x0), (1, .int (nI a_1)), (2, .int (nI b_2))]) hx hb dX8_lone_78 hl (k := 0) rfl (my_incN v 1 (by decide +kernel)) (by decide) rfl (fun ls hl => ?_)
              refine lv_goto (tgt := 35) hx hb dX8_lone_81 (by decide) ?_
              exact ih35  (v + 1) y5_35 y4_35 t (by omega) (by first | assumption | omega | decide +kernel) (by first | assumption | omega | decide +kernel) (by first | assumption | omega | decide +kernel) (by first | exact ct_yes ht (decide_eq_true (by omega)) | exact ct_no ht (decide_eq_false (by omega))) _ _ ls hP hD hS (lv_sub hl [0, 1, 2, 3, 4, 5, 6] rfl)
            ·
              have d53 : ((t_11 : Nat) : Int) = (1 : Int) := my_eq c53 (nI_toInt (by omega)) (by decide +kernel)
              refine lv_iinc (v := nI (t + 1)) (lv' := [(3, .int (nI (t + 1))), (6, .int (nI v)), (5, .int y5_35), (4, .int y4_35), (0, .ref x0), (1, .int (nI a_1)), (2, .int (nI b_2))]) hx hb dX8_lone_56 hl (k := 3) rfl (my_incN t 1 (by decide +kernel)) (by decide) rfl (fun ls hl => ?_)
              refine lv_iload hx hb dX8_lone_59 (lv_at hl 3 rfl) ?_
              refine lv_iconst (v := (-1)) hx hb dX8_lone_61 (by decide +kernel) ?_
              refine lv_icmp_ne (tgt := 70) hx hb dX8_lone_62 (by decide) (fun c62 => ?_) (fun c62 => ?_)
              ·
                have d62 : y4_35.toInt ≠ (-1 : Int) := my_ne c62 rfl (by decide +kernel)
                refine lv_iload hx hb dX8_lone_70 (lv_at hl 3 rfl) ?_
                refine lv_istore (lv' := [(4, .int y4_35), (3, .int (nI (t + 1))), (6, .int (nI v)), (5, .int y5_35), (0, .ref x0), (1, .int (nI a_1)), (2, .int (nI b_2))]) hx hb dX8_lone_72 hl (by decide) rfl (fun ls hl => ?_)
                refine lv_iload hx hb dX8_lone_74 (lv_at hl 2 rfl) ?_
                refine lv_istore (lv' := [(5, .int (nI v)), (4, .int y4_35), (3, .int (nI (t + 1))), (6, .int (nI v)), (0, .ref x0), (1, .int (nI a_1)), (2, .int (nI b_2))]) hx hb dX8_lone_76 hl (by decide) rfl (fun ls hl => ?_)
                refine lv_iinc (v := nI (v + 1)) (lv' := [(6, .int (nI (v + 1))), (5, .int (nI v)), (4, .int y4_35), (3, .int (nI (t + 1))), (0, .ref x0), (1, .int (nI a_1)), (2, .int (nI b_2))]) hx hb dX8_lone_78 hl (k := 3) rfl (my_incN v 1 (by decide +kernel)) (by decide) rfl (fun ls hl => ?_)
                refine lv_goto (tgt := 35) hx hb dX8_lone_81 (by decide) ?_
                have ec_13 : (nI v).toInt = _ := nI_toInt (by omega)
                exact ih35  (v + 1) (nI v) y4_35 (t + 1) (by omega) (by first | assumption | omega | decide +kernel) (by first | assumption | omega | decide +kernel) (by first | assumption | omega | decide +kernel) (by first | exact ct_yes ht (decide_eq_true (by omega)) | exact ct_no ht (decide_eq_false (by omega))) _ _ ls hP hD hS (lv_sub hl [0, 1, 2, 3, 4, 5, 6] rfl)
              ·
                have d62 : y4_35.toInt = (-1 : Int) := my_eq c62 rfl (by decide +kernel)
                refine lv_iload hx hb dX8_lone_65 (lv_at hl 1 rfl) ?_
                refine lv_goto (tgt := 72) hx hb dX8_lone_67 (by decide) ?_
                refine lv_istore (lv' := [(4, .int (nI v)), (3, .int (nI (t + 1))), (6, .int (nI v)), (5, .int y5_35), (0, .ref x0), (1, .int (nI a_1)), (2, .int (nI b_2))]) hx hb dX8_lone_72 hl (by decide) rfl (fun ls hl => ?_)
                refine lv_iload hx hb dX8_lone_74 (lv_at hl 2 rfl) ?_
                refine lv_istore (lv' := [(5, .int (nI v)), (4, .int (nI v)), (3, .int (nI (t + 1))), (6, .int (nI v)), (0, .ref x0), (1, .int (nI a_1)), (2, .int (nI b_2))]) hx hb dX8_lone_76 hl (by decide) rfl (fun ls hl => ?_)
                refine lv_iinc (v := nI (v + 1)) (lv' := [(6, .int (nI (v + 1))), (5, .int (nI v)), (4, .int (nI v)), (3, .int (nI (t + 1))), (0, .ref x0), (1, .int (nI a_1)), (2, .int (nI b_2))]) hx hb dX8_lone_78 hl (k := 3) rfl (my_incN v 1 (by decide +kernel)) (by decide) rfl (fun ls hl => ?_)
                refine lv_goto (tgt := 35) hx hb dX8_lone_81 (by decide) ?_
                have ec_14 : (nI v).toInt = _ := nI_toInt (by omega)
                have ec_15 : (nI v).toInt = _ := nI_toInt (by omega)
                exact ih35  (v + 1) (nI v) (nI v) (t + 1) (by omega) (by first | assumption | omega | decide +kernel) (by first | assumption | omega | decide +kernel) (by first | assumption | omega | decide +kernel) (by first | exact ct_yes ht (decide_eq_true (by omega)) | exact ct_no ht (decide_eq_false (by omega))) _ _ ls hP hD hS (lv_sub hl [0, 1, 2, 3, 4, 5, 6] rfl)
      have ec_16 : (-1 : Int32).toInt = -1 := by decide +kernel
      have ec_17 : (-1 : Int32).toInt = -1 := by decide +kernel
      exact loop35 ((256 - 0) + 1) 0 (-1 : Int32) (-1 : Int32) 0 (Nat.lt_succ_self _) (by first | assumption | omega | decide +kernel) (by first | assumption | omega | decide +kernel) (by first | assumption | omega | decide +kernel) (rfl) _ _ ls hP hD hS (lv_sub hl [0, 1, 2, 3, 4, 5, 6] rfl)
    ·
      exact absurd c6 (by decide +kernel)
  ·
    refine lv_if_ne (tgt := 11) hx hb dX8_lone_6 (by decide) (fun c6 => ?_) (fun c6 => ?_)
    ·
      exact absurd c6 (by decide +kernel)
    ·
      refine lv_iconst (v := (-1)) hx hb dX8_lone_9 (by decide +kernel) ?_
      exact my_retI hx hb hr hlocks hK hS (wl_k_X8_lone cI cJ cK x0 xn xl xt xo xf xs xp xq xr xc f1 f2 o1 (nI z) nf (nI fz) fn fs (nI oz) of) hP hD (Or.inl ⟨rfl, rfl, (by first | assumption | omega | trivial | decide +kernel)⟩) dX8_lone_10
abbrev wl_k_X8_rises (cI cJ cK : ClassId) (x0 : Nat) (xn : Nat) (xl : Nat) (xt : Nat) (xo : Nat) (xf : Nat) (xs : Nat) (xp : Nat) (xq : Nat) (xr : Nat) (xc : Nat) (c1 : Nat) (c2 : Nat) (o1 : Nat) (v0_ : Int32) (v1_ : Nat → Int32) (v2_ : Int32) (v3_ : Nat → Int32) (v4_ : Nat → Int64) (v5_ : Int32) (v6_ : Nat → Int64) : va_W := [(x0, .inr (8, [.ref xn, .int v0_, .ref xl, .ref xt, .ref xo, .ref xf, .ref xs, .ref xp, .ref xq, .ref xr, .ref xc])), (xn, .inl (cI, 64, .inl v1_)), (xc, .inr (0, [.ref c1, .ref c2, .int v2_])), (c1, .inl (cI, 64, .inl v3_)), (c2, .inl (cJ, 64, .inr (.inl v4_))), (xo, .inr (7, [.ref o1, .int v5_])), (o1, .inl (cJ, 64, .inr (.inl v6_)))]
set_option maxHeartbeats 4000000 in
set_option maxRecDepth 100000 in
theorem k_X8_rises (l : Launch) (D : va_G) (cI cJ cK : ClassId) (x0 : Nat) (xn : Nat) (xl : Nat) (xt : Nat) (xo : Nat) (xf : Nat) (xs : Nat) (xp : Nat) (xq : Nat) (xr : Nat) (xc : Nat) (c1 : Nat) (c2 : Nat) (o1 : Nat) (z : Nat) (nf : Nat → Int32) (cl : Int32) (cg : Nat → Int32) (cw : Nat → Int64) (oz : Nat) (of : Nat → Int64) (l9 : Int32) (r9 : Int32) (hz_z : z ≤ 64) (hR_nf : RB 0 255 nf) (hz_oz : oz ≤ 64) : ctI l yX8_rises wsX8_rises ({ frames := 2, cells := 0, slots := 0, locals := 120 } : Room) D (tyIJ cI cJ cK) [.ref x0, .int l9, .int r9] (wl_k_X8_rises cI cJ cK x0 xn xl xt xo xf xs xp xq xr xc c1 c2 o1 (nI z) nf cl cg cw (nI oz) of) (fun (r : Int32) (u : va_W) => (u = (wl_k_X8_rises cI cJ cK x0 xn xl xt xo xf xs xp xq xr xc c1 c2 o1 (nI z) nf cl cg cw (nI oz) of) ∧ r = (-1) ∧ (l9.toInt < 0 ∨ r9.toInt < l9.toInt ∨ z < r9.toInt)) ∨ (∃ (cl' : Int32) (cg' : Nat → Int32) (cw' : Nat → Int64) (oz' : Nat) (of' : Nat → Int64), u = (wl_k_X8_rises cI cJ cK x0 xn xl xt xo xf xs xp xq xr xc c1 c2 o1 (nI z) nf cl' cg' cw' (nI oz') of') ∧ oz' ≤ 64 ∧ 0 ≤ l9.toInt ∧ l9.toInt ≤ r9.toInt ∧ r9.toInt ≤ z ∧ r.toInt = ((lmF nf l9.toInt.toNat r9.toInt.toNat : Nat) : Int) ∧ True ∧ oz' = 2)) := by
  refine ctI.of (cc := cX8_rises) (maxL := 4) (ret := (some .int)) (by decide) rfl (Nat.le_of_ble_eq_true rfl) ?_
  intro p e s m below meth c ls A hx hb hr hts hown hml hlocks hname hA hK hN hP hD hS hl
  have hl : lv_has ls 4 [(0, .ref x0), (1, .int l9), (2, .int r9)] := hl
  have hown : s.vm.findClass RX8 = some m.cls := hown
  have hi0 : ∀ w ∈ u_ws RX0 TX0 3, w ∈ wsX8_rises := by decide +kernel
  have hi8 : ∀ w ∈ u_ws RX8 TX8 11, w ∈ wsX8_rises := by decide +kernel
  have fl72 := hts (.fieldLink RX8 72 "PlaneColumn" "climbs" "LPlaneColumn$Climbs;") (by decide +kernel)
  have fl9 := hts (.fieldLink RX8 9 "PlaneColumn" "numbers" "[I") (by decide +kernel)
  refine lv_aload_n hx hb dX8_rises_0 rfl (lv_at hl 0 rfl) ?_
  refine lv_iload_n hx hb dX8_rises_1 rfl (lv_at hl 1 rfl) ?_
  refine lv_iload_n hx hb dX8_rises_2 rfl (lv_at hl 2 rfl) ?_
  refine my_gpI (my_pV (As := [.int l9, .int r9]) (rest := []) (ci := 8) ⟨hx, hb, hml, hown, hts⟩ (cwV 2 hts gX8_rises_X8_isSpan rfl rfl rfl (by decide +kernel) ⟨Nat.le_of_ble_eq_true rfl, Nat.le_of_ble_eq_true rfl⟩) hN hK hP [0] rfl 0 rfl rfl rfl rfl hl.1 rfl (Nat.le_of_ble_eq_true rfl) dX8_rises_3 ⟨Nat.le_of_ble_eq_true rfl, Nat.le_of_ble_eq_true rfl⟩  (k_X8_isSpan l D cI cJ cK x0 xn xl xt xo xf xs xp xq xr xc z l9 r9 (by first | assumption | omega | decide +kernel))) (fun r hp => ?_)
  rcases hp with ⟨a_1, b_2, rfl, rfl, rfl, ha_3, hb_4⟩ | ⟨rfl, ho_5⟩
  ·
    refine lv_if_ne (tgt := 11) hx hb dX8_rises_6 (by decide) (fun c6 => ?_) (fun c6 => ?_)
    ·
      refine lv_aload_n hx hb dX8_rises_11 rfl (lv_at hl 0 rfl) ?_
      refine va_get (ci := 8) (v := .ref xc) (C := RX8) (T := TX8) (N := 11) hx hb hts hi8 hown hK hP 0 rfl rfl 10 (by decide) fl72 (fun _ h9 => h9) rfl dX8_rises_12 ?_
      refine lv_aload_n hx hb dX8_rises_15 rfl (lv_at hl 0 rfl) ?_
      refine va_get (ci := 8) (v := .ref xn) (C := RX8) (T := TX8) (N := 11) hx hb hts hi8 hown hK hP 0 rfl rfl 0 (by decide) fl9 (fun _ h9 => h9) rfl dX8_rises_16 ?_
      refine lv_iload_n hx hb dX8_rises_19 rfl (lv_at hl 1 rfl) ?_
      refine lv_iload_n hx hb dX8_rises_20 rfl (lv_at hl 2 rfl) ?_
      refine my_goVS (wc := (wl_kf_X0_take cI cJ cK xc c1 c2 xn cl cg cw nf)) hP hD hS hA [2, 3, 4, 1] rfl [none, some 3, some 0, some 1, some 2] (by decide +kernel) (my_cV (As := [.ref xn, .int (nI a_1), .int (nI b_2)]) (rest := []) (ci := 0) (wc := (wl_kf_X0_take cI cJ cK xc c1 c2 xn cl cg cw nf)) ⟨hx, hb, hml, hown, hts⟩ (cwV 3 hts gX8_rises_X0_take rfl rfl rfl (by decide +kernel) ⟨Nat.le_of_ble_eq_true rfl, Nat.le_of_ble_eq_true rfl⟩) hN hK hP hD [2, 3, 4, 1] rfl (by decide) rfl 2 rfl rfl rfl rfl hl.1 rfl (Nat.le_of_ble_eq_true rfl) dX8_rises_21 ⟨Nat.le_of_ble_eq_true rfl, Nat.le_of_ble_eq_true rfl⟩  ((kf_X0_take l D cI cJ cK xc c1 c2 xn cl cg cw nf a_1 b_2 hR_nf (by first | assumption | omega | decide +kernel) (by first | assumption | omega | decide +kernel)) _)) (fun u H locs hp hPD hS => ?_)
      obtain ⟨cl_6, cg_7, cw_8, rfl, hlg, ht_9⟩ := hp
      obtain ⟨hP, hD⟩ := hPD rfl
      have hP : va_P D vwCl (wl_k_X8_rises cI cJ cK x0 xn xl xt xo xf xs xp xq xr xc c1 c2 o1 (nI z) nf cl_6 cg_7 cw_8 (nI oz) of) H := hP
      have hD : va_D A (wl_k_X8_rises cI cJ cK x0 xn xl xt xo xf xs xp xq xr xc c1 c2 o1 (nI z) nf cl_6 cg_7 cw_8 (nI oz) of) := hD
      refine lv_aload_n hx hb dX8_rises_24 rfl (lv_at hl 0 rfl) ?_
      refine va_get (ci := 8) (v := .ref xc) (C := RX8) (T := TX8) (N := 11) hx hb hts hi8 hown hK hP 0 rfl rfl 10 (by decide) fl72 (fun _ h9 => h9) rfl dX8_rises_25 ?_
      refine va_getN (ci := 0) (v := .int cl_6) (C := RX0) (T := TX0) (N := 3) hx hb hts hi0 hown hK hP 2 rfl rfl 2 (by decide) (nw_f_RX8_207 hN) (fun _ h9 => h9) rfl dX8_rises_28 ?_
      refine lv_istore_n (lv' := [(3, .int cl_6), (0, .ref x0), (1, .int (nI a_1)), (2, .int (nI b_2))]) hx hb dX8_rises_31 rfl hl (by decide) rfl (fun ls hl => ?_)
      refine lv_aload_n hx hb dX8_rises_32 rfl (lv_at hl 1 rfl) ?_
      refine lv_aload_n hx hb dX8_rises_33 rfl (lv_at hl 1 rfl) ?_
      refine va_get (ci := 8) (v := .ref xc) (C := RX8) (T := TX8) (N := 11) hx hb hts hi8 hown hK hP 0 rfl rfl 10 (by decide) fl72 (fun _ h9 => h9) rfl dX8_rises_34 ?_
      refine lv_aload_n hx hb dX8_rises_37 rfl (lv_at hl 1 rfl) ?_
      refine va_get (ci := 8) (v := .ref xn) (C := RX8) (T := TX8) (N := 11) hx hb hts hi8 hown hK hP 0 rfl rfl 0 (by decide) fl9 (fun _ h9 => h9) rfl dX8_rises_38 ?_
      refine lv_iload_n hx hb dX8_rises_41 rfl (lv_at hl 2 rfl) ?_
      refine lv_iload_n hx hb dX8_rises_42 rfl (lv_at hl 3 rfl) ?_
      refine my_gpI (my_pV (As := [.ref xn, .int (nI a_1), .int (nI b_2)]) (rest := [.ref x0]) (ci := 0) ⟨hx, hb, hml, hown, hts⟩ (cwV 3 hts gX8_rises_X0_leastEnd rfl rfl rfl (by decide +kernel) ⟨Nat.le_of_ble_eq_true rfl, Nat.le_of_ble_eq_true rfl⟩) hN hK hP [2, 3, 1] rfl 2 rfl rfl rfl rfl hl.1 rfl (Nat.le_of_ble_eq_true rfl) dX8_rises_43 ⟨Nat.le_of_ble_eq_true rfl, Nat.le_of_ble_eq_true rfl⟩  (k_X0_leastEnd l D cI cJ cK xc c1 c2 xn cl_6 cg_7 nf a_1 b_2 hR_nf (by first | assumption | omega | decide +kernel) (by first | assumption | omega | decide +kernel))) (fun r hp => ?_)
      obtain _ := hp
      obtain ⟨r_10, rfl⟩ : ∃ z, z = r := ⟨_, rfl⟩
      refine lv_i2l (v := r_10.toInt64) hx hb dX8_rises_46 rfl ?_
      refine lv_aload_n hx hb dX8_rises_47 rfl (lv_at hl 1 rfl) ?_
      refine va_get (ci := 8) (v := .ref xc) (C := RX8) (T := TX8) (N := 11) hx hb hts hi8 hown hK hP 0 rfl rfl 10 (by decide) fl72 (fun _ h9 => h9) rfl dX8_rises_48 ?_
      refine lv_iload_n hx hb dX8_rises_51 rfl (lv_at hl 2 rfl) ?_
      refine lv_iload_n hx hb dX8_rises_52 rfl (lv_at hl 3 rfl) ?_
      refine my_gpL (my_pV (As := [.int (nI a_1), .int (nI b_2)]) (rest := [.long r_10.toInt64, .ref x0]) (ci := 0) ⟨hx, hb, hml, hown, hts⟩ (cwV 2 hts gX8_rises_X0_waysToLongest rfl rfl rfl (by decide +kernel) ⟨Nat.le_of_ble_eq_true rfl, Nat.le_of_ble_eq_true rfl⟩) hN hK hP [2, 3, 4] rfl 2 rfl rfl rfl rfl hl.1 rfl (Nat.le_of_ble_eq_true rfl) dX8_rises_53 ⟨Nat.le_of_ble_eq_true rfl, Nat.le_of_ble_eq_true rfl⟩  (k_X0_waysToLongest l D cI cJ cK xc c1 c2 cl_6 cg_7 cw_8 a_1 b_2 (by first | assumption | omega | decide +kernel) (by first | assumption | omega | decide +kernel))) (fun r hp => ?_)
      obtain _ := hp
      obtain ⟨r_11, rfl⟩ : ∃ z, z = r := ⟨_, rfl⟩
      refine lv_ldc2 (v := 1000000000) hx hb hown (hts (.constantLong RX8 218 (1000000000)) (by decide +kernel)) dX8_rises_56 ?_
      refine va_mmin_long hx hb (hml.trans hl.1.symm) hown (hts (.methodLink RX8 220 Lib.MathLoose.min_long.x) (by decide +kernel)) (hts (.static Lib.MathLoose.min_long.x) (by decide +kernel)) (hts (.initialized "java/lang/Math") (by decide +kernel)) (hts (.code Lib.MathLoose.min_long.x Lib.MathLoose.min_long.code 4 (some .long)) (by decide +kernel)) (Nat.le_of_ble_eq_true rfl) (Nat.le_of_ble_eq_true rfl) (Nat.le_of_ble_eq_true rfl) (Nat.le_of_ble_eq_true rfl) dX8_rises_59 ?_
      refine lv_topl (fun z_12 ez_12 => ?_)
      refine my_goVS (wc := (wl_k_X8_tell_ cI cJ cK x0 xn xl xt xo xf xs xp xq xr xc o1 (nI z) (nI oz) of)) hP hD hS hA [0, 5, 6] rfl [some 0, none, none, none, none, some 1, some 2] (by decide +kernel) (my_cV (As := [.long r_10.toInt64, .long z_12]) (rest := []) (ci := 8) (wc := (wl_k_X8_tell_ cI cJ cK x0 xn xl xt xo xf xs xp xq xr xc o1 (nI z) (nI oz) of)) ⟨hx, hb, hml, hown, hts⟩ (cwV 2 hts gX8_rises_X8_tell_ rfl rfl rfl (by decide +kernel) ⟨Nat.le_of_ble_eq_true rfl, Nat.le_of_ble_eq_true rfl⟩) hN hK hP hD [0, 5, 6] rfl (by decide) rfl 0 rfl rfl rfl rfl hl.1 rfl (Nat.le_of_ble_eq_true rfl) dX8_rises_62 ⟨Nat.le_of_ble_eq_true rfl, Nat.le_of_ble_eq_true rfl⟩  ((k_X8_tell_ l D cI cJ cK x0 xn xl xt xo xf xs xp xq xr xc o1 z oz of r_10.toInt64 z_12 (by first | assumption | omega | decide +kernel) (by first | assumption | omega | decide +kernel)) _)) (fun u H locs hp hPD hS => ?_)
      obtain ⟨of_13, rfl, hv0, hv1⟩ := hp
      obtain ⟨hP, hD⟩ := hPD rfl
      have hP : va_P D vwCl (wl_k_X8_rises cI cJ cK x0 xn xl xt xo xf xs xp xq xr xc c1 c2 o1 (nI z) nf cl_6 cg_7 cw_8 2 of_13) H := hP
      have hD : va_D A (wl_k_X8_rises cI cJ cK x0 xn xl xt xo xf xs xp xq xr xc c1 c2 o1 (nI z) nf cl_6 cg_7 cw_8 2 of_13) := hD
      refine lv_iload_n hx hb dX8_rises_65 rfl (lv_at hl 0 rfl) ?_
      have hsI_l9 : (nI a_1).toInt = ((a_1 : Nat) : Int) := nI_toInt (by omega)
      have hsN_l9 : (nI a_1).toInt.toNat = a_1 := nIt (by omega)
      have hsI_r9 : (nI b_2).toInt = ((b_2 : Nat) : Int) := nI_toInt (by omega)
      have hsN_r9 : (nI b_2).toInt.toNat = b_2 := nIt (by omega)
      exact my_retI hx hb hr hlocks hK hS (wl_k_X8_rises cI cJ cK x0 xn xl xt xo xf xs xp xq xr xc c1 c2 o1 (nI z) nf cl_6 cg_7 cw_8 2 of_13) hP hD (Or.inr (⟨cl_6, cg_7, cw_8, 2, of_13, rfl, (by first | assumption | omega | trivial | decide +kernel), (by first | assumption | omega | trivial | decide +kernel), (by first | assumption | omega | trivial | decide +kernel), (by first | assumption | omega | trivial | decide +kernel), (by rw [hsN_l9, hsN_r9]; exact hlg), (by first | assumption | omega | trivial | decide +kernel), (by first | assumption | omega | trivial | decide +kernel)⟩)) dX8_rises_66
    ·
      exact absurd c6 (by decide +kernel)
  ·
    refine lv_if_ne (tgt := 11) hx hb dX8_rises_6 (by decide) (fun c6 => ?_) (fun c6 => ?_)
    ·
      exact absurd c6 (by decide +kernel)
    ·
      refine lv_iconst (v := (-1)) hx hb dX8_rises_9 (by decide +kernel) ?_
      have ec_14 : ((-1) : Int32).toInt = -1 := by decide +kernel
      exact my_retI hx hb hr hlocks hK hS (wl_k_X8_rises cI cJ cK x0 xn xl xt xo xf xs xp xq xr xc c1 c2 o1 (nI z) nf cl cg cw (nI oz) of) hP hD (Or.inl ⟨rfl, rfl, (by first | assumption | omega | trivial | decide +kernel)⟩) dX8_rises_10
abbrev wl_k_X8_marks (cI cJ cK : ClassId) (x0 : Nat) (xn : Nat) (xl : Nat) (xt : Nat) (xo : Nat) (xf : Nat) (xs : Nat) (xp : Nat) (xq : Nat) (xr : Nat) (xc : Nat) (o1 : Nat) (v0_ : Int32) (v1_ : Nat → Int32) (v2_ : Int32) (v3_ : Nat → Int64) : va_W := [(x0, .inr (8, [.ref xn, .int v0_, .ref xl, .ref xt, .ref xo, .ref xf, .ref xs, .ref xp, .ref xq, .ref xr, .ref xc])), (xn, .inl (cI, 64, .inl v1_)), (xo, .inr (7, [.ref o1, .int v2_])), (o1, .inl (cJ, 64, .inr (.inl v3_)))]
set_option maxHeartbeats 4000000 in
set_option maxRecDepth 100000 in
theorem k_X8_marks (l : Launch) (D : va_G) (cI cJ cK : ClassId) (x0 : Nat) (xn : Nat) (xl : Nat) (xt : Nat) (xo : Nat) (xf : Nat) (xs : Nat) (xp : Nat) (xq : Nat) (xr : Nat) (xc : Nat) (o1 : Nat) (z : Nat) (nf : Nat → Int32) (oz : Nat) (of : Nat → Int64) (l9 : Int32) (r9 : Int32) (v9 : Int32) (hz_z : z ≤ 64) (hR_nf : RB 0 255 nf) (hz_oz : oz ≤ 64) : ctI l yX8_marks wsX8_marks ({ frames := 1, cells := 0, slots := 0, locals := 60 } : Room) D (tyIJ cI cJ cK) [.ref x0, .int l9, .int r9, .int v9] (wl_k_X8_marks cI cJ cK x0 xn xl xt xo xf xs xp xq xr xc o1 (nI z) nf (nI oz) of) (fun (r : Int32) (u : va_W) => (u = (wl_k_X8_marks cI cJ cK x0 xn xl xt xo xf xs xp xq xr xc o1 (nI z) nf (nI oz) of) ∧ r = (-1) ∧ (l9.toInt < 0 ∨ r9.toInt < l9.toInt ∨ z < r9.toInt ∨ v9.toInt < 0 ∨ 255 < v9.toInt)) ∨ (∃ (t' : Nat) (oz' : Nat) (of' : Nat → Int64), u = (wl_k_X8_marks cI cJ cK x0 xn xl xt xo xf xs xp xq xr xc o1 (nI z) nf (nI oz') of') ∧ r = nI t' ∧ oz' ≤ 64 ∧ 0 ≤ l9.toInt ∧ l9.toInt ≤ r9.toInt ∧ r9.toInt ≤ z ∧ 0 ≤ v9.toInt ∧ v9.toInt ≤ 255 ∧ t' = cn nf v9.toInt.toNat l9.toInt.toNat r9.toInt.toNat ∧ oz' = min t' 32)) := by
  refine ctI.of (cc := cX8_marks) (maxL := 6) (ret := (some .int)) (by decide) rfl (Nat.le_of_ble_eq_true rfl) ?_
  intro p e s m below meth c ls A hx hb hr hts hown hml hlocks hname hA hK hN hP hD hS hl
  have hl : lv_has ls 6 [(0, .ref x0), (1, .int l9), (2, .int r9), (3, .int v9)] := hl
  have hown : s.vm.findClass RX8 = some m.cls := hown
  have hi8 : ∀ w ∈ u_ws RX8 TX8 11, w ∈ wsX8_marks := by decide +kernel
  have fl34 := hts (.fieldLink RX8 34 "PlaneColumn" "told" "LPlaneColumn$Told;") (by decide +kernel)
  have fl9 := hts (.fieldLink RX8 9 "PlaneColumn" "numbers" "[I") (by decide +kernel)
  refine lv_aload_n hx hb dX8_marks_0 rfl (lv_at hl 0 rfl) ?_
  refine lv_iload_n hx hb dX8_marks_1 rfl (lv_at hl 1 rfl) ?_
  refine lv_iload_n hx hb dX8_marks_2 rfl (lv_at hl 2 rfl) ?_
  refine my_gpI (my_pV (As := [.int l9, .int r9]) (rest := []) (ci := 8) ⟨hx, hb, hml, hown, hts⟩ (cwV 2 hts gX8_marks_X8_isSpan rfl rfl rfl (by decide +kernel) ⟨Nat.le_of_ble_eq_true rfl, Nat.le_of_ble_eq_true rfl⟩) hN hK hP [0] rfl 0 rfl rfl rfl rfl hl.1 rfl (Nat.le_of_ble_eq_true rfl) dX8_marks_3 ⟨Nat.le_of_ble_eq_true rfl, Nat.le_of_ble_eq_true rfl⟩  (k_X8_isSpan l D cI cJ cK x0 xn xl xt xo xf xs xp xq xr xc z l9 r9 (by first | assumption | omega | decide +kernel))) (fun r hp => ?_)
  rcases hp with ⟨a_1, b_2, rfl, rfl, rfl, ha_3, hb_4⟩ | ⟨rfl, ho_5⟩
  ·
    refine lv_if_eq (tgt := 16) hx hb dX8_marks_6 (by decide) (fun c6 => ?_) (fun c6 => ?_)
    ·
      exact absurd c6 (by decide +kernel)
    ·
      refine lv_iload_n hx hb dX8_marks_9 rfl (lv_at hl 3 rfl) ?_
      refine my_gpI (my_pS (As := [.int v9]) (rest := []) ⟨hx, hb, hml, hown, hts⟩ (va_cwS 1 hts gX8_marks_X8_isNumber rfl rfl rfl (by decide +kernel) ⟨Nat.le_of_ble_eq_true rfl, Nat.le_of_ble_eq_true rfl⟩) hN hK hP [] rfl rfl hl.1 rfl (Nat.le_of_ble_eq_true rfl) dX8_marks_10 ⟨Nat.le_of_ble_eq_true rfl, Nat.le_of_ble_eq_true rfl⟩  (k_X8_isNumber l D cI cJ cK v9)) (fun r hp => ?_)
      rcases hp with ⟨k_6, rfl, rfl, ha_7⟩ | ⟨rfl, ho_8⟩
      ·
        refine lv_if_ne (tgt := 18) hx hb dX8_marks_13 (by decide) (fun c13 => ?_) (fun c13 => ?_)
        ·
          refine lv_iconst (v := 0) hx hb dX8_marks_18 (by decide +kernel) ?_
          refine lv_istore (lv' := [(4, .int 0), (0, .ref x0), (1, .int (nI a_1)), (2, .int (nI b_2)), (3, .int (nI k_6))]) hx hb dX8_marks_19 hl (by decide) rfl (fun ls hl => ?_)
          refine lv_aload_n hx hb dX8_marks_21 rfl (lv_at hl 1 rfl) ?_
          refine va_get (ci := 8) (v := .ref xo) (C := RX8) (T := TX8) (N := 11) hx hb hts hi8 hown hK hP 0 rfl rfl 4 (by decide) fl34 (fun _ h9 => h9) rfl dX8_marks_22 ?_
          refine my_goVS (wc := (wl_k_X7_begin cI cJ cK xo o1 (nI oz))) hP hD hS hA [2] rfl [none, none, some 0] (by decide +kernel) (my_cV (As := []) (rest := []) (ci := 7) (wc := (wl_k_X7_begin cI cJ cK xo o1 (nI oz))) ⟨hx, hb, hml, hown, hts⟩ (cwV 0 hts gX8_marks_X7_begin rfl rfl rfl (by decide +kernel) ⟨Nat.le_of_ble_eq_true rfl, Nat.le_of_ble_eq_true rfl⟩) hN hK hP hD [2] rfl (by decide) rfl 2 rfl rfl rfl rfl hl.1 rfl (Nat.le_of_ble_eq_true rfl) dX8_marks_25 ⟨Nat.le_of_ble_eq_true rfl, Nat.le_of_ble_eq_true rfl⟩  ((k_X7_begin l D cI cJ cK xo o1 oz (by first | assumption | omega | decide +kernel)) _)) (fun u H locs hp hPD hS => ?_)
          obtain rfl := hp
          obtain ⟨hP, hD⟩ := hPD rfl
          have hP : va_P D vwCl (wl_k_X8_marks cI cJ cK x0 xn xl xt xo xf xs xp xq xr xc o1 (nI z) nf 0 of) H := hP
          have hD : va_D A (wl_k_X8_marks cI cJ cK x0 xn xl xt xo xf xs xp xq xr xc o1 (nI z) nf 0 of) := hD
          refine lv_iload_n hx hb dX8_marks_28 rfl (lv_at hl 2 rfl) ?_
          refine lv_istore (lv' := [(5, .int (nI a_1)), (4, .int 0), (0, .ref x0), (1, .int (nI a_1)), (2, .int (nI b_2)), (3, .int (nI k_6))]) hx hb dX8_marks_29 hl (by decide) rfl (fun ls hl => ?_)
          have loop31 : ∀ (n9 : Nat) (k : Nat) (t : Nat) (xo_size_31 : Nat) (o1_31 : Nat → Int64), 64 - k < n9 → (t ≤ 64) → (k ≤ 64) → (a_1 ≤ k) → (k ≤ b_2) → (t ≤ k) → (t = cn nf k_6 a_1 k) → (xo_size_31 = min t 32) → (xo_size_31 ≤ 64) → ∀ (H : Heap) (locs : List Loc) (ls : Array Slot), va_P D vwCl (wl_k_X8_marks cI cJ cK x0 xn xl xt xo xf xs xp xq xr xc o1 (nI z) nf (nI xo_size_31) o1_31) H → va_D A (wl_k_X8_marks cI cJ cK x0 xn xl xt xo xf xs xp xq xr xc o1 (nI z) nf (nI xo_size_31) o1_31) → va_S A s.heap H locs → lv_has ls 6 [(5, .int (nI k)), (4, .int (nI t)), (0, .ref x0), (1, .int (nI a_1)), (2, .int (nI b_2)), (3, .int (nI k_6))] → W p l e ({ frames := 1, cells := 0, slots := 0, locals := 60 } : Room) s m [.ref x0, .int (nI a_1), .int (nI b_2), .int (nI k_6)].toArray below meth c H locs 0 0 (MQ below (va_Qi (fun (r : Int32) (u : va_W) => (u = (wl_k_X8_marks cI cJ cK x0 xn xl xt xo xf xs xp xq xr xc o1 (nI z) nf (nI oz) of) ∧ r = (-1) ∧ ((nI a_1).toInt < 0 ∨ (nI b_2).toInt < (nI a_1).toInt ∨ z < (nI b_2).toInt ∨ (nI k_6).toInt < 0 ∨ 255 < (nI k_6).toInt)) ∨ (∃ (t' : Nat) (oz' : Nat) (of' : Nat → Int64), u = (wl_k_X8_marks cI cJ cK x0 xn xl xt xo xf xs xp xq xr xc o1 (nI z) nf (nI oz') of') ∧ r = nI t' ∧ oz' ≤ 64 ∧ 0 ≤ (nI a_1).toInt ∧ (nI a_1).toInt ≤ (nI b_2).toInt ∧ (nI b_2).toInt ≤ z ∧ 0 ≤ (nI k_6).toInt ∧ (nI k_6).toInt ≤ 255 ∧ t' = cn nf (nI k_6).toInt.toNat (nI a_1).toInt.toNat (nI b_2).toInt.toNat ∧ oz' = min t' 32)) (my_B D (tyIJ cI cJ cK) A) A) [.ref x0, .int (nI a_1), .int (nI b_2), .int (nI k_6)].toArray s 0 0 A) (F0 m 31 ls []) := by
            intro n9
            induction n9 with
            | zero =>
              intro k t xo_size_31 o1_31 hn9
              exact absurd hn9 (Nat.not_lt_zero _)
            | succ n9 ih31 =>
              intro k t xo_size_31 o1_31 hn9 hk_t hk_k hak hkb htk ht htd9 hz_xo_size_31 H locs ls hP hD hS hl
              refine lv_iload hx hb dX8_marks_31 (lv_at hl 0 rfl) ?_
              refine lv_iload_n hx hb dX8_marks_33 rfl (lv_at hl 4 rfl) ?_
              refine lv_icmp_ge (tgt := 74) hx hb dX8_marks_34 (by decide) (fun c34 => ?_) (fun c34 => ?_)
              ·
                have d34 : ((k : Nat) : Int) ≥ ((b_2 : Nat) : Int) := my_ge c34 (nI_toInt (by omega)) (nI_toInt (by omega))
                have hke : k = b_2 := by omega
                refine lv_iload hx hb dX8_marks_74 (lv_at hl 1 rfl) ?_
                have hsI_l9 : (nI a_1).toInt = ((a_1 : Nat) : Int) := nI_toInt (by omega)
                have hsN_l9 : (nI a_1).toInt.toNat = a_1 := nIt (by omega)
                have hsI_r9 : (nI b_2).toInt = ((b_2 : Nat) : Int) := nI_toInt (by omega)
                have hsN_r9 : (nI b_2).toInt.toNat = b_2 := nIt (by omega)
                have hsI_v9 : (nI k_6).toInt = ((k_6 : Nat) : Int) := nI_toInt (by omega)
                have hsN_v9 : (nI k_6).toInt.toNat = k_6 := nIt (by omega)
                exact my_retI hx hb hr hlocks hK hS (wl_k_X8_marks cI cJ cK x0 xn xl xt xo xf xs xp xq xr xc o1 (nI z) nf (nI xo_size_31) o1_31) hP hD (Or.inr (⟨t, xo_size_31, o1_31, rfl, rfl, (by first | assumption | omega | trivial | decide +kernel), (by first | assumption | omega | trivial | decide +kernel), (by first | assumption | omega | trivial | decide +kernel), (by first | assumption | omega | trivial | decide +kernel), (by first | assumption | omega | trivial | decide +kernel), (by first | assumption | omega | trivial | decide +kernel), (by rw [hsN_l9, hsN_r9, hsN_v9, ← hke]; exact ht), (by first | assumption | omega | trivial | decide +kernel)⟩)) dX8_marks_76
              ·
                have d34 : ((k : Nat) : Int) < ((b_2 : Nat) : Int) := my_nge c34 (nI_toInt (by omega)) (nI_toInt (by omega))
                refine lv_aload_n hx hb dX8_marks_37 rfl (lv_at hl 2 rfl) ?_
                refine va_get (ci := 8) (v := .ref xn) (C := RX8) (T := TX8) (N := 11) hx hb hts hi8 hown hK hP 0 rfl rfl 0 (by decide) fl9 (fun _ h9 => h9) rfl dX8_marks_38 ?_
                refine lv_iload hx hb dX8_marks_41 (lv_at hl 0 rfl) ?_
                refine va_iald hx hb hK hP 1 0 rfl rfl (vp_in_nI (by omega) (by omega)) dX8_marks_43 ?_
                refine my_eqi (y := nf k) (congrArg nf (nI_clamp (by omega))) ?_
                have hb_9 := hR_nf k
                refine lv_iload_n hx hb dX8_marks_44 rfl (lv_at hl 5 rfl) ?_
                refine lv_icmp_ne (tgt := 68) hx hb dX8_marks_45 (by decide) (fun c45 => ?_) (fun c45 => ?_)
                ·
                  have d45 : (nf k).toInt ≠ ((k_6 : Nat) : Int) := my_ne c45 rfl (nI_toInt (by omega))
                  refine lv_iinc (v := nI (k + 1)) (lv' := [(5, .int (nI (k + 1))), (4, .int (nI t)), (0, .ref x0), (1, .int (nI a_1)), (2, .int (nI b_2)), (3, .int (nI k_6))]) hx hb dX8_marks_68 hl (k := 0) rfl (my_incN k 1 (by decide +kernel)) (by decide) rfl (fun ls hl => ?_)
                  refine lv_goto (tgt := 31) hx hb dX8_marks_71 (by decide) ?_
                  exact ih31  (k + 1) t xo_size_31 o1_31 (by omega) (by first | assumption | omega | decide +kernel) (by first | assumption | omega | decide +kernel) (by first | assumption | omega | decide +kernel) (by first | assumption | omega | decide +kernel) (by first | assumption | omega | decide +kernel) (by first | exact cn_go1 ht (by omega) (by omega) (by assumption) | exact cn_go0 ht (by omega) (by assumption)) (by first | assumption | omega | decide +kernel) (by first | assumption | omega | decide +kernel) _ _ ls hP hD hS (lv_sub hl [0, 1, 2, 3, 4, 5] rfl)
                ·
                  have d45 : (nf k).toInt = ((k_6 : Nat) : Int) := my_eq c45 rfl (nI_toInt (by omega))
                  refine lv_iload hx hb dX8_marks_48 (lv_at hl 1 rfl) ?_
                  refine lv_bipush (v := 32) hx hb dX8_marks_50 (by decide +kernel) ?_
                  refine lv_icmp_ge (tgt := 65) hx hb dX8_marks_52 (by decide) (fun c52 => ?_) (fun c52 => ?_)
                  ·
                    have d52 : ((t : Nat) : Int) ≥ (32 : Int) := my_ge c52 (nI_toInt (by omega)) (by decide +kernel)
                    refine lv_iinc (v := nI (t + 1)) (lv' := [(4, .int (nI (t + 1))), (5, .int (nI k)), (0, .ref x0), (1, .int (nI a_1)), (2, .int (nI b_2)), (3, .int (nI k_6))]) hx hb dX8_marks_65 hl (k := 1) rfl (my_incN t 1 (by decide +kernel)) (by decide) rfl (fun ls hl => ?_)
                    refine lv_iinc (v := nI (k + 1)) (lv' := [(5, .int (nI (k + 1))), (4, .int (nI (t + 1))), (0, .ref x0), (1, .int (nI a_1)), (2, .int (nI b_2)), (3, .int (nI k_6))]) hx hb dX8_marks_68 hl (k := 1) rfl (my_incN k 1 (by decide +kernel)) (by decide) rfl (fun ls hl => ?_)
                    refine lv_goto (tgt := 31) hx hb dX8_marks_71 (by decide) ?_
                    exact ih31  (k + 1) (t + 1) xo_size_31 o1_31 (by omega) (by first | assumption | omega | decide +kernel) (by first | assumption | omega | decide +kernel) (by first | assumption | omega | decide +kernel) (by first | assumption | omega | decide +kernel) (by first | assumption | omega | decide +kernel) (by first | exact cn_go1 ht (by omega) (by omega) (by assumption) | exact cn_go0 ht (by omega) (by assumption)) (by first | assumption | omega | decide +kernel) (by first | assumption | omega | decide +kernel) _ _ ls hP hD hS (lv_sub hl [0, 1, 2, 3, 4, 5] rfl)
                  ·
                    have d52 : ((t : Nat) : Int) < (32 : Int) := my_nge c52 (nI_toInt (by omega)) (by decide +kernel)
                    refine lv_aload_n hx hb dX8_marks_55 rfl (lv_at hl 2 rfl) ?_
                    refine va_get (ci := 8) (v := .ref xo) (C := RX8) (T := TX8) (N := 11) hx hb hts hi8 hown hK hP 0 rfl rfl 4 (by decide) fl34 (fun _ h9 => h9) rfl dX8_marks_56 ?_
                    refine lv_iload hx hb dX8_marks_59 (lv_at hl 0 rfl) ?_
                    refine lv_i2l (v := lN k) hx hb dX8_marks_61 (nI_l (by omega)) ?_
                    refine my_goVS (wc := (wl_kf_X7_add cI cJ cK xo o1 (nI xo_size_31) o1_31)) hP hD hS hA [2, 3] rfl [none, none, some 0, some 1] (by decide +kernel) (my_cV (As := [.long (lN k)]) (rest := []) (ci := 7) (wc := (wl_kf_X7_add cI cJ cK xo o1 (nI xo_size_31) o1_31)) ⟨hx, hb, hml, hown, hts⟩ (cwV 1 hts gX8_marks_X7_add rfl rfl rfl (by decide +kernel) ⟨Nat.le_of_ble_eq_true rfl, Nat.le_of_ble_eq_true rfl⟩) hN hK hP hD [2, 3] rfl (by decide) rfl 2 rfl rfl rfl rfl hl.1 rfl (Nat.le_of_ble_eq_true rfl) dX8_marks_62 ⟨Nat.le_of_ble_eq_true rfl, Nat.le_of_ble_eq_true rfl⟩  ((kf_X7_add l D cI cJ cK xo o1 xo_size_31 o1_31 (lN k) (by first | assumption | omega | decide +kernel) (by first | assumption | omega | decide +kernel)) _)) (fun u H locs hp hPD hS => ?_)
                    obtain ⟨of_10, rfl, hof, ht_11⟩ := hp
                    obtain ⟨hP, hD⟩ := hPD rfl
                    have hP : va_P D vwCl (wl_k_X8_marks cI cJ cK x0 xn xl xt xo xf xs xp xq xr xc o1 (nI z) nf (nI (xo_size_31 + 1)) of_10) H := hP
                    have hD : va_D A (wl_k_X8_marks cI cJ cK x0 xn xl xt xo xf xs xp xq xr xc o1 (nI z) nf (nI (xo_size_31 + 1)) of_10) := hD
                    refine lv_iinc (v := nI (t + 1)) (lv' := [(4, .int (nI (t + 1))), (5, .int (nI k)), (0, .ref x0), (1, .int (nI a_1)), (2, .int (nI b_2)), (3, .int (nI k_6))]) hx hb dX8_marks_65 hl (k := 1) rfl (my_incN t 1 (by decide +kernel)) (by decide) rfl (fun ls hl => ?_)
                    refine lv_iinc (v := nI (k + 1)) (lv' := [(5, .int (nI (k + 1))), (4, .int (nI (t + 1))), (0, .ref x0), (1, .int (nI a_1)), (2, .int (nI b_2)), (3, .int (nI k_6))]) hx hb dX8_marks_68 hl (k := 1) rfl (my_incN k 1 (by decide +kernel)) (by decide) rfl (fun ls hl => ?_)
                    refine lv_goto (tgt := 31) hx hb dX8_marks_71 (by decide) ?_
                    exact ih31  (k + 1) (t + 1) (xo_size_31 + 1) of_10 (by omega) (by first | assumption | omega | decide +kernel) (by first | assumption | omega | decide +kernel) (by first | assumption | omega | decide +kernel) (by first | assumption | omega | decide +kernel) (by first | assumption | omega | decide +kernel) (by first | exact cn_go1 ht (by omega) (by omega) (by assumption) | exact cn_go0 ht (by omega) (by assumption)) (by first | assumption | omega | decide +kernel) (by first | assumption | omega | decide +kernel) _ _ ls hP hD hS (lv_sub hl [0, 1, 2, 3, 4, 5] rfl)
          exact loop31 ((64 - a_1) + 1) a_1 0 0 of (Nat.lt_succ_self _) (by first | assumption | omega | decide +kernel) (by first | assumption | omega | decide +kernel) (by first | assumption | omega | decide +kernel) (by first | assumption | omega | decide +kernel) (by first | assumption | omega | decide +kernel) ((cn_start (Nat.le_refl _)).symm) (by first | assumption | omega | decide +kernel) (by first | assumption | omega | decide +kernel) _ _ ls hP hD hS (lv_sub hl [0, 1, 2, 3, 4, 5] rfl)
        ·
          exact absurd c13 (by decide +kernel)
      ·
        refine lv_if_ne (tgt := 18) hx hb dX8_marks_13 (by decide) (fun c13 => ?_) (fun c13 => ?_)
        ·
          exact absurd c13 (by decide +kernel)
        ·
          refine lv_iconst (v := (-1)) hx hb dX8_marks_16 (by decide +kernel) ?_
          have hsI_l9 : (nI a_1).toInt = ((a_1 : Nat) : Int) := nI_toInt (by omega)
          have hsN_l9 : (nI a_1).toInt.toNat = a_1 := nIt (by omega)
          have hsI_r9 : (nI b_2).toInt = ((b_2 : Nat) : Int) := nI_toInt (by omega)
          have hsN_r9 : (nI b_2).toInt.toNat = b_2 := nIt (by omega)
          exact my_retI hx hb hr hlocks hK hS (wl_k_X8_marks cI cJ cK x0 xn xl xt xo xf xs xp xq xr xc o1 (nI z) nf (nI oz) of) hP hD (Or.inl ⟨rfl, rfl, (by first | assumption | omega | trivial | decide +kernel)⟩) dX8_marks_17
  ·
    refine lv_if_eq (tgt := 16) hx hb dX8_marks_6 (by decide) (fun c6 => ?_) (fun c6 => ?_)
    ·
      refine lv_iconst (v := (-1)) hx hb dX8_marks_16 (by decide +kernel) ?_
      exact my_retI hx hb hr hlocks hK hS (wl_k_X8_marks cI cJ cK x0 xn xl xt xo xf xs xp xq xr xc o1 (nI z) nf (nI oz) of) hP hD (Or.inl ⟨rfl, rfl, (by first | assumption | omega | trivial | decide +kernel)⟩) dX8_marks_17
    ·
      exact absurd c6 (by decide +kernel)
abbrev wl_k_X8_takeBoth (cI cJ cK : ClassId) (x0 : Nat) (xn : Nat) (xl : Nat) (xt : Nat) (xo : Nat) (xf : Nat) (xs : Nat) (xp : Nat) (xq : Nat) (xr : Nat) (xc : Nat) (f1 : Nat) (f2 : Nat) (s1 : Nat) (s2 : Nat) (v0_ : Int32) (v1_ : Nat → Int32) (v2_ : Int32) (v3_ : Nat → Int32) (v4_ : Nat → Int32) (v5_ : Int32) (v6_ : Nat → Int32) (v7_ : Nat → Int32) : va_W := [(x0, .inr (8, [.ref xn, .int v0_, .ref xl, .ref xt, .ref xo, .ref xf, .ref xs, .ref xp, .ref xq, .ref xr, .ref xc])), (xn, .inl (cI, 64, .inl v1_)), (xf, .inr (6, [.ref f1, .ref f2, .int v2_])), (f1, .inl (cI, 512, .inl v3_)), (f2, .inl (cI, 64, .inl v4_)), (xs, .inr (6, [.ref s1, .ref s2, .int v5_])), (s1, .inl (cI, 512, .inl v6_)), (s2, .inl (cI, 64, .inl v7_))]
set_option maxHeartbeats 4000000 in
set_option maxRecDepth 100000 in
theorem k_X8_takeBoth (l : Launch) (D : va_G) (cI cJ cK : ClassId) (x0 : Nat) (xn : Nat) (xl : Nat) (xt : Nat) (xo : Nat) (xf : Nat) (xs : Nat) (xp : Nat) (xq : Nat) (xr : Nat) (xc : Nat) (f1 : Nat) (f2 : Nat) (s1 : Nat) (s2 : Nat) (z : Nat) (nf : Nat → Int32) (fz : Nat) (fn : Nat → Int32) (fs : Nat → Int32) (sz : Nat) (sn : Nat → Int32) (ss : Nat → Int32) (l9 : Int32) (r9 : Int32) (s9 : Int32) (t9 : Int32) (hz_z : z ≤ 64) (hR_nf : RB 0 255 nf) (hz_fz : fz ≤ 64) (hz_sz : sz ≤ 64) : ctI l yX8_takeBoth wsX8_takeBoth ({ frames := 4, cells := 0, slots := 0, locals := 240 } : Room) D (tyIJ cI cJ cK) [.ref x0, .int l9, .int r9, .int s9, .int t9] (wl_k_X8_takeBoth cI cJ cK x0 xn xl xt xo xf xs xp xq xr xc f1 f2 s1 s2 (nI z) nf (nI fz) fn fs (nI sz) sn ss) (fun (r : Int32) (u : va_W) => (∃ (a : Nat) (b : Nat) (e : Nat) (d : Nat) (fz' : Nat) (fn' : Nat → Int32) (fs' : Nat → Int32) (sz' : Nat) (sn' : Nat → Int32) (ss' : Nat → Int32), u = (wl_k_X8_takeBoth cI cJ cK x0 xn xl xt xo xf xs xp xq xr xc f1 f2 s1 s2 (nI z) nf (nI fz') fn' fs' (nI sz') sn' ss') ∧ r = 1 ∧ l9 = nI a ∧ r9 = nI b ∧ s9 = nI e ∧ t9 = nI d ∧ fz' ≤ 64 ∧ sz' ≤ 64 ∧ a ≤ b ∧ b ≤ z ∧ e ≤ d ∧ d ≤ z ∧ (∀ v, v < 256 → fn' (256 + v) = nI (cn nf v a b)) ∧ (∀ v, v < 256 → sn' (256 + v) = nI (cn nf v e d))) ∨ (u = (wl_k_X8_takeBoth cI cJ cK x0 xn xl xt xo xf xs xp xq xr xc f1 f2 s1 s2 (nI z) nf (nI fz) fn fs (nI sz) sn ss) ∧ r = 0 ∧ (l9.toInt < 0 ∨ r9.toInt < l9.toInt ∨ z < r9.toInt ∨ s9.toInt < 0 ∨ t9.toInt < s9.toInt ∨ z < t9.toInt))) := by
  refine ctI.of (cc := cX8_takeBoth) (maxL := 5) (ret := (some .boolean)) (by decide) rfl (Nat.le_of_ble_eq_true rfl) ?_
  intro p e s m below meth c ls A hx hb hr hts hown hml hlocks hname hA hK hN hP hD hS hl
  have hl : lv_has ls 5 [(0, .ref x0), (1, .int l9), (2, .int r9), (3, .int s9), (4, .int t9)] := hl
  have hown : s.vm.findClass RX8 = some m.cls := hown
  have hi8 : ∀ w ∈ u_ws RX8 TX8 11, w ∈ wsX8_takeBoth := by decide +kernel
  have fl41 := hts (.fieldLink RX8 41 "PlaneColumn" "first" "LPlaneColumn$Tally;") (by decide +kernel)
  have fl45 := hts (.fieldLink RX8 45 "PlaneColumn" "second" "LPlaneColumn$Tally;") (by decide +kernel)
  have fl9 := hts (.fieldLink RX8 9 "PlaneColumn" "numbers" "[I") (by decide +kernel)
  refine lv_aload_n hx hb dX8_takeBoth_0 rfl (lv_at hl 0 rfl) ?_
  refine lv_iload_n hx hb dX8_takeBoth_1 rfl (lv_at hl 1 rfl) ?_
  refine lv_iload_n hx hb dX8_takeBoth_2 rfl (lv_at hl 2 rfl) ?_
  refine my_gpI (my_pV (As := [.int l9, .int r9]) (rest := []) (ci := 8) ⟨hx, hb, hml, hown, hts⟩ (cwV 2 hts gX8_takeBoth_X8_isSpan rfl rfl rfl (by decide +kernel) ⟨Nat.le_of_ble_eq_true rfl, Nat.le_of_ble_eq_true rfl⟩) hN hK hP [0] rfl 0 rfl rfl rfl rfl hl.1 rfl (Nat.le_of_ble_eq_true rfl) dX8_takeBoth_3 ⟨Nat.le_of_ble_eq_true rfl, Nat.le_of_ble_eq_true rfl⟩  (k_X8_isSpan l D cI cJ cK x0 xn xl xt xo xf xs xp xq xr xc z l9 r9 (by first | assumption | omega | decide +kernel))) (fun r hp => ?_)
  rcases hp with ⟨a_1, b_2, rfl, rfl, rfl, ha_3, hb_4⟩ | ⟨rfl, ho_5⟩
  ·
    refine lv_if_eq (tgt := 19) hx hb dX8_takeBoth_6 (by decide) (fun c6 => ?_) (fun c6 => ?_)
    ·
      exact absurd c6 (by decide +kernel)
    ·
      refine lv_aload_n hx hb dX8_takeBoth_9 rfl (lv_at hl 0 rfl) ?_
      refine lv_iload_n hx hb dX8_takeBoth_10 rfl (lv_at hl 3 rfl) ?_
      refine lv_iload hx hb dX8_takeBoth_11 (lv_at hl 4 rfl) ?_
      refine my_gpI (my_pV (As := [.int s9, .int t9]) (rest := []) (ci := 8) ⟨hx, hb, hml, hown, hts⟩ (cwV 2 hts gX8_takeBoth_X8_isSpan rfl rfl rfl (by decide +kernel) ⟨Nat.le_of_ble_eq_true rfl, Nat.le_of_ble_eq_true rfl⟩) hN hK hP [0] rfl 0 rfl rfl rfl rfl hl.1 rfl (Nat.le_of_ble_eq_true rfl) dX8_takeBoth_13 ⟨Nat.le_of_ble_eq_true rfl, Nat.le_of_ble_eq_true rfl⟩  (k_X8_isSpan l D cI cJ cK x0 xn xl xt xo xf xs xp xq xr xc z s9 t9 (by first | assumption | omega | decide +kernel))) (fun r hp => ?_)
      rcases hp with ⟨a_6, b_7, rfl, rfl, rfl, ha_8, hb_9⟩ | ⟨rfl, ho_10⟩
      ·
        refine lv_if_ne (tgt := 21) hx hb dX8_takeBoth_16 (by decide) (fun c16 => ?_) (fun c16 => ?_)
        ·
          refine lv_aload_n hx hb dX8_takeBoth_21 rfl (lv_at hl 0 rfl) ?_
          refine va_get (ci := 8) (v := .ref xf) (C := RX8) (T := TX8) (N := 11) hx hb hts hi8 hown hK hP 0 rfl rfl 5 (by decide) fl41 (fun _ h9 => h9) rfl dX8_takeBoth_22 ?_
          refine lv_aload_n hx hb dX8_takeBoth_25 rfl (lv_at hl 0 rfl) ?_
          refine va_get (ci := 8) (v := .ref xn) (C := RX8) (T := TX8) (N := 11) hx hb hts hi8 hown hK hP 0 rfl rfl 0 (by decide) fl9 (fun _ h9 => h9) rfl dX8_takeBoth_26 ?_
          refine lv_iload_n hx hb dX8_takeBoth_29 rfl (lv_at hl 1 rfl) ?_
          refine lv_iload_n hx hb dX8_takeBoth_30 rfl (lv_at hl 2 rfl) ?_
          refine my_goVS (wc := (wl_k_X6_take cI cJ cK xf f1 f2 xn (nI fz) fn fs nf)) hP hD hS hA [2, 3, 4, 1] rfl [none, some 3, some 0, some 1, some 2] (by decide +kernel) (my_cV (As := [.ref xn, .int (nI a_1), .int (nI b_2)]) (rest := []) (ci := 6) (wc := (wl_k_X6_take cI cJ cK xf f1 f2 xn (nI fz) fn fs nf)) ⟨hx, hb, hml, hown, hts⟩ (cwV 3 hts gX8_takeBoth_X6_take rfl rfl rfl (by decide +kernel) ⟨Nat.le_of_ble_eq_true rfl, Nat.le_of_ble_eq_true rfl⟩) hN hK hP hD [2, 3, 4, 1] rfl (by decide) rfl 2 rfl rfl rfl rfl hl.1 rfl (Nat.le_of_ble_eq_true rfl) dX8_takeBoth_31 ⟨Nat.le_of_ble_eq_true rfl, Nat.le_of_ble_eq_true rfl⟩  ((k_X6_take l D cI cJ cK xf f1 f2 xn fz fn fs nf a_1 b_2 (by first | assumption | omega | decide +kernel) hR_nf (by first | assumption | omega | decide +kernel) (by first | assumption | omega | decide +kernel)) _)) (fun u H locs hp hPD hS => ?_)
          obtain ⟨fz_11, fn_12, fs_13, rfl, hhz_fz_14, hnd, hn8, hfz, hsv⟩ := hp
          obtain ⟨hP, hD⟩ := hPD rfl
          have hP : va_P D vwCl (wl_k_X8_takeBoth cI cJ cK x0 xn xl xt xo xf xs xp xq xr xc f1 f2 s1 s2 (nI z) nf (nI fz_11) fn_12 fs_13 (nI sz) sn ss) H := hP
          have hD : va_D A (wl_k_X8_takeBoth cI cJ cK x0 xn xl xt xo xf xs xp xq xr xc f1 f2 s1 s2 (nI z) nf (nI fz_11) fn_12 fs_13 (nI sz) sn ss) := hD
          refine lv_aload_n hx hb dX8_takeBoth_34 rfl (lv_at hl 0 rfl) ?_
          refine va_get (ci := 8) (v := .ref xs) (C := RX8) (T := TX8) (N := 11) hx hb hts hi8 hown hK hP 0 rfl rfl 6 (by decide) fl45 (fun _ h9 => h9) rfl dX8_takeBoth_35 ?_
          refine lv_aload_n hx hb dX8_takeBoth_38 rfl (lv_at hl 0 rfl) ?_
          refine va_get (ci := 8) (v := .ref xn) (C := RX8) (T := TX8) (N := 11) hx hb hts hi8 hown hK hP 0 rfl rfl 0 (by decide) fl9 (fun _ h9 => h9) rfl dX8_takeBoth_39 ?_
          refine lv_iload_n hx hb dX8_takeBoth_42 rfl (lv_at hl 3 rfl) ?_
          refine lv_iload hx hb dX8_takeBoth_43 (lv_at hl 4 rfl) ?_
          have hn81 := hn8
          refine my_goVS (wc := (wl_k_X6_take cI cJ cK xs s1 s2 xn (nI sz) sn ss nf)) hP hD hS hA [5, 6, 7, 1] rfl [none, some 3, none, none, none, some 0, some 1, some 2] (by decide +kernel) (my_cV (As := [.ref xn, .int (nI a_6), .int (nI b_7)]) (rest := []) (ci := 6) (wc := (wl_k_X6_take cI cJ cK xs s1 s2 xn (nI sz) sn ss nf)) ⟨hx, hb, hml, hown, hts⟩ (cwV 3 hts gX8_takeBoth_X6_take rfl rfl rfl (by decide +kernel) ⟨Nat.le_of_ble_eq_true rfl, Nat.le_of_ble_eq_true rfl⟩) hN hK hP hD [5, 6, 7, 1] rfl (by decide) rfl 5 rfl rfl rfl rfl hl.1 rfl (Nat.le_of_ble_eq_true rfl) dX8_takeBoth_45 ⟨Nat.le_of_ble_eq_true rfl, Nat.le_of_ble_eq_true rfl⟩  ((k_X6_take l D cI cJ cK xs s1 s2 xn sz sn ss nf a_6 b_7 (by first | assumption | omega | decide +kernel) hR_nf (by first | assumption | omega | decide +kernel) (by first | assumption | omega | decide +kernel)) _)) (fun u H locs hp hPD hS => ?_)
          obtain ⟨fz_15, fn_16, fs_17, rfl, hhz_fz_18, hnd, hn8, hfz, hsv⟩ := hp
          obtain ⟨hP, hD⟩ := hPD rfl
          have hP : va_P D vwCl (wl_k_X8_takeBoth cI cJ cK x0 xn xl xt xo xf xs xp xq xr xc f1 f2 s1 s2 (nI z) nf (nI fz_11) fn_12 fs_13 (nI fz_15) fn_16 fs_17) H := hP
          have hD : va_D A (wl_k_X8_takeBoth cI cJ cK x0 xn xl xt xo xf xs xp xq xr xc f1 f2 s1 s2 (nI z) nf (nI fz_11) fn_12 fs_13 (nI fz_15) fn_16 fs_17) := hD
          refine lv_iconst (v := 1) hx hb dX8_takeBoth_48 (by decide +kernel) ?_
          exact my_retZ hx hb hr hlocks (by decide +kernel) hK hS (wl_k_X8_takeBoth cI cJ cK x0 xn xl xt xo xf xs xp xq xr xc f1 f2 s1 s2 (nI z) nf (nI fz_11) fn_12 fs_13 (nI fz_15) fn_16 fs_17) hP hD (Or.inl ⟨a_1, b_2, a_6, b_7, fz_11, fn_12, fs_13, fz_15, fn_16, fs_17, rfl, rfl, rfl, rfl, rfl, rfl, (by first | assumption | omega | trivial | decide +kernel), (by first | assumption | omega | trivial | decide +kernel), (by first | assumption | omega | trivial | decide +kernel), (by first | assumption | omega | trivial | decide +kernel), (by first | assumption | omega | trivial | decide +kernel), (by first | assumption | omega | trivial | decide +kernel), hn81, hn8⟩) dX8_takeBoth_49
        ·
          exact absurd c16 (by decide +kernel)
      ·
        refine lv_if_ne (tgt := 21) hx hb dX8_takeBoth_16 (by decide) (fun c16 => ?_) (fun c16 => ?_)
        ·
          exact absurd c16 (by decide +kernel)
        ·
          refine lv_iconst (v := 0) hx hb dX8_takeBoth_19 (by decide +kernel) ?_
          exact my_retZ hx hb hr hlocks (by decide +kernel) hK hS (wl_k_X8_takeBoth cI cJ cK x0 xn xl xt xo xf xs xp xq xr xc f1 f2 s1 s2 (nI z) nf (nI fz) fn fs (nI sz) sn ss) hP hD (Or.inr (⟨rfl, rfl, (by first | assumption | omega | trivial | decide +kernel)⟩)) dX8_takeBoth_20
  ·
    refine lv_if_eq (tgt := 19) hx hb dX8_takeBoth_6 (by decide) (fun c6 => ?_) (fun c6 => ?_)
    ·
      refine lv_iconst (v := 0) hx hb dX8_takeBoth_19 (by decide +kernel) ?_
      exact my_retZ hx hb hr hlocks (by decide +kernel) hK hS (wl_k_X8_takeBoth cI cJ cK x0 xn xl xt xo xf xs xp xq xr xc f1 f2 s1 s2 (nI z) nf (nI fz) fn fs (nI sz) sn ss) hP hD (Or.inr (⟨rfl, rfl, (by first | assumption | omega | trivial | decide +kernel)⟩)) dX8_takeBoth_20
    ·
      exact absurd c6 (by decide +kernel)
abbrev wl_k_X8_common (cI cJ cK : ClassId) (x0 : Nat) (xn : Nat) (xl : Nat) (xt : Nat) (xo : Nat) (xf : Nat) (xs : Nat) (xp : Nat) (xq : Nat) (xr : Nat) (xc : Nat) (f1 : Nat) (f2 : Nat) (s1 : Nat) (s2 : Nat) (o1 : Nat) (v0_ : Int32) (v1_ : Nat → Int32) (v2_ : Int32) (v3_ : Nat → Int32) (v4_ : Nat → Int32) (v5_ : Int32) (v6_ : Nat → Int32) (v7_ : Nat → Int32) (v8_ : Int32) (v9_ : Nat → Int64) : va_W := [(x0, .inr (8, [.ref xn, .int v0_, .ref xl, .ref xt, .ref xo, .ref xf, .ref xs, .ref xp, .ref xq, .ref xr, .ref xc])), (xn, .inl (cI, 64, .inl v1_)), (xf, .inr (6, [.ref f1, .ref f2, .int v2_])), (f1, .inl (cI, 512, .inl v3_)), (f2, .inl (cI, 64, .inl v4_)), (xs, .inr (6, [.ref s1, .ref s2, .int v5_])), (s1, .inl (cI, 512, .inl v6_)), (s2, .inl (cI, 64, .inl v7_)), (xo, .inr (7, [.ref o1, .int v8_])), (o1, .inl (cJ, 64, .inr (.inl v9_)))]
set_option maxHeartbeats 4000000 in
set_option maxRecDepth 100000 in
theorem k_X8_common (l : Launch) (D : va_G) (cI cJ cK : ClassId) (x0 : Nat) (xn : Nat) (xl : Nat) (xt : Nat) (xo : Nat) (xf : Nat) (xs : Nat) (xp : Nat) (xq : Nat) (xr : Nat) (xc : Nat) (f1 : Nat) (f2 : Nat) (s1 : Nat) (s2 : Nat) (o1 : Nat) (z : Nat) (nf : Nat → Int32) (fz : Nat) (fn : Nat → Int32) (fs : Nat → Int32) (sz : Nat) (sn : Nat → Int32) (ss : Nat → Int32) (oz : Nat) (of : Nat → Int64) (l9 : Int32) (r9 : Int32) (s9 : Int32) (t9 : Int32) (hz_z : z ≤ 64) (hR_nf : RB 0 255 nf) (hz_fz : fz ≤ 64) (hz_sz : sz ≤ 64) (hz_oz : oz ≤ 64) : ctI l yX8_common wsX8_common ({ frames := 5, cells := 0, slots := 0, locals := 300 } : Room) D (tyIJ cI cJ cK) [.ref x0, .int l9, .int r9, .int s9, .int t9] (wl_k_X8_common cI cJ cK x0 xn xl xt xo xf xs xp xq xr xc f1 f2 s1 s2 o1 (nI z) nf (nI fz) fn fs (nI sz) sn ss (nI oz) of) (fun (r : Int32) (u : va_W) => (u = (wl_k_X8_common cI cJ cK x0 xn xl xt xo xf xs xp xq xr xc f1 f2 s1 s2 o1 (nI z) nf (nI fz) fn fs (nI sz) sn ss (nI oz) of) ∧ r = (-1) ∧ (l9.toInt < 0 ∨ r9.toInt < l9.toInt ∨ z < r9.toInt ∨ s9.toInt < 0 ∨ t9.toInt < s9.toInt ∨ z < t9.toInt)) ∨ (∃ (t' : Nat) (fz' : Nat) (fn' : Nat → Int32) (fs' : Nat → Int32) (sz' : Nat) (sn' : Nat → Int32) (ss' : Nat → Int32) (oz' : Nat) (of' : Nat → Int64), u = (wl_k_X8_common cI cJ cK x0 xn xl xt xo xf xs xp xq xr xc f1 f2 s1 s2 o1 (nI z) nf (nI fz') fn' fs' (nI sz') sn' ss' (nI oz') of') ∧ r = nI t' ∧ fz' ≤ 64 ∧ sz' ≤ 64 ∧ oz' ≤ 64 ∧ 0 ≤ l9.toInt ∧ l9.toInt ≤ r9.toInt ∧ r9.toInt ≤ z ∧ 0 ≤ s9.toInt ∧ s9.toInt ≤ t9.toInt ∧ t9.toInt ≤ z ∧ t' = fb_ct (cmP (cnF nf l9.toInt.toNat r9.toInt.toNat) (cnF nf s9.toInt.toNat t9.toInt.toNat)) 256 ∧ oz' = 1 + 3 * min t' 16)) := by
  refine ctI.of (cc := cX8_common) (maxL := 7) (ret := (some .int)) (by decide) rfl (Nat.le_of_ble_eq_true rfl) ?_
  intro p e s m below meth c ls A hx hb hr hts hown hml hlocks hname hA hK hN hP hD hS hl
  have hl : lv_has ls 7 [(0, .ref x0), (1, .int l9), (2, .int r9), (3, .int s9), (4, .int t9)] := hl
  have hown : s.vm.findClass RX8 = some m.cls := hown
  have hi8 : ∀ w ∈ u_ws RX8 TX8 11, w ∈ wsX8_common := by decide +kernel
  have fl34 := hts (.fieldLink RX8 34 "PlaneColumn" "told" "LPlaneColumn$Told;") (by decide +kernel)
  have fl41 := hts (.fieldLink RX8 41 "PlaneColumn" "first" "LPlaneColumn$Tally;") (by decide +kernel)
  have fl45 := hts (.fieldLink RX8 45 "PlaneColumn" "second" "LPlaneColumn$Tally;") (by decide +kernel)
  refine lv_aload_n hx hb dX8_common_0 rfl (lv_at hl 0 rfl) ?_
  refine lv_iload_n hx hb dX8_common_1 rfl (lv_at hl 1 rfl) ?_
  refine lv_iload_n hx hb dX8_common_2 rfl (lv_at hl 2 rfl) ?_
  refine lv_iload_n hx hb dX8_common_3 rfl (lv_at hl 3 rfl) ?_
  refine lv_iload hx hb dX8_common_4 (lv_at hl 4 rfl) ?_
  refine my_goIS (wc := (wl_k_X8_takeBoth cI cJ cK x0 xn xl xt xo xf xs xp xq xr xc f1 f2 s1 s2 (nI z) nf (nI fz) fn fs (nI sz) sn ss)) hP hD hS hA [0, 1, 2, 3, 4, 5, 6, 7] rfl [some 0, some 1, some 2, some 3, some 4, some 5, some 6, some 7] (by decide +kernel) (my_cV (As := [.int l9, .int r9, .int s9, .int t9]) (rest := []) (ci := 8) (wc := (wl_k_X8_takeBoth cI cJ cK x0 xn xl xt xo xf xs xp xq xr xc f1 f2 s1 s2 (nI z) nf (nI fz) fn fs (nI sz) sn ss)) ⟨hx, hb, hml, hown, hts⟩ (cwV 4 hts gX8_common_X8_takeBoth rfl rfl rfl (by decide +kernel) ⟨Nat.le_of_ble_eq_true rfl, Nat.le_of_ble_eq_true rfl⟩) hN hK hP hD [0, 1, 2, 3, 4, 5, 6, 7] rfl (by decide) rfl 0 rfl rfl rfl rfl hl.1 rfl (Nat.le_of_ble_eq_true rfl) dX8_common_6 ⟨Nat.le_of_ble_eq_true rfl, Nat.le_of_ble_eq_true rfl⟩  ((k_X8_takeBoth l D cI cJ cK x0 xn xl xt xo xf xs xp xq xr xc f1 f2 s1 s2 z nf fz fn fs sz sn ss l9 r9 s9 t9 (by first | assumption | omega | decide +kernel) hR_nf (by first | assumption | omega | decide +kernel) (by first | assumption | omega | decide +kernel)) _)) (fun r u H locs hp hPD hS => ?_)
  rcases hp with ⟨a_1, b_2, e_3, d_4, fz_5, fn_6, fs_7, sz_8, sn_9, ss_10, rfl, rfl, rfl, rfl, rfl, rfl, hhz_fz_11, hhz_sz_12, hx1_13, hx2_14, hx3_15, hx4_16, hnF, hnS⟩ | ⟨rfl, rfl, ho_17⟩
  ·
    obtain ⟨hP, hD⟩ := hPD rfl
    have hP : va_P D vwCl (wl_k_X8_common cI cJ cK x0 xn xl xt xo xf xs xp xq xr xc f1 f2 s1 s2 o1 (nI z) nf (nI fz_5) fn_6 fs_7 (nI sz_8) sn_9 ss_10 (nI oz) of) H := hP
    have hD : va_D A (wl_k_X8_common cI cJ cK x0 xn xl xt xo xf xs xp xq xr xc f1 f2 s1 s2 o1 (nI z) nf (nI fz_5) fn_6 fs_7 (nI sz_8) sn_9 ss_10 (nI oz) of) := hD
    refine lv_if_ne (tgt := 14) hx hb dX8_common_9 (by decide) (fun c9 => ?_) (fun c9 => ?_)
    ·
      refine lv_aload_n hx hb dX8_common_14 rfl (lv_at hl 0 rfl) ?_
      refine lv_aload_n hx hb dX8_common_15 rfl (lv_at hl 0 rfl) ?_
      refine va_get (ci := 8) (v := .ref xf) (C := RX8) (T := TX8) (N := 11) hx hb hts hi8 hown hK hP 0 rfl rfl 5 (by decide) fl41 (fun _ h9 => h9) rfl dX8_common_16 ?_
      refine lv_aload_n hx hb dX8_common_19 rfl (lv_at hl 0 rfl) ?_
      refine va_get (ci := 8) (v := .ref xs) (C := RX8) (T := TX8) (N := 11) hx hb hts hi8 hown hK hP 0 rfl rfl 6 (by decide) fl45 (fun _ h9 => h9) rfl dX8_common_20 ?_
      refine my_gpI (my_pV (As := [.ref xs]) (rest := [.ref x0]) (ci := 6) ⟨hx, hb, hml, hown, hts⟩ (cwV 1 hts gX8_common_X6_nodesSharedWith rfl rfl rfl (by decide +kernel) ⟨Nat.le_of_ble_eq_true rfl, Nat.le_of_ble_eq_true rfl⟩) hN hK hP [2, 3, 5, 6] rfl 2 rfl rfl rfl rfl hl.1 rfl (Nat.le_of_ble_eq_true rfl) dX8_common_23 ⟨Nat.le_of_ble_eq_true rfl, Nat.le_of_ble_eq_true rfl⟩  (k_X6_nodesSharedWith l D cI cJ cK xf f1 f2 xs s1 s2 fz_5 fn_6 sz_8 sn_9 (by first | assumption | omega | decide +kernel) (by first | assumption | omega | decide +kernel))) (fun r hp => ?_)
      obtain _ := hp
      obtain ⟨r_18, rfl⟩ : ∃ z, z = r := ⟨_, rfl⟩
      refine lv_i2l (v := r_18.toInt64) hx hb dX8_common_26 rfl ?_
      refine my_goVS (wc := (wl_k_X8_tell cI cJ cK x0 xn xl xt xo xf xs xp xq xr xc o1 (nI z) (nI oz) of)) hP hD hS hA [0, 8, 9] rfl [some 0, none, none, none, none, none, none, none, some 1, some 2] (by decide +kernel) (my_cV (As := [.long r_18.toInt64]) (rest := []) (ci := 8) (wc := (wl_k_X8_tell cI cJ cK x0 xn xl xt xo xf xs xp xq xr xc o1 (nI z) (nI oz) of)) ⟨hx, hb, hml, hown, hts⟩ (cwV 1 hts gX8_common_X8_tell rfl rfl rfl (by decide +kernel) ⟨Nat.le_of_ble_eq_true rfl, Nat.le_of_ble_eq_true rfl⟩) hN hK hP hD [0, 8, 9] rfl (by decide) rfl 0 rfl rfl rfl rfl hl.1 rfl (Nat.le_of_ble_eq_true rfl) dX8_common_27 ⟨Nat.le_of_ble_eq_true rfl, Nat.le_of_ble_eq_true rfl⟩  ((k_X8_tell l D cI cJ cK x0 xn xl xt xo xf xs xp xq xr xc o1 z oz of r_18.toInt64 (by first | assumption | omega | decide +kernel) (by first | assumption | omega | decide +kernel)) _)) (fun u H locs hp hPD hS => ?_)
      obtain ⟨of_19, rfl, hv0, ht_20⟩ := hp
      obtain ⟨hP, hD⟩ := hPD rfl
      have hP : va_P D vwCl (wl_k_X8_common cI cJ cK x0 xn xl xt xo xf xs xp xq xr xc f1 f2 s1 s2 o1 (nI z) nf (nI fz_5) fn_6 fs_7 (nI sz_8) sn_9 ss_10 1 of_19) H := hP
      have hD : va_D A (wl_k_X8_common cI cJ cK x0 xn xl xt xo xf xs xp xq xr xc f1 f2 s1 s2 o1 (nI z) nf (nI fz_5) fn_6 fs_7 (nI sz_8) sn_9 ss_10 1 of_19) := hD
      refine lv_iconst (v := 0) hx hb dX8_common_30 (by decide +kernel) ?_
      refine lv_istore (lv' := [(5, .int 0), (0, .ref x0), (1, .int (nI a_1)), (2, .int (nI b_2)), (3, .int (nI e_3)), (4, .int (nI d_4))]) hx hb dX8_common_31 hl (by decide) rfl (fun ls hl => ?_)
      refine lv_iconst (v := 0) hx hb dX8_common_33 (by decide +kernel) ?_
      refine lv_istore (lv' := [(6, .int 0), (5, .int 0), (0, .ref x0), (1, .int (nI a_1)), (2, .int (nI b_2)), (3, .int (nI e_3)), (4, .int (nI d_4))]) hx hb dX8_common_34 hl (by decide) rfl (fun ls hl => ?_)
      have loop36 : ∀ (n9 : Nat) (v : Nat) (t : Nat) (xo_size_36 : Nat) (o1_36 : Nat → Int64), 256 - v < n9 → (t ≤ 256) → (v ≤ 256) → (t ≤ v) → (t = fb_ct (cmP (cnF nf a_1 b_2) (cnF nf e_3 d_4)) v) → (xo_size_36 = 1 + 3 * min t 16) → (xo_size_36 ≤ 64) → ∀ (H : Heap) (locs : List Loc) (ls : Array Slot), va_P D vwCl (wl_k_X8_common cI cJ cK x0 xn xl xt xo xf xs xp xq xr xc f1 f2 s1 s2 o1 (nI z) nf (nI fz_5) fn_6 fs_7 (nI sz_8) sn_9 ss_10 (nI xo_size_36) o1_36) H → va_D A (wl_k_X8_common cI cJ cK x0 xn xl xt xo xf xs xp xq xr xc f1 f2 s1 s2 o1 (nI z) nf (nI fz_5) fn_6 fs_7 (nI sz_8) sn_9 ss_10 (nI xo_size_36) o1_36) → va_S A s.heap H locs → lv_has ls 7 [(6, .int (nI v)), (5, .int (nI t)), (0, .ref x0), (1, .int (nI a_1)), (2, .int (nI b_2)), (3, .int (nI e_3)), (4, .int (nI d_4))] → W p l e ({ frames := 5, cells := 0, slots := 0, locals := 300 } : Room) s m [.ref x0, .int (nI a_1), .int (nI b_2), .int (nI e_3), .int (nI d_4)].toArray below meth c H locs 0 0 (MQ below (va_Qi (fun (r : Int32) (u : va_W) => (u = (wl_k_X8_common cI cJ cK x0 xn xl xt xo xf xs xp xq xr xc f1 f2 s1 s2 o1 (nI z) nf (nI fz) fn fs (nI sz) sn ss (nI oz) of) ∧ r = (-1) ∧ ((nI a_1).toInt < 0 ∨ (nI b_2).toInt < (nI a_1).toInt ∨ z < (nI b_2).toInt ∨ (nI e_3).toInt < 0 ∨ (nI d_4).toInt < (nI e_3).toInt ∨ z < (nI d_4).toInt)) ∨ (∃ (t' : Nat) (fz' : Nat) (fn' : Nat → Int32) (fs' : Nat → Int32) (sz' : Nat) (sn' : Nat → Int32) (ss' : Nat → Int32) (oz' : Nat) (of' : Nat → Int64), u = (wl_k_X8_common cI cJ cK x0 xn xl xt xo xf xs xp xq xr xc f1 f2 s1 s2 o1 (nI z) nf (nI fz') fn' fs' (nI sz') sn' ss' (nI oz') of') ∧ r = nI t' ∧ fz' ≤ 64 ∧ sz' ≤ 64 ∧ oz' ≤ 64 ∧ 0 ≤ (nI a_1).toInt ∧ (nI a_1).toInt ≤ (nI b_2).toInt ∧ (nI b_2).toInt ≤ z ∧ 0 ≤ (nI e_3).toInt ∧ (nI e_3).toInt ≤ (nI d_4).toInt ∧ (nI d_4).toInt ≤ z ∧ t' = fb_ct (cmP (cnF nf (nI a_1).toInt.toNat (nI b_2).toInt.toNat) (cnF nf (nI e_3).toInt.toNat (nI d_4).toInt.toNat)) 256 ∧ oz' = 1 + 3 * min t' 16)) (my_B D (tyIJ cI cJ cK) A) A) [.ref x0, .int (nI a_1), .int (nI b_2), .int (nI e_3), .int (nI d_4)].toArray s 0 0 A) (F0 m 36 ls []) := by
        intro n9
        induction n9 with
        | zero =>
          intro v t xo_size_36 o1_36 hn9
          exact absurd hn9 (Nat.not_lt_zero _)
        | succ n9 ih36 =>
          intro v t xo_size_36 o1_36 hn9 hk_t hk_v htv ht htd9 hz_xo_size_36 H locs ls hP hD hS hl
          refine lv_iload hx hb dX8_common_36 (lv_at hl 0 rfl) ?_
          refine lv_sipush (v := 255) hx hb dX8_common_38 (by decide +kernel) ?_
          refine lv_icmp_gt (tgt := 128) hx hb dX8_common_41 (by decide) (fun c41 => ?_) (fun c41 => ?_)
          ·
            have d41 : ((v : Nat) : Int) > (255 : Int) := my_gt c41 (nI_toInt (by omega)) (by decide +kernel)
            refine lv_iload hx hb dX8_common_128 (lv_at hl 1 rfl) ?_
            have hsI_l9 : (nI a_1).toInt = ((a_1 : Nat) : Int) := nI_toInt (by omega)
            have hsN_l9 : (nI a_1).toInt.toNat = a_1 := nIt (by omega)
            have hsI_r9 : (nI b_2).toInt = ((b_2 : Nat) : Int) := nI_toInt (by omega)
            have hsN_r9 : (nI b_2).toInt.toNat = b_2 := nIt (by omega)
            have hsI_s9 : (nI e_3).toInt = ((e_3 : Nat) : Int) := nI_toInt (by omega)
            have hsN_s9 : (nI e_3).toInt.toNat = e_3 := nIt (by omega)
            have hsI_t9 : (nI d_4).toInt = ((d_4 : Nat) : Int) := nI_toInt (by omega)
            have hsN_t9 : (nI d_4).toInt.toNat = d_4 := nIt (by omega)
            exact my_retI hx hb hr hlocks hK hS (wl_k_X8_common cI cJ cK x0 xn xl xt xo xf xs xp xq xr xc f1 f2 s1 s2 o1 (nI z) nf (nI fz_5) fn_6 fs_7 (nI sz_8) sn_9 ss_10 (nI xo_size_36) o1_36) hP hD (Or.inr (⟨t, fz_5, fn_6, fs_7, sz_8, sn_9, ss_10, xo_size_36, o1_36, rfl, rfl, (by first | assumption | omega | trivial | decide +kernel), (by first | assumption | omega | trivial | decide +kernel), (by first | assumption | omega | trivial | decide +kernel), (by first | assumption | omega | trivial | decide +kernel), (by first | assumption | omega | trivial | decide +kernel), (by first | assumption | omega | trivial | decide +kernel), (by first | assumption | omega | trivial | decide +kernel), (by first | assumption | omega | trivial | decide +kernel), (by first | assumption | omega | trivial | decide +kernel), (by rw [hsN_l9, hsN_r9, hsN_s9, hsN_t9, ht, show v = 256 from (by omega)]), (by first | assumption | omega | trivial | decide +kernel)⟩)) dX8_common_130
          ·
            have d41 : ((v : Nat) : Int) ≤ (255 : Int) := my_ngt c41 (nI_toInt (by omega)) (by decide +kernel)
            refine lv_aload_n hx hb dX8_common_44 rfl (lv_at hl 2 rfl) ?_
            refine va_get (ci := 8) (v := .ref xf) (C := RX8) (T := TX8) (N := 11) hx hb hts hi8 hown hK hP 0 rfl rfl 5 (by decide) fl41 (fun _ h9 => h9) rfl dX8_common_45 ?_
            refine lv_iload hx hb dX8_common_48 (lv_at hl 0 rfl) ?_
            refine my_gpI (my_pV (As := [.int (nI v)]) (rest := []) (ci := 6) ⟨hx, hb, hml, hown, hts⟩ (cwV 1 hts gX8_common_X6_timesOf rfl rfl rfl (by decide +kernel) ⟨Nat.le_of_ble_eq_true rfl, Nat.le_of_ble_eq_true rfl⟩) hN hK hP [2, 3] rfl 2 rfl rfl rfl rfl hl.1 rfl (Nat.le_of_ble_eq_true rfl) dX8_common_50 ⟨Nat.le_of_ble_eq_true rfl, Nat.le_of_ble_eq_true rfl⟩  (kt_X6_timesOf l D cI cJ cK xf f1 f2 fz_5 fn_6 v (cnF nf a_1 b_2) (by first | assumption | omega | decide +kernel) (by first | assumption | omega | decide +kernel) (hnF) (cnF_64 (by omega)))) (fun r hp => ?_)
            obtain ⟨t_21, rfl, htm, hq_22⟩ := hp
            refine lv_if_le (tgt := 122) hx hb dX8_common_53 (by decide) (fun c53 => ?_) (fun c53 => ?_)
            ·
              have d53 : ((t_21 : Nat) : Int) ≤ (0 : Int) := my_le c53 (nI_toInt (by omega)) (by decide +kernel)
              refine lv_iinc (v := nI (v + 1)) (lv' := [(6, .int (nI (v + 1))), (5, .int (nI t)), (0, .ref x0), (1, .int (nI a_1)), (2, .int (nI b_2)), (3, .int (nI e_3)), (4, .int (nI d_4))]) hx hb dX8_common_122 hl (k := 0) rfl (my_incN v 1 (by decide +kernel)) (by decide) rfl (fun ls hl => ?_)
              refine lv_goto (tgt := 36) hx hb dX8_common_125 (by decide) ?_
              exact ih36  (v + 1) t xo_size_36 o1_36 (by omega) (by first | assumption | omega | decide +kernel) (by first | assumption | omega | decide +kernel) (by first | assumption | omega | decide +kernel) (by first | exact ct_yes ht (decide_eq_true (by omega)) | exact ct_no ht (decide_eq_false (by omega))) (by first | assumption | omega | decide +kernel) (by first | assumption | omega | decide +kernel) _ _ ls hP hD hS (lv_sub hl [0, 1, 2, 3, 4, 5, 6] rfl)
            ·
              have d53 : ((t_21 : Nat) : Int) > (0 : Int) := my_nle c53 (nI_toInt (by omega)) (by decide +kernel)
              refine lv_aload_n hx hb dX8_common_56 rfl (lv_at hl 2 rfl) ?_
              refine va_get (ci := 8) (v := .ref xs) (C := RX8) (T := TX8) (N := 11) hx hb hts hi8 hown hK hP 0 rfl rfl 6 (by decide) fl45 (fun _ h9 => h9) rfl dX8_common_57 ?_
              refine lv_iload hx hb dX8_common_60 (lv_at hl 0 rfl) ?_
              refine my_gpI (my_pV (As := [.int (nI v)]) (rest := []) (ci := 6) ⟨hx, hb, hml, hown, hts⟩ (cwV 1 hts gX8_common_X6_timesOf rfl rfl rfl (by decide +kernel) ⟨Nat.le_of_ble_eq_true rfl, Nat.le_of_ble_eq_true rfl⟩) hN hK hP [5, 6] rfl 5 rfl rfl rfl rfl hl.1 rfl (Nat.le_of_ble_eq_true rfl) dX8_common_62 ⟨Nat.le_of_ble_eq_true rfl, Nat.le_of_ble_eq_true rfl⟩  (kt_X6_timesOf l D cI cJ cK xs s1 s2 sz_8 sn_9 v (cnF nf e_3 d_4) (by first | assumption | omega | decide +kernel) (by first | assumption | omega | decide +kernel) (hnS) (cnF_64 (by omega)))) (fun r hp => ?_)
              obtain ⟨t_23, rfl, htm, hq_24⟩ := hp
              refine lv_if_le (tgt := 122) hx hb dX8_common_65 (by decide) (fun c65 => ?_) (fun c65 => ?_)
              ·
                have d65 : ((t_23 : Nat) : Int) ≤ (0 : Int) := my_le c65 (nI_toInt (by omega)) (by decide +kernel)
                refine lv_iinc (v := nI (v + 1)) (lv' := [(6, .int (nI (v + 1))), (5, .int (nI t)), (0, .ref x0), (1, .int (nI a_1)), (2, .int (nI b_2)), (3, .int (nI e_3)), (4, .int (nI d_4))]) hx hb dX8_common_122 hl (k := 0) rfl (my_incN v 1 (by decide +kernel)) (by decide) rfl (fun ls hl => ?_)
                refine lv_goto (tgt := 36) hx hb dX8_common_125 (by decide) ?_
                exact ih36  (v + 1) t xo_size_36 o1_36 (by omega) (by first | assumption | omega | decide +kernel) (by first | assumption | omega | decide +kernel) (by first | assumption | omega | decide +kernel) (by first | exact ct_yes ht (decide_eq_true (by omega)) | exact ct_no ht (decide_eq_false (by omega))) (by first | assumption | omega | decide +kernel) (by first | assumption | omega | decide +kernel) _ _ ls hP hD hS (lv_sub hl [0, 1, 2, 3, 4, 5, 6] rfl)
              ·
                have d65 : ((t_23 : Nat) : Int) > (0 : Int) := my_nle c65 (nI_toInt (by omega)) (by decide +kernel)
                refine lv_iload hx hb dX8_common_68 (lv_at hl 1 rfl) ?_
                refine lv_bipush (v := 16) hx hb dX8_common_70 (by decide +kernel) ?_
                refine lv_icmp_ge (tgt := 119) hx hb dX8_common_72 (by decide) (fun c72 => ?_) (fun c72 => ?_)
                ·
                  have d72 : ((t : Nat) : Int) ≥ (16 : Int) := my_ge c72 (nI_toInt (by omega)) (by decide +kernel)
                  refine lv_iinc (v := nI (t + 1)) (lv' := [(5, .int (nI (t + 1))), (6, .int (nI v)), (0, .ref x0), (1, .int (nI a_1)), (2, .int (nI b_2)), (3, .int (nI e_3)), (4, .int (nI d_4))]) hx hb dX8_common_119 hl (k := 1) rfl (my_incN t 1 (by decide +kernel)) (by decide) rfl (fun ls hl => ?_)
                  refine lv_iinc (v := nI (v + 1)) (lv' := [(6, .int (nI (v + 1))), (5, .int (nI (t + 1))), (0, .ref x0), (1, .int (nI a_1)), (2, .int (nI b_2)), (3, .int (nI e_3)), (4, .int (nI d_4))]) hx hb dX8_common_122 hl (k := 1) rfl (my_incN v 1 (by decide +kernel)) (by decide) rfl (fun ls hl => ?_)
                  refine lv_goto (tgt := 36) hx hb dX8_common_125 (by decide) ?_
                  exact ih36  (v + 1) (t + 1) xo_size_36 o1_36 (by omega) (by first | assumption | omega | decide +kernel) (by first | assumption | omega | decide +kernel) (by first | assumption | omega | decide +kernel) (by first | exact ct_yes ht (decide_eq_true (by omega)) | exact ct_no ht (decide_eq_false (by omega))) (by first | assumption | omega | decide +kernel) (by first | assumption | omega | decide +kernel) _ _ ls hP hD hS (lv_sub hl [0, 1, 2, 3, 4, 5, 6] rfl)
                ·
                  have d72 : ((t : Nat) : Int) < (16 : Int) := my_nge c72 (nI_toInt (by omega)) (by decide +kernel)
                  refine lv_aload_n hx hb dX8_common_75 rfl (lv_at hl 2 rfl) ?_
                  refine va_get (ci := 8) (v := .ref xo) (C := RX8) (T := TX8) (N := 11) hx hb hts hi8 hown hK hP 0 rfl rfl 4 (by decide) fl34 (fun _ h9 => h9) rfl dX8_common_76 ?_
                  refine lv_iload hx hb dX8_common_79 (lv_at hl 0 rfl) ?_
                  refine lv_i2l (v := lN v) hx hb dX8_common_81 (nI_l (by omega)) ?_
                  refine my_goVS (wc := (wl_kf_X7_add cI cJ cK xo o1 (nI xo_size_36) o1_36)) hP hD hS hA [8, 9] rfl [none, none, none, none, none, none, none, none, some 0, some 1] (by decide +kernel) (my_cV (As := [.long (lN v)]) (rest := []) (ci := 7) (wc := (wl_kf_X7_add cI cJ cK xo o1 (nI xo_size_36) o1_36)) ⟨hx, hb, hml, hown, hts⟩ (cwV 1 hts gX8_common_X7_add rfl rfl rfl (by decide +kernel) ⟨Nat.le_of_ble_eq_true rfl, Nat.le_of_ble_eq_true rfl⟩) hN hK hP hD [8, 9] rfl (by decide) rfl 8 rfl rfl rfl rfl hl.1 rfl (Nat.le_of_ble_eq_true rfl) dX8_common_82 ⟨Nat.le_of_ble_eq_true rfl, Nat.le_of_ble_eq_true rfl⟩  ((kf_X7_add l D cI cJ cK xo o1 xo_size_36 o1_36 (lN v) (by first | assumption | omega | decide +kernel) (by first | assumption | omega | decide +kernel)) _)) (fun u H locs hp hPD hS => ?_)
                  obtain ⟨of_25, rfl, hof, ht_26⟩ := hp
                  obtain ⟨hP, hD⟩ := hPD rfl
                  have hP : va_P D vwCl (wl_k_X8_common cI cJ cK x0 xn xl xt xo xf xs xp xq xr xc f1 f2 s1 s2 o1 (nI z) nf (nI fz_5) fn_6 fs_7 (nI sz_8) sn_9 ss_10 (nI (xo_size_36 + 1)) of_25) H := hP
                  have hD : va_D A (wl_k_X8_common cI cJ cK x0 xn xl xt xo xf xs xp xq xr xc f1 f2 s1 s2 o1 (nI z) nf (nI fz_5) fn_6 fs_7 (nI sz_8) sn_9 ss_10 (nI (xo_size_36 + 1)) of_25) := hD
                  refine lv_aload_n hx hb dX8_common_85 rfl (lv_at hl 2 rfl) ?_
                  refine va_get (ci := 8) (v := .ref xo) (C := RX8) (T := TX8) (N := 11) hx hb hts hi8 hown hK hP 0 rfl rfl 4 (by decide) fl34 (fun _ h9 => h9) rfl dX8_common_86 ?_
                  refine lv_aload_n hx hb dX8_common_89 rfl (lv_at hl 2 rfl) ?_
                  refine va_get (ci := 8) (v := .ref xf) (C := RX8) (T := TX8) (N := 11) hx hb hts hi8 hown hK hP 0 rfl rfl 5 (by decide) fl41 (fun _ h9 => h9) rfl dX8_common_90 ?_
                  refine lv_iload hx hb dX8_common_93 (lv_at hl 0 rfl) ?_
                  refine my_gpI (my_pV (As := [.int (nI v)]) (rest := [.ref xo]) (ci := 6) ⟨hx, hb, hml, hown, hts⟩ (cwV 1 hts gX8_common_X6_timesOf rfl rfl rfl (by decide +kernel) ⟨Nat.le_of_ble_eq_true rfl, Nat.le_of_ble_eq_true rfl⟩) hN hK hP [2, 3] rfl 2 rfl rfl rfl rfl hl.1 rfl (Nat.le_of_ble_eq_true rfl) dX8_common_95 ⟨Nat.le_of_ble_eq_true rfl, Nat.le_of_ble_eq_true rfl⟩  (kt_X6_timesOf l D cI cJ cK xf f1 f2 fz_5 fn_6 v (cnF nf a_1 b_2) (by first | assumption | omega | decide +kernel) (by first | assumption | omega | decide +kernel) (hnF) (cnF_64 (by omega)))) (fun r hp => ?_)
                  obtain ⟨t_27, rfl, htm, hq_28⟩ := hp
                  refine lv_i2l (v := lN t_27) hx hb dX8_common_98 (nI_l (by omega)) ?_
                  refine my_goVS (wc := (wl_kf_X7_add cI cJ cK xo o1 (nI (xo_size_36 + 1)) of_25)) hP hD hS hA [8, 9] rfl [none, none, none, none, none, none, none, none, some 0, some 1] (by decide +kernel) (my_cV (As := [.long (lN t_27)]) (rest := []) (ci := 7) (wc := (wl_kf_X7_add cI cJ cK xo o1 (nI (xo_size_36 + 1)) of_25)) ⟨hx, hb, hml, hown, hts⟩ (cwV 1 hts gX8_common_X7_add rfl rfl rfl (by decide +kernel) ⟨Nat.le_of_ble_eq_true rfl, Nat.le_of_ble_eq_true rfl⟩) hN hK hP hD [8, 9] rfl (by decide) rfl 8 rfl rfl rfl rfl hl.1 rfl (Nat.le_of_ble_eq_true rfl) dX8_common_99 ⟨Nat.le_of_ble_eq_true rfl, Nat.le_of_ble_eq_true rfl⟩  ((kf_X7_add l D cI cJ cK xo o1 (xo_size_36 + 1) of_25 (lN t_27) (by first | assumption | omega | decide +kernel) (by first | assumption | omega | decide +kernel)) _)) (fun u H locs hp hPD hS => ?_)
                  obtain ⟨of_29, rfl, hof, ht_30⟩ := hp
                  obtain ⟨hP, hD⟩ := hPD rfl
                  have hP : va_P D vwCl (wl_k_X8_common cI cJ cK x0 xn xl xt xo xf xs xp xq xr xc f1 f2 s1 s2 o1 (nI z) nf (nI fz_5) fn_6 fs_7 (nI sz_8) sn_9 ss_10 (nI ((xo_size_36 + 1) + 1)) of_29) H := hP
                  have hD : va_D A (wl_k_X8_common cI cJ cK x0 xn xl xt xo xf xs xp xq xr xc f1 f2 s1 s2 o1 (nI z) nf (nI fz_5) fn_6 fs_7 (nI sz_8) sn_9 ss_10 (nI ((xo_size_36 + 1) + 1)) of_29) := hD
                  refine lv_aload_n hx hb dX8_common_102 rfl (lv_at hl 2 rfl) ?_
                  refine va_get (ci := 8) (v := .ref xo) (C := RX8) (T := TX8) (N := 11) hx hb hts hi8 hown hK hP 0 rfl rfl 4 (by decide) fl34 (fun _ h9 => h9) rfl dX8_common_103 ?_
                  refine lv_aload_n hx hb dX8_common_106 rfl (lv_at hl 2 rfl) ?_
                  refine va_get (ci := 8) (v := .ref xs) (C := RX8) (T := TX8) (N := 11) hx hb hts hi8 hown hK hP 0 rfl rfl 6 (by decide) fl45 (fun _ h9 => h9) rfl dX8_common_107 ?_
                  refine lv_iload hx hb dX8_common_110 (lv_at hl 0 rfl) ?_
                  refine my_gpI (my_pV (As := [.int (nI v)]) (rest := [.ref xo]) (ci := 6) ⟨hx, hb, hml, hown, hts⟩ (cwV 1 hts gX8_common_X6_timesOf rfl rfl rfl (by decide +kernel) ⟨Nat.le_of_ble_eq_true rfl, Nat.le_of_ble_eq_true rfl⟩) hN hK hP [5, 6] rfl 5 rfl rfl rfl rfl hl.1 rfl (Nat.le_of_ble_eq_true rfl) dX8_common_112 ⟨Nat.le_of_ble_eq_true rfl, Nat.le_of_ble_eq_true rfl⟩  (kt_X6_timesOf l D cI cJ cK xs s1 s2 sz_8 sn_9 v (cnF nf e_3 d_4) (by first | assumption | omega | decide +kernel) (by first | assumption | omega | decide +kernel) (hnS) (cnF_64 (by omega)))) (fun r hp => ?_)
                  obtain ⟨t_31, rfl, htm, hq_32⟩ := hp
                  refine lv_i2l (v := lN t_31) hx hb dX8_common_115 (nI_l (by omega)) ?_
                  refine my_goVS (wc := (wl_kf_X7_add cI cJ cK xo o1 (nI ((xo_size_36 + 1) + 1)) of_29)) hP hD hS hA [8, 9] rfl [none, none, none, none, none, none, none, none, some 0, some 1] (by decide +kernel) (my_cV (As := [.long (lN t_31)]) (rest := []) (ci := 7) (wc := (wl_kf_X7_add cI cJ cK xo o1 (nI ((xo_size_36 + 1) + 1)) of_29)) ⟨hx, hb, hml, hown, hts⟩ (cwV 1 hts gX8_common_X7_add rfl rfl rfl (by decide +kernel) ⟨Nat.le_of_ble_eq_true rfl, Nat.le_of_ble_eq_true rfl⟩) hN hK hP hD [8, 9] rfl (by decide) rfl 8 rfl rfl rfl rfl hl.1 rfl (Nat.le_of_ble_eq_true rfl) dX8_common_116 ⟨Nat.le_of_ble_eq_true rfl, Nat.le_of_ble_eq_true rfl⟩  ((kf_X7_add l D cI cJ cK xo o1 ((xo_size_36 + 1) + 1) of_29 (lN t_31) (by first | assumption | omega | decide +kernel) (by first | assumption | omega | decide +kernel)) _)) (fun u H locs hp hPD hS => ?_)
                  obtain ⟨of_33, rfl, hof, ht_34⟩ := hp
                  obtain ⟨hP, hD⟩ := hPD rfl
                  have hP : va_P D vwCl (wl_k_X8_common cI cJ cK x0 xn xl xt xo xf xs xp xq xr xc f1 f2 s1 s2 o1 (nI z) nf (nI fz_5) fn_6 fs_7 (nI sz_8) sn_9 ss_10 (nI (((xo_size_36 + 1) + 1) + 1)) of_33) H := hP
                  have hD : va_D A (wl_k_X8_common cI cJ cK x0 xn xl xt xo xf xs xp xq xr xc f1 f2 s1 s2 o1 (nI z) nf (nI fz_5) fn_6 fs_7 (nI sz_8) sn_9 ss_10 (nI (((xo_size_36 + 1) + 1) + 1)) of_33) := hD
                  refine lv_iinc (v := nI (t + 1)) (lv' := [(5, .int (nI (t + 1))), (6, .int (nI v)), (0, .ref x0), (1, .int (nI a_1)), (2, .int (nI b_2)), (3, .int (nI e_3)), (4, .int (nI d_4))]) hx hb dX8_common_119 hl (k := 1) rfl (my_incN t 1 (by decide +kernel)) (by decide) rfl (fun ls hl => ?_)
                  refine lv_iinc (v := nI (v + 1)) (lv' := [(6, .int (nI (v + 1))), (5, .int (nI (t + 1))), (0, .ref x0), (1, .int (nI a_1)), (2, .int (nI b_2)), (3, .int (nI e_3)), (4, .int (nI d_4))]) hx hb dX8_common_122 hl (k := 1) rfl (my_incN v 1 (by decide +kernel)) (by decide) rfl (fun ls hl => ?_)
                  refine lv_goto (tgt := 36) hx hb dX8_common_125 (by decide) ?_
                  exact ih36  (v + 1) (t + 1) (((xo_size_36 + 1) + 1) + 1) of_33 (by omega) (by first | assumption | omega | decide +kernel) (by first | assumption | omega | decide +kernel) (by first | assumption | omega | decide +kernel) (by first | exact ct_yes ht (decide_eq_true (by omega)) | exact ct_no ht (decide_eq_false (by omega))) (by first | assumption | omega | decide +kernel) (by first | assumption | omega | decide +kernel) _ _ ls hP hD hS (lv_sub hl [0, 1, 2, 3, 4, 5, 6] rfl)
      exact loop36 ((256 - 0) + 1) 0 0 1 of_19 (Nat.lt_succ_self _) (by first | assumption | omega | decide +kernel) (by first | assumption | omega | decide +kernel) (by first | assumption | omega | decide +kernel) (rfl) (by first | assumption | omega | decide +kernel) (by first | assumption | omega | decide +kernel) _ _ ls hP hD hS (lv_sub hl [0, 1, 2, 3, 4, 5, 6] rfl)
    ·
      exact absurd c9 (by decide +kernel)
  ·
    obtain ⟨hP, hD⟩ := hPD rfl
    have hP : va_P D vwCl (wl_k_X8_common cI cJ cK x0 xn xl xt xo xf xs xp xq xr xc f1 f2 s1 s2 o1 (nI z) nf (nI fz) fn fs (nI sz) sn ss (nI oz) of) H := hP
    have hD : va_D A (wl_k_X8_common cI cJ cK x0 xn xl xt xo xf xs xp xq xr xc f1 f2 s1 s2 o1 (nI z) nf (nI fz) fn fs (nI sz) sn ss (nI oz) of) := hD
    refine lv_if_ne (tgt := 14) hx hb dX8_common_9 (by decide) (fun c9 => ?_) (fun c9 => ?_)
    ·
      exact absurd c9 (by decide +kernel)
    ·
      refine lv_iconst (v := (-1)) hx hb dX8_common_12 (by decide +kernel) ?_
      exact my_retI hx hb hr hlocks hK hS (wl_k_X8_common cI cJ cK x0 xn xl xt xo xf xs xp xq xr xc f1 f2 s1 s2 o1 (nI z) nf (nI fz) fn fs (nI sz) sn ss (nI oz) of) hP hD (Or.inl ⟨rfl, rfl, (by first | assumption | omega | trivial | decide +kernel)⟩) dX8_common_13
abbrev wl_k_X8_lacking (cI cJ cK : ClassId) (x0 : Nat) (xn : Nat) (xl : Nat) (xt : Nat) (xo : Nat) (xf : Nat) (xs : Nat) (xp : Nat) (xq : Nat) (xr : Nat) (xc : Nat) (f1 : Nat) (f2 : Nat) (s1 : Nat) (s2 : Nat) (o1 : Nat) (v0_ : Int32) (v1_ : Nat → Int32) (v2_ : Int32) (v3_ : Nat → Int32) (v4_ : Nat → Int32) (v5_ : Int32) (v6_ : Nat → Int32) (v7_ : Nat → Int32) (v8_ : Int32) (v9_ : Nat → Int64) : va_W := [(x0, .inr (8, [.ref xn, .int v0_, .ref xl, .ref xt, .ref xo, .ref xf, .ref xs, .ref xp, .ref xq, .ref xr, .ref xc])), (xn, .inl (cI, 64, .inl v1_)), (xf, .inr (6, [.ref f1, .ref f2, .int v2_])), (f1, .inl (cI, 512, .inl v3_)), (f2, .inl (cI, 64, .inl v4_)), (xs, .inr (6, [.ref s1, .ref s2, .int v5_])), (s1, .inl (cI, 512, .inl v6_)), (s2, .inl (cI, 64, .inl v7_)), (xo, .inr (7, [.ref o1, .int v8_])), (o1, .inl (cJ, 64, .inr (.inl v9_)))]
set_option maxHeartbeats 4000000 in
set_option maxRecDepth 100000 in
theorem k_X8_lacking (l : Launch) (D : va_G) (cI cJ cK : ClassId) (x0 : Nat) (xn : Nat) (xl : Nat) (xt : Nat) (xo : Nat) (xf : Nat) (xs : Nat) (xp : Nat) (xq : Nat) (xr : Nat) (xc : Nat) (f1 : Nat) (f2 : Nat) (s1 : Nat) (s2 : Nat) (o1 : Nat) (z : Nat) (nf : Nat → Int32) (fz : Nat) (fn : Nat → Int32) (fs : Nat → Int32) (sz : Nat) (sn : Nat → Int32) (ss : Nat → Int32) (oz : Nat) (of : Nat → Int64) (l9 : Int32) (r9 : Int32) (s9 : Int32) (t9 : Int32) (hz_z : z ≤ 64) (hR_nf : RB 0 255 nf) (hz_fz : fz ≤ 64) (hz_sz : sz ≤ 64) (hz_oz : oz ≤ 64) : ctI l yX8_lacking wsX8_lacking ({ frames := 5, cells := 0, slots := 0, locals := 300 } : Room) D (tyIJ cI cJ cK) [.ref x0, .int l9, .int r9, .int s9, .int t9] (wl_k_X8_lacking cI cJ cK x0 xn xl xt xo xf xs xp xq xr xc f1 f2 s1 s2 o1 (nI z) nf (nI fz) fn fs (nI sz) sn ss (nI oz) of) (fun (r : Int32) (u : va_W) => (u = (wl_k_X8_lacking cI cJ cK x0 xn xl xt xo xf xs xp xq xr xc f1 f2 s1 s2 o1 (nI z) nf (nI fz) fn fs (nI sz) sn ss (nI oz) of) ∧ r = (-1) ∧ (l9.toInt < 0 ∨ r9.toInt < l9.toInt ∨ z < r9.toInt ∨ s9.toInt < 0 ∨ t9.toInt < s9.toInt ∨ z < t9.toInt)) ∨ (∃ (t' : Nat) (fz' : Nat) (fn' : Nat → Int32) (fs' : Nat → Int32) (sz' : Nat) (sn' : Nat → Int32) (ss' : Nat → Int32) (oz' : Nat) (of' : Nat → Int64), u = (wl_k_X8_lacking cI cJ cK x0 xn xl xt xo xf xs xp xq xr xc f1 f2 s1 s2 o1 (nI z) nf (nI fz') fn' fs' (nI sz') sn' ss' (nI oz') of') ∧ r = nI t' ∧ fz' ≤ 64 ∧ sz' ≤ 64 ∧ oz' ≤ 64 ∧ 0 ≤ l9.toInt ∧ l9.toInt ≤ r9.toInt ∧ r9.toInt ≤ z ∧ 0 ≤ s9.toInt ∧ s9.toInt ≤ t9.toInt ∧ t9.toInt ≤ z ∧ t' = fb_ct (lkP (cnF nf l9.toInt.toNat r9.toInt.toNat) (cnF nf s9.toInt.toNat t9.toInt.toNat)) 256 ∧ oz' = 2 * min t' 16)) := by
  refine ctI.of (cc := cX8_lacking) (maxL := 7) (ret := (some .int)) (by decide) rfl (Nat.le_of_ble_eq_true rfl) ?_
  intro p e s m below meth c ls A hx hb hr hts hown hml hlocks hname hA hK hN hP hD hS hl
  have hl : lv_has ls 7 [(0, .ref x0), (1, .int l9), (2, .int r9), (3, .int s9), (4, .int t9)] := hl
  have hown : s.vm.findClass RX8 = some m.cls := hown
  have hi8 : ∀ w ∈ u_ws RX8 TX8 11, w ∈ wsX8_lacking := by decide +kernel
  have fl34 := hts (.fieldLink RX8 34 "PlaneColumn" "told" "LPlaneColumn$Told;") (by decide +kernel)
  have fl41 := hts (.fieldLink RX8 41 "PlaneColumn" "first" "LPlaneColumn$Tally;") (by decide +kernel)
  have fl45 := hts (.fieldLink RX8 45 "PlaneColumn" "second" "LPlaneColumn$Tally;") (by decide +kernel)
  refine lv_aload_n hx hb dX8_lacking_0 rfl (lv_at hl 0 rfl) ?_
  refine lv_iload_n hx hb dX8_lacking_1 rfl (lv_at hl 1 rfl) ?_
  refine lv_iload_n hx hb dX8_lacking_2 rfl (lv_at hl 2 rfl) ?_
  refine lv_iload_n hx hb dX8_lacking_3 rfl (lv_at hl 3 rfl) ?_
  refine lv_iload hx hb dX8_lacking_4 (lv_at hl 4 rfl) ?_
  refine my_goIS (wc := (wl_k_X8_takeBoth cI cJ cK x0 xn xl xt xo xf xs xp xq xr xc f1 f2 s1 s2 (nI z) nf (nI fz) fn fs (nI sz) sn ss)) hP hD hS hA [0, 1, 2, 3, 4, 5, 6, 7] rfl [some 0, some 1, some 2, some 3, some 4, some 5, some 6, some 7] (by decide +kernel) (my_cV (As := [.int l9, .int r9, .int s9, .int t9]) (rest := []) (ci := 8) (wc := (wl_k_X8_takeBoth cI cJ cK x0 xn xl xt xo xf xs xp xq xr xc f1 f2 s1 s2 (nI z) nf (nI fz) fn fs (nI sz) sn ss)) ⟨hx, hb, hml, hown, hts⟩ (cwV 4 hts gX8_lacking_X8_takeBoth rfl rfl rfl (by decide +kernel) ⟨Nat.le_of_ble_eq_true rfl, Nat.le_of_ble_eq_true rfl⟩) hN hK hP hD [0, 1, 2, 3, 4, 5, 6, 7] rfl (by decide) rfl 0 rfl rfl rfl rfl hl.1 rfl (Nat.le_of_ble_eq_true rfl) dX8_lacking_6 ⟨Nat.le_of_ble_eq_true rfl, Nat.le_of_ble_eq_true rfl⟩  ((k_X8_takeBoth l D cI cJ cK x0 xn xl xt xo xf xs xp xq xr xc f1 f2 s1 s2 z nf fz fn fs sz sn ss l9 r9 s9 t9 (by first | assumption | omega | decide +kernel) hR_nf (by first | assumption | omega | decide +kernel) (by first | assumption | omega | decide +kernel)) _)) (fun r u H locs hp hPD hS => ?_)
  rcases hp with ⟨a_1, b_2, e_3, d_4, fz_5, fn_6, fs_7, sz_8, sn_9, ss_10, rfl, rfl, rfl, rfl, rfl, rfl, hhz_fz_11, hhz_sz_12, hx1_13, hx2_14, hx3_15, hx4_16, hnF, hnS⟩ | ⟨rfl, rfl, ho_17⟩
  ·
    obtain ⟨hP, hD⟩ := hPD rfl
    have hP : va_P D vwCl (wl_k_X8_lacking cI cJ cK x0 xn xl xt xo xf xs xp xq xr xc f1 f2 s1 s2 o1 (nI z) nf (nI fz_5) fn_6 fs_7 (nI sz_8) sn_9 ss_10 (nI oz) of) H := hP
    have hD : va_D A (wl_k_X8_lacking cI cJ cK x0 xn xl xt xo xf xs xp xq xr xc f1 f2 s1 s2 o1 (nI z) nf (nI fz_5) fn_6 fs_7 (nI sz_8) sn_9 ss_10 (nI oz) of) := hD
    refine lv_if_ne (tgt := 14) hx hb dX8_lacking_9 (by decide) (fun c9 => ?_) (fun c9 => ?_)
    ·
      refine lv_aload_n hx hb dX8_lacking_14 rfl (lv_at hl 0 rfl) ?_
      refine va_get (ci := 8) (v := .ref xo) (C := RX8) (T := TX8) (N := 11) hx hb hts hi8 hown hK hP 0 rfl rfl 4 (by decide) fl34 (fun _ h9 => h9) rfl dX8_lacking_15 ?_
      refine my_goVS (wc := (wl_k_X7_begin cI cJ cK xo o1 (nI oz))) hP hD hS hA [8] rfl [none, none, none, none, none, none, none, none, some 0] (by decide +kernel) (my_cV (As := []) (rest := []) (ci := 7) (wc := (wl_k_X7_begin cI cJ cK xo o1 (nI oz))) ⟨hx, hb, hml, hown, hts⟩ (cwV 0 hts gX8_lacking_X7_begin rfl rfl rfl (by decide +kernel) ⟨Nat.le_of_ble_eq_true rfl, Nat.le_of_ble_eq_true rfl⟩) hN hK hP hD [8] rfl (by decide) rfl 8 rfl rfl rfl rfl hl.1 rfl (Nat.le_of_ble_eq_true rfl) dX8_lacking_18 ⟨Nat.le_of_ble_eq_true rfl, Nat.le_of_ble_eq_true rfl⟩  ((k_X7_begin l D cI cJ cK xo o1 oz (by first | assumption | omega | decide +kernel)) _)) (fun u H locs hp hPD hS => ?_)
      obtain rfl := hp
      obtain ⟨hP, hD⟩ := hPD rfl
      have hP : va_P D vwCl (wl_k_X8_lacking cI cJ cK x0 xn xl xt xo xf xs xp xq xr xc f1 f2 s1 s2 o1 (nI z) nf (nI fz_5) fn_6 fs_7 (nI sz_8) sn_9 ss_10 0 of) H := hP
      have hD : va_D A (wl_k_X8_lacking cI cJ cK x0 xn xl xt xo xf xs xp xq xr xc f1 f2 s1 s2 o1 (nI z) nf (nI fz_5) fn_6 fs_7 (nI sz_8) sn_9 ss_10 0 of) := hD
      refine lv_iconst (v := 0) hx hb dX8_lacking_21 (by decide +kernel) ?_
      refine lv_istore (lv' := [(5, .int 0), (0, .ref x0), (1, .int (nI a_1)), (2, .int (nI b_2)), (3, .int (nI e_3)), (4, .int (nI d_4))]) hx hb dX8_lacking_22 hl (by decide) rfl (fun ls hl => ?_)
      refine lv_iconst (v := 0) hx hb dX8_lacking_24 (by decide +kernel) ?_
      refine lv_istore (lv' := [(6, .int 0), (5, .int 0), (0, .ref x0), (1, .int (nI a_1)), (2, .int (nI b_2)), (3, .int (nI e_3)), (4, .int (nI d_4))]) hx hb dX8_lacking_25 hl (by decide) rfl (fun ls hl => ?_)
      have loop27 : ∀ (n9 : Nat) (v : Nat) (t : Nat) (xo_size_27 : Nat) (o1_27 : Nat → Int64), 256 - v < n9 → (t ≤ 256) → (v ≤ 256) → (t ≤ v) → (t = fb_ct (lkP (cnF nf a_1 b_2) (cnF nf e_3 d_4)) v) → (xo_size_27 = 2 * min t 16) → (xo_size_27 ≤ 64) → ∀ (H : Heap) (locs : List Loc) (ls : Array Slot), va_P D vwCl (wl_k_X8_lacking cI cJ cK x0 xn xl xt xo xf xs xp xq xr xc f1 f2 s1 s2 o1 (nI z) nf (nI fz_5) fn_6 fs_7 (nI sz_8) sn_9 ss_10 (nI xo_size_27) o1_27) H → va_D A (wl_k_X8_lacking cI cJ cK x0 xn xl xt xo xf xs xp xq xr xc f1 f2 s1 s2 o1 (nI z) nf (nI fz_5) fn_6 fs_7 (nI sz_8) sn_9 ss_10 (nI xo_size_27) o1_27) → va_S A s.heap H locs → lv_has ls 7 [(6, .int (nI v)), (5, .int (nI t)), (0, .ref x0), (1, .int (nI a_1)), (2, .int (nI b_2)), (3, .int (nI e_3)), (4, .int (nI d_4))] → W p l e ({ frames := 5, cells := 0, slots := 0, locals := 300 } : Room) s m [.ref x0, .int (nI a_1), .int (nI b_2), .int (nI e_3), .int (nI d_4)].toArray below meth c H locs 0 0 (MQ below (va_Qi (fun (r : Int32) (u : va_W) => (u = (wl_k_X8_lacking cI cJ cK x0 xn xl xt xo xf xs xp xq xr xc f1 f2 s1 s2 o1 (nI z) nf (nI fz) fn fs (nI sz) sn ss (nI oz) of) ∧ r = (-1) ∧ ((nI a_1).toInt < 0 ∨ (nI b_2).toInt < (nI a_1).toInt ∨ z < (nI b_2).toInt ∨ (nI e_3).toInt < 0 ∨ (nI d_4).toInt < (nI e_3).toInt ∨ z < (nI d_4).toInt)) ∨ (∃ (t' : Nat) (fz' : Nat) (fn' : Nat → Int32) (fs' : Nat → Int32) (sz' : Nat) (sn' : Nat → Int32) (ss' : Nat → Int32) (oz' : Nat) (of' : Nat → Int64), u = (wl_k_X8_lacking cI cJ cK x0 xn xl xt xo xf xs xp xq xr xc f1 f2 s1 s2 o1 (nI z) nf (nI fz') fn' fs' (nI sz') sn' ss' (nI oz') of') ∧ r = nI t' ∧ fz' ≤ 64 ∧ sz' ≤ 64 ∧ oz' ≤ 64 ∧ 0 ≤ (nI a_1).toInt ∧ (nI a_1).toInt ≤ (nI b_2).toInt ∧ (nI b_2).toInt ≤ z ∧ 0 ≤ (nI e_3).toInt ∧ (nI e_3).toInt ≤ (nI d_4).toInt ∧ (nI d_4).toInt ≤ z ∧ t' = fb_ct (lkP (cnF nf (nI a_1).toInt.toNat (nI b_2).toInt.toNat) (cnF nf (nI e_3).toInt.toNat (nI d_4).toInt.toNat)) 256 ∧ oz' = 2 * min t' 16)) (my_B D (tyIJ cI cJ cK) A) A) [.ref x0, .int (nI a_1), .int (nI b_2), .int (nI e_3), .int (nI d_4)].toArray s 0 0 A) (F0 m 27 ls []) := by
        intro n9
        induction n9 with
        | zero =>
          intro v t xo_size_27 o1_27 hn9
          exact absurd hn9 (Nat.not_lt_zero _)
        | succ n9 ih27 =>
          intro v t xo_size_27 o1_27 hn9 hk_t hk_v htv ht htd9 hz_xo_size_27 H locs ls hP hD hS hl
          refine lv_iload hx hb dX8_lacking_27 (lv_at hl 0 rfl) ?_
          refine lv_sipush (v := 255) hx hb dX8_lacking_29 (by decide +kernel) ?_
          refine lv_icmp_gt (tgt := 102) hx hb dX8_lacking_32 (by decide) (fun c32 => ?_) (fun c32 => ?_)
          ·
            have d32 : ((v : Nat) : Int) > (255 : Int) := my_gt c32 (nI_toInt (by omega)) (by decide +kernel)
            refine lv_iload hx hb dX8_lacking_102 (lv_at hl 1 rfl) ?_
            have hsI_l9 : (nI a_1).toInt = ((a_1 : Nat) : Int) := nI_toInt (by omega)
            have hsN_l9 : (nI a_1).toInt.toNat = a_1 := nIt (by omega)
            have hsI_r9 : (nI b_2).toInt = ((b_2 : Nat) : Int) := nI_toInt (by omega)
            have hsN_r9 : (nI b_2).toInt.toNat = b_2 := nIt (by omega)
            have hsI_s9 : (nI e_3).toInt = ((e_3 : Nat) : Int) := nI_toInt (by omega)
            have hsN_s9 : (nI e_3).toInt.toNat = e_3 := nIt (by omega)
            have hsI_t9 : (nI d_4).toInt = ((d_4 : Nat) : Int) := nI_toInt (by omega)
            have hsN_t9 : (nI d_4).toInt.toNat = d_4 := nIt (by omega)
            exact my_retI hx hb hr hlocks hK hS (wl_k_X8_lacking cI cJ cK x0 xn xl xt xo xf xs xp xq xr xc f1 f2 s1 s2 o1 (nI z) nf (nI fz_5) fn_6 fs_7 (nI sz_8) sn_9 ss_10 (nI xo_size_27) o1_27) hP hD (Or.inr (⟨t, fz_5, fn_6, fs_7, sz_8, sn_9, ss_10, xo_size_27, o1_27, rfl, rfl, (by first | assumption | omega | trivial | decide +kernel), (by first | assumption | omega | trivial | decide +kernel), (by first | assumption | omega | trivial | decide +kernel), (by first | assumption | omega | trivial | decide +kernel), (by first | assumption | omega | trivial | decide +kernel), (by first | assumption | omega | trivial | decide +kernel), (by first | assumption | omega | trivial | decide +kernel), (by first | assumption | omega | trivial | decide +kernel), (by first | assumption | omega | trivial | decide +kernel), (by rw [hsN_l9, hsN_r9, hsN_s9, hsN_t9, ht, show v = 256 from (by omega)]), (by first | assumption | omega | trivial | decide +kernel)⟩)) dX8_lacking_104
          ·
            have d32 : ((v : Nat) : Int) ≤ (255 : Int) := my_ngt c32 (nI_toInt (by omega)) (by decide +kernel)
            refine lv_aload_n hx hb dX8_lacking_35 rfl (lv_at hl 2 rfl) ?_
            refine va_get (ci := 8) (v := .ref xf) (C := RX8) (T := TX8) (N := 11) hx hb hts hi8 hown hK hP 0 rfl rfl 5 (by decide) fl41 (fun _ h9 => h9) rfl dX8_lacking_36 ?_
            refine lv_iload hx hb dX8_lacking_39 (lv_at hl 0 rfl) ?_
            refine my_gpI (my_pV (As := [.int (nI v)]) (rest := []) (ci := 6) ⟨hx, hb, hml, hown, hts⟩ (cwV 1 hts gX8_lacking_X6_timesOf rfl rfl rfl (by decide +kernel) ⟨Nat.le_of_ble_eq_true rfl, Nat.le_of_ble_eq_true rfl⟩) hN hK hP [2, 3] rfl 2 rfl rfl rfl rfl hl.1 rfl (Nat.le_of_ble_eq_true rfl) dX8_lacking_41 ⟨Nat.le_of_ble_eq_true rfl, Nat.le_of_ble_eq_true rfl⟩  (kt_X6_timesOf l D cI cJ cK xf f1 f2 fz_5 fn_6 v (cnF nf a_1 b_2) (by first | assumption | omega | decide +kernel) (by first | assumption | omega | decide +kernel) (hnF) (cnF_64 (by omega)))) (fun r hp => ?_)
            obtain ⟨t_18, rfl, htm, hq_19⟩ := hp
            refine lv_if_le (tgt := 96) hx hb dX8_lacking_44 (by decide) (fun c44 => ?_) (fun c44 => ?_)
            ·
              have d44 : ((t_18 : Nat) : Int) ≤ (0 : Int) := my_le c44 (nI_toInt (by omega)) (by decide +kernel)
              refine lv_iinc (v := nI (v + 1)) (lv' := [(6, .int (nI (v + 1))), (5, .int (nI t)), (0, .ref x0), (1, .int (nI a_1)), (2, .int (nI b_2)), (3, .int (nI e_3)), (4, .int (nI d_4))]) hx hb dX8_lacking_96 hl (k := 0) rfl (my_incN v 1 (by decide +kernel)) (by decide) rfl (fun ls hl => ?_)
              refine lv_goto (tgt := 27) hx hb dX8_lacking_99 (by decide) ?_
              exact ih27  (v + 1) t xo_size_27 o1_27 (by omega) (by first | assumption | omega | decide +kernel) (by first | assumption | omega | decide +kernel) (by first | assumption | omega | decide +kernel) (by first | exact ct_yes ht (decide_eq_true (by omega)) | exact ct_no ht (decide_eq_false (by omega))) (by first | assumption | omega | decide +kernel) (by first | assumption | omega | decide +kernel) _ _ ls hP hD hS (lv_sub hl [0, 1, 2, 3, 4, 5, 6] rfl)
            ·
              have d44 : ((t_18 : Nat) : Int) > (0 : Int) := my_nle c44 (nI_toInt (by omega)) (by decide +kernel)
              refine lv_aload_n hx hb dX8_lacking_47 rfl (lv_at hl 2 rfl) ?_
              refine va_get (ci := 8) (v := .ref xs) (C := RX8) (T := TX8) (N := 11) hx hb hts hi8 hown hK hP 0 rfl rfl 6 (by decide) fl45 (fun _ h9 => h9) rfl dX8_lacking_48 ?_
              refine lv_iload hx hb dX8_lacking_51 (lv_at hl 0 rfl) ?_
              refine my_gpI (my_pV (As := [.int (nI v)]) (rest := []) (ci := 6) ⟨hx, hb, hml, hown, hts⟩ (cwV 1 hts gX8_lacking_X6_timesOf rfl rfl rfl (by decide +kernel) ⟨Nat.le_of_ble_eq_true rfl, Nat.le_of_ble_eq_true rfl⟩) hN hK hP [5, 6] rfl 5 rfl rfl rfl rfl hl.1 rfl (Nat.le_of_ble_eq_true rfl) dX8_lacking_53 ⟨Nat.le_of_ble_eq_true rfl, Nat.le_of_ble_eq_true rfl⟩  (kt_X6_timesOf l D cI cJ cK xs s1 s2 sz_8 sn_9 v (cnF nf e_3 d_4) (by first | assumption | omega | decide +kernel) (by first | assumption | omega | decide +kernel) (hnS) (cnF_64 (by omega)))) (fun r hp => ?_)
              obtain ⟨t_20, rfl, htm, hq_21⟩ := hp
              refine lv_if_ne (tgt := 96) hx hb dX8_lacking_56 (by decide) (fun c56 => ?_) (fun c56 => ?_)
              ·
                have d56 : ((t_20 : Nat) : Int) ≠ (0 : Int) := my_ne c56 (nI_toInt (by omega)) (by decide +kernel)
                refine lv_iinc (v := nI (v + 1)) (lv' := [(6, .int (nI (v + 1))), (5, .int (nI t)), (0, .ref x0), (1, .int (nI a_1)), (2, .int (nI b_2)), (3, .int (nI e_3)), (4, .int (nI d_4))]) hx hb dX8_lacking_96 hl (k := 0) rfl (my_incN v 1 (by decide +kernel)) (by decide) rfl (fun ls hl => ?_)
                refine lv_goto (tgt := 27) hx hb dX8_lacking_99 (by decide) ?_
                exact ih27  (v + 1) t xo_size_27 o1_27 (by omega) (by first | assumption | omega | decide +kernel) (by first | assumption | omega | decide +kernel) (by first | assumption | omega | decide +kernel) (by first | exact ct_yes ht (decide_eq_true (by omega)) | exact ct_no ht (decide_eq_false (by omega))) (by first | assumption | omega | decide +kernel) (by first | assumption | omega | decide +kernel) _ _ ls hP hD hS (lv_sub hl [0, 1, 2, 3, 4, 5, 6] rfl)
              ·
                have d56 : ((t_20 : Nat) : Int) = (0 : Int) := my_eq c56 (nI_toInt (by omega)) (by decide +kernel)
                refine lv_iload hx hb dX8_lacking_59 (lv_at hl 1 rfl) ?_
                refine lv_bipush (v := 16) hx hb dX8_lacking_61 (by decide +kernel) ?_
                refine lv_icmp_ge (tgt := 93) hx hb dX8_lacking_63 (by decide) (fun c63 => ?_) (fun c63 => ?_)
                ·
                  have d63 : ((t : Nat) : Int) ≥ (16 : Int) := my_ge c63 (nI_toInt (by omega)) (by decide +kernel)
                  refine lv_iinc (v := nI (t + 1)) (lv' := [(5, .int (nI (t + 1))), (6, .int (nI v)), (0, .ref x0), (1, .int (nI a_1)), (2, .int (nI b_2)), (3, .int (nI e_3)), (4, .int (nI d_4))]) hx hb dX8_lacking_93 hl (k := 1) rfl (my_incN t 1 (by decide +kernel)) (by decide) rfl (fun ls hl => ?_)
                  refine lv_iinc (v := nI (v + 1)) (lv' := [(6, .int (nI (v + 1))), (5, .int (nI (t + 1))), (0, .ref x0), (1, .int (nI a_1)), (2, .int (nI b_2)), (3, .int (nI e_3)), (4, .int (nI d_4))]) hx hb dX8_lacking_96 hl (k := 1) rfl (my_incN v 1 (by decide +kernel)) (by decide) rfl (fun ls hl => ?_)
                  refine lv_goto (tgt := 27) hx hb dX8_lacking_99 (by decide) ?_
                  exact ih27  (v + 1) (t + 1) xo_size_27 o1_27 (by omega) (by first | assumption | omega | decide +kernel) (by first | assumption | omega | decide +kernel) (by first | assumption | omega | decide +kernel) (by first | exact ct_yes ht (decide_eq_true (by omega)) | exact ct_no ht (decide_eq_false (by omega))) (by first | assumption | omega | decide +kernel) (by first | assumption | omega | decide +kernel) _ _ ls hP hD hS (lv_sub hl [0, 1, 2, 3, 4, 5, 6] rfl)
                ·
                  have d63 : ((t : Nat) : Int) < (16 : Int) := my_nge c63 (nI_toInt (by omega)) (by decide +kernel)
                  refine lv_aload_n hx hb dX8_lacking_66 rfl (lv_at hl 2 rfl) ?_
                  refine va_get (ci := 8) (v := .ref xo) (C := RX8) (T := TX8) (N := 11) hx hb hts hi8 hown hK hP 0 rfl rfl 4 (by decide) fl34 (fun _ h9 => h9) rfl dX8_lacking_67 ?_
                  refine lv_iload hx hb dX8_lacking_70 (lv_at hl 0 rfl) ?_
                  refine lv_i2l (v := lN v) hx hb dX8_lacking_72 (nI_l (by omega)) ?_
                  refine my_goVS (wc := (wl_kf_X7_add cI cJ cK xo o1 (nI xo_size_27) o1_27)) hP hD hS hA [8, 9] rfl [none, none, none, none, none, none, none, none, some 0, some 1] (by decide +kernel) (my_cV (As := [.long (lN v)]) (rest := []) (ci := 7) (wc := (wl_kf_X7_add cI cJ cK xo o1 (nI xo_size_27) o1_27)) ⟨hx, hb, hml, hown, hts⟩ (cwV 1 hts gX8_lacking_X7_add rfl rfl rfl (by decide +kernel) ⟨Nat.le_of_ble_eq_true rfl, Nat.le_of_ble_eq_true rfl⟩) hN hK hP hD [8, 9] rfl (by decide) rfl 8 rfl rfl rfl rfl hl.1 rfl (Nat.le_of_ble_eq_true rfl) dX8_lacking_73 ⟨Nat.le_of_ble_eq_true rfl, Nat.le_of_ble_eq_true rfl⟩  ((kf_X7_add l D cI cJ cK xo o1 xo_size_27 o1_27 (lN v) (by first | assumption | omega | decide +kernel) (by first | assumption | omega | decide +kernel)) _)) (fun u H locs hp hPD hS => ?_)
                  obtain ⟨of_22, rfl, hof, ht_23⟩ := hp
                  obtain ⟨hP, hD⟩ := hPD rfl
                  have hP : va_P D vwCl (wl_k_X8_lacking cI cJ cK x0 xn xl xt xo xf xs xp xq xr xc f1 f2 s1 s2 o1 (nI z) nf (nI fz_5) fn_6 fs_7 (nI sz_8) sn_9 ss_10 (nI (xo_size_27 + 1)) of_22) H := hP
                  have hD : va_D A (wl_k_X8_lacking cI cJ cK x0 xn xl xt xo xf xs xp xq xr xc f1 f2 s1 s2 o1 (nI z) nf (nI fz_5) fn_6 fs_7 (nI sz_8) sn_9 ss_10 (nI (xo_size_27 + 1)) of_22) := hD
                  refine lv_aload_n hx hb dX8_lacking_76 rfl (lv_at hl 2 rfl) ?_
                  refine va_get (ci := 8) (v := .ref xo) (C := RX8) (T := TX8) (N := 11) hx hb hts hi8 hown hK hP 0 rfl rfl 4 (by decide) fl34 (fun _ h9 => h9) rfl dX8_lacking_77 ?_
                  refine lv_aload_n hx hb dX8_lacking_80 rfl (lv_at hl 2 rfl) ?_
                  refine va_get (ci := 8) (v := .ref xf) (C := RX8) (T := TX8) (N := 11) hx hb hts hi8 hown hK hP 0 rfl rfl 5 (by decide) fl41 (fun _ h9 => h9) rfl dX8_lacking_81 ?_
                  refine lv_iload hx hb dX8_lacking_84 (lv_at hl 0 rfl) ?_
                  refine my_gpI (my_pV (As := [.int (nI v)]) (rest := [.ref xo]) (ci := 6) ⟨hx, hb, hml, hown, hts⟩ (cwV 1 hts gX8_lacking_X6_timesOf rfl rfl rfl (by decide +kernel) ⟨Nat.le_of_ble_eq_true rfl, Nat.le_of_ble_eq_true rfl⟩) hN hK hP [2, 3] rfl 2 rfl rfl rfl rfl hl.1 rfl (Nat.le_of_ble_eq_true rfl) dX8_lacking_86 ⟨Nat.le_of_ble_eq_true rfl, Nat.le_of_ble_eq_true rfl⟩  (kt_X6_timesOf l D cI cJ cK xf f1 f2 fz_5 fn_6 v (cnF nf a_1 b_2) (by first | assumption | omega | decide +kernel) (by first | assumption | omega | decide +kernel) (hnF) (cnF_64 (by omega)))) (fun r hp => ?_)
                  obtain ⟨t_24, rfl, htm, hq_25⟩ := hp
                  refine lv_i2l (v := lN t_24) hx hb dX8_lacking_89 (nI_l (by omega)) ?_
                  refine my_goVS (wc := (wl_kf_X7_add cI cJ cK xo o1 (nI (xo_size_27 + 1)) of_22)) hP hD hS hA [8, 9] rfl [none, none, none, none, none, none, none, none, some 0, some 1] (by decide +kernel) (my_cV (As := [.long (lN t_24)]) (rest := []) (ci := 7) (wc := (wl_kf_X7_add cI cJ cK xo o1 (nI (xo_size_27 + 1)) of_22)) ⟨hx, hb, hml, hown, hts⟩ (cwV 1 hts gX8_lacking_X7_add rfl rfl rfl (by decide +kernel) ⟨Nat.le_of_ble_eq_true rfl, Nat.le_of_ble_eq_true rfl⟩) hN hK hP hD [8, 9] rfl (by decide) rfl 8 rfl rfl rfl rfl hl.1 rfl (Nat.le_of_ble_eq_true rfl) dX8_lacking_90 ⟨Nat.le_of_ble_eq_true rfl, Nat.le_of_ble_eq_true rfl⟩  ((kf_X7_add l D cI cJ cK xo o1 (xo_size_27 + 1) of_22 (lN t_24) (by first | assumption | omega | decide +kernel) (by first | assumption | omega | decide +kernel)) _)) (fun u H locs hp hPD hS => ?_)
                  obtain ⟨of_26, rfl, hof, ht_27⟩ := hp
                  obtain ⟨hP, hD⟩ := hPD rfl
                  have hP : va_P D vwCl (wl_k_X8_lacking cI cJ cK x0 xn xl xt xo xf xs xp xq xr xc f1 f2 s1 s2 o1 (nI z) nf (nI fz_5) fn_6 fs_7 (nI sz_8) sn_9 ss_10 (nI ((xo_size_27 + 1) + 1)) of_26) H := hP
                  have hD : va_D A (wl_k_X8_lacking cI cJ cK x0 xn xl xt xo xf xs xp xq xr xc f1 f2 s1 s2 o1 (nI z) nf (nI fz_5) fn_6 fs_7 (nI sz_8) sn_9 ss_10 (nI ((xo_size_27 + 1) + 1)) of_26) := hD
                  refine lv_iinc (v := nI (t + 1)) (lv' := [(5, .int (nI (t + 1))), (6, .int (nI v)), (0, .ref x0), (1, .int (nI a_1)), (2, .int (nI b_2)), (3, .int (nI e_3)), (4, .int (nI d_4))]) hx hb dX8_lacking_93 hl (k := 1) rfl (my_incN t 1 (by decide +kernel)) (by decide) rfl (fun ls hl => ?_)
                  refine lv_iinc (v := nI (v + 1)) (lv' := [(6, .int (nI (v + 1))), (5, .int (nI (t + 1))), (0, .ref x0), (1, .int (nI a_1)), (2, .int (nI b_2)), (3, .int (nI e_3)), (4, .int (nI d_4))]) hx hb dX8_lacking_96 hl (k := 1) rfl (my_incN v 1 (by decide +kernel)) (by decide) rfl (fun ls hl => ?_)
                  refine lv_goto (tgt := 27) hx hb dX8_lacking_99 (by decide) ?_
                  exact ih27  (v + 1) (t + 1) ((xo_size_27 + 1) + 1) of_26 (by omega) (by first | assumption | omega | decide +kernel) (by first | assumption | omega | decide +kernel) (by first | assumption | omega | decide +kernel) (by first | exact ct_yes ht (decide_eq_true (by omega)) | exact ct_no ht (decide_eq_false (by omega))) (by first | assumption | omega | decide +kernel) (by first | assumption | omega | decide +kernel) _ _ ls hP hD hS (lv_sub hl [0, 1, 2, 3, 4, 5, 6] rfl)
      exact loop27 ((256 - 0) + 1) 0 0 0 of (Nat.lt_succ_self _) (by first | assumption | omega | decide +kernel) (by first | assumption | omega | decide +kernel) (by first | assumption | omega | decide +kernel) (rfl) (by first | assumption | omega | decide +kernel) (by first | assumption | omega | decide +kernel) _ _ ls hP hD hS (lv_sub hl [0, 1, 2, 3, 4, 5, 6] rfl)
    ·
      exact absurd c9 (by decide +kernel)
  ·
    obtain ⟨hP, hD⟩ := hPD rfl
    have hP : va_P D vwCl (wl_k_X8_lacking cI cJ cK x0 xn xl xt xo xf xs xp xq xr xc f1 f2 s1 s2 o1 (nI z) nf (nI fz) fn fs (nI sz) sn ss (nI oz) of) H := hP
    have hD : va_D A (wl_k_X8_lacking cI cJ cK x0 xn xl xt xo xf xs xp xq xr xc f1 f2 s1 s2 o1 (nI z) nf (nI fz) fn fs (nI sz) sn ss (nI oz) of) := hD
    refine lv_if_ne (tgt := 14) hx hb dX8_lacking_9 (by decide) (fun c9 => ?_) (fun c9 => ?_)
    ·
      exact absurd c9 (by decide +kernel)
    ·
      refine lv_iconst (v := (-1)) hx hb dX8_lacking_12 (by decide +kernel) ?_
      exact my_retI hx hb hr hlocks hK hS (wl_k_X8_lacking cI cJ cK x0 xn xl xt xo xf xs xp xq xr xc f1 f2 s1 s2 o1 (nI z) nf (nI fz) fn fs (nI sz) sn ss (nI oz) of) hP hD (Or.inl ⟨rfl, rfl, (by first | assumption | omega | trivial | decide +kernel)⟩) dX8_lacking_13
abbrev wl_k_X8_both (cI cJ cK : ClassId) (x0 : Nat) (xn : Nat) (xl : Nat) (xt : Nat) (xo : Nat) (xf : Nat) (xs : Nat) (xp : Nat) (xq : Nat) (xr : Nat) (xc : Nat) (f1 : Nat) (f2 : Nat) (s1 : Nat) (s2 : Nat) (o1 : Nat) (v0_ : Int32) (v1_ : Nat → Int32) (v2_ : Int32) (v3_ : Nat → Int32) (v4_ : Nat → Int32) (v5_ : Int32) (v6_ : Nat → Int32) (v7_ : Nat → Int32) (v8_ : Int32) (v9_ : Nat → Int64) : va_W := [(x0, .inr (8, [.ref xn, .int v0_, .ref xl, .ref xt, .ref xo, .ref xf, .ref xs, .ref xp, .ref xq, .ref xr, .ref xc])), (xn, .inl (cI, 64, .inl v1_)), (xf, .inr (6, [.ref f1, .ref f2, .int v2_])), (f1, .inl (cI, 512, .inl v3_)), (f2, .inl (cI, 64, .inl v4_)), (xs, .inr (6, [.ref s1, .ref s2, .int v5_])), (s1, .inl (cI, 512, .inl v6_)), (s2, .inl (cI, 64, .inl v7_)), (xo, .inr (7, [.ref o1, .int v8_])), (o1, .inl (cJ, 64, .inr (.inl v9_)))]
set_option maxHeartbeats 4000000 in
set_option maxRecDepth 100000 in
theorem k_X8_both (l : Launch) (D : va_G) (cI cJ cK : ClassId) (x0 : Nat) (xn : Nat) (xl : Nat) (xt : Nat) (xo : Nat) (xf : Nat) (xs : Nat) (xp : Nat) (xq : Nat) (xr : Nat) (xc : Nat) (f1 : Nat) (f2 : Nat) (s1 : Nat) (s2 : Nat) (o1 : Nat) (z : Nat) (nf : Nat → Int32) (fz : Nat) (fn : Nat → Int32) (fs : Nat → Int32) (sz : Nat) (sn : Nat → Int32) (ss : Nat → Int32) (oz : Nat) (of : Nat → Int64) (l9 : Int32) (r9 : Int32) (s9 : Int32) (t9 : Int32) (k9 : Int32) (hz_z : z ≤ 64) (hR_nf : RB 0 255 nf) (hz_fz : fz ≤ 64) (hz_sz : sz ≤ 64) (hz_oz : oz ≤ 64) : ctI l yX8_both wsX8_both ({ frames := 5, cells := 0, slots := 0, locals := 300 } : Room) D (tyIJ cI cJ cK) [.ref x0, .int l9, .int r9, .int s9, .int t9, .int k9] (wl_k_X8_both cI cJ cK x0 xn xl xt xo xf xs xp xq xr xc f1 f2 s1 s2 o1 (nI z) nf (nI fz) fn fs (nI sz) sn ss (nI oz) of) (fun (r : Int32) (u : va_W) => (u = (wl_k_X8_both cI cJ cK x0 xn xl xt xo xf xs xp xq xr xc f1 f2 s1 s2 o1 (nI z) nf (nI fz) fn fs (nI sz) sn ss (nI oz) of) ∧ r = (-1) ∧ (l9.toInt < 0 ∨ r9.toInt < l9.toInt ∨ z < r9.toInt ∨ s9.toInt < 0 ∨ t9.toInt < s9.toInt ∨ z < t9.toInt ∨ k9.toInt < 0)) ∨ (∃ (fz' : Nat) (fn' : Nat → Int32) (fs' : Nat → Int32) (sz' : Nat) (sn' : Nat → Int32) (ss' : Nat → Int32) (oz' : Nat) (of' : Nat → Int64), u = (wl_k_X8_both cI cJ cK x0 xn xl xt xo xf xs xp xq xr xc f1 f2 s1 s2 o1 (nI z) nf (nI fz') fn' fs' (nI sz') sn' ss' (nI oz') of') ∧ r = (-2) ∧ fz' ≤ 64 ∧ sz' ≤ 64 ∧ oz' ≤ 64 ∧ 0 ≤ l9.toInt ∧ l9.toInt ≤ r9.toInt ∧ r9.toInt ≤ z ∧ 0 ≤ s9.toInt ∧ s9.toInt ≤ t9.toInt ∧ t9.toInt ≤ z ∧ r9.toInt - l9.toInt + t9.toInt - s9.toInt ≤ k9.toInt ∧ oz' = oz) ∨ (∃ (t' : Nat) (fz' : Nat) (fn' : Nat → Int32) (fs' : Nat → Int32) (sz' : Nat) (sn' : Nat → Int32) (ss' : Nat → Int32) (oz' : Nat) (of' : Nat → Int64), u = (wl_k_X8_both cI cJ cK x0 xn xl xt xo xf xs xp xq xr xc f1 f2 s1 s2 o1 (nI z) nf (nI fz') fn' fs' (nI sz') sn' ss' (nI oz') of') ∧ r = nI t' ∧ fz' ≤ 64 ∧ sz' ≤ 64 ∧ oz' ≤ 64 ∧ 0 ≤ l9.toInt ∧ l9.toInt ≤ r9.toInt ∧ r9.toInt ≤ z ∧ 0 ≤ s9.toInt ∧ s9.toInt ≤ t9.toInt ∧ t9.toInt ≤ z ∧ 0 ≤ k9.toInt ∧ t' < 256 ∧ k9.toInt < r9.toInt - l9.toInt + t9.toInt - s9.toInt ∧ bsP (cnF nf l9.toInt.toNat r9.toInt.toNat) (cnF nf s9.toInt.toNat t9.toInt.toNat) k9.toInt.toNat t' ∧ oz' = 2)) := by
  refine ctI.of (cc := cX8_both) (maxL := 8) (ret := (some .int)) (by decide) rfl (Nat.le_of_ble_eq_true rfl) ?_
  intro p e s m below meth c ls A hx hb hr hts hown hml hlocks hname hA hK hN hP hD hS hl
  have hl : lv_has ls 8 [(0, .ref x0), (1, .int l9), (2, .int r9), (3, .int s9), (4, .int t9), (5, .int k9)] := hl
  have hown : s.vm.findClass RX8 = some m.cls := hown
  have hi8 : ∀ w ∈ u_ws RX8 TX8 11, w ∈ wsX8_both := by decide +kernel
  have fl41 := hts (.fieldLink RX8 41 "PlaneColumn" "first" "LPlaneColumn$Tally;") (by decide +kernel)
  have fl45 := hts (.fieldLink RX8 45 "PlaneColumn" "second" "LPlaneColumn$Tally;") (by decide +kernel)
  refine lv_iload hx hb dX8_both_0 (lv_at hl 5 rfl) ?_
  refine lv_if_lt (tgt := 17) hx hb dX8_both_2 (by decide) (fun c2 => ?_) (fun c2 => ?_)
  ·
    have d2 : k9.toInt < (0 : Int) := my_lt c2 rfl (by decide +kernel)
    refine lv_iconst (v := (-1)) hx hb dX8_both_17 (by decide +kernel) ?_
    exact my_retI hx hb hr hlocks hK hS (wl_k_X8_both cI cJ cK x0 xn xl xt xo xf xs xp xq xr xc f1 f2 s1 s2 o1 (nI z) nf (nI fz) fn fs (nI sz) sn ss (nI oz) of) hP hD (Or.inl ⟨rfl, rfl, (by first | assumption | omega | trivial | decide +kernel)⟩) dX8_both_18
  ·
    have d2 : k9.toInt ≥ (0 : Int) := my_nlt c2 rfl (by decide +kernel)
    refine lv_aload_n hx hb dX8_both_5 rfl (lv_at hl 0 rfl) ?_
    refine lv_iload_n hx hb dX8_both_6 rfl (lv_at hl 1 rfl) ?_
    refine lv_iload_n hx hb dX8_both_7 rfl (lv_at hl 2 rfl) ?_
    refine lv_iload_n hx hb dX8_both_8 rfl (lv_at hl 3 rfl) ?_
    refine lv_iload hx hb dX8_both_9 (lv_at hl 4 rfl) ?_
    refine my_goIS (wc := (wl_k_X8_takeBoth cI cJ cK x0 xn xl xt xo xf xs xp xq xr xc f1 f2 s1 s2 (nI z) nf (nI fz) fn fs (nI sz) sn ss)) hP hD hS hA [0, 1, 2, 3, 4, 5, 6, 7] rfl [some 0, some 1, some 2, some 3, some 4, some 5, some 6, some 7] (by decide +kernel) (my_cV (As := [.int l9, .int r9, .int s9, .int t9]) (rest := []) (ci := 8) (wc := (wl_k_X8_takeBoth cI cJ cK x0 xn xl xt xo xf xs xp xq xr xc f1 f2 s1 s2 (nI z) nf (nI fz) fn fs (nI sz) sn ss)) ⟨hx, hb, hml, hown, hts⟩ (cwV 4 hts gX8_both_X8_takeBoth rfl rfl rfl (by decide +kernel) ⟨Nat.le_of_ble_eq_true rfl, Nat.le_of_ble_eq_true rfl⟩) hN hK hP hD [0, 1, 2, 3, 4, 5, 6, 7] rfl (by decide) rfl 0 rfl rfl rfl rfl hl.1 rfl (Nat.le_of_ble_eq_true rfl) dX8_both_11 ⟨Nat.le_of_ble_eq_true rfl, Nat.le_of_ble_eq_true rfl⟩  ((k_X8_takeBoth l D cI cJ cK x0 xn xl xt xo xf xs xp xq xr xc f1 f2 s1 s2 z nf fz fn fs sz sn ss l9 r9 s9 t9 (by first | assumption | omega | decide +kernel) hR_nf (by first | assumption | omega | decide +kernel) (by first | assumption | omega | decide +kernel)) _)) (fun r u H locs hp hPD hS => ?_)
    rcases hp with ⟨a_1, b_2, e_3, d_4, fz_5, fn_6, fs_7, sz_8, sn_9, ss_10, rfl, rfl, rfl, rfl, rfl, rfl, hhz_fz_11, hhz_sz_12, hx1_13, hx2_14, hx3_15, hx4_16, hnF, hnS⟩ | ⟨rfl, rfl, ho_17⟩
    ·
      obtain ⟨hP, hD⟩ := hPD rfl
      have hP : va_P D vwCl (wl_k_X8_both cI cJ cK x0 xn xl xt xo xf xs xp xq xr xc f1 f2 s1 s2 o1 (nI z) nf (nI fz_5) fn_6 fs_7 (nI sz_8) sn_9 ss_10 (nI oz) of) H := hP
      have hD : va_D A (wl_k_X8_both cI cJ cK x0 xn xl xt xo xf xs xp xq xr xc f1 f2 s1 s2 o1 (nI z) nf (nI fz_5) fn_6 fs_7 (nI sz_8) sn_9 ss_10 (nI oz) of) := hD
      refine lv_if_ne (tgt := 19) hx hb dX8_both_14 (by decide) (fun c14 => ?_) (fun c14 => ?_)
      ·
        obtain ⟨w_18, rfl, hw_18⟩ := my_natP (x := k9) (by omega)
        have hlw_18 : w_18 < 2147483648 := by have h9 := Int32.toInt_lt (nI w_18); omega
        refine lv_iconst (v := 0) hx hb dX8_both_19 (by decide +kernel) ?_
        refine lv_istore (lv' := [(6, .int 0), (0, .ref x0), (1, .int (nI a_1)), (2, .int (nI b_2)), (3, .int (nI e_3)), (4, .int (nI d_4)), (5, .int (nI w_18))]) hx hb dX8_both_20 hl (by decide) rfl (fun ls hl => ?_)
        refine lv_iconst (v := 0) hx hb dX8_both_22 (by decide +kernel) ?_
        refine lv_istore (lv' := [(7, .int 0), (6, .int 0), (0, .ref x0), (1, .int (nI a_1)), (2, .int (nI b_2)), (3, .int (nI e_3)), (4, .int (nI d_4)), (5, .int (nI w_18))]) hx hb dX8_both_23 hl (by decide) rfl (fun ls hl => ?_)
        have loop25 : ∀ (n9 : Nat) (v : Nat) (t : Nat), 256 - v < n9 → (v ≤ 256) → (t = fb_sm (bsF (cnF nf a_1 b_2) (cnF nf e_3 d_4)) v) → (t ≤ w_18) → ∀ (H : Heap) (locs : List Loc) (ls : Array Slot), va_P D vwCl (wl_k_X8_both cI cJ cK x0 xn xl xt xo xf xs xp xq xr xc f1 f2 s1 s2 o1 (nI z) nf (nI fz_5) fn_6 fs_7 (nI sz_8) sn_9 ss_10 (nI oz) of) H → va_D A (wl_k_X8_both cI cJ cK x0 xn xl xt xo xf xs xp xq xr xc f1 f2 s1 s2 o1 (nI z) nf (nI fz_5) fn_6 fs_7 (nI sz_8) sn_9 ss_10 (nI oz) of) → va_S A s.heap H locs → lv_has ls 8 [(7, .int (nI v)), (6, .int (nI t)), (0, .ref x0), (1, .int (nI a_1)), (2, .int (nI b_2)), (3, .int (nI e_3)), (4, .int (nI d_4)), (5, .int (nI w_18))] → W p l e ({ frames := 5, cells := 0, slots := 0, locals := 300 } : Room) s m [.ref x0, .int (nI a_1), .int (nI b_2), .int (nI e_3), .int (nI d_4), .int (nI w_18)].toArray below meth c H locs 0 0 (MQ below (va_Qi (fun (r : Int32) (u : va_W) => (u = (wl_k_X8_both cI cJ cK x0 xn xl xt xo xf xs xp xq xr xc f1 f2 s1 s2 o1 (nI z) nf (nI fz) fn fs (nI sz) sn ss (nI oz) of) ∧ r = (-1) ∧ ((nI a_1).toInt < 0 ∨ (nI b_2).toInt < (nI a_1).toInt ∨ z < (nI b_2).toInt ∨ (nI e_3).toInt < 0 ∨ (nI d_4).toInt < (nI e_3).toInt ∨ z < (nI d_4).toInt ∨ (nI w_18).toInt < 0)) ∨ (∃ (fz' : Nat) (fn' : Nat → Int32) (fs' : Nat → Int32) (sz' : Nat) (sn' : Nat → Int32) (ss' : Nat → Int32) (oz' : Nat) (of' : Nat → Int64), u = (wl_k_X8_both cI cJ cK x0 xn xl xt xo xf xs xp xq xr xc f1 f2 s1 s2 o1 (nI z) nf (nI fz') fn' fs' (nI sz') sn' ss' (nI oz') of') ∧ r = (-2) ∧ fz' ≤ 64 ∧ sz' ≤ 64 ∧ oz' ≤ 64 ∧ 0 ≤ (nI a_1).toInt ∧ (nI a_1).toInt ≤ (nI b_2).toInt ∧ (nI b_2).toInt ≤ z ∧ 0 ≤ (nI e_3).toInt ∧ (nI e_3).toInt ≤ (nI d_4).toInt ∧ (nI d_4).toInt ≤ z ∧ (nI b_2).toInt - (nI a_1).toInt + (nI d_4).toInt - (nI e_3).toInt ≤ (nI w_18).toInt ∧ oz' = oz) ∨ (∃ (t' : Nat) (fz' : Nat) (fn' : Nat → Int32) (fs' : Nat → Int32) (sz' : Nat) (sn' : Nat → Int32) (ss' : Nat → Int32) (oz' : Nat) (of' : Nat → Int64), u = (wl_k_X8_both cI cJ cK x0 xn xl xt xo xf xs xp xq xr xc f1 f2 s1 s2 o1 (nI z) nf (nI fz') fn' fs' (nI sz') sn' ss' (nI oz') of') ∧ r = nI t' ∧ fz' ≤ 64 ∧ sz' ≤ 64 ∧ oz' ≤ 64 ∧ 0 ≤ (nI a_1).toInt ∧ (nI a_1).toInt ≤ (nI b_2).toInt ∧ (nI b_2).toInt ≤ z ∧ 0 ≤ (nI e_3).toInt ∧ (nI e_3).toInt ≤ (nI d_4).toInt ∧ (nI d_4).toInt ≤ z ∧ 0 ≤ (nI w_18).toInt ∧ t' < 256 ∧ (nI w_18).toInt < (nI b_2).toInt - (nI a_1).toInt + (nI d_4).toInt - (nI e_3).toInt ∧ bsP (cnF nf (nI a_1).toInt.toNat (nI b_2).toInt.toNat) (cnF nf (nI e_3).toInt.toNat (nI d_4).toInt.toNat) (nI w_18).toInt.toNat t' ∧ oz' = 2)) (my_B D (tyIJ cI cJ cK) A) A) [.ref x0, .int (nI a_1), .int (nI b_2), .int (nI e_3), .int (nI d_4), .int (nI w_18)].toArray s 0 0 A) (F0 m 25 ls []) := by
          intro n9
          induction n9 with
          | zero =>
            intro v t hn9
            exact absurd hn9 (Nat.not_lt_zero _)
          | succ n9 ih25 =>
            intro v t hn9 hk_v ht htk H locs ls hP hD hS hl
            have hsc := fb_sm_succ (bsF (cnF nf a_1 b_2) (cnF nf e_3 d_4)) v
            have hsm0 := bs_sum hR_nf (a := a_1) (b := b_2) (e := e_3) (d := d_4) (by omega) (by omega)
            have hmo0 := sm_mono (bsF (cnF nf a_1 b_2) (cnF nf e_3 d_4)) (show v ≤ 256 by omega)
            have e9 : (bsF (cnF nf a_1 b_2) (cnF nf e_3 d_4)) v = (cnF nf a_1 b_2) v + (cnF nf e_3 d_4) v := rfl
            refine lv_iload hx hb dX8_both_25 (lv_at hl 0 rfl) ?_
            refine lv_sipush (v := 255) hx hb dX8_both_27 (by decide +kernel) ?_
            refine lv_icmp_gt (tgt := 97) hx hb dX8_both_30 (by decide) (fun c30 => ?_) (fun c30 => ?_)
            ·
              have d30 : ((v : Nat) : Int) > (255 : Int) := my_gt c30 (nI_toInt (by omega)) (by decide +kernel)
              have hsm := bs_sum hR_nf (a := a_1) (b := b_2) (e := e_3) (d := d_4) (by omega) (by omega)
              have ht6 := ht
              rw [show v = 256 from (by omega)] at ht6
              refine lv_bipush (v := (-2)) hx hb dX8_both_97 (by decide +kernel) ?_
              have hsI_l9 : (nI a_1).toInt = ((a_1 : Nat) : Int) := nI_toInt (by omega)
              have hsN_l9 : (nI a_1).toInt.toNat = a_1 := nIt (by omega)
              have hsI_r9 : (nI b_2).toInt = ((b_2 : Nat) : Int) := nI_toInt (by omega)
              have hsN_r9 : (nI b_2).toInt.toNat = b_2 := nIt (by omega)
              have hsI_s9 : (nI e_3).toInt = ((e_3 : Nat) : Int) := nI_toInt (by omega)
              have hsN_s9 : (nI e_3).toInt.toNat = e_3 := nIt (by omega)
              have hsI_t9 : (nI d_4).toInt = ((d_4 : Nat) : Int) := nI_toInt (by omega)
              have hsN_t9 : (nI d_4).toInt.toNat = d_4 := nIt (by omega)
              have hsI_k9 : (nI w_18).toInt = ((w_18 : Nat) : Int) := nI_toInt (by omega)
              have hsN_k9 : (nI w_18).toInt.toNat = w_18 := nIt (by omega)
              exact my_retI hx hb hr hlocks hK hS (wl_k_X8_both cI cJ cK x0 xn xl xt xo xf xs xp xq xr xc f1 f2 s1 s2 o1 (nI z) nf (nI fz_5) fn_6 fs_7 (nI sz_8) sn_9 ss_10 (nI oz) of) hP hD (Or.inr (Or.inl ⟨fz_5, fn_6, fs_7, sz_8, sn_9, ss_10, oz, of, rfl, rfl, (by first | assumption | omega | trivial | decide +kernel), (by first | assumption | omega | trivial | decide +kernel), (by first | assumption | omega | trivial | decide +kernel), (by first | assumption | omega | trivial | decide +kernel), (by first | assumption | omega | trivial | decide +kernel), (by first | assumption | omega | trivial | decide +kernel), (by first | assumption | omega | trivial | decide +kernel), (by first | assumption | omega | trivial | decide +kernel), (by first | assumption | omega | trivial | decide +kernel), (by first | assumption | omega | trivial | decide +kernel), (by first | assumption | omega | trivial | decide +kernel)⟩)) dX8_both_99
            ·
              have d30 : ((v : Nat) : Int) ≤ (255 : Int) := my_ngt c30 (nI_toInt (by omega)) (by decide +kernel)
              refine lv_iload hx hb dX8_both_33 (lv_at hl 1 rfl) ?_
              refine lv_aload_n hx hb dX8_both_35 rfl (lv_at hl 2 rfl) ?_
              refine va_get (ci := 8) (v := .ref xf) (C := RX8) (T := TX8) (N := 11) hx hb hts hi8 hown hK hP 0 rfl rfl 5 (by decide) fl41 (fun _ h9 => h9) rfl dX8_both_36 ?_
              refine lv_iload hx hb dX8_both_39 (lv_at hl 0 rfl) ?_
              refine my_gpI (my_pV (As := [.int (nI v)]) (rest := [.int (nI t)]) (ci := 6) ⟨hx, hb, hml, hown, hts⟩ (cwV 1 hts gX8_both_X6_timesOf rfl rfl rfl (by decide +kernel) ⟨Nat.le_of_ble_eq_true rfl, Nat.le_of_ble_eq_true rfl⟩) hN hK hP [2, 3] rfl 2 rfl rfl rfl rfl hl.1 rfl (Nat.le_of_ble_eq_true rfl) dX8_both_41 ⟨Nat.le_of_ble_eq_true rfl, Nat.le_of_ble_eq_true rfl⟩  (kt_X6_timesOf l D cI cJ cK xf f1 f2 fz_5 fn_6 v (cnF nf a_1 b_2) (by first | assumption | omega | decide +kernel) (by first | assumption | omega | decide +kernel) (hnF) (cnF_64 (by omega)))) (fun r hp => ?_)
              obtain ⟨t_19, rfl, htm, hq_20⟩ := hp
              refine lv_aload_n hx hb dX8_both_44 rfl (lv_at hl 2 rfl) ?_
              refine va_get (ci := 8) (v := .ref xs) (C := RX8) (T := TX8) (N := 11) hx hb hts hi8 hown hK hP 0 rfl rfl 6 (by decide) fl45 (fun _ h9 => h9) rfl dX8_both_45 ?_
              refine lv_iload hx hb dX8_both_48 (lv_at hl 0 rfl) ?_
              refine my_gpI (my_pV (As := [.int (nI v)]) (rest := [.int (nI t_19), .int (nI t)]) (ci := 6) ⟨hx, hb, hml, hown, hts⟩ (cwV 1 hts gX8_both_X6_timesOf rfl rfl rfl (by decide +kernel) ⟨Nat.le_of_ble_eq_true rfl, Nat.le_of_ble_eq_true rfl⟩) hN hK hP [5, 6] rfl 5 rfl rfl rfl rfl hl.1 rfl (Nat.le_of_ble_eq_true rfl) dX8_both_50 ⟨Nat.le_of_ble_eq_true rfl, Nat.le_of_ble_eq_true rfl⟩  (kt_X6_timesOf l D cI cJ cK xs s1 s2 sz_8 sn_9 v (cnF nf e_3 d_4) (by first | assumption | omega | decide +kernel) (by first | assumption | omega | decide +kernel) (hnS) (cnF_64 (by omega)))) (fun r hp => ?_)
              obtain ⟨t_21, rfl, htm, hq_22⟩ := hp
              refine lv_iadd hx hb dX8_both_53 ?_
              refine my_eqi (y := nI (t_19 + t_21)) (nI_add _ _) ?_
              refine lv_iadd hx hb dX8_both_54 ?_
              refine my_eqi (y := nI (t + (t_19 + t_21))) (nI_add _ _) ?_
              refine lv_istore (lv' := [(6, .int (nI (t + (t_19 + t_21)))), (7, .int (nI v)), (0, .ref x0), (1, .int (nI a_1)), (2, .int (nI b_2)), (3, .int (nI e_3)), (4, .int (nI d_4)), (5, .int (nI w_18))]) hx hb dX8_both_55 hl (by decide) rfl (fun ls hl => ?_)
              refine lv_iload hx hb dX8_both_57 (lv_at hl 7 rfl) ?_
              refine lv_iload hx hb dX8_both_59 (lv_at hl 0 rfl) ?_
              refine lv_icmp_ge (tgt := 91) hx hb dX8_both_61 (by decide) (fun c61 => ?_) (fun c61 => ?_)
              ·
                have d61 : ((w_18 : Nat) : Int) ≥ ((t + (t_19 + t_21) : Nat) : Int) := my_ge c61 (nI_toInt (by omega)) (nI_toInt (by omega))
                refine lv_iinc (v := nI (v + 1)) (lv' := [(7, .int (nI (v + 1))), (6, .int (nI (t + (t_19 + t_21)))), (0, .ref x0), (1, .int (nI a_1)), (2, .int (nI b_2)), (3, .int (nI e_3)), (4, .int (nI d_4)), (5, .int (nI w_18))]) hx hb dX8_both_91 hl (k := 1) rfl (my_incN v 1 (by decide +kernel)) (by decide) rfl (fun ls hl => ?_)
                refine lv_goto (tgt := 25) hx hb dX8_both_94 (by decide) ?_
                exact ih25  (v + 1) (t + (t_19 + t_21)) (by omega) (by first | assumption | omega | decide +kernel) (by omega) (by first | assumption | omega | decide +kernel) _ _ ls hP hD hS (lv_sub hl [0, 1, 2, 3, 4, 5, 6, 7] rfl)
              ·
                have d61 : ((w_18 : Nat) : Int) < ((t + (t_19 + t_21) : Nat) : Int) := my_nge c61 (nI_toInt (by omega)) (nI_toInt (by omega))
                have hsm := bs_sum hR_nf (a := a_1) (b := b_2) (e := e_3) (d := d_4) (by omega) (by omega)
                have hmo := sm_mono (bsF (cnF nf a_1 b_2) (cnF nf e_3 d_4)) (show v + 1 ≤ 256 by omega)
                refine lv_aload_n hx hb dX8_both_64 rfl (lv_at hl 2 rfl) ?_
                refine lv_aload_n hx hb dX8_both_65 rfl (lv_at hl 2 rfl) ?_
                refine va_get (ci := 8) (v := .ref xf) (C := RX8) (T := TX8) (N := 11) hx hb hts hi8 hown hK hP 0 rfl rfl 5 (by decide) fl41 (fun _ h9 => h9) rfl dX8_both_66 ?_
                refine lv_iload hx hb dX8_both_69 (lv_at hl 1 rfl) ?_
                refine my_gpI (my_pV (As := [.int (nI v)]) (rest := [.ref x0]) (ci := 6) ⟨hx, hb, hml, hown, hts⟩ (cwV 1 hts gX8_both_X6_timesOf rfl rfl rfl (by decide +kernel) ⟨Nat.le_of_ble_eq_true rfl, Nat.le_of_ble_eq_true rfl⟩) hN hK hP [2, 3] rfl 2 rfl rfl rfl rfl hl.1 rfl (Nat.le_of_ble_eq_true rfl) dX8_both_71 ⟨Nat.le_of_ble_eq_true rfl, Nat.le_of_ble_eq_true rfl⟩  (kt_X6_timesOf l D cI cJ cK xf f1 f2 fz_5 fn_6 v (cnF nf a_1 b_2) (by first | assumption | omega | decide +kernel) (by first | assumption | omega | decide +kernel) (hnF) (cnF_64 (by omega)))) (fun r hp => ?_)
                obtain ⟨t_23, rfl, htm, hq_24⟩ := hp
                refine lv_i2l (v := lN t_23) hx hb dX8_both_74 (nI_l (by omega)) ?_
                refine lv_aload_n hx hb dX8_both_75 rfl (lv_at hl 2 rfl) ?_
                refine va_get (ci := 8) (v := .ref xs) (C := RX8) (T := TX8) (N := 11) hx hb hts hi8 hown hK hP 0 rfl rfl 6 (by decide) fl45 (fun _ h9 => h9) rfl dX8_both_76 ?_
                refine lv_iload hx hb dX8_both_79 (lv_at hl 1 rfl) ?_
                refine my_gpI (my_pV (As := [.int (nI v)]) (rest := [.long (lN t_23), .ref x0]) (ci := 6) ⟨hx, hb, hml, hown, hts⟩ (cwV 1 hts gX8_both_X6_timesOf rfl rfl rfl (by decide +kernel) ⟨Nat.le_of_ble_eq_true rfl, Nat.le_of_ble_eq_true rfl⟩) hN hK hP [5, 6] rfl 5 rfl rfl rfl rfl hl.1 rfl (Nat.le_of_ble_eq_true rfl) dX8_both_81 ⟨Nat.le_of_ble_eq_true rfl, Nat.le_of_ble_eq_true rfl⟩  (kt_X6_timesOf l D cI cJ cK xs s1 s2 sz_8 sn_9 v (cnF nf e_3 d_4) (by first | assumption | omega | decide +kernel) (by first | assumption | omega | decide +kernel) (hnS) (cnF_64 (by omega)))) (fun r hp => ?_)
                obtain ⟨t_25, rfl, htm, hq_26⟩ := hp
                refine lv_i2l (v := lN t_25) hx hb dX8_both_84 (nI_l (by omega)) ?_
                refine my_goVS (wc := (wl_k_X8_tell_ cI cJ cK x0 xn xl xt xo xf xs xp xq xr xc o1 (nI z) (nI oz) of)) hP hD hS hA [0, 8, 9] rfl [some 0, none, none, none, none, none, none, none, some 1, some 2] (by decide +kernel) (my_cV (As := [.long (lN t_23), .long (lN t_25)]) (rest := []) (ci := 8) (wc := (wl_k_X8_tell_ cI cJ cK x0 xn xl xt xo xf xs xp xq xr xc o1 (nI z) (nI oz) of)) ⟨hx, hb, hml, hown, hts⟩ (cwV 2 hts gX8_both_X8_tell_ rfl rfl rfl (by decide +kernel) ⟨Nat.le_of_ble_eq_true rfl, Nat.le_of_ble_eq_true rfl⟩) hN hK hP hD [0, 8, 9] rfl (by decide) rfl 0 rfl rfl rfl rfl hl.1 rfl (Nat.le_of_ble_eq_true rfl) dX8_both_85 ⟨Nat.le_of_ble_eq_true rfl, Nat.le_of_ble_eq_true rfl⟩  ((k_X8_tell_ l D cI cJ cK x0 xn xl xt xo xf xs xp xq xr xc o1 z oz of (lN t_23) (lN t_25) (by first | assumption | omega | decide +kernel) (by first | assumption | omega | decide +kernel)) _)) (fun u H locs hp hPD hS => ?_)
                obtain ⟨of_27, rfl, hv0, hv1⟩ := hp
                obtain ⟨hP, hD⟩ := hPD rfl
                have hP : va_P D vwCl (wl_k_X8_both cI cJ cK x0 xn xl xt xo xf xs xp xq xr xc f1 f2 s1 s2 o1 (nI z) nf (nI fz_5) fn_6 fs_7 (nI sz_8) sn_9 ss_10 2 of_27) H := hP
                have hD : va_D A (wl_k_X8_both cI cJ cK x0 xn xl xt xo xf xs xp xq xr xc f1 f2 s1 s2 o1 (nI z) nf (nI fz_5) fn_6 fs_7 (nI sz_8) sn_9 ss_10 2 of_27) := hD
                refine lv_iload hx hb dX8_both_88 (lv_at hl 1 rfl) ?_
                have hsI_l9 : (nI a_1).toInt = ((a_1 : Nat) : Int) := nI_toInt (by omega)
                have hsN_l9 : (nI a_1).toInt.toNat = a_1 := nIt (by omega)
                have hsI_r9 : (nI b_2).toInt = ((b_2 : Nat) : Int) := nI_toInt (by omega)
                have hsN_r9 : (nI b_2).toInt.toNat = b_2 := nIt (by omega)
                have hsI_s9 : (nI e_3).toInt = ((e_3 : Nat) : Int) := nI_toInt (by omega)
                have hsN_s9 : (nI e_3).toInt.toNat = e_3 := nIt (by omega)
                have hsI_t9 : (nI d_4).toInt = ((d_4 : Nat) : Int) := nI_toInt (by omega)
                have hsN_t9 : (nI d_4).toInt.toNat = d_4 := nIt (by omega)
                have hsI_k9 : (nI w_18).toInt = ((w_18 : Nat) : Int) := nI_toInt (by omega)
                have hsN_k9 : (nI w_18).toInt.toNat = w_18 := nIt (by omega)
                exact my_retI hx hb hr hlocks hK hS (wl_k_X8_both cI cJ cK x0 xn xl xt xo xf xs xp xq xr xc f1 f2 s1 s2 o1 (nI z) nf (nI fz_5) fn_6 fs_7 (nI sz_8) sn_9 ss_10 2 of_27) hP hD (Or.inr (Or.inr (⟨v, fz_5, fn_6, fs_7, sz_8, sn_9, ss_10, 2, of_27, rfl, rfl, (by first | assumption | omega | trivial | decide +kernel), (by first | assumption | omega | trivial | decide +kernel), (by first | assumption | omega | trivial | decide +kernel), (by first | assumption | omega | trivial | decide +kernel), (by first | assumption | omega | trivial | decide +kernel), (by first | assumption | omega | trivial | decide +kernel), (by first | assumption | omega | trivial | decide +kernel), (by first | assumption | omega | trivial | decide +kernel), (by first | assumption | omega | trivial | decide +kernel), (by first | assumption | omega | trivial | decide +kernel), (by first | assumption | omega | trivial | decide +kernel), (by first | assumption | omega | trivial | decide +kernel), (by rw [hsN_l9, hsN_r9, hsN_s9, hsN_t9, hsN_k9]; exact bs_mk (by omega) (by omega)), (by first | assumption | omega | trivial | decide +kernel)⟩))) dX8_both_90
        exact loop25 ((256 - 0) + 1) 0 0 (Nat.lt_succ_self _) (by first | assumption | omega | decide +kernel) (rfl) (by first | assumption | omega | decide +kernel) _ _ ls hP hD hS (lv_sub hl [0, 1, 2, 3, 4, 5, 6, 7] rfl)
      ·
        exact absurd c14 (by decide +kernel)
    ·
      obtain ⟨hP, hD⟩ := hPD rfl
      have hP : va_P D vwCl (wl_k_X8_both cI cJ cK x0 xn xl xt xo xf xs xp xq xr xc f1 f2 s1 s2 o1 (nI z) nf (nI fz) fn fs (nI sz) sn ss (nI oz) of) H := hP
      have hD : va_D A (wl_k_X8_both cI cJ cK x0 xn xl xt xo xf xs xp xq xr xc f1 f2 s1 s2 o1 (nI z) nf (nI fz) fn fs (nI sz) sn ss (nI oz) of) := hD
      refine lv_if_ne (tgt := 19) hx hb dX8_both_14 (by decide) (fun c14 => ?_) (fun c14 => ?_)
      ·
        exact absurd c14 (by decide +kernel)
      ·
        refine lv_iconst (v := (-1)) hx hb dX8_both_17 (by decide +kernel) ?_
        exact my_retI hx hb hr hlocks hK hS (wl_k_X8_both cI cJ cK x0 xn xl xt xo xf xs xp xq xr xc f1 f2 s1 s2 o1 (nI z) nf (nI fz) fn fs (nI sz) sn ss (nI oz) of) hP hD (Or.inl ⟨rfl, rfl, (by first | assumption | omega | trivial | decide +kernel)⟩) dX8_both_18
abbrev wl_k_X8_same (cI cJ cK : ClassId) (x0 : Nat) (xn : Nat) (xl : Nat) (xt : Nat) (xo : Nat) (xf : Nat) (xs : Nat) (xp : Nat) (xq : Nat) (xr : Nat) (xc : Nat) (f1 : Nat) (f2 : Nat) (s1 : Nat) (s2 : Nat) (o1 : Nat) (v0_ : Int32) (v1_ : Nat → Int32) (v2_ : Int32) (v3_ : Nat → Int32) (v4_ : Nat → Int32) (v5_ : Int32) (v6_ : Nat → Int32) (v7_ : Nat → Int32) (v8_ : Int32) (v9_ : Nat → Int64) : va_W := [(x0, .inr (8, [.ref xn, .int v0_, .ref xl, .ref xt, .ref xo, .ref xf, .ref xs, .ref xp, .ref xq, .ref xr, .ref xc])), (xn, .inl (cI, 64, .inl v1_)), (xf, .inr (6, [.ref f1, .ref f2, .int v2_])), (f1, .inl (cI, 512, .inl v3_)), (f2, .inl (cI, 64, .inl v4_)), (xs, .inr (6, [.ref s1, .ref s2, .int v5_])), (s1, .inl (cI, 512, .inl v6_)), (s2, .inl (cI, 64, .inl v7_)), (xo, .inr (7, [.ref o1, .int v8_])), (o1, .inl (cJ, 64, .inr (.inl v9_)))]
set_option maxHeartbeats 4000000 in
set_option maxRecDepth 100000 in
theorem k_X8_same (l : Launch) (D : va_G) (cI cJ cK : ClassId) (x0 : Nat) (xn : Nat) (xl : Nat) (xt : Nat) (xo : Nat) (xf : Nat) (xs : Nat) (xp : Nat) (xq : Nat) (xr : Nat) (xc : Nat) (f1 : Nat) (f2 : Nat) (s1 : Nat) (s2 : Nat) (o1 : Nat) (z : Nat) (nf : Nat → Int32) (fz : Nat) (fn : Nat → Int32) (fs : Nat → Int32) (sz : Nat) (sn : Nat → Int32) (ss : Nat → Int32) (oz : Nat) (of : Nat → Int64) (l9 : Int32) (r9 : Int32) (s9 : Int32) (t9 : Int32) (hz_z : z ≤ 64) (hR_nf : RB 0 255 nf) (hz_fz : fz ≤ 64) (hz_sz : sz ≤ 64) (hz_oz : oz ≤ 64) : ctI l yX8_same wsX8_same ({ frames := 5, cells := 0, slots := 0, locals := 300 } : Room) D (tyIJ cI cJ cK) [.ref x0, .int l9, .int r9, .int s9, .int t9] (wl_k_X8_same cI cJ cK x0 xn xl xt xo xf xs xp xq xr xc f1 f2 s1 s2 o1 (nI z) nf (nI fz) fn fs (nI sz) sn ss (nI oz) of) (fun (r : Int32) (u : va_W) => (u = (wl_k_X8_same cI cJ cK x0 xn xl xt xo xf xs xp xq xr xc f1 f2 s1 s2 o1 (nI z) nf (nI fz) fn fs (nI sz) sn ss (nI oz) of) ∧ r = (-1) ∧ (l9.toInt < 0 ∨ r9.toInt < l9.toInt ∨ z < r9.toInt ∨ s9.toInt < 0 ∨ t9.toInt < s9.toInt ∨ z < t9.toInt)) ∨ (∃ (fz' : Nat) (fn' : Nat → Int32) (fs' : Nat → Int32) (sz' : Nat) (sn' : Nat → Int32) (ss' : Nat → Int32) (oz' : Nat) (of' : Nat → Int64), u = (wl_k_X8_same cI cJ cK x0 xn xl xt xo xf xs xp xq xr xc f1 f2 s1 s2 o1 (nI z) nf (nI fz') fn' fs' (nI sz') sn' ss' (nI oz') of') ∧ r = 1 ∧ fz' ≤ 64 ∧ sz' ≤ 64 ∧ oz' ≤ 64 ∧ 0 ≤ l9.toInt ∧ l9.toInt ≤ r9.toInt ∧ r9.toInt ≤ z ∧ 0 ≤ s9.toInt ∧ s9.toInt ≤ t9.toInt ∧ t9.toInt ≤ z ∧ (∀ u, u < 256 → (cnF nf l9.toInt.toNat r9.toInt.toNat) u = (cnF nf s9.toInt.toNat t9.toInt.toNat) u) ∧ oz' = 3) ∨ (∃ (fz' : Nat) (fn' : Nat → Int32) (fs' : Nat → Int32) (sz' : Nat) (sn' : Nat → Int32) (ss' : Nat → Int32) (oz' : Nat) (of' : Nat → Int64), u = (wl_k_X8_same cI cJ cK x0 xn xl xt xo xf xs xp xq xr xc f1 f2 s1 s2 o1 (nI z) nf (nI fz') fn' fs' (nI sz') sn' ss' (nI oz') of') ∧ r = 0 ∧ fz' ≤ 64 ∧ sz' ≤ 64 ∧ oz' ≤ 64 ∧ 0 ≤ l9.toInt ∧ l9.toInt ≤ r9.toInt ∧ r9.toInt ≤ z ∧ 0 ≤ s9.toInt ∧ s9.toInt ≤ t9.toInt ∧ t9.toInt ≤ z ∧ (∃ u, u < 256 ∧ (cnF nf l9.toInt.toNat r9.toInt.toNat) u ≠ (cnF nf s9.toInt.toNat t9.toInt.toNat) u) ∧ oz' = 3)) := by
  refine ctI.of (cc := cX8_same) (maxL := 10) (ret := (some .int)) (by decide) rfl (Nat.le_of_ble_eq_true rfl) ?_
  intro p e s m below meth c ls A hx hb hr hts hown hml hlocks hname hA hK hN hP hD hS hl
  have hl : lv_has ls 10 [(0, .ref x0), (1, .int l9), (2, .int r9), (3, .int s9), (4, .int t9)] := hl
  have hown : s.vm.findClass RX8 = some m.cls := hown
  have hi8 : ∀ w ∈ u_ws RX8 TX8 11, w ∈ wsX8_same := by decide +kernel
  have fl34 := hts (.fieldLink RX8 34 "PlaneColumn" "told" "LPlaneColumn$Told;") (by decide +kernel)
  have fl41 := hts (.fieldLink RX8 41 "PlaneColumn" "first" "LPlaneColumn$Tally;") (by decide +kernel)
  have fl45 := hts (.fieldLink RX8 45 "PlaneColumn" "second" "LPlaneColumn$Tally;") (by decide +kernel)
  refine lv_aload_n hx hb dX8_same_0 rfl (lv_at hl 0 rfl) ?_
  refine lv_iload_n hx hb dX8_same_1 rfl (lv_at hl 1 rfl) ?_
  refine lv_iload_n hx hb dX8_same_2 rfl (lv_at hl 2 rfl) ?_
  refine lv_iload_n hx hb dX8_same_3 rfl (lv_at hl 3 rfl) ?_
  refine lv_iload hx hb dX8_same_4 (lv_at hl 4 rfl) ?_
  refine my_goIS (wc := (wl_k_X8_takeBoth cI cJ cK x0 xn xl xt xo xf xs xp xq xr xc f1 f2 s1 s2 (nI z) nf (nI fz) fn fs (nI sz) sn ss)) hP hD hS hA [0, 1, 2, 3, 4, 5, 6, 7] rfl [some 0, some 1, some 2, some 3, some 4, some 5, some 6, some 7] (by decide +kernel) (my_cV (As := [.int l9, .int r9, .int s9, .int t9]) (rest := []) (ci := 8) (wc := (wl_k_X8_takeBoth cI cJ cK x0 xn xl xt xo xf xs xp xq xr xc f1 f2 s1 s2 (nI z) nf (nI fz) fn fs (nI sz) sn ss)) ⟨hx, hb, hml, hown, hts⟩ (cwV 4 hts gX8_same_X8_takeBoth rfl rfl rfl (by decide +kernel) ⟨Nat.le_of_ble_eq_true rfl, Nat.le_of_ble_eq_true rfl⟩) hN hK hP hD [0, 1, 2, 3, 4, 5, 6, 7] rfl (by decide) rfl 0 rfl rfl rfl rfl hl.1 rfl (Nat.le_of_ble_eq_true rfl) dX8_same_6 ⟨Nat.le_of_ble_eq_true rfl, Nat.le_of_ble_eq_true rfl⟩  ((k_X8_takeBoth l D cI cJ cK x0 xn xl xt xo xf xs xp xq xr xc f1 f2 s1 s2 z nf fz fn fs sz sn ss l9 r9 s9 t9 (by first | assumption | omega | decide +kernel) hR_nf (by first | assumption | omega | decide +kernel) (by first | assumption | omega | decide +kernel)) _)) (fun r u H locs hp hPD hS => ?_)
  rcases hp with ⟨a_1, b_2, e_3, d_4, fz_5, fn_6, fs_7, sz_8, sn_9, ss_10, rfl, rfl, rfl, rfl, rfl, rfl, hhz_fz_11, hhz_sz_12, hx1_13, hx2_14, hx3_15, hx4_16, hnF, hnS⟩ | ⟨rfl, rfl, ho_17⟩
  ·
    obtain ⟨hP, hD⟩ := hPD rfl
    have hP : va_P D vwCl (wl_k_X8_same cI cJ cK x0 xn xl xt xo xf xs xp xq xr xc f1 f2 s1 s2 o1 (nI z) nf (nI fz_5) fn_6 fs_7 (nI sz_8) sn_9 ss_10 (nI oz) of) H := hP
    have hD : va_D A (wl_k_X8_same cI cJ cK x0 xn xl xt xo xf xs xp xq xr xc f1 f2 s1 s2 o1 (nI z) nf (nI fz_5) fn_6 fs_7 (nI sz_8) sn_9 ss_10 (nI oz) of) := hD
    refine lv_if_ne (tgt := 14) hx hb dX8_same_9 (by decide) (fun c9 => ?_) (fun c9 => ?_)
    ·
      refine lv_iconst (v := (-1)) hx hb dX8_same_14 (by decide +kernel) ?_
      refine lv_istore (lv' := [(5, .int (-1)), (0, .ref x0), (1, .int (nI a_1)), (2, .int (nI b_2)), (3, .int (nI e_3)), (4, .int (nI d_4))]) hx hb dX8_same_15 hl (by decide) rfl (fun ls hl => ?_)
      refine lv_iconst (v := 0) hx hb dX8_same_17 (by decide +kernel) ?_
      refine lv_istore (lv' := [(6, .int 0), (5, .int (-1)), (0, .ref x0), (1, .int (nI a_1)), (2, .int (nI b_2)), (3, .int (nI e_3)), (4, .int (nI d_4))]) hx hb dX8_same_18 hl (by decide) rfl (fun ls hl => ?_)
      refine lv_iconst (v := 0) hx hb dX8_same_20 (by decide +kernel) ?_
      refine lv_istore (lv' := [(7, .int 0), (6, .int 0), (5, .int (-1)), (0, .ref x0), (1, .int (nI a_1)), (2, .int (nI b_2)), (3, .int (nI e_3)), (4, .int (nI d_4))]) hx hb dX8_same_21 hl (by decide) rfl (fun ls hl => ?_)
      refine lv_iconst (v := 0) hx hb dX8_same_23 (by decide +kernel) ?_
      refine lv_istore (lv' := [(8, .int 0), (7, .int 0), (6, .int 0), (5, .int (-1)), (0, .ref x0), (1, .int (nI a_1)), (2, .int (nI b_2)), (3, .int (nI e_3)), (4, .int (nI d_4))]) hx hb dX8_same_24 hl (by decide) rfl (fun ls hl => ?_)
      have loop26 : ∀ (n9 : Nat) (v : Nat) (y7_26 : Int32) (y6_26 : Int32) (x : Int32), 256 - v < n9 → (v ≤ 256) → (saP (cnF nf a_1 b_2) (cnF nf e_3 d_4) x.toInt v) → ∀ (H : Heap) (locs : List Loc) (ls : Array Slot), va_P D vwCl (wl_k_X8_same cI cJ cK x0 xn xl xt xo xf xs xp xq xr xc f1 f2 s1 s2 o1 (nI z) nf (nI fz_5) fn_6 fs_7 (nI sz_8) sn_9 ss_10 (nI oz) of) H → va_D A (wl_k_X8_same cI cJ cK x0 xn xl xt xo xf xs xp xq xr xc f1 f2 s1 s2 o1 (nI z) nf (nI fz_5) fn_6 fs_7 (nI sz_8) sn_9 ss_10 (nI oz) of) → va_S A s.heap H locs → lv_has ls 10 [(8, .int (nI v)), (7, .int y7_26), (6, .int y6_26), (5, .int x), (0, .ref x0), (1, .int (nI a_1)), (2, .int (nI b_2)), (3, .int (nI e_3)), (4, .int (nI d_4))] → W p l e ({ frames := 5, cells := 0, slots := 0, locals := 300 } : Room) s m [.ref x0, .int (nI a_1), .int (nI b_2), .int (nI e_3), .int (nI d_4)].toArray below meth c H locs 0 0 (MQ below (va_Qi (fun (r : Int32) (u : va_W) => (u = (wl_k_X8_same cI cJ cK x0 xn xl xt xo xf xs xp xq xr xc f1 f2 s1 s2 o1 (nI z) nf (nI fz) fn fs (nI sz) sn ss (nI oz) of) ∧ r = (-1) ∧ ((nI a_1).toInt < 0 ∨ (nI b_2).toInt < (nI a_1).toInt ∨ z < (nI b_2).toInt ∨ (nI e_3).toInt < 0 ∨ (nI d_4).toInt < (nI e_3).toInt ∨ z < (nI d_4).toInt)) ∨ (∃ (fz' : Nat) (fn' : Nat → Int32) (fs' : Nat → Int32) (sz' : Nat) (sn' : Nat → Int32) (ss' : Nat → Int32) (oz' : Nat) (of' : Nat → Int64), u = (wl_k_X8_same cI cJ cK x0 xn xl xt xo xf xs xp xq xr xc f1 f2 s1 s2 o1 (nI z) nf (nI fz') fn' fs' (nI sz') sn' ss' (nI oz') of') ∧ r = 1 ∧ fz' ≤ 64 ∧ sz' ≤ 64 ∧ oz' ≤ 64 ∧ 0 ≤ (nI a_1).toInt ∧ (nI a_1).toInt ≤ (nI b_2).toInt ∧ (nI b_2).toInt ≤ z ∧ 0 ≤ (nI e_3).toInt ∧ (nI e_3).toInt ≤ (nI d_4).toInt ∧ (nI d_4).toInt ≤ z ∧ (∀ u, u < 256 → (cnF nf (nI a_1).toInt.toNat (nI b_2).toInt.toNat) u = (cnF nf (nI e_3).toInt.toNat (nI d_4).toInt.toNat) u) ∧ oz' = 3) ∨ (∃ (fz' : Nat) (fn' : Nat → Int32) (fs' : Nat → Int32) (sz' : Nat) (sn' : Nat → Int32) (ss' : Nat → Int32) (oz' : Nat) (of' : Nat → Int64), u = (wl_k_X8_same cI cJ cK x0 xn xl xt xo xf xs xp xq xr xc f1 f2 s1 s2 o1 (nI z) nf (nI fz') fn' fs' (nI sz') sn' ss' (nI oz') of') ∧ r = 0 ∧ fz' ≤ 64 ∧ sz' ≤ 64 ∧ oz' ≤ 64 ∧ 0 ≤ (nI a_1).toInt ∧ (nI a_1).toInt ≤ (nI b_2).toInt ∧ (nI b_2).toInt ≤ z ∧ 0 ≤ (nI e_3).toInt ∧ (nI e_3).toInt ≤ (nI d_4).toInt ∧ (nI d_4).toInt ≤ z ∧ (∃ u, u < 256 ∧ (cnF nf (nI a_1).toInt.toNat (nI b_2).toInt.toNat) u ≠ (cnF nf (nI e_3).toInt.toNat (nI d_4).toInt.toNat) u) ∧ oz' = 3)) (my_B D (tyIJ cI cJ cK) A) A) [.ref x0, .int (nI a_1), .int (nI b_2), .int (nI e_3), .int (nI d_4)].toArray s 0 0 A) (F0 m 26 ls []) := by
        intro n9
        induction n9 with
        | zero =>
          intro v y7_26 y6_26 x hn9
          exact absurd hn9 (Nat.not_lt_zero _)
        | succ n9 ih26 =>
          intro v y7_26 y6_26 x hn9 hk_v hsa H locs ls hP hD hS hl
          refine lv_iload hx hb dX8_same_26 (lv_at hl 0 rfl) ?_
          refine lv_sipush (v := 255) hx hb dX8_same_28 (by decide +kernel) ?_
          refine lv_icmp_gt (tgt := 99) hx hb dX8_same_31 (by decide) (fun c31 => ?_) (fun c31 => ?_)
          ·
            have d31 : ((v : Nat) : Int) > (255 : Int) := my_gt c31 (nI_toInt (by omega)) (by decide +kernel)
            refine lv_aload_n hx hb dX8_same_99 rfl (lv_at hl 4 rfl) ?_
            refine lv_iload hx hb dX8_same_100 (lv_at hl 3 rfl) ?_
            refine lv_i2l (v := x.toInt64) hx hb dX8_same_102 rfl ?_
            refine lv_iload hx hb dX8_same_103 (lv_at hl 2 rfl) ?_
            refine lv_i2l (v := y6_26.toInt64) hx hb dX8_same_105 rfl ?_
            refine my_goVS (wc := (wl_k_X8_tell_ cI cJ cK x0 xn xl xt xo xf xs xp xq xr xc o1 (nI z) (nI oz) of)) hP hD hS hA [0, 8, 9] rfl [some 0, none, none, none, none, none, none, none, some 1, some 2] (by decide +kernel) (my_cV (As := [.long x.toInt64, .long y6_26.toInt64]) (rest := []) (ci := 8) (wc := (wl_k_X8_tell_ cI cJ cK x0 xn xl xt xo xf xs xp xq xr xc o1 (nI z) (nI oz) of)) ⟨hx, hb, hml, hown, hts⟩ (cwV 2 hts gX8_same_X8_tell_ rfl rfl rfl (by decide +kernel) ⟨Nat.le_of_ble_eq_true rfl, Nat.le_of_ble_eq_true rfl⟩) hN hK hP hD [0, 8, 9] rfl (by decide) rfl 0 rfl rfl rfl rfl hl.1 rfl (Nat.le_of_ble_eq_true rfl) dX8_same_106 ⟨Nat.le_of_ble_eq_true rfl, Nat.le_of_ble_eq_true rfl⟩  ((k_X8_tell_ l D cI cJ cK x0 xn xl xt xo xf xs xp xq xr xc o1 z oz of x.toInt64 y6_26.toInt64 (by first | assumption | omega | decide +kernel) (by first | assumption | omega | decide +kernel)) _)) (fun u H locs hp hPD hS => ?_)
            obtain ⟨of_18, rfl, hv0, hv1⟩ := hp
            obtain ⟨hP, hD⟩ := hPD rfl
            have hP : va_P D vwCl (wl_k_X8_same cI cJ cK x0 xn xl xt xo xf xs xp xq xr xc f1 f2 s1 s2 o1 (nI z) nf (nI fz_5) fn_6 fs_7 (nI sz_8) sn_9 ss_10 2 of_18) H := hP
            have hD : va_D A (wl_k_X8_same cI cJ cK x0 xn xl xt xo xf xs xp xq xr xc f1 f2 s1 s2 o1 (nI z) nf (nI fz_5) fn_6 fs_7 (nI sz_8) sn_9 ss_10 2 of_18) := hD
            refine lv_aload_n hx hb dX8_same_109 rfl (lv_at hl 4 rfl) ?_
            refine va_get (ci := 8) (v := .ref xo) (C := RX8) (T := TX8) (N := 11) hx hb hts hi8 hown hK hP 0 rfl rfl 4 (by decide) fl34 (fun _ h9 => h9) rfl dX8_same_110 ?_
            refine lv_iload hx hb dX8_same_113 (lv_at hl 1 rfl) ?_
            refine lv_i2l (v := y7_26.toInt64) hx hb dX8_same_115 rfl ?_
            refine my_goVS (wc := (wl_kf_X7_add cI cJ cK xo o1 2 of_18)) hP hD hS hA [8, 9] rfl [none, none, none, none, none, none, none, none, some 0, some 1] (by decide +kernel) (my_cV (As := [.long y7_26.toInt64]) (rest := []) (ci := 7) (wc := (wl_kf_X7_add cI cJ cK xo o1 2 of_18)) ⟨hx, hb, hml, hown, hts⟩ (cwV 1 hts gX8_same_X7_add rfl rfl rfl (by decide +kernel) ⟨Nat.le_of_ble_eq_true rfl, Nat.le_of_ble_eq_true rfl⟩) hN hK hP hD [8, 9] rfl (by decide) rfl 8 rfl rfl rfl rfl hl.1 rfl (Nat.le_of_ble_eq_true rfl) dX8_same_116 ⟨Nat.le_of_ble_eq_true rfl, Nat.le_of_ble_eq_true rfl⟩  ((kf_X7_add l D cI cJ cK xo o1 2 of_18 y7_26.toInt64 (by first | assumption | omega | decide +kernel) (by first | assumption | omega | decide +kernel)) _)) (fun u H locs hp hPD hS => ?_)
            obtain ⟨of_19, rfl, hof, ht_20⟩ := hp
            obtain ⟨hP, hD⟩ := hPD rfl
            have hP : va_P D vwCl (wl_k_X8_same cI cJ cK x0 xn xl xt xo xf xs xp xq xr xc f1 f2 s1 s2 o1 (nI z) nf (nI fz_5) fn_6 fs_7 (nI sz_8) sn_9 ss_10 3 of_19) H := hP
            have hD : va_D A (wl_k_X8_same cI cJ cK x0 xn xl xt xo xf xs xp xq xr xc f1 f2 s1 s2 o1 (nI z) nf (nI fz_5) fn_6 fs_7 (nI sz_8) sn_9 ss_10 3 of_19) := hD
            refine lv_iload hx hb dX8_same_119 (lv_at hl 3 rfl) ?_
            refine lv_iconst (v := (-1)) hx hb dX8_same_121 (by decide +kernel) ?_
            refine lv_icmp_ne (tgt := 129) hx hb dX8_same_122 (by decide) (fun c122 => ?_) (fun c122 => ?_)
            ·
              have d122 : x.toInt ≠ (-1 : Int) := my_ne c122 rfl (by decide +kernel)
              refine lv_iconst (v := 0) hx hb dX8_same_129 (by decide +kernel) ?_
              have hsI_l9 : (nI a_1).toInt = ((a_1 : Nat) : Int) := nI_toInt (by omega)
              have hsN_l9 : (nI a_1).toInt.toNat = a_1 := nIt (by omega)
              have hsI_r9 : (nI b_2).toInt = ((b_2 : Nat) : Int) := nI_toInt (by omega)
              have hsN_r9 : (nI b_2).toInt.toNat = b_2 := nIt (by omega)
              have hsI_s9 : (nI e_3).toInt = ((e_3 : Nat) : Int) := nI_toInt (by omega)
              have hsN_s9 : (nI e_3).toInt.toNat = e_3 := nIt (by omega)
              have hsI_t9 : (nI d_4).toInt = ((d_4 : Nat) : Int) := nI_toInt (by omega)
              have hsN_t9 : (nI d_4).toInt.toNat = d_4 := nIt (by omega)
              exact my_retI hx hb hr hlocks hK hS (wl_k_X8_same cI cJ cK x0 xn xl xt xo xf xs xp xq xr xc f1 f2 s1 s2 o1 (nI z) nf (nI fz_5) fn_6 fs_7 (nI sz_8) sn_9 ss_10 3 of_19) hP hD (Or.inr (Or.inr (⟨fz_5, fn_6, fs_7, sz_8, sn_9, ss_10, 3, of_19, rfl, rfl, (by first | assumption | omega | trivial | decide +kernel), (by first | assumption | omega | trivial | decide +kernel), (by first | assumption | omega | trivial | decide +kernel), (by first | assumption | omega | trivial | decide +kernel), (by first | assumption | omega | trivial | decide +kernel), (by first | assumption | omega | trivial | decide +kernel), (by first | assumption | omega | trivial | decide +kernel), (by first | assumption | omega | trivial | decide +kernel), (by first | assumption | omega | trivial | decide +kernel), (by rw [hsN_l9, hsN_r9, hsN_s9, hsN_t9]; exact sa_some hsa (by omega)), (by first | assumption | omega | trivial | decide +kernel)⟩))) dX8_same_130
            ·
              have d122 : x.toInt = (-1 : Int) := my_eq c122 rfl (by decide +kernel)
              refine lv_iconst (v := 1) hx hb dX8_same_125 (by decide +kernel) ?_
              refine lv_goto (tgt := 130) hx hb dX8_same_126 (by decide) ?_
              have hsI_l9 : (nI a_1).toInt = ((a_1 : Nat) : Int) := nI_toInt (by omega)
              have hsN_l9 : (nI a_1).toInt.toNat = a_1 := nIt (by omega)
              have hsI_r9 : (nI b_2).toInt = ((b_2 : Nat) : Int) := nI_toInt (by omega)
              have hsN_r9 : (nI b_2).toInt.toNat = b_2 := nIt (by omega)
              have hsI_s9 : (nI e_3).toInt = ((e_3 : Nat) : Int) := nI_toInt (by omega)
              have hsN_s9 : (nI e_3).toInt.toNat = e_3 := nIt (by omega)
              have hsI_t9 : (nI d_4).toInt = ((d_4 : Nat) : Int) := nI_toInt (by omega)
              have hsN_t9 : (nI d_4).toInt.toNat = d_4 := nIt (by omega)
              exact my_retI hx hb hr hlocks hK hS (wl_k_X8_same cI cJ cK x0 xn xl xt xo xf xs xp xq xr xc f1 f2 s1 s2 o1 (nI z) nf (nI fz_5) fn_6 fs_7 (nI sz_8) sn_9 ss_10 3 of_19) hP hD (Or.inr (Or.inl ⟨fz_5, fn_6, fs_7, sz_8, sn_9, ss_10, 3, of_19, rfl, rfl, (by first | assumption | omega | trivial | decide +kernel), (by first | assumption | omega | trivial | decide +kernel), (by first | assumption | omega | trivial | decide +kernel), (by first | assumption | omega | trivial | decide +kernel), (by first | assumption | omega | trivial | decide +kernel), (by first | assumption | omega | trivial | decide +kernel), (by first | assumption | omega | trivial | decide +kernel), (by first | assumption | omega | trivial | decide +kernel), (by first | assumption | omega | trivial | decide +kernel), (by rw [hsN_l9, hsN_r9, hsN_s9, hsN_t9]; exact sa_all hsa (by omega) (by omega)), (by first | assumption | omega | trivial | decide +kernel)⟩)) dX8_same_130
          ·
            have d31 : ((v : Nat) : Int) ≤ (255 : Int) := my_ngt c31 (nI_toInt (by omega)) (by decide +kernel)
            refine lv_aload_n hx hb dX8_same_34 rfl (lv_at hl 4 rfl) ?_
            refine va_get (ci := 8) (v := .ref xf) (C := RX8) (T := TX8) (N := 11) hx hb hts hi8 hown hK hP 0 rfl rfl 5 (by decide) fl41 (fun _ h9 => h9) rfl dX8_same_35 ?_
            refine lv_iload hx hb dX8_same_38 (lv_at hl 0 rfl) ?_
            refine my_gpI (my_pV (As := [.int (nI v)]) (rest := []) (ci := 6) ⟨hx, hb, hml, hown, hts⟩ (cwV 1 hts gX8_same_X6_timesOf rfl rfl rfl (by decide +kernel) ⟨Nat.le_of_ble_eq_true rfl, Nat.le_of_ble_eq_true rfl⟩) hN hK hP [2, 3] rfl 2 rfl rfl rfl rfl hl.1 rfl (Nat.le_of_ble_eq_true rfl) dX8_same_40 ⟨Nat.le_of_ble_eq_true rfl, Nat.le_of_ble_eq_true rfl⟩  (kt_X6_timesOf l D cI cJ cK xf f1 f2 fz_5 fn_6 v (cnF nf a_1 b_2) (by first | assumption | omega | decide +kernel) (by first | assumption | omega | decide +kernel) (hnF) (cnF_64 (by omega)))) (fun r hp => ?_)
            obtain ⟨t_21, rfl, htm, hq_22⟩ := hp
            refine lv_aload_n hx hb dX8_same_43 rfl (lv_at hl 4 rfl) ?_
            refine va_get (ci := 8) (v := .ref xs) (C := RX8) (T := TX8) (N := 11) hx hb hts hi8 hown hK hP 0 rfl rfl 6 (by decide) fl45 (fun _ h9 => h9) rfl dX8_same_44 ?_
            refine lv_iload hx hb dX8_same_47 (lv_at hl 0 rfl) ?_
            refine my_gpI (my_pV (As := [.int (nI v)]) (rest := [.int (nI t_21)]) (ci := 6) ⟨hx, hb, hml, hown, hts⟩ (cwV 1 hts gX8_same_X6_timesOf rfl rfl rfl (by decide +kernel) ⟨Nat.le_of_ble_eq_true rfl, Nat.le_of_ble_eq_true rfl⟩) hN hK hP [5, 6] rfl 5 rfl rfl rfl rfl hl.1 rfl (Nat.le_of_ble_eq_true rfl) dX8_same_49 ⟨Nat.le_of_ble_eq_true rfl, Nat.le_of_ble_eq_true rfl⟩  (kt_X6_timesOf l D cI cJ cK xs s1 s2 sz_8 sn_9 v (cnF nf e_3 d_4) (by first | assumption | omega | decide +kernel) (by first | assumption | omega | decide +kernel) (hnS) (cnF_64 (by omega)))) (fun r hp => ?_)
            obtain ⟨t_23, rfl, htm, hq_24⟩ := hp
            refine lv_isub hx hb dX8_same_52 ?_
            refine lv_topi (fun z_25 ez_25 => ?_)
            try have tz_25 : z_25.toInt = ((t_21 : Nat) : Int) - ((t_23 : Nat) : Int) := by rw [ez_25]; exact my_subI (nI_toInt (by omega)) (nI_toInt (by omega)) (by omega) (by omega)
            refine lv_istore (lv' := [(9, .int z_25), (8, .int (nI v)), (7, .int y7_26), (6, .int y6_26), (5, .int x), (0, .ref x0), (1, .int (nI a_1)), (2, .int (nI b_2)), (3, .int (nI e_3)), (4, .int (nI d_4))]) hx hb dX8_same_53 hl (by decide) rfl (fun ls hl => ?_)
            refine lv_iload hx hb dX8_same_55 (lv_at hl 0 rfl) ?_
            refine lv_if_eq (tgt := 70) hx hb dX8_same_57 (by decide) (fun c57 => ?_) (fun c57 => ?_)
            ·
              have d57 : z_25.toInt = (0 : Int) := my_eq c57 rfl (by decide +kernel)
              refine lv_iload hx hb dX8_same_70 (lv_at hl 3 rfl) ?_
              refine lv_iload hx hb dX8_same_72 (lv_at hl 0 rfl) ?_
              refine lv_iconst (v := 0) hx hb dX8_same_74 (by decide +kernel) ?_
              refine va_mmax hx hb (hml.trans hl.1.symm) hown (hts (.methodLink RX8 234 Lib.Math.max.name) (by decide +kernel)) (hts (.static Lib.Math.max.name) (by decide +kernel)) (hts (.initialized "java/lang/Math") (by decide +kernel)) (hts (.code Lib.Math.max.name Lib.Math.max.code 2 (some .int)) (by decide +kernel)) (Nat.le_of_ble_eq_true rfl) (Nat.le_of_ble_eq_true rfl) (Nat.le_of_ble_eq_true rfl) (Nat.le_of_ble_eq_true rfl) dX8_same_75 ?_
              refine lv_topi (fun z_26 ez_26 => ?_)
              have tz_26 := my_maxI (a := z_25.toInt) (b := (0 : Int)) ez_26 rfl (by decide +kernel)
              refine lv_iadd hx hb dX8_same_78 ?_
              refine lv_topi (fun z_27 ez_27 => ?_)
              try have tz_27 : z_27.toInt = y6_26.toInt + z_26.toInt := by rw [ez_27]; exact my_addI rfl rfl (by omega) (by omega)
              refine lv_istore (lv' := [(6, .int z_27), (9, .int z_25), (8, .int (nI v)), (7, .int y7_26), (5, .int x), (0, .ref x0), (1, .int (nI a_1)), (2, .int (nI b_2)), (3, .int (nI e_3)), (4, .int (nI d_4))]) hx hb dX8_same_79 hl (by decide) rfl (fun ls hl => ?_)
              refine lv_iload hx hb dX8_same_81 (lv_at hl 3 rfl) ?_
              refine lv_iload hx hb dX8_same_83 (lv_at hl 1 rfl) ?_
              refine lv_ineg hx hb dX8_same_85 ?_
              refine lv_topi (fun z_28 ez_28 => ?_)
              refine lv_iconst (v := 0) hx hb dX8_same_86 (by decide +kernel) ?_
              refine va_mmax hx hb (hml.trans hl.1.symm) hown (hts (.methodLink RX8 234 Lib.Math.max.name) (by decide +kernel)) (hts (.static Lib.Math.max.name) (by decide +kernel)) (hts (.initialized "java/lang/Math") (by decide +kernel)) (hts (.code Lib.Math.max.name Lib.Math.max.code 2 (some .int)) (by decide +kernel)) (Nat.le_of_ble_eq_true rfl) (Nat.le_of_ble_eq_true rfl) (Nat.le_of_ble_eq_true rfl) (Nat.le_of_ble_eq_true rfl) dX8_same_87 ?_
              refine lv_topi (fun z_29 ez_29 => ?_)
              have tz_29 := my_maxI (a := z_28.toInt) (b := (0 : Int)) ez_29 rfl (by decide +kernel)
              refine lv_iadd hx hb dX8_same_90 ?_
              refine lv_topi (fun z_30 ez_30 => ?_)
              try have tz_30 : z_30.toInt = y7_26.toInt + z_29.toInt := by rw [ez_30]; exact my_addI rfl rfl (by omega) (by omega)
              refine lv_istore (lv' := [(7, .int z_30), (6, .int z_27), (9, .int z_25), (8, .int (nI v)), (5, .int x), (0, .ref x0), (1, .int (nI a_1)), (2, .int (nI b_2)), (3, .int (nI e_3)), (4, .int (nI d_4))]) hx hb dX8_same_91 hl (by decide) rfl (fun ls hl => ?_)
              refine lv_iinc (v := nI (v + 1)) (lv' := [(8, .int (nI (v + 1))), (7, .int z_30), (6, .int z_27), (9, .int z_25), (5, .int x), (0, .ref x0), (1, .int (nI a_1)), (2, .int (nI b_2)), (3, .int (nI e_3)), (4, .int (nI d_4))]) hx hb dX8_same_93 hl (k := 3) rfl (my_incN v 1 (by decide +kernel)) (by decide) rfl (fun ls hl => ?_)
              refine lv_goto (tgt := 26) hx hb dX8_same_96 (by decide) ?_
              exact ih26  (v + 1) z_30 z_27 x (by omega) (by first | assumption | omega | decide +kernel) (by first | exact sa_eq hsa (by omega) | exact sa_old hsa (by omega) | exact sa_new (by omega) (by omega) (by omega)) _ _ ls hP hD hS (lv_sub hl [0, 1, 2, 4, 5, 6, 7, 8, 9] rfl)
            ·
              have d57 : z_25.toInt ≠ (0 : Int) := my_ne c57 rfl (by decide +kernel)
              refine lv_iload hx hb dX8_same_60 (lv_at hl 4 rfl) ?_
              refine lv_iconst (v := (-1)) hx hb dX8_same_62 (by decide +kernel) ?_
              refine lv_icmp_ne (tgt := 70) hx hb dX8_same_63 (by decide) (fun c63 => ?_) (fun c63 => ?_)
              ·
                have d63 : x.toInt ≠ (-1 : Int) := my_ne c63 rfl (by decide +kernel)
                refine lv_iload hx hb dX8_same_70 (lv_at hl 3 rfl) ?_
                refine lv_iload hx hb dX8_same_72 (lv_at hl 0 rfl) ?_
                refine lv_iconst (v := 0) hx hb dX8_same_74 (by decide +kernel) ?_
                refine va_mmax hx hb (hml.trans hl.1.symm) hown (hts (.methodLink RX8 234 Lib.Math.max.name) (by decide +kernel)) (hts (.static Lib.Math.max.name) (by decide +kernel)) (hts (.initialized "java/lang/Math") (by decide +kernel)) (hts (.code Lib.Math.max.name Lib.Math.max.code 2 (some .int)) (by decide +kernel)) (Nat.le_of_ble_eq_true rfl) (Nat.le_of_ble_eq_true rfl) (Nat.le_of_ble_eq_true rfl) (Nat.le_of_ble_eq_true rfl) dX8_same_75 ?_
                refine lv_topi (fun z_31 ez_31 => ?_)
                have tz_31 := my_maxI (a := z_25.toInt) (b := (0 : Int)) ez_31 rfl (by decide +kernel)
                refine lv_iadd hx hb dX8_same_78 ?_
                refine lv_topi (fun z_32 ez_32 => ?_)
                try have tz_32 : z_32.toInt = y6_26.toInt + z_31.toInt := by rw [ez_32]; exact my_addI rfl rfl (by omega) (by omega)
                refine lv_istore (lv' := [(6, .int z_32), (9, .int z_25), (8, .int (nI v)), (7, .int y7_26), (5, .int x), (0, .ref x0), (1, .int (nI a_1)), (2, .int (nI b_2)), (3, .int (nI e_3)), (4, .int (nI d_4))]) hx hb dX8_same_79 hl (by decide) rfl (fun ls hl => ?_)
                refine lv_iload hx hb dX8_same_81 (lv_at hl 3 rfl) ?_
                refine lv_iload hx hb dX8_same_83 (lv_at hl 1 rfl) ?_
                refine lv_ineg hx hb dX8_same_85 ?_
                refine lv_topi (fun z_33 ez_33 => ?_)
                refine lv_iconst (v := 0) hx hb dX8_same_86 (by decide +kernel) ?_
                refine va_mmax hx hb (hml.trans hl.1.symm) hown (hts (.methodLink RX8 234 Lib.Math.max.name) (by decide +kernel)) (hts (.static Lib.Math.max.name) (by decide +kernel)) (hts (.initialized "java/lang/Math") (by decide +kernel)) (hts (.code Lib.Math.max.name Lib.Math.max.code 2 (some .int)) (by decide +kernel)) (Nat.le_of_ble_eq_true rfl) (Nat.le_of_ble_eq_true rfl) (Nat.le_of_ble_eq_true rfl) (Nat.le_of_ble_eq_true rfl) dX8_same_87 ?_
                refine lv_topi (fun z_34 ez_34 => ?_)
                have tz_34 := my_maxI (a := z_33.toInt) (b := (0 : Int)) ez_34 rfl (by decide +kernel)
                refine lv_iadd hx hb dX8_same_90 ?_
                refine lv_topi (fun z_35 ez_35 => ?_)
                try have tz_35 : z_35.toInt = y7_26.toInt + z_34.toInt := by rw [ez_35]; exact my_addI rfl rfl (by omega) (by omega)
                refine lv_istore (lv' := [(7, .int z_35), (6, .int z_32), (9, .int z_25), (8, .int (nI v)), (5, .int x), (0, .ref x0), (1, .int (nI a_1)), (2, .int (nI b_2)), (3, .int (nI e_3)), (4, .int (nI d_4))]) hx hb dX8_same_91 hl (by decide) rfl (fun ls hl => ?_)
                refine lv_iinc (v := nI (v + 1)) (lv' := [(8, .int (nI (v + 1))), (7, .int z_35), (6, .int z_32), (9, .int z_25), (5, .int x), (0, .ref x0), (1, .int (nI a_1)), (2, .int (nI b_2)), (3, .int (nI e_3)), (4, .int (nI d_4))]) hx hb dX8_same_93 hl (k := 3) rfl (my_incN v 1 (by decide +kernel)) (by decide) rfl (fun ls hl => ?_)
                refine lv_goto (tgt := 26) hx hb dX8_same_96 (by decide) ?_
                exact ih26  (v + 1) z_35 z_32 x (by omega) (by first | assumption | omega | decide +kernel) (by first | exact sa_eq hsa (by omega) | exact sa_old hsa (by omega) | exact sa_new (by omega) (by omega) (by omega)) _ _ ls hP hD hS (lv_sub hl [0, 1, 2, 4, 5, 6, 7, 8, 9] rfl)
              ·
                have d63 : x.toInt = (-1 : Int) := my_eq c63 rfl (by decide +kernel)
                refine lv_iload hx hb dX8_same_66 (lv_at hl 1 rfl) ?_
                refine lv_istore (lv' := [(5, .int (nI v)), (9, .int z_25), (8, .int (nI v)), (7, .int y7_26), (6, .int y6_26), (0, .ref x0), (1, .int (nI a_1)), (2, .int (nI b_2)), (3, .int (nI e_3)), (4, .int (nI d_4))]) hx hb dX8_same_68 hl (by decide) rfl (fun ls hl => ?_)
                refine lv_iload hx hb dX8_same_70 (lv_at hl 4 rfl) ?_
                refine lv_iload hx hb dX8_same_72 (lv_at hl 1 rfl) ?_
                refine lv_iconst (v := 0) hx hb dX8_same_74 (by decide +kernel) ?_
                refine va_mmax hx hb (hml.trans hl.1.symm) hown (hts (.methodLink RX8 234 Lib.Math.max.name) (by decide +kernel)) (hts (.static Lib.Math.max.name) (by decide +kernel)) (hts (.initialized "java/lang/Math") (by decide +kernel)) (hts (.code Lib.Math.max.name Lib.Math.max.code 2 (some .int)) (by decide +kernel)) (Nat.le_of_ble_eq_true rfl) (Nat.le_of_ble_eq_true rfl) (Nat.le_of_ble_eq_true rfl) (Nat.le_of_ble_eq_true rfl) dX8_same_75 ?_
                refine lv_topi (fun z_36 ez_36 => ?_)
                have tz_36 := my_maxI (a := z_25.toInt) (b := (0 : Int)) ez_36 rfl (by decide +kernel)
                refine lv_iadd hx hb dX8_same_78 ?_
                refine lv_topi (fun z_37 ez_37 => ?_)
                try have tz_37 : z_37.toInt = y6_26.toInt + z_36.toInt := by rw [ez_37]; exact my_addI rfl rfl (by omega) (by omega)
                refine lv_istore (lv' := [(6, .int z_37), (5, .int (nI v)), (9, .int z_25), (8, .int (nI v)), (7, .int y7_26), (0, .ref x0), (1, .int (nI a_1)), (2, .int (nI b_2)), (3, .int (nI e_3)), (4, .int (nI d_4))]) hx hb dX8_same_79 hl (by decide) rfl (fun ls hl => ?_)
                refine lv_iload hx hb dX8_same_81 (lv_at hl 4 rfl) ?_
                refine lv_iload hx hb dX8_same_83 (lv_at hl 2 rfl) ?_
                refine lv_ineg hx hb dX8_same_85 ?_
                refine lv_topi (fun z_38 ez_38 => ?_)
                refine lv_iconst (v := 0) hx hb dX8_same_86 (by decide +kernel) ?_
                refine va_mmax hx hb (hml.trans hl.1.symm) hown (hts (.methodLink RX8 234 Lib.Math.max.name) (by decide +kernel)) (hts (.static Lib.Math.max.name) (by decide +kernel)) (hts (.initialized "java/lang/Math") (by decide +kernel)) (hts (.code Lib.Math.max.name Lib.Math.max.code 2 (some .int)) (by decide +kernel)) (Nat.le_of_ble_eq_true rfl) (Nat.le_of_ble_eq_true rfl) (Nat.le_of_ble_eq_true rfl) (Nat.le_of_ble_eq_true rfl) dX8_same_87 ?_
                refine lv_topi (fun z_39 ez_39 => ?_)
                have tz_39 := my_maxI (a := z_38.toInt) (b := (0 : Int)) ez_39 rfl (by decide +kernel)
                refine lv_iadd hx hb dX8_same_90 ?_
                refine lv_topi (fun z_40 ez_40 => ?_)
                try have tz_40 : z_40.toInt = y7_26.toInt + z_39.toInt := by rw [ez_40]; exact my_addI rfl rfl (by omega) (by omega)
                refine lv_istore (lv' := [(7, .int z_40), (6, .int z_37), (5, .int (nI v)), (9, .int z_25), (8, .int (nI v)), (0, .ref x0), (1, .int (nI a_1)), (2, .int (nI b_2)), (3, .int (nI e_3)), (4, .int (nI d_4))]) hx hb dX8_same_91 hl (by decide) rfl (fun ls hl => ?_)
                refine lv_iinc (v := nI (v + 1)) (lv' := [(8, .int (nI (v + 1))), (7, .int z_40), (6, .int z_37), (5, .int (nI v)), (9, .int z_25), (0, .ref x0), (1, .int (nI a_1)), (2, .int (nI b_2)), (3, .int (nI e_3)), (4, .int (nI d_4))]) hx hb dX8_same_93 hl (k := 4) rfl (my_incN v 1 (by decide +kernel)) (by decide) rfl (fun ls hl => ?_)
                refine lv_goto (tgt := 26) hx hb dX8_same_96 (by decide) ?_
                have ec_41 : (nI v).toInt = _ := nI_toInt (by omega)
                exact ih26  (v + 1) z_40 z_37 (nI v) (by omega) (by first | assumption | omega | decide +kernel) (by first | exact sa_eq hsa (by omega) | exact sa_old hsa (by omega) | exact sa_new (by omega) (by omega) (by omega)) _ _ ls hP hD hS (lv_sub hl [0, 1, 2, 3, 5, 6, 7, 8, 9] rfl)
      have ec_42 : (0 : Int32).toInt = 0 := by decide +kernel
      have ec_43 : (0 : Int32).toInt = 0 := by decide +kernel
      have ec_44 : (-1 : Int32).toInt = -1 := by decide +kernel
      exact loop26 ((256 - 0) + 1) 0 (0 : Int32) (0 : Int32) (-1 : Int32) (Nat.lt_succ_self _) (by first | assumption | omega | decide +kernel) (sa_0 (by omega)) _ _ ls hP hD hS (lv_sub hl [0, 1, 2, 3, 4, 5, 6, 7, 8] rfl)
    ·
      exact absurd c9 (by decide +kernel)
  ·
    obtain ⟨hP, hD⟩ := hPD rfl
    have hP : va_P D vwCl (wl_k_X8_same cI cJ cK x0 xn xl xt xo xf xs xp xq xr xc f1 f2 s1 s2 o1 (nI z) nf (nI fz) fn fs (nI sz) sn ss (nI oz) of) H := hP
    have hD : va_D A (wl_k_X8_same cI cJ cK x0 xn xl xt xo xf xs xp xq xr xc f1 f2 s1 s2 o1 (nI z) nf (nI fz) fn fs (nI sz) sn ss (nI oz) of) := hD
    refine lv_if_ne (tgt := 14) hx hb dX8_same_9 (by decide) (fun c9 => ?_) (fun c9 => ?_)
    ·
      exact absurd c9 (by decide +kernel)
    ·
      refine lv_iconst (v := (-1)) hx hb dX8_same_12 (by decide +kernel) ?_
      exact my_retI hx hb hr hlocks hK hS (wl_k_X8_same cI cJ cK x0 xn xl xt xo xf xs xp xq xr xc f1 f2 s1 s2 o1 (nI z) nf (nI fz) fn fs (nI sz) sn ss (nI oz) of) hP hD (Or.inl ⟨rfl, rfl, (by first | assumption | omega | trivial | decide +kernel)⟩) dX8_same_13
set_option maxHeartbeats 4000000 in
set_option maxRecDepth 100000 in
theorem k_X8_count (l : Launch) (D : va_G) (cI cJ cK : ClassId) (x0 : Nat) (xn : Nat) (xl : Nat) (xt : Nat) (xo : Nat) (xf : Nat) (xs : Nat) (xp : Nat) (xq : Nat) (xr : Nat) (xc : Nat) (t1 : Nat) (o1 : Nat) (z : Nat) (nf : Nat → Int32) (tz : Nat) (oz : Nat) (w9 : Int32) (hz_z : z ≤ 64) (hR_nf : RB 0 255 nf) (hz_tz : tz ≤ 100) (hz_oz : oz ≤ 64) : cpI l yX8_count wsX8_count ({ frames := 2, cells := 0, slots := 0, locals := 120 } : Room) D (tyIJ cI cJ cK) [.ref x0, .int w9] [(x0, .inr (8, [.ref xn, .int (nI z), .ref xl, .ref xt, .ref xo, .ref xf, .ref xs, .ref xp, .ref xq, .ref xr, .ref xc])), (xn, .inl (cI, 64, .inl nf)), (xt, .inr (5, [.ref t1, .int (nI tz)])), (xo, .inr (7, [.ref o1, .int (nI oz)]))] (fun (r : Int32) => (r = nI z ∧ w9.toInt = 0) ∨ (r = nI tz ∧ w9.toInt = 1) ∨ (r = nI oz ∧ w9.toInt = 2) ∨ (∃ (t' : Nat), r = nI t' ∧ w9.toInt = 3 ∧ t' = fb_ct (unP nf) z) ∨ (∃ (t' : Nat), r = nI t' ∧ w9.toInt = 4 ∧ t' = fb_sm (suF nf) z) ∨ (∃ (t' : Nat), r = nI t' ∧ w9.toInt = 5 ∧ t' = fb_sm (onF nf) z) ∨ (r = (-1) ∧ (w9.toInt < 0 ∨ 5 < w9.toInt))) := by
  refine cpI.of (cc := cX8_count) (maxL := 2) (ret := (some .int)) (by decide) rfl (Nat.le_of_ble_eq_true rfl) ?_
  intro p e s m below meth c ls hx hb hr hts hown hml hlocks hname hK hN hP hl
  have hl : lv_has ls 2 [(0, .ref x0), (1, .int w9)] := hl
  have hown : s.vm.findClass RX8 = some m.cls := hown
  have hi5 : ∀ w ∈ u_ws RX5 TX5 2, w ∈ wsX8_count := by decide +kernel
  have hi7 : ∀ w ∈ u_ws RX7 TX7 2, w ∈ wsX8_count := by decide +kernel
  have hi8 : ∀ w ∈ u_ws RX8 TX8 11, w ∈ wsX8_count := by decide +kernel
  have fl13 := hts (.fieldLink RX8 13 "PlaneColumn" "size" "I") (by decide +kernel)
  have fl27 := hts (.fieldLink RX8 27 "PlaneColumn" "text" "LPlaneColumn$Signs;") (by decide +kernel)
  have fl34 := hts (.fieldLink RX8 34 "PlaneColumn" "told" "LPlaneColumn$Told;") (by decide +kernel)
  refine lv_iload_n hx hb dX8_count_0 rfl (lv_at hl 1 rfl) ?_
  by_cases cs1 : w9.toInt < 0 ∨ 5 < w9.toInt
  ·
    refine lv_tableOut (tgt := 76) hx hb dX8_count_1 cs1 (by decide) ?_
    refine lv_iconst (v := (-1)) hx hb dX8_count_76 (by decide +kernel) ?_
    exact my_rpI hx hb hr hlocks (Or.inr (Or.inr (Or.inr (Or.inr (Or.inr (Or.inr (⟨rfl, (by first | assumption | omega | trivial | decide +kernel)⟩))))))) dX8_count_77
  ·
    by_cases cv1_0 : w9.toInt = 0
    ·
      refine lv_tableIn (off := 39) (tgt := 40) hx hb dX8_count_1 (by omega) (by omega) (by rw [cv1_0]; rfl) (by decide) ?_
      refine lv_aload_n hx hb dX8_count_40 rfl (lv_at hl 0 rfl) ?_
      refine va_get (ci := 8) (v := .int (nI z)) (C := RX8) (T := TX8) (N := 11) hx hb hts hi8 hown hK hP 0 rfl rfl 1 (by decide) fl13 (fun _ h9 => h9) rfl dX8_count_41 ?_
      exact my_rpI hx hb hr hlocks (Or.inl ⟨rfl, (by first | assumption | omega | trivial | decide +kernel)⟩) dX8_count_44
    ·
      by_cases cv1_1 : w9.toInt = 1
      ·
        refine lv_tableIn (off := 44) (tgt := 45) hx hb dX8_count_1 (by omega) (by omega) (by rw [cv1_1]; rfl) (by decide) ?_
        refine lv_aload_n hx hb dX8_count_45 rfl (lv_at hl 0 rfl) ?_
        refine va_get (ci := 8) (v := .ref xt) (C := RX8) (T := TX8) (N := 11) hx hb hts hi8 hown hK hP 0 rfl rfl 3 (by decide) fl27 (fun _ h9 => h9) rfl dX8_count_46 ?_
        refine va_getN (ci := 5) (v := .int (nI tz)) (C := RX5) (T := TX5) (N := 2) hx hb hts hi5 hown hK hP 2 rfl rfl 1 (by decide) (nw_f_RX8_129 hN) (fun _ h9 => h9) rfl dX8_count_49 ?_
        exact my_rpI hx hb hr hlocks (Or.inr (Or.inl ⟨rfl, (by first | assumption | omega | trivial | decide +kernel)⟩)) dX8_count_52
      ·
        by_cases cv1_2 : w9.toInt = 2
        ·
          refine lv_tableIn (off := 52) (tgt := 53) hx hb dX8_count_1 (by omega) (by omega) (by rw [cv1_2]; rfl) (by decide) ?_
          refine lv_aload_n hx hb dX8_count_53 rfl (lv_at hl 0 rfl) ?_
          refine va_get (ci := 8) (v := .ref xo) (C := RX8) (T := TX8) (N := 11) hx hb hts hi8 hown hK hP 0 rfl rfl 4 (by decide) fl34 (fun _ h9 => h9) rfl dX8_count_54 ?_
          refine va_getN (ci := 7) (v := .int (nI oz)) (C := RX7) (T := TX7) (N := 2) hx hb hts hi7 hown hK hP 3 rfl rfl 1 (by decide) (nw_f_RX8_237 hN) (fun _ h9 => h9) rfl dX8_count_57 ?_
          exact my_rpI hx hb hr hlocks (Or.inr (Or.inr (Or.inl ⟨rfl, (by first | assumption | omega | trivial | decide +kernel)⟩))) dX8_count_60
        ·
          by_cases cv1_3 : w9.toInt = 3
          ·
            refine lv_tableIn (off := 60) (tgt := 61) hx hb dX8_count_1 (by omega) (by omega) (by rw [cv1_3]; rfl) (by decide) ?_
            refine lv_aload_n hx hb dX8_count_61 rfl (lv_at hl 0 rfl) ?_
            refine my_gpI (my_pV (As := []) (rest := []) (ci := 8) ⟨hx, hb, hml, hown, hts⟩ (cwV 0 hts gX8_count_X8_unlikeNumbers rfl rfl rfl (by decide +kernel) ⟨Nat.le_of_ble_eq_true rfl, Nat.le_of_ble_eq_true rfl⟩) hN hK hP [0, 1] rfl 0 rfl rfl rfl rfl hl.1 rfl (Nat.le_of_ble_eq_true rfl) dX8_count_62 ⟨Nat.le_of_ble_eq_true rfl, Nat.le_of_ble_eq_true rfl⟩  (kf_X8_unlikeNumbers l D cI cJ cK x0 xn xl xt xo xf xs xp xq xr xc z nf (by first | assumption | omega | decide +kernel) hR_nf)) (fun r hp => ?_)
            obtain ⟨t_1, rfl, kcR, hq_2⟩ := hp
            exact my_rpI hx hb hr hlocks (Or.inr (Or.inr (Or.inr (Or.inl ⟨t_1, rfl, (by first | assumption | omega | trivial | decide +kernel), (by first | assumption | omega | trivial | decide +kernel)⟩)))) dX8_count_65
          ·
            by_cases cv1_4 : w9.toInt = 4
            ·
              refine lv_tableIn (off := 65) (tgt := 66) hx hb dX8_count_1 (by omega) (by omega) (by rw [cv1_4]; rfl) (by decide) ?_
              refine lv_aload_n hx hb dX8_count_66 rfl (lv_at hl 0 rfl) ?_
              refine my_gpI (my_pV (As := []) (rest := []) (ci := 8) ⟨hx, hb, hml, hown, hts⟩ (cwV 0 hts gX8_count_X8_sumOfAll rfl rfl rfl (by decide +kernel) ⟨Nat.le_of_ble_eq_true rfl, Nat.le_of_ble_eq_true rfl⟩) hN hK hP [0, 1] rfl 0 rfl rfl rfl rfl hl.1 rfl (Nat.le_of_ble_eq_true rfl) dX8_count_67 ⟨Nat.le_of_ble_eq_true rfl, Nat.le_of_ble_eq_true rfl⟩  (kf_X8_sumOfAll l D cI cJ cK x0 xn xl xt xo xf xs xp xq xr xc z nf (by first | assumption | omega | decide +kernel) hR_nf)) (fun r hp => ?_)
              obtain ⟨t_3, rfl, kcR, hq_4⟩ := hp
              exact my_rpI hx hb hr hlocks (Or.inr (Or.inr (Or.inr (Or.inr (Or.inl ⟨t_3, rfl, (by first | assumption | omega | trivial | decide +kernel), (by first | assumption | omega | trivial | decide +kernel)⟩))))) dX8_count_70
            ·
              have cv1_5 : w9.toInt = 5 := by omega
              refine lv_tableIn (off := 70) (tgt := 71) hx hb dX8_count_1 (by omega) (by omega) (by rw [cv1_5]; rfl) (by decide) ?_
              refine lv_aload_n hx hb dX8_count_71 rfl (lv_at hl 0 rfl) ?_
              refine my_gpI (my_pV (As := []) (rest := []) (ci := 8) ⟨hx, hb, hml, hown, hts⟩ (cwV 0 hts gX8_count_X8_onesOfAll rfl rfl rfl (by decide +kernel) ⟨Nat.le_of_ble_eq_true rfl, Nat.le_of_ble_eq_true rfl⟩) hN hK hP [0, 1] rfl 0 rfl rfl rfl rfl hl.1 rfl (Nat.le_of_ble_eq_true rfl) dX8_count_72 ⟨Nat.le_of_ble_eq_true rfl, Nat.le_of_ble_eq_true rfl⟩  (kf_X8_onesOfAll l D cI cJ cK x0 xn xl xt xo xf xs xp xq xr xc z nf (by first | assumption | omega | decide +kernel) hR_nf)) (fun r hp => ?_)
              obtain ⟨t_5, rfl, kcR, hq_6⟩ := hp
              exact my_rpI hx hb hr hlocks (Or.inr (Or.inr (Or.inr (Or.inr (Or.inr (Or.inl ⟨t_5, rfl, (by first | assumption | omega | trivial | decide +kernel), (by first | assumption | omega | trivial | decide +kernel)⟩)))))) dX8_count_75
