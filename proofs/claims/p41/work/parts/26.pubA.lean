abbrev wl_k_X8_settle (cI cJ cK : ClassId) (x0 : Nat) (xn : Nat) (xl : Nat) (xt : Nat) (xo : Nat) (xf : Nat) (xs : Nat) (xp : Nat) (xq : Nat) (xr : Nat) (xc : Nat) (r1 : Nat) (r2 : Nat) (r3 : Nat) (r4 : Nat) (r5 : Nat) (l1 : Nat) (l2 : Nat) (l3 : Nat) (v0_ : Int32) (v1_ : Nat → Int32) (v2_ : Int32) (v3_ : Int32) (v4_ : Int32) (v5_ : Int32) (v6_ : Int32) (v7_ : Nat → Int32) (v8_ : Nat → Int32) (v9_ : Nat → Int64) : va_W := [(x0, .inr (8, [.ref xn, .int v0_, .ref xl, .ref xt, .ref xo, .ref xf, .ref xs, .ref xp, .ref xq, .ref xr, .ref xc])), (xn, .inl (cI, 64, .inl v1_)), (xr, .inr (2, [.ref r1, .ref r2, .ref r3, .ref r4, .ref r5, .int v2_, .int v3_, .int v4_, .int v5_])), (xl, .inr (1, [.ref l1, .ref l2, .ref l3, .int v6_])), (l2, .inl (cI, 64, .inl v7_)), (l3, .inl (cI, 64, .inl v8_)), (l1, .inl (cJ, 8, .inr (.inl v9_)))]
set_option maxHeartbeats 4000000 in
set_option maxRecDepth 100000 in
theorem k_X8_settle (l : Launch) (D : va_G) (cI cJ cK : ClassId) (x0 : Nat) (xn : Nat) (xl : Nat) (xt : Nat) (xo : Nat) (xf : Nat) (xs : Nat) (xp : Nat) (xq : Nat) (xr : Nat) (xc : Nat) (r1 : Nat) (r2 : Nat) (r3 : Nat) (r4 : Nat) (r5 : Nat) (l1 : Nat) (l2 : Nat) (l3 : Nat) (z : Nat) (nf : Nat → Int32) (rz : Nat) (rv : Nat) (rw : Int32) (rk : Int32) (lz : Nat) (lo : Nat → Int32) (ln : Nat → Int32) (lb : Nat → Int64) (hz_z : z ≤ 64) (hR_nf : RB 0 255 nf) (hz_rz : rz ≤ 64) (hz_rv : rv ≤ 8) (hz_lz : lz ≤ 64) (hR_lo : RB 0 63 lo) (hR_ln : RB 0 63 ln) : ctI l yX8_settle wsX8_settle ({ frames := 4, cells := 0, slots := 0, locals := 240 } : Room) D (tyIJ cI cJ cK) [.ref x0] (wl_k_X8_settle cI cJ cK x0 xn xl xt xo xf xs xp xq xr xc r1 r2 r3 r4 r5 l1 l2 l3 (nI z) nf (nI rz) (nI rv) rw rk (nI lz) lo ln lb) (fun (r : Int32) (u : va_W) => ∃ (t' : Nat) (rz' : Nat) (rv' : Nat) (rw' : Int32) (rk' : Int32) (lz' : Nat) (lo' : Nat → Int32) (ln' : Nat → Int32) (lb' : Nat → Int64), u = (wl_k_X8_settle cI cJ cK x0 xn xl xt xo xf xs xp xq xr xc r1 r2 r3 r4 r5 l1 l2 l3 (nI z) nf (nI rz') (nI rv') rw' rk' (nI lz') lo' ln' lb') ∧ r = nI t' ∧ rz' ≤ 64 ∧ rv' ≤ 8 ∧ lz' ≤ 64 ∧ RB 0 63 lo' ∧ RB 0 63 ln' ∧ LVL lb' nf z ∧ lz' = z ∧ t' = fb_sm (fun j => pcn (lb' j ^^^ lb j)) 8 ∧ rk' = 0 ∧ t' ≤ 512) := by
  refine ctI.of (cc := cX8_settle) (maxL := 1) (ret := (some .int)) (by decide) rfl (Nat.le_of_ble_eq_true rfl) ?_
  intro p e s m below meth c ls A hx hb hr hts hown hml hlocks hname hA hK hN hP hD hS hl
  have hl : lv_has ls 1 [(0, .ref x0)] := hl
  have hown : s.vm.findClass RX8 = some m.cls := hown
  have hi8 : ∀ w ∈ u_ws RX8 TX8 11, w ∈ wsX8_settle := by decide +kernel
  have fl13 := hts (.fieldLink RX8 13 "PlaneColumn" "size" "I") (by decide +kernel)
  have fl20 := hts (.fieldLink RX8 20 "PlaneColumn" "levels" "LPlaneColumn$Levels;") (by decide +kernel)
  have fl65 := hts (.fieldLink RX8 65 "PlaneColumn" "orderSearch" "LPlaneColumn$OrderSearch;") (by decide +kernel)
  have fl9 := hts (.fieldLink RX8 9 "PlaneColumn" "numbers" "[I") (by decide +kernel)
  refine lv_aload_n hx hb dX8_settle_0 rfl (lv_at hl 0 rfl) ?_
  refine va_get (ci := 8) (v := .ref xr) (C := RX8) (T := TX8) (N := 11) hx hb hts hi8 hown hK hP 0 rfl rfl 9 (by decide) fl65 (fun _ h9 => h9) rfl dX8_settle_1 ?_
  refine my_goVS (wc := (wl_k_X2_forget cI cJ cK xr r1 r2 r3 r4 r5 (nI rz) (nI rv) rw rk)) hP hD hS hA [2] rfl [none, none, some 0] (by decide +kernel) (my_cV (As := []) (rest := []) (ci := 2) (wc := (wl_k_X2_forget cI cJ cK xr r1 r2 r3 r4 r5 (nI rz) (nI rv) rw rk)) ⟨hx, hb, hml, hown, hts⟩ (cwV 0 hts gX8_settle_X2_forget rfl rfl rfl (by decide +kernel) ⟨Nat.le_of_ble_eq_true rfl, Nat.le_of_ble_eq_true rfl⟩) hN hK hP hD [2] rfl (by decide) rfl 2 rfl rfl rfl rfl hl.1 rfl (Nat.le_of_ble_eq_true rfl) dX8_settle_4 ⟨Nat.le_of_ble_eq_true rfl, Nat.le_of_ble_eq_true rfl⟩  ((k_X2_forget l D cI cJ cK xr r1 r2 r3 r4 r5 rz rv rw rk (by first | assumption | omega | decide +kernel) (by first | assumption | omega | decide +kernel)) _)) (fun u H locs hp hPD hS => ?_)
  obtain rfl := hp
  obtain ⟨hP, hD⟩ := hPD rfl
  have hP : va_P D vwCl (wl_k_X8_settle cI cJ cK x0 xn xl xt xo xf xs xp xq xr xc r1 r2 r3 r4 r5 l1 l2 l3 (nI z) nf (nI rz) (nI rv) rw 0 (nI lz) lo ln lb) H := hP
  have hD : va_D A (wl_k_X8_settle cI cJ cK x0 xn xl xt xo xf xs xp xq xr xc r1 r2 r3 r4 r5 l1 l2 l3 (nI z) nf (nI rz) (nI rv) rw 0 (nI lz) lo ln lb) := hD
  refine lv_aload_n hx hb dX8_settle_7 rfl (lv_at hl 0 rfl) ?_
  refine va_get (ci := 8) (v := .ref xl) (C := RX8) (T := TX8) (N := 11) hx hb hts hi8 hown hK hP 0 rfl rfl 2 (by decide) fl20 (fun _ h9 => h9) rfl dX8_settle_8 ?_
  refine lv_aload_n hx hb dX8_settle_11 rfl (lv_at hl 0 rfl) ?_
  refine va_get (ci := 8) (v := .ref xn) (C := RX8) (T := TX8) (N := 11) hx hb hts hi8 hown hK hP 0 rfl rfl 0 (by decide) fl9 (fun _ h9 => h9) rfl dX8_settle_12 ?_
  refine lv_aload_n hx hb dX8_settle_15 rfl (lv_at hl 0 rfl) ?_
  refine va_get (ci := 8) (v := .int (nI z)) (C := RX8) (T := TX8) (N := 11) hx hb hts hi8 hown hK hP 0 rfl rfl 1 (by decide) fl13 (fun _ h9 => h9) rfl dX8_settle_16 ?_
  refine my_goIS (wc := (wl_k_X1_remake cI cJ cK xl l1 l2 l3 xn (nI lz) lo ln lb nf)) hP hD hS hA [3, 4, 5, 6, 1] rfl [none, some 4, none, some 0, some 1, some 2, some 3] (by decide +kernel) (my_cV (As := [.ref xn, .int (nI z)]) (rest := []) (ci := 1) (wc := (wl_k_X1_remake cI cJ cK xl l1 l2 l3 xn (nI lz) lo ln lb nf)) ⟨hx, hb, hml, hown, hts⟩ (cwV 2 hts gX8_settle_X1_remake rfl rfl rfl (by decide +kernel) ⟨Nat.le_of_ble_eq_true rfl, Nat.le_of_ble_eq_true rfl⟩) hN hK hP hD [3, 4, 5, 6, 1] rfl (by decide) rfl 3 rfl rfl rfl rfl hl.1 rfl (Nat.le_of_ble_eq_true rfl) dX8_settle_19 ⟨Nat.le_of_ble_eq_true rfl, Nat.le_of_ble_eq_true rfl⟩  ((k_X1_remake l D cI cJ cK xl l1 l2 l3 xn lz lo ln lb nf z (by first | assumption | omega | decide +kernel) hR_lo hR_ln hR_nf (by first | assumption | omega | decide +kernel)) _)) (fun r u H locs hp hPD hS => ?_)
  obtain ⟨t_1, lz_2, lo_3, ln_4, lb_5, rfl, rfl, hhz_lz_6, hR_lo_3, hR_ln_4, hw_7, hlv, hch⟩ := hp
  obtain ⟨hP, hD⟩ := hPD rfl
  have hP : va_P D vwCl (wl_k_X8_settle cI cJ cK x0 xn xl xt xo xf xs xp xq xr xc r1 r2 r3 r4 r5 l1 l2 l3 (nI z) nf (nI rz) (nI rv) rw 0 (nI lz_2) lo_3 ln_4 lb_5) H := hP
  have hD : va_D A (wl_k_X8_settle cI cJ cK x0 xn xl xt xo xf xs xp xq xr xc r1 r2 r3 r4 r5 l1 l2 l3 (nI z) nf (nI rz) (nI rv) rw 0 (nI lz_2) lo_3 ln_4 lb_5) := hD
  exact my_retI hx hb hr hlocks hK hS (wl_k_X8_settle cI cJ cK x0 xn xl xt xo xf xs xp xq xr xc r1 r2 r3 r4 r5 l1 l2 l3 (nI z) nf (nI rz) (nI rv) rw 0 (nI lz_2) lo_3 ln_4 lb_5) hP hD (⟨t_1, rz, rv, rw, 0, lz_2, lo_3, ln_4, lb_5, rfl, rfl, (by first | assumption | omega | trivial | decide +kernel), (by first | assumption | omega | trivial | decide +kernel), (by first | assumption | omega | trivial | decide +kernel), hR_lo_3, hR_ln_4, hlv, (by omega), hch, rfl, (by rw [hch]; exact chp_le _ _)⟩) dX8_settle_22
abbrev wl_k_X8_exchange (cI cJ cK : ClassId) (x0 : Nat) (xn : Nat) (xl : Nat) (xt : Nat) (xo : Nat) (xf : Nat) (xs : Nat) (xp : Nat) (xq : Nat) (xr : Nat) (xc : Nat) (v0_ : Int32) (v1_ : Nat → Int32) : va_W := [(x0, .inr (8, [.ref xn, .int v0_, .ref xl, .ref xt, .ref xo, .ref xf, .ref xs, .ref xp, .ref xq, .ref xr, .ref xc])), (xn, .inl (cI, 64, .inl v1_))]
set_option maxHeartbeats 4000000 in
set_option maxRecDepth 100000 in
theorem k_X8_exchange (l : Launch) (D : va_G) (cI cJ cK : ClassId) (x0 : Nat) (xn : Nat) (xl : Nat) (xt : Nat) (xo : Nat) (xf : Nat) (xs : Nat) (xp : Nat) (xq : Nat) (xr : Nat) (xc : Nat) (z : Nat) (nf : Nat → Int32) (a9 : Int32) (A_a9 : Int) (hA_a9 : a9.toInt = A_a9) (b9 : Int32) (A_b9 : Int) (hA_b9 : b9.toInt = A_b9) (hz_z : z ≤ 64) (hR_nf : RB 0 255 nf) (h1 : 0 ≤ A_a9) (h2 : A_a9 < 64) (h3 : 0 ≤ A_b9) (h4 : A_b9 < 64) : ctV l yX8_exchange wsX8_exchange ({ frames := 0, cells := 0, slots := 0, locals := 0 } : Room) D (tyIJ cI cJ cK) [.ref x0, .int a9, .int b9] (wl_k_X8_exchange cI cJ cK x0 xn xl xt xo xf xs xp xq xr xc (nI z) nf) (fun (u : va_W) => ∃ (nf' : Nat → Int32), u = (wl_k_X8_exchange cI cJ cK x0 xn xl xt xo xf xs xp xq xr xc (nI z) nf') ∧ RB 0 255 nf' ∧ nf' = upd (upd nf A_a9.toNat (nf A_b9.toNat)) A_b9.toNat (nf A_a9.toNat)) := by
  refine ctV.of (cc := cX8_exchange) (maxL := 4) (ret := none) (by decide) rfl (Nat.le_of_ble_eq_true rfl) ?_
  intro p e s m below meth c ls A hx hb hr hts hown hml hlocks hname hA hK hN hP hD hS hl
  have hl : lv_has ls 4 [(0, .ref x0), (1, .int a9), (2, .int b9)] := hl
  have hown : s.vm.findClass RX8 = some m.cls := hown
  have hi8 : ∀ w ∈ u_ws RX8 TX8 11, w ∈ wsX8_exchange := by decide +kernel
  have fl9 := hts (.fieldLink RX8 9 "PlaneColumn" "numbers" "[I") (by decide +kernel)
  have hb1 := hR_nf A_a9.toNat
  have hb2 := hR_nf A_b9.toNat
  refine lv_aload_n hx hb dX8_exchange_0 rfl (lv_at hl 0 rfl) ?_
  refine va_get (ci := 8) (v := .ref xn) (C := RX8) (T := TX8) (N := 11) hx hb hts hi8 hown hK hP 0 rfl rfl 0 (by decide) fl9 (fun _ h9 => h9) rfl dX8_exchange_1 ?_
  refine lv_iload_n hx hb dX8_exchange_4 rfl (lv_at hl 1 rfl) ?_
  refine va_iald hx hb hK hP 1 0 rfl rfl (vp_in_iff.mpr ⟨by omega, by omega⟩) dX8_exchange_5 ?_
  refine my_eqi (y := nf A_a9.toNat) (congrArg nf (ix_nat hA_a9 h1)) ?_
  refine lv_istore_n (lv' := [(3, .int (nf A_a9.toNat)), (0, .ref x0), (1, .int a9), (2, .int b9)]) hx hb dX8_exchange_6 rfl hl (by decide) rfl (fun ls hl => ?_)
  refine lv_aload_n hx hb dX8_exchange_7 rfl (lv_at hl 1 rfl) ?_
  refine va_get (ci := 8) (v := .ref xn) (C := RX8) (T := TX8) (N := 11) hx hb hts hi8 hown hK hP 0 rfl rfl 0 (by decide) fl9 (fun _ h9 => h9) rfl dX8_exchange_8 ?_
  refine lv_iload_n hx hb dX8_exchange_11 rfl (lv_at hl 2 rfl) ?_
  refine lv_aload_n hx hb dX8_exchange_12 rfl (lv_at hl 1 rfl) ?_
  refine va_get (ci := 8) (v := .ref xn) (C := RX8) (T := TX8) (N := 11) hx hb hts hi8 hown hK hP 0 rfl rfl 0 (by decide) fl9 (fun _ h9 => h9) rfl dX8_exchange_13 ?_
  refine lv_iload_n hx hb dX8_exchange_16 rfl (lv_at hl 3 rfl) ?_
  refine va_iald hx hb hK hP 1 0 rfl rfl (vp_in_iff.mpr ⟨by omega, by omega⟩) dX8_exchange_17 ?_
  refine my_eqi (y := nf A_b9.toNat) (congrArg nf (ix_nat hA_b9 h3)) ?_
  refine va_iast hx hb hK hP hD hS 1 0 rfl rfl (vp_in_iff.mpr ⟨by omega, by omega⟩) dX8_exchange_18 (fun H locs hP hD hS => ?_)
  obtain ⟨g_1, eg_1⟩ : ∃ g : Nat → Int32, g = upd nf (a9 : Int32).toNatClampNeg (nf A_b9.toNat) := ⟨_, rfl⟩
  have eU : upd nf (a9 : Int32).toNatClampNeg (nf A_b9.toNat) = g_1 := eg_1.symm
  rw [eU] at hP hD
  have hR_g_1 : RB 0 255 g_1 := by rw [eg_1]; exact hR_nf.upd rfl (by omega) (by omega)
  have hP : va_P D vwCl (wl_k_X8_exchange cI cJ cK x0 xn xl xt xo xf xs xp xq xr xc (nI z) g_1) H := hP
  have hD : va_D A (wl_k_X8_exchange cI cJ cK x0 xn xl xt xo xf xs xp xq xr xc (nI z) g_1) := hD
  refine lv_aload_n hx hb dX8_exchange_19 rfl (lv_at hl 1 rfl) ?_
  refine va_get (ci := 8) (v := .ref xn) (C := RX8) (T := TX8) (N := 11) hx hb hts hi8 hown hK hP 0 rfl rfl 0 (by decide) fl9 (fun _ h9 => h9) rfl dX8_exchange_20 ?_
  refine lv_iload_n hx hb dX8_exchange_23 rfl (lv_at hl 3 rfl) ?_
  refine lv_iload_n hx hb dX8_exchange_24 rfl (lv_at hl 0 rfl) ?_
  refine va_iast hx hb hK hP hD hS 1 0 rfl rfl (vp_in_iff.mpr ⟨by omega, by omega⟩) dX8_exchange_25 (fun H locs hP hD hS => ?_)
  obtain ⟨g_2, eg_2⟩ : ∃ g : Nat → Int32, g = upd g_1 (b9 : Int32).toNatClampNeg (nf A_a9.toNat) := ⟨_, rfl⟩
  have eU : upd g_1 (b9 : Int32).toNatClampNeg (nf A_a9.toNat) = g_2 := eg_2.symm
  rw [eU] at hP hD
  have hR_g_2 : RB 0 255 g_2 := by rw [eg_2]; exact hR_g_1.upd rfl (by omega) (by omega)
  have hP : va_P D vwCl (wl_k_X8_exchange cI cJ cK x0 xn xl xt xo xf xs xp xq xr xc (nI z) g_2) H := hP
  have hD : va_D A (wl_k_X8_exchange cI cJ cK x0 xn xl xt xo xf xs xp xq xr xc (nI z) g_2) := hD
  exact my_retV hx hb hr hlocks hK hS (wl_k_X8_exchange cI cJ cK x0 xn xl xt xo xf xs xp xq xr xc (nI z) g_2) hP hD (⟨g_2, rfl, hR_g_2, (by subst_vars; rw [ix_nat rfl h1, ix_nat rfl h3])⟩) dX8_exchange_26
abbrev wl_k_X8_column (cI cJ cK : ClassId) (x0 : Nat) (xn : Nat) (xl : Nat) (xt : Nat) (xo : Nat) (xf : Nat) (xs : Nat) (xp : Nat) (xq : Nat) (xr : Nat) (xc : Nat) (p1 : Nat) (t1 : Nat) (r1 : Nat) (r2 : Nat) (r3 : Nat) (r4 : Nat) (r5 : Nat) (l1 : Nat) (l2 : Nat) (l3 : Nat) (v0_ : Int32) (v1_ : Int32) (v2_ : Int32) (v3_ : Nat → Int32) (v4_ : Int32) (v5_ : Nat → Int32) (v6_ : Nat → Int32) (v7_ : Int32) (v8_ : Int32) (v9_ : Int32) (v10_ : Int32) (v11_ : Int32) (v12_ : Nat → Int32) (v13_ : Nat → Int32) (v14_ : Nat → Int64) : va_W := [(x0, .inr (8, [.ref xn, .int v0_, .ref xl, .ref xt, .ref xo, .ref xf, .ref xs, .ref xp, .ref xq, .ref xr, .ref xc])), (xp, .inr (3, [.ref p1, .int v1_, .int v2_])), (p1, .inl (cI, 64, .inl v3_)), (xt, .inr (5, [.ref t1, .int v4_])), (t1, .inl (cI, 100, .inl v5_)), (xn, .inl (cI, 64, .inl v6_)), (xr, .inr (2, [.ref r1, .ref r2, .ref r3, .ref r4, .ref r5, .int v7_, .int v8_, .int v9_, .int v10_])), (xl, .inr (1, [.ref l1, .ref l2, .ref l3, .int v11_])), (l2, .inl (cI, 64, .inl v12_)), (l3, .inl (cI, 64, .inl v13_)), (l1, .inl (cJ, 8, .inr (.inl v14_)))]
set_option maxHeartbeats 4000000 in
set_option maxRecDepth 100000 in
theorem k_X8_column (l : Launch) (D : va_G) (cI cJ cK : ClassId) (x0 : Nat) (xn : Nat) (xl : Nat) (xt : Nat) (xo : Nat) (xf : Nat) (xs : Nat) (xp : Nat) (xq : Nat) (xr : Nat) (xc : Nat) (p1 : Nat) (t1 : Nat) (r1 : Nat) (r2 : Nat) (r3 : Nat) (r4 : Nat) (r5 : Nat) (l1 : Nat) (l2 : Nat) (l3 : Nat) (z : Nat) (pz : Nat) (pa : Nat) (pn : Nat → Int32) (tz : Nat) (tf : Nat → Int32) (nf : Nat → Int32) (rz : Nat) (rv : Nat) (rw : Int32) (rk : Int32) (lz : Nat) (lo : Nat → Int32) (ln : Nat → Int32) (lb : Nat → Int64) (hz_z : z ≤ 64) (hz_pz : pz ≤ 64) (hz_pa : pa ≤ 100) (hR_pn : RB 0 255 pn) (hz_tz : tz ≤ 100) (hR_tf : RB 0 255 tf) (hR_nf : RB 0 255 nf) (hz_rz : rz ≤ 64) (hz_rv : rv ≤ 8) (hz_lz : lz ≤ 64) (hR_lo : RB 0 63 lo) (hR_ln : RB 0 63 ln) : ctI l yX8_column wsX8_column ({ frames := 5, cells := 0, slots := 0, locals := 300 } : Room) D (tyIJ cI cJ cK) [.ref x0] (wl_k_X8_column cI cJ cK x0 xn xl xt xo xf xs xp xq xr xc p1 t1 r1 r2 r3 r4 r5 l1 l2 l3 (nI z) (nI pz) (nI pa) pn (nI tz) tf nf (nI rz) (nI rv) rw rk (nI lz) lo ln lb) (fun (r : Int32) (u : va_W) => (∃ (z' : Nat) (pz' : Nat) (pa' : Nat) (pn' : Nat → Int32) (tz' : Nat) (nf' : Nat → Int32) (rz' : Nat) (rv' : Nat) (rw' : Int32) (rk' : Int32) (lz' : Nat) (lo' : Nat → Int32) (ln' : Nat → Int32) (lb' : Nat → Int64), u = (wl_k_X8_column cI cJ cK x0 xn xl xt xo xf xs xp xq xr xc p1 t1 r1 r2 r3 r4 r5 l1 l2 l3 (nI z') (nI pz') (nI pa') pn' (nI tz') tf nf' (nI rz') (nI rv') rw' rk' (nI lz') lo' ln' lb') ∧ r = nI z' ∧ z' ≤ 64 ∧ pz' ≤ 64 ∧ pa' ≤ 100 ∧ RB 0 255 pn' ∧ tz' ≤ 100 ∧ RB 0 255 nf' ∧ rz' ≤ 64 ∧ rv' ≤ 8 ∧ lz' ≤ 64 ∧ RB 0 63 lo' ∧ RB 0 63 ln' ∧ tz' = 0 ∧ colOk tf tz ∧ z' = colN tf tz ∧ (∀ j, j < z' → nf' j = colF tf tz pn j) ∧ (LVL lb' nf' z' ∧ lz' = z') ∧ rk' = 0) ∨ (∃ (pz' : Nat) (pa' : Nat) (pn' : Nat → Int32) (tz' : Nat), u = (wl_k_X8_column cI cJ cK x0 xn xl xt xo xf xs xp xq xr xc p1 t1 r1 r2 r3 r4 r5 l1 l2 l3 (nI z) (nI pz') (nI pa') pn' (nI tz') tf nf (nI rz) (nI rv) rw rk (nI lz) lo ln lb) ∧ pz' ≤ 64 ∧ pa' ≤ 100 ∧ RB 0 255 pn' ∧ tz' ≤ 100 ∧ tz' = 0 ∧ ¬ colOk tf tz)) := by
  refine ctI.of (cc := cX8_column) (maxL := 2) (ret := (some .int)) (by decide) rfl (Nat.le_of_ble_eq_true rfl) ?_
  intro p e s m below meth c ls A hx hb hr hts hown hml hlocks hname hA hK hN hP hD hS hl
  have hl : lv_has ls 2 [(0, .ref x0)] := hl
  have hown : s.vm.findClass RX8 = some m.cls := hown
  have hi3 : ∀ w ∈ u_ws RX3 TX3 3, w ∈ wsX8_column := by decide +kernel
  have hi8 : ∀ w ∈ u_ws RX8 TX8 11, w ∈ wsX8_column := by decide +kernel
  have fl13 := hts (.fieldLink RX8 13 "PlaneColumn" "size" "I") (by decide +kernel)
  have fl27 := hts (.fieldLink RX8 27 "PlaneColumn" "text" "LPlaneColumn$Signs;") (by decide +kernel)
  have fl51 := hts (.fieldLink RX8 51 "PlaneColumn" "partReader" "LPlaneColumn$PartReader;") (by decide +kernel)
  have fl9 := hts (.fieldLink RX8 9 "PlaneColumn" "numbers" "[I") (by decide +kernel)
  refine lv_aload_n hx hb dX8_column_0 rfl (lv_at hl 0 rfl) ?_
  refine va_get (ci := 8) (v := .ref xp) (C := RX8) (T := TX8) (N := 11) hx hb hts hi8 hown hK hP 0 rfl rfl 7 (by decide) fl51 (fun _ h9 => h9) rfl dX8_column_1 ?_
  refine lv_aload_n hx hb dX8_column_4 rfl (lv_at hl 0 rfl) ?_
  refine va_get (ci := 8) (v := .ref xt) (C := RX8) (T := TX8) (N := 11) hx hb hts hi8 hown hK hP 0 rfl rfl 3 (by decide) fl27 (fun _ h9 => h9) rfl dX8_column_5 ?_
  refine my_goIS (wc := (wl_k_X3_read cI cJ cK xp p1 xt t1 (nI pz) (nI pa) pn (nI tz) tf)) hP hD hS hA [1, 2, 3, 4] rfl [none, some 0, some 1, some 2, some 3] (by decide +kernel) (my_cV (As := [.ref xt]) (rest := []) (ci := 3) (wc := (wl_k_X3_read cI cJ cK xp p1 xt t1 (nI pz) (nI pa) pn (nI tz) tf)) ⟨hx, hb, hml, hown, hts⟩ (cwV 1 hts gX8_column_X3_read rfl rfl rfl (by decide +kernel) ⟨Nat.le_of_ble_eq_true rfl, Nat.le_of_ble_eq_true rfl⟩) hN hK hP hD [1, 2, 3, 4] rfl (by decide) rfl 1 rfl rfl rfl rfl hl.1 rfl (Nat.le_of_ble_eq_true rfl) dX8_column_8 ⟨Nat.le_of_ble_eq_true rfl, Nat.le_of_ble_eq_true rfl⟩  ((k_X3_read l D cI cJ cK xp p1 xt t1 pz pa pn tz tf (by first | assumption | omega | decide +kernel) (by first | assumption | omega | decide +kernel) hR_pn (by first | assumption | omega | decide +kernel) hR_tf) _)) (fun r u H locs hp hPD hS => ?_)
  rcases hp with ⟨pz_1, pa_2, pn_3, rfl, rfl, hhz_pz_4, hhz_pa_5, hR_pn_3, hcO, hcN, hcF⟩ | ⟨pz_6, pa_7, pn_8, rfl, hhz_pz_9, hhz_pa_10, hR_pn_8, ha_11, hcO⟩
  ·
    obtain ⟨hP, hD⟩ := hPD rfl
    have hP : va_P D vwCl (wl_k_X8_column cI cJ cK x0 xn xl xt xo xf xs xp xq xr xc p1 t1 r1 r2 r3 r4 r5 l1 l2 l3 (nI z) (nI pz_1) (nI pa_2) pn_3 (nI tz) tf nf (nI rz) (nI rv) rw rk (nI lz) lo ln lb) H := hP
    have hD : va_D A (wl_k_X8_column cI cJ cK x0 xn xl xt xo xf xs xp xq xr xc p1 t1 r1 r2 r3 r4 r5 l1 l2 l3 (nI z) (nI pz_1) (nI pa_2) pn_3 (nI tz) tf nf (nI rz) (nI rv) rw rk (nI lz) lo ln lb) := hD
    refine lv_istore_n (lv' := [(1, .int (-1)), (0, .ref x0)]) hx hb dX8_column_11 rfl hl (by decide) rfl (fun ls hl => ?_)
    refine lv_aload_n hx hb dX8_column_12 rfl (lv_at hl 1 rfl) ?_
    refine va_get (ci := 8) (v := .ref xt) (C := RX8) (T := TX8) (N := 11) hx hb hts hi8 hown hK hP 0 rfl rfl 3 (by decide) fl27 (fun _ h9 => h9) rfl dX8_column_13 ?_
    refine lv_iconst (v := 0) hx hb dX8_column_16 (by decide +kernel) ?_
    refine my_goIS (wc := (wl_k_X5_keep cI cJ cK xt t1 (nI tz))) hP hD hS hA [3] rfl [none, none, none, some 0] (by decide +kernel) (my_cV (As := [.int 0]) (rest := []) (ci := 5) (wc := (wl_k_X5_keep cI cJ cK xt t1 (nI tz))) ⟨hx, hb, hml, hown, hts⟩ (cwV 1 hts gX8_column_X5_keep rfl rfl rfl (by decide +kernel) ⟨Nat.le_of_ble_eq_true rfl, Nat.le_of_ble_eq_true rfl⟩) hN hK hP hD [3] rfl (by decide) rfl 3 rfl rfl rfl rfl hl.1 rfl (Nat.le_of_ble_eq_true rfl) dX8_column_17 ⟨Nat.le_of_ble_eq_true rfl, Nat.le_of_ble_eq_true rfl⟩  ((k_X5_keep l D cI cJ cK xt t1 tz (0 : Int32) (0 : Int) (by decide +kernel) (by first | assumption | omega | decide +kernel)) _)) (fun r u H locs hp hPD hS => ?_)
    rcases hp with ⟨tz_12, rfl, rfl, hhz_tz_13, ha_14, hb_15⟩ | ⟨rfl, rfl, ho_16⟩
    ·
      obtain ⟨hP, hD⟩ := hPD rfl
      have hP : va_P D vwCl (wl_k_X8_column cI cJ cK x0 xn xl xt xo xf xs xp xq xr xc p1 t1 r1 r2 r3 r4 r5 l1 l2 l3 (nI z) (nI pz_1) (nI pa_2) pn_3 (nI tz_12) tf nf (nI rz) (nI rv) rw rk (nI lz) lo ln lb) H := hP
      have hD : va_D A (wl_k_X8_column cI cJ cK x0 xn xl xt xo xf xs xp xq xr xc p1 t1 r1 r2 r3 r4 r5 l1 l2 l3 (nI z) (nI pz_1) (nI pa_2) pn_3 (nI tz_12) tf nf (nI rz) (nI rv) rw rk (nI lz) lo ln lb) := hD
      refine lv_pop hx hb dX8_column_20 rfl ?_
      refine lv_iload_n hx hb dX8_column_21 rfl (lv_at hl 0 rfl) ?_
      refine lv_iconst (v := (-1)) hx hb dX8_column_22 (by decide +kernel) ?_
      refine lv_icmp_eq (tgt := 30) hx hb dX8_column_23 (by decide) (fun c23 => ?_) (fun c23 => ?_)
      ·
        refine lv_aload_n hx hb dX8_column_30 rfl (lv_at hl 1 rfl) ?_
        refine lv_aload_n hx hb dX8_column_31 rfl (lv_at hl 1 rfl) ?_
        refine va_get (ci := 8) (v := .ref xp) (C := RX8) (T := TX8) (N := 11) hx hb hts hi8 hown hK hP 0 rfl rfl 7 (by decide) fl51 (fun _ h9 => h9) rfl dX8_column_32 ?_
        refine va_getN (ci := 3) (v := .int (nI pz_1)) (C := RX3) (T := TX3) (N := 3) hx hb hts hi3 hown hK hP 1 rfl rfl 1 (by decide) (nw_f_RX8_84 hN) (fun _ h9 => h9) rfl dX8_column_35 ?_
        refine va_put (ci := 8) (v := .int (nI pz_1)) (ty := (.int)) (C := RX8) (T := TX8) (N := 11) hx hb hts hi8 tyX8 tyX8_ok nmX8 hown hK hP hD hS 0 rfl rfl 1 (by decide) fl13 (fun _ h9 => h9) rfl (by decide +kernel) rfl rfl (Nat.le_of_ble_eq_true rfl) dX8_column_38 (fun H locs hP hD hS => ?_)
        have hP : va_P D vwCl (wl_k_X8_column cI cJ cK x0 xn xl xt xo xf xs xp xq xr xc p1 t1 r1 r2 r3 r4 r5 l1 l2 l3 (nI pz_1) (nI pz_1) (nI pa_2) pn_3 (nI tz_12) tf nf (nI rz) (nI rv) rw rk (nI lz) lo ln lb) H := hP
        have hD : va_D A (wl_k_X8_column cI cJ cK x0 xn xl xt xo xf xs xp xq xr xc p1 t1 r1 r2 r3 r4 r5 l1 l2 l3 (nI pz_1) (nI pz_1) (nI pa_2) pn_3 (nI tz_12) tf nf (nI rz) (nI rv) rw rk (nI lz) lo ln lb) := hD
        refine lv_aload_n hx hb dX8_column_41 rfl (lv_at hl 1 rfl) ?_
        refine va_get (ci := 8) (v := .ref xp) (C := RX8) (T := TX8) (N := 11) hx hb hts hi8 hown hK hP 0 rfl rfl 7 (by decide) fl51 (fun _ h9 => h9) rfl dX8_column_42 ?_
        refine va_getN (ci := 3) (v := .ref p1) (C := RX3) (T := TX3) (N := 3) hx hb hts hi3 hown hK hP 1 rfl rfl 0 (by decide) (nw_f_RX8_85 hN) (fun _ h9 => h9) rfl dX8_column_45 ?_
        refine lv_iconst (v := 0) hx hb dX8_column_48 (by decide +kernel) ?_
        refine lv_aload_n hx hb dX8_column_49 rfl (lv_at hl 1 rfl) ?_
        refine va_get (ci := 8) (v := .ref xn) (C := RX8) (T := TX8) (N := 11) hx hb hts hi8 hown hK hP 0 rfl rfl 0 (by decide) fl9 (fun _ h9 => h9) rfl dX8_column_50 ?_
        refine lv_iconst (v := 0) hx hb dX8_column_53 (by decide +kernel) ?_
        refine lv_aload_n hx hb dX8_column_54 rfl (lv_at hl 1 rfl) ?_
        refine va_get (ci := 8) (v := .int (nI pz_1)) (C := RX8) (T := TX8) (N := 11) hx hb hts hi8 hown hK hP 0 rfl rfl 1 (by decide) fl13 (fun _ h9 => h9) rfl dX8_column_55 ?_
        refine va_copyi hx hb (hml.trans hl.1.symm) hown (hts (.methodLink RX8 86 arraycopyName) (by decide +kernel)) (hts (.native arraycopyName) (by decide +kernel)) (hts (.static arraycopyName) (by decide +kernel)) (hts (.initialized "java/lang/System") (by decide +kernel)) hK hP hD hS 2 5 0 0 rfl rfl rfl rfl rfl (by decide +kernel) (by decide +kernel) (nI_nneg (by omega)) (by rw [show (0 : Int32).toNatClampNeg = 0 from (by decide +kernel), show (nI pz_1 : Int32).toNatClampNeg = pz_1 from (nI_clamp (by omega))]; omega) (by rw [show (0 : Int32).toNatClampNeg = 0 from (by decide +kernel), show (nI pz_1 : Int32).toNatClampNeg = pz_1 from (nI_clamp (by omega))]; omega) (fun _ _ => rfl) (Nat.le_of_ble_eq_true rfl) (Nat.le_of_ble_eq_true rfl) dX8_column_58 (fun H locs hP hD hS => ?_)
        obtain ⟨g_17, eg_17⟩ : ∃ g : Nat → Int32, g = va_cpy pn_3 nf 0 0 pz_1 := ⟨_, rfl⟩
        have eU : va_cpy pn_3 nf (0 : Int32).toNatClampNeg (0 : Int32).toNatClampNeg (nI pz_1 : Int32).toNatClampNeg = g_17 := by rw [eg_17, show (0 : Int32).toNatClampNeg = 0 from (by decide +kernel), show (nI pz_1 : Int32).toNatClampNeg = pz_1 from (nI_clamp (by omega))]
        rw [eU] at hP hD
        have hR_g_17 : RB 0 255 g_17 := by rw [eg_17]; exact RB.cpy hR_pn_3 hR_nf
        have hP : va_P D vwCl (wl_k_X8_column cI cJ cK x0 xn xl xt xo xf xs xp xq xr xc p1 t1 r1 r2 r3 r4 r5 l1 l2 l3 (nI pz_1) (nI pz_1) (nI pa_2) pn_3 (nI tz_12) tf g_17 (nI rz) (nI rv) rw rk (nI lz) lo ln lb) H := hP
        have hD : va_D A (wl_k_X8_column cI cJ cK x0 xn xl xt xo xf xs xp xq xr xc p1 t1 r1 r2 r3 r4 r5 l1 l2 l3 (nI pz_1) (nI pz_1) (nI pa_2) pn_3 (nI tz_12) tf g_17 (nI rz) (nI rv) rw rk (nI lz) lo ln lb) := hD
        refine lv_aload_n hx hb dX8_column_61 rfl (lv_at hl 1 rfl) ?_
        refine my_goIS (wc := (wl_k_X8_settle cI cJ cK x0 xn xl xt xo xf xs xp xq xr xc r1 r2 r3 r4 r5 l1 l2 l3 (nI pz_1) g_17 (nI rz) (nI rv) rw rk (nI lz) lo ln lb)) hP hD hS hA [0, 5, 6, 7, 8, 9, 10] rfl [some 0, none, none, none, none, some 1, some 2, some 3, some 4, some 5, some 6] (by decide +kernel) (my_cV (As := []) (rest := []) (ci := 8) (wc := (wl_k_X8_settle cI cJ cK x0 xn xl xt xo xf xs xp xq xr xc r1 r2 r3 r4 r5 l1 l2 l3 (nI pz_1) g_17 (nI rz) (nI rv) rw rk (nI lz) lo ln lb)) ⟨hx, hb, hml, hown, hts⟩ (cwV 0 hts gX8_column_X8_settle rfl rfl rfl (by decide +kernel) ⟨Nat.le_of_ble_eq_true rfl, Nat.le_of_ble_eq_true rfl⟩) hN hK hP hD [0, 5, 6, 7, 8, 9, 10] rfl (by decide) rfl 0 rfl rfl rfl rfl hl.1 rfl (Nat.le_of_ble_eq_true rfl) dX8_column_62 ⟨Nat.le_of_ble_eq_true rfl, Nat.le_of_ble_eq_true rfl⟩  ((k_X8_settle l D cI cJ cK x0 xn xl xt xo xf xs xp xq xr xc r1 r2 r3 r4 r5 l1 l2 l3 pz_1 g_17 rz rv rw rk lz lo ln lb (by first | assumption | omega | decide +kernel) hR_g_17 (by first | assumption | omega | decide +kernel) (by first | assumption | omega | decide +kernel) (by first | assumption | omega | decide +kernel) hR_lo hR_ln) _)) (fun r u H locs hp hPD hS => ?_)
        obtain ⟨t_18, rz_19, rv_20, rw_21, rk_22, lz_23, lo_24, ln_25, lb_26, rfl, rfl, hhz_rz_27, hhz_rv_28, hhz_lz_29, hR_lo_24, hR_ln_25, hlv, hlz, hch, hrk, hb9_30⟩ := hp
        obtain ⟨hP, hD⟩ := hPD rfl
        have hP : va_P D vwCl (wl_k_X8_column cI cJ cK x0 xn xl xt xo xf xs xp xq xr xc p1 t1 r1 r2 r3 r4 r5 l1 l2 l3 (nI pz_1) (nI pz_1) (nI pa_2) pn_3 (nI tz_12) tf g_17 (nI rz_19) (nI rv_20) rw_21 rk_22 (nI lz_23) lo_24 ln_25 lb_26) H := hP
        have hD : va_D A (wl_k_X8_column cI cJ cK x0 xn xl xt xo xf xs xp xq xr xc p1 t1 r1 r2 r3 r4 r5 l1 l2 l3 (nI pz_1) (nI pz_1) (nI pa_2) pn_3 (nI tz_12) tf g_17 (nI rz_19) (nI rv_20) rw_21 rk_22 (nI lz_23) lo_24 ln_25 lb_26) := hD
        refine lv_pop hx hb dX8_column_65 rfl ?_
        refine lv_aload_n hx hb dX8_column_66 rfl (lv_at hl 1 rfl) ?_
        refine va_get (ci := 8) (v := .int (nI pz_1)) (C := RX8) (T := TX8) (N := 11) hx hb hts hi8 hown hK hP 0 rfl rfl 1 (by decide) fl13 (fun _ h9 => h9) rfl dX8_column_67 ?_
        exact my_retI hx hb hr hlocks hK hS (wl_k_X8_column cI cJ cK x0 xn xl xt xo xf xs xp xq xr xc p1 t1 r1 r2 r3 r4 r5 l1 l2 l3 (nI pz_1) (nI pz_1) (nI pa_2) pn_3 (nI tz_12) tf g_17 (nI rz_19) (nI rv_20) rw_21 rk_22 (nI lz_23) lo_24 ln_25 lb_26) hP hD (Or.inl ⟨pz_1, pz_1, pa_2, pn_3, tz_12, g_17, rz_19, rv_20, rw_21, rk_22, lz_23, lo_24, ln_25, lb_26, rfl, rfl, (by first | assumption | omega | trivial | decide +kernel), (by first | assumption | omega | trivial | decide +kernel), (by first | assumption | omega | trivial | decide +kernel), hR_pn_3, (by first | assumption | omega | trivial | decide +kernel), hR_g_17, (by first | assumption | omega | trivial | decide +kernel), (by first | assumption | omega | trivial | decide +kernel), (by first | assumption | omega | trivial | decide +kernel), hR_lo_24, hR_ln_25, (by first | assumption | omega | trivial | decide +kernel), hcO, hcN, (fun j h => (cpy_e (by assumption) h).trans (congrFun hcF j)), ⟨hlv, by omega⟩, (by first | assumption | omega | trivial | decide +kernel)⟩) dX8_column_70
      ·
        exact absurd c23 (by decide +kernel)
    ·
      obtain ⟨hP, hD⟩ := hPD rfl
      have hP : va_P D vwCl (wl_k_X8_column cI cJ cK x0 xn xl xt xo xf xs xp xq xr xc p1 t1 r1 r2 r3 r4 r5 l1 l2 l3 (nI z) (nI pz_1) (nI pa_2) pn_3 (nI tz) tf nf (nI rz) (nI rv) rw rk (nI lz) lo ln lb) H := hP
      have hD : va_D A (wl_k_X8_column cI cJ cK x0 xn xl xt xo xf xs xp xq xr xc p1 t1 r1 r2 r3 r4 r5 l1 l2 l3 (nI z) (nI pz_1) (nI pa_2) pn_3 (nI tz) tf nf (nI rz) (nI rv) rw rk (nI lz) lo ln lb) := hD
      refine lv_pop hx hb dX8_column_20 rfl ?_
      refine lv_iload_n hx hb dX8_column_21 rfl (lv_at hl 0 rfl) ?_
      refine lv_iconst (v := (-1)) hx hb dX8_column_22 (by decide +kernel) ?_
      refine lv_icmp_eq (tgt := 30) hx hb dX8_column_23 (by decide) (fun c23 => ?_) (fun c23 => ?_)
      ·
        refine lv_aload_n hx hb dX8_column_30 rfl (lv_at hl 1 rfl) ?_
        refine lv_aload_n hx hb dX8_column_31 rfl (lv_at hl 1 rfl) ?_
        refine va_get (ci := 8) (v := .ref xp) (C := RX8) (T := TX8) (N := 11) hx hb hts hi8 hown hK hP 0 rfl rfl 7 (by decide) fl51 (fun _ h9 => h9) rfl dX8_column_32 ?_
        refine va_getN (ci := 3) (v := .int (nI pz_1)) (C := RX3) (T := TX3) (N := 3) hx hb hts hi3 hown hK hP 1 rfl rfl 1 (by decide) (nw_f_RX8_84 hN) (fun _ h9 => h9) rfl dX8_column_35 ?_
        refine va_put (ci := 8) (v := .int (nI pz_1)) (ty := (.int)) (C := RX8) (T := TX8) (N := 11) hx hb hts hi8 tyX8 tyX8_ok nmX8 hown hK hP hD hS 0 rfl rfl 1 (by decide) fl13 (fun _ h9 => h9) rfl (by decide +kernel) rfl rfl (Nat.le_of_ble_eq_true rfl) dX8_column_38 (fun H locs hP hD hS => ?_)
        have hP : va_P D vwCl (wl_k_X8_column cI cJ cK x0 xn xl xt xo xf xs xp xq xr xc p1 t1 r1 r2 r3 r4 r5 l1 l2 l3 (nI pz_1) (nI pz_1) (nI pa_2) pn_3 (nI tz) tf nf (nI rz) (nI rv) rw rk (nI lz) lo ln lb) H := hP
        have hD : va_D A (wl_k_X8_column cI cJ cK x0 xn xl xt xo xf xs xp xq xr xc p1 t1 r1 r2 r3 r4 r5 l1 l2 l3 (nI pz_1) (nI pz_1) (nI pa_2) pn_3 (nI tz) tf nf (nI rz) (nI rv) rw rk (nI lz) lo ln lb) := hD
        refine lv_aload_n hx hb dX8_column_41 rfl (lv_at hl 1 rfl) ?_
        refine va_get (ci := 8) (v := .ref xp) (C := RX8) (T := TX8) (N := 11) hx hb hts hi8 hown hK hP 0 rfl rfl 7 (by decide) fl51 (fun _ h9 => h9) rfl dX8_column_42 ?_
        refine va_getN (ci := 3) (v := .ref p1) (C := RX3) (T := TX3) (N := 3) hx hb hts hi3 hown hK hP 1 rfl rfl 0 (by decide) (nw_f_RX8_85 hN) (fun _ h9 => h9) rfl dX8_column_45 ?_
        refine lv_iconst (v := 0) hx hb dX8_column_48 (by decide +kernel) ?_
        refine lv_aload_n hx hb dX8_column_49 rfl (lv_at hl 1 rfl) ?_
        refine va_get (ci := 8) (v := .ref xn) (C := RX8) (T := TX8) (N := 11) hx hb hts hi8 hown hK hP 0 rfl rfl 0 (by decide) fl9 (fun _ h9 => h9) rfl dX8_column_50 ?_
        refine lv_iconst (v := 0) hx hb dX8_column_53 (by decide +kernel) ?_
        refine lv_aload_n hx hb dX8_column_54 rfl (lv_at hl 1 rfl) ?_
        refine va_get (ci := 8) (v := .int (nI pz_1)) (C := RX8) (T := TX8) (N := 11) hx hb hts hi8 hown hK hP 0 rfl rfl 1 (by decide) fl13 (fun _ h9 => h9) rfl dX8_column_55 ?_
        refine va_copyi hx hb (hml.trans hl.1.symm) hown (hts (.methodLink RX8 86 arraycopyName) (by decide +kernel)) (hts (.native arraycopyName) (by decide +kernel)) (hts (.static arraycopyName) (by decide +kernel)) (hts (.initialized "java/lang/System") (by decide +kernel)) hK hP hD hS 2 5 0 0 rfl rfl rfl rfl rfl (by decide +kernel) (by decide +kernel) (nI_nneg (by omega)) (by rw [show (0 : Int32).toNatClampNeg = 0 from (by decide +kernel), show (nI pz_1 : Int32).toNatClampNeg = pz_1 from (nI_clamp (by omega))]; omega) (by rw [show (0 : Int32).toNatClampNeg = 0 from (by decide +kernel), show (nI pz_1 : Int32).toNatClampNeg = pz_1 from (nI_clamp (by omega))]; omega) (fun _ _ => rfl) (Nat.le_of_ble_eq_true rfl) (Nat.le_of_ble_eq_true rfl) dX8_column_58 (fun H locs hP hD hS => ?_)
        obtain ⟨g_31, eg_31⟩ : ∃ g : Nat → Int32, g = va_cpy pn_3 nf 0 0 pz_1 := ⟨_, rfl⟩
        have eU : va_cpy pn_3 nf (0 : Int32).toNatClampNeg (0 : Int32).toNatClampNeg (nI pz_1 : Int32).toNatClampNeg = g_31 := by rw [eg_31, show (0 : Int32).toNatClampNeg = 0 from (by decide +kernel), show (nI pz_1 : Int32).toNatClampNeg = pz_1 from (nI_clamp (by omega))]
        rw [eU] at hP hD
        have hR_g_31 : RB 0 255 g_31 := by rw [eg_31]; exact RB.cpy hR_pn_3 hR_nf
        have hP : va_P D vwCl (wl_k_X8_column cI cJ cK x0 xn xl xt xo xf xs xp xq xr xc p1 t1 r1 r2 r3 r4 r5 l1 l2 l3 (nI pz_1) (nI pz_1) (nI pa_2) pn_3 (nI tz) tf g_31 (nI rz) (nI rv) rw rk (nI lz) lo ln lb) H := hP
        have hD : va_D A (wl_k_X8_column cI cJ cK x0 xn xl xt xo xf xs xp xq xr xc p1 t1 r1 r2 r3 r4 r5 l1 l2 l3 (nI pz_1) (nI pz_1) (nI pa_2) pn_3 (nI tz) tf g_31 (nI rz) (nI rv) rw rk (nI lz) lo ln lb) := hD
        refine lv_aload_n hx hb dX8_column_61 rfl (lv_at hl 1 rfl) ?_
        refine my_goIS (wc := (wl_k_X8_settle cI cJ cK x0 xn xl xt xo xf xs xp xq xr xc r1 r2 r3 r4 r5 l1 l2 l3 (nI pz_1) g_31 (nI rz) (nI rv) rw rk (nI lz) lo ln lb)) hP hD hS hA [0, 5, 6, 7, 8, 9, 10] rfl [some 0, none, none, none, none, some 1, some 2, some 3, some 4, some 5, some 6] (by decide +kernel) (my_cV (As := []) (rest := []) (ci := 8) (wc := (wl_k_X8_settle cI cJ cK x0 xn xl xt xo xf xs xp xq xr xc r1 r2 r3 r4 r5 l1 l2 l3 (nI pz_1) g_31 (nI rz) (nI rv) rw rk (nI lz) lo ln lb)) ⟨hx, hb, hml, hown, hts⟩ (cwV 0 hts gX8_column_X8_settle rfl rfl rfl (by decide +kernel) ⟨Nat.le_of_ble_eq_true rfl, Nat.le_of_ble_eq_true rfl⟩) hN hK hP hD [0, 5, 6, 7, 8, 9, 10] rfl (by decide) rfl 0 rfl rfl rfl rfl hl.1 rfl (Nat.le_of_ble_eq_true rfl) dX8_column_62 ⟨Nat.le_of_ble_eq_true rfl, Nat.le_of_ble_eq_true rfl⟩  ((k_X8_settle l D cI cJ cK x0 xn xl xt xo xf xs xp xq xr xc r1 r2 r3 r4 r5 l1 l2 l3 pz_1 g_31 rz rv rw rk lz lo ln lb (by first | assumption | omega | decide +kernel) hR_g_31 (by first | assumption | omega | decide +kernel) (by first | assumption | omega | decide +kernel) (by first | assumption | omega | decide +kernel) hR_lo hR_ln) _)) (fun r u H locs hp hPD hS => ?_)
        obtain ⟨t_32, rz_33, rv_34, rw_35, rk_36, lz_37, lo_38, ln_39, lb_40, rfl, rfl, hhz_rz_41, hhz_rv_42, hhz_lz_43, hR_lo_38, hR_ln_39, hlv, hlz, hch, hrk, hb9_44⟩ := hp
        obtain ⟨hP, hD⟩ := hPD rfl
        have hP : va_P D vwCl (wl_k_X8_column cI cJ cK x0 xn xl xt xo xf xs xp xq xr xc p1 t1 r1 r2 r3 r4 r5 l1 l2 l3 (nI pz_1) (nI pz_1) (nI pa_2) pn_3 (nI tz) tf g_31 (nI rz_33) (nI rv_34) rw_35 rk_36 (nI lz_37) lo_38 ln_39 lb_40) H := hP
        have hD : va_D A (wl_k_X8_column cI cJ cK x0 xn xl xt xo xf xs xp xq xr xc p1 t1 r1 r2 r3 r4 r5 l1 l2 l3 (nI pz_1) (nI pz_1) (nI pa_2) pn_3 (nI tz) tf g_31 (nI rz_33) (nI rv_34) rw_35 rk_36 (nI lz_37) lo_38 ln_39 lb_40) := hD
        refine lv_pop hx hb dX8_column_65 rfl ?_
        refine lv_aload_n hx hb dX8_column_66 rfl (lv_at hl 1 rfl) ?_
        refine va_get (ci := 8) (v := .int (nI pz_1)) (C := RX8) (T := TX8) (N := 11) hx hb hts hi8 hown hK hP 0 rfl rfl 1 (by decide) fl13 (fun _ h9 => h9) rfl dX8_column_67 ?_
        exact my_retI hx hb hr hlocks hK hS (wl_k_X8_column cI cJ cK x0 xn xl xt xo xf xs xp xq xr xc p1 t1 r1 r2 r3 r4 r5 l1 l2 l3 (nI pz_1) (nI pz_1) (nI pa_2) pn_3 (nI tz) tf g_31 (nI rz_33) (nI rv_34) rw_35 rk_36 (nI lz_37) lo_38 ln_39 lb_40) hP hD (Or.inl ⟨pz_1, pz_1, pa_2, pn_3, tz, g_31, rz_33, rv_34, rw_35, rk_36, lz_37, lo_38, ln_39, lb_40, rfl, rfl, (by first | assumption | omega | trivial | decide +kernel), (by first | assumption | omega | trivial | decide +kernel), (by first | assumption | omega | trivial | decide +kernel), hR_pn_3, (by first | assumption | omega | trivial | decide +kernel), hR_g_31, (by first | assumption | omega | trivial | decide +kernel), (by first | assumption | omega | trivial | decide +kernel), (by first | assumption | omega | trivial | decide +kernel), hR_lo_38, hR_ln_39, (by first | assumption | omega | trivial | decide +kernel), hcO, hcN, (fun j h => (cpy_e (by assumption) h).trans (congrFun hcF j)), ⟨hlv, by omega⟩, (by first | assumption | omega | trivial | decide +kernel)⟩) dX8_column_70
      ·
        exact absurd c23 (by decide +kernel)
  ·
    obtain ⟨r_45, rfl⟩ : ∃ z, z = r := ⟨_, rfl⟩
    obtain ⟨hP, hD⟩ := hPD rfl
    have hP : va_P D vwCl (wl_k_X8_column cI cJ cK x0 xn xl xt xo xf xs xp xq xr xc p1 t1 r1 r2 r3 r4 r5 l1 l2 l3 (nI z) (nI pz_6) (nI pa_7) pn_8 (nI tz) tf nf (nI rz) (nI rv) rw rk (nI lz) lo ln lb) H := hP
    have hD : va_D A (wl_k_X8_column cI cJ cK x0 xn xl xt xo xf xs xp xq xr xc p1 t1 r1 r2 r3 r4 r5 l1 l2 l3 (nI z) (nI pz_6) (nI pa_7) pn_8 (nI tz) tf nf (nI rz) (nI rv) rw rk (nI lz) lo ln lb) := hD
    refine lv_istore_n (lv' := [(1, .int r_45), (0, .ref x0)]) hx hb dX8_column_11 rfl hl (by decide) rfl (fun ls hl => ?_)
    refine lv_aload_n hx hb dX8_column_12 rfl (lv_at hl 1 rfl) ?_
    refine va_get (ci := 8) (v := .ref xt) (C := RX8) (T := TX8) (N := 11) hx hb hts hi8 hown hK hP 0 rfl rfl 3 (by decide) fl27 (fun _ h9 => h9) rfl dX8_column_13 ?_
    refine lv_iconst (v := 0) hx hb dX8_column_16 (by decide +kernel) ?_
    refine my_goIS (wc := (wl_k_X5_keep cI cJ cK xt t1 (nI tz))) hP hD hS hA [3] rfl [none, none, none, some 0] (by decide +kernel) (my_cV (As := [.int 0]) (rest := []) (ci := 5) (wc := (wl_k_X5_keep cI cJ cK xt t1 (nI tz))) ⟨hx, hb, hml, hown, hts⟩ (cwV 1 hts gX8_column_X5_keep rfl rfl rfl (by decide +kernel) ⟨Nat.le_of_ble_eq_true rfl, Nat.le_of_ble_eq_true rfl⟩) hN hK hP hD [3] rfl (by decide) rfl 3 rfl rfl rfl rfl hl.1 rfl (Nat.le_of_ble_eq_true rfl) dX8_column_17 ⟨Nat.le_of_ble_eq_true rfl, Nat.le_of_ble_eq_true rfl⟩  ((k_X5_keep l D cI cJ cK xt t1 tz (0 : Int32) (0 : Int) (by decide +kernel) (by first | assumption | omega | decide +kernel)) _)) (fun r u H locs hp hPD hS => ?_)
    rcases hp with ⟨tz_46, rfl, rfl, hhz_tz_47, ha_48, hb_49⟩ | ⟨rfl, rfl, ho_50⟩
    ·
      obtain ⟨hP, hD⟩ := hPD rfl
      have hP : va_P D vwCl (wl_k_X8_column cI cJ cK x0 xn xl xt xo xf xs xp xq xr xc p1 t1 r1 r2 r3 r4 r5 l1 l2 l3 (nI z) (nI pz_6) (nI pa_7) pn_8 (nI tz_46) tf nf (nI rz) (nI rv) rw rk (nI lz) lo ln lb) H := hP
      have hD : va_D A (wl_k_X8_column cI cJ cK x0 xn xl xt xo xf xs xp xq xr xc p1 t1 r1 r2 r3 r4 r5 l1 l2 l3 (nI z) (nI pz_6) (nI pa_7) pn_8 (nI tz_46) tf nf (nI rz) (nI rv) rw rk (nI lz) lo ln lb) := hD
      refine lv_pop hx hb dX8_column_20 rfl ?_
      refine lv_iload_n hx hb dX8_column_21 rfl (lv_at hl 0 rfl) ?_
      refine lv_iconst (v := (-1)) hx hb dX8_column_22 (by decide +kernel) ?_
      refine lv_icmp_eq (tgt := 30) hx hb dX8_column_23 (by decide) (fun c23 => ?_) (fun c23 => ?_)
      ·
        have d23 : r_45.toInt = (-1 : Int) := my_eq c23 rfl (by decide +kernel)
        exact absurd d23 (by omega)
      ·
        have d23 : r_45.toInt ≠ (-1 : Int) := my_ne c23 rfl (by decide +kernel)
        refine lv_iconst (v := (-1)) hx hb dX8_column_26 (by decide +kernel) ?_
        refine lv_iload_n hx hb dX8_column_27 rfl (lv_at hl 0 rfl) ?_
        refine lv_isub hx hb dX8_column_28 ?_
        refine lv_topi (fun z_51 ez_51 => ?_)
        try have tz_51 : z_51.toInt = (-1 : Int) - r_45.toInt := by rw [ez_51]; exact my_subI (by decide +kernel) rfl (by omega) (by omega)
        exact my_retI hx hb hr hlocks hK hS (wl_k_X8_column cI cJ cK x0 xn xl xt xo xf xs xp xq xr xc p1 t1 r1 r2 r3 r4 r5 l1 l2 l3 (nI z) (nI pz_6) (nI pa_7) pn_8 (nI tz_46) tf nf (nI rz) (nI rv) rw rk (nI lz) lo ln lb) hP hD (Or.inr (⟨pz_6, pa_7, pn_8, tz_46, rfl, (by first | assumption | omega | trivial | decide +kernel), (by first | assumption | omega | trivial | decide +kernel), hR_pn_8, (by first | assumption | omega | trivial | decide +kernel), (by first | assumption | omega | trivial | decide +kernel), hcO⟩)) dX8_column_29
    ·
      obtain ⟨hP, hD⟩ := hPD rfl
      have hP : va_P D vwCl (wl_k_X8_column cI cJ cK x0 xn xl xt xo xf xs xp xq xr xc p1 t1 r1 r2 r3 r4 r5 l1 l2 l3 (nI z) (nI pz_6) (nI pa_7) pn_8 (nI tz) tf nf (nI rz) (nI rv) rw rk (nI lz) lo ln lb) H := hP
      have hD : va_D A (wl_k_X8_column cI cJ cK x0 xn xl xt xo xf xs xp xq xr xc p1 t1 r1 r2 r3 r4 r5 l1 l2 l3 (nI z) (nI pz_6) (nI pa_7) pn_8 (nI tz) tf nf (nI rz) (nI rv) rw rk (nI lz) lo ln lb) := hD
      refine lv_pop hx hb dX8_column_20 rfl ?_
      refine lv_iload_n hx hb dX8_column_21 rfl (lv_at hl 0 rfl) ?_
      refine lv_iconst (v := (-1)) hx hb dX8_column_22 (by decide +kernel) ?_
      refine lv_icmp_eq (tgt := 30) hx hb dX8_column_23 (by decide) (fun c23 => ?_) (fun c23 => ?_)
      ·
        have d23 : r_45.toInt = (-1 : Int) := my_eq c23 rfl (by decide +kernel)
        exact absurd d23 (by omega)
      ·
        have d23 : r_45.toInt ≠ (-1 : Int) := my_ne c23 rfl (by decide +kernel)
        refine lv_iconst (v := (-1)) hx hb dX8_column_26 (by decide +kernel) ?_
        refine lv_iload_n hx hb dX8_column_27 rfl (lv_at hl 0 rfl) ?_
        refine lv_isub hx hb dX8_column_28 ?_
        refine lv_topi (fun z_52 ez_52 => ?_)
        try have tz_52 : z_52.toInt = (-1 : Int) - r_45.toInt := by rw [ez_52]; exact my_subI (by decide +kernel) rfl (by omega) (by omega)
        exact my_retI hx hb hr hlocks hK hS (wl_k_X8_column cI cJ cK x0 xn xl xt xo xf xs xp xq xr xc p1 t1 r1 r2 r3 r4 r5 l1 l2 l3 (nI z) (nI pz_6) (nI pa_7) pn_8 (nI tz) tf nf (nI rz) (nI rv) rw rk (nI lz) lo ln lb) hP hD (Or.inr (⟨pz_6, pa_7, pn_8, tz, rfl, (by first | assumption | omega | trivial | decide +kernel), (by first | assumption | omega | trivial | decide +kernel), hR_pn_8, (by first | assumption | omega | trivial | decide +kernel), (by first | assumption | omega | trivial | decide +kernel), hcO⟩)) dX8_column_29
abbrev wl_k_X8_planes (cI cJ cK : ClassId) (x0 : Nat) (xn : Nat) (xl : Nat) (xt : Nat) (xo : Nat) (xf : Nat) (xs : Nat) (xp : Nat) (xq : Nat) (xr : Nat) (xc : Nat) (q1 : Nat) (t1 : Nat) (r1 : Nat) (r2 : Nat) (r3 : Nat) (r4 : Nat) (r5 : Nat) (l1 : Nat) (l2 : Nat) (l3 : Nat) (v0_ : Int32) (v1_ : Int32) (v2_ : Nat → Int64) (v3_ : Int32) (v4_ : Nat → Int32) (v5_ : Nat → Int32) (v6_ : Int32) (v7_ : Int32) (v8_ : Int32) (v9_ : Int32) (v10_ : Int32) (v11_ : Nat → Int32) (v12_ : Nat → Int32) (v13_ : Nat → Int64) : va_W := [(x0, .inr (8, [.ref xn, .int v0_, .ref xl, .ref xt, .ref xo, .ref xf, .ref xs, .ref xp, .ref xq, .ref xr, .ref xc])), (xq, .inr (4, [.ref q1, .int v1_])), (q1, .inl (cJ, 8, .inr (.inl v2_))), (xt, .inr (5, [.ref t1, .int v3_])), (t1, .inl (cI, 100, .inl v4_)), (xn, .inl (cI, 64, .inl v5_)), (xr, .inr (2, [.ref r1, .ref r2, .ref r3, .ref r4, .ref r5, .int v6_, .int v7_, .int v8_, .int v9_])), (xl, .inr (1, [.ref l1, .ref l2, .ref l3, .int v10_])), (l2, .inl (cI, 64, .inl v11_)), (l3, .inl (cI, 64, .inl v12_)), (l1, .inl (cJ, 8, .inr (.inl v13_)))]
set_option maxHeartbeats 4000000 in
set_option maxRecDepth 100000 in
theorem k_X8_planes (l : Launch) (D : va_G) (cI cJ cK : ClassId) (x0 : Nat) (xn : Nat) (xl : Nat) (xt : Nat) (xo : Nat) (xf : Nat) (xs : Nat) (xp : Nat) (xq : Nat) (xr : Nat) (xc : Nat) (q1 : Nat) (t1 : Nat) (r1 : Nat) (r2 : Nat) (r3 : Nat) (r4 : Nat) (r5 : Nat) (l1 : Nat) (l2 : Nat) (l3 : Nat) (z : Nat) (qw : Nat) (qb : Nat → Int64) (tz : Nat) (tf : Nat → Int32) (nf : Nat → Int32) (rz : Nat) (rv : Nat) (rw : Int32) (rk : Int32) (lz : Nat) (lo : Nat → Int32) (ln : Nat → Int32) (lb : Nat → Int64) (hz_z : z ≤ 64) (hz_qw : qw ≤ 11) (hz_tz : tz ≤ 100) (hR_tf : RB 0 255 tf) (hR_nf : RB 0 255 nf) (hz_rz : rz ≤ 64) (hz_rv : rv ≤ 8) (hz_lz : lz ≤ 64) (hR_lo : RB 0 63 lo) (hR_ln : RB 0 63 ln) : ctI l yX8_planes wsX8_planes ({ frames := 5, cells := 0, slots := 0, locals := 300 } : Room) D (tyIJ cI cJ cK) [.ref x0] (wl_k_X8_planes cI cJ cK x0 xn xl xt xo xf xs xp xq xr xc q1 t1 r1 r2 r3 r4 r5 l1 l2 l3 (nI z) (nI qw) qb (nI tz) tf nf (nI rz) (nI rv) rw rk (nI lz) lo ln lb) (fun (r : Int32) (u : va_W) => (∃ (z' : Nat) (qw' : Nat) (qb' : Nat → Int64) (tz' : Nat) (nf' : Nat → Int32) (rz' : Nat) (rv' : Nat) (rw' : Int32) (rk' : Int32) (lz' : Nat) (lo' : Nat → Int32) (ln' : Nat → Int32) (lb' : Nat → Int64), u = (wl_k_X8_planes cI cJ cK x0 xn xl xt xo xf xs xp xq xr xc q1 t1 r1 r2 r3 r4 r5 l1 l2 l3 (nI z') (nI qw') qb' (nI tz') tf nf' (nI rz') (nI rv') rw' rk' (nI lz') lo' ln' lb') ∧ r = nI z' ∧ z' ≤ 64 ∧ qw' ≤ 11 ∧ tz' ≤ 100 ∧ RB 0 255 nf' ∧ rz' ≤ 64 ∧ rv' ≤ 8 ∧ lz' ≤ 64 ∧ RB 0 63 lo' ∧ RB 0 63 ln' ∧ tz' = 0 ∧ plOk tf tz ∧ z' = plW tf tz ∧ (∀ j, j < z' → nf' j = nI (vlN (plB tf tz (plW tf tz)) (plW tf tz) 8 j)) ∧ (LVL lb' nf' z' ∧ lz' = z') ∧ rk' = 0) ∨ (∃ (qw' : Nat) (qb' : Nat → Int64) (tz' : Nat), u = (wl_k_X8_planes cI cJ cK x0 xn xl xt xo xf xs xp xq xr xc q1 t1 r1 r2 r3 r4 r5 l1 l2 l3 (nI z) (nI qw') qb' (nI tz') tf nf (nI rz) (nI rv) rw rk (nI lz) lo ln lb) ∧ qw' ≤ 11 ∧ tz' ≤ 100 ∧ tz' = 0 ∧ (∃ e, plErr tf tz e ∧ r.toInt = -1 - (e : Int)))) := by
  refine ctI.of (cc := cX8_planes) (maxL := 3) (ret := (some .int)) (by decide) rfl (Nat.le_of_ble_eq_true rfl) ?_
  intro p e s m below meth c ls A hx hb hr hts hown hml hlocks hname hA hK hN hP hD hS hl
  have hl : lv_has ls 3 [(0, .ref x0)] := hl
  have hown : s.vm.findClass RX8 = some m.cls := hown
  have hi4 : ∀ w ∈ u_ws RX4 TX4 2, w ∈ wsX8_planes := by decide +kernel
  have hi8 : ∀ w ∈ u_ws RX8 TX8 11, w ∈ wsX8_planes := by decide +kernel
  have fl13 := hts (.fieldLink RX8 13 "PlaneColumn" "size" "I") (by decide +kernel)
  have fl27 := hts (.fieldLink RX8 27 "PlaneColumn" "text" "LPlaneColumn$Signs;") (by decide +kernel)
  have fl58 := hts (.fieldLink RX8 58 "PlaneColumn" "planeReader" "LPlaneColumn$PlaneReader;") (by decide +kernel)
  have fl9 := hts (.fieldLink RX8 9 "PlaneColumn" "numbers" "[I") (by decide +kernel)
  refine lv_aload_n hx hb dX8_planes_0 rfl (lv_at hl 0 rfl) ?_
  refine va_get (ci := 8) (v := .ref xq) (C := RX8) (T := TX8) (N := 11) hx hb hts hi8 hown hK hP 0 rfl rfl 8 (by decide) fl58 (fun _ h9 => h9) rfl dX8_planes_1 ?_
  refine lv_aload_n hx hb dX8_planes_4 rfl (lv_at hl 0 rfl) ?_
  refine va_get (ci := 8) (v := .ref xt) (C := RX8) (T := TX8) (N := 11) hx hb hts hi8 hown hK hP 0 rfl rfl 3 (by decide) fl27 (fun _ h9 => h9) rfl dX8_planes_5 ?_
  refine my_goIS (wc := (wl_k_X4_read cI cJ cK xq q1 xt t1 (nI qw) qb (nI tz) tf)) hP hD hS hA [1, 2, 3, 4] rfl [none, some 0, some 1, some 2, some 3] (by decide +kernel) (my_cV (As := [.ref xt]) (rest := []) (ci := 4) (wc := (wl_k_X4_read cI cJ cK xq q1 xt t1 (nI qw) qb (nI tz) tf)) ⟨hx, hb, hml, hown, hts⟩ (cwV 1 hts gX8_planes_X4_read rfl rfl rfl (by decide +kernel) ⟨Nat.le_of_ble_eq_true rfl, Nat.le_of_ble_eq_true rfl⟩) hN hK hP hD [1, 2, 3, 4] rfl (by decide) rfl 1 rfl rfl rfl rfl hl.1 rfl (Nat.le_of_ble_eq_true rfl) dX8_planes_8 ⟨Nat.le_of_ble_eq_true rfl, Nat.le_of_ble_eq_true rfl⟩  ((k_X4_read l D cI cJ cK xq q1 xt t1 qw qb tz tf (by first | assumption | omega | decide +kernel) (by first | assumption | omega | decide +kernel) hR_tf) _)) (fun r u H locs hp hPD hS => ?_)
  rcases hp with ⟨qw_1, qb_2, rfl, rfl, hhz_qw_3, hpO, hpW, hqB⟩ | ⟨e_4, qw_5, qb_6, rfl, rfl, hhz_qw_7, hb_8, hpE⟩
  ·
    obtain ⟨hP, hD⟩ := hPD rfl
    have hP : va_P D vwCl (wl_k_X8_planes cI cJ cK x0 xn xl xt xo xf xs xp xq xr xc q1 t1 r1 r2 r3 r4 r5 l1 l2 l3 (nI z) (nI qw_1) qb_2 (nI tz) tf nf (nI rz) (nI rv) rw rk (nI lz) lo ln lb) H := hP
    have hD : va_D A (wl_k_X8_planes cI cJ cK x0 xn xl xt xo xf xs xp xq xr xc q1 t1 r1 r2 r3 r4 r5 l1 l2 l3 (nI z) (nI qw_1) qb_2 (nI tz) tf nf (nI rz) (nI rv) rw rk (nI lz) lo ln lb) := hD
    refine lv_istore_n (lv' := [(1, .int (-1)), (0, .ref x0)]) hx hb dX8_planes_11 rfl hl (by decide) rfl (fun ls hl => ?_)
    refine lv_aload_n hx hb dX8_planes_12 rfl (lv_at hl 1 rfl) ?_
    refine va_get (ci := 8) (v := .ref xt) (C := RX8) (T := TX8) (N := 11) hx hb hts hi8 hown hK hP 0 rfl rfl 3 (by decide) fl27 (fun _ h9 => h9) rfl dX8_planes_13 ?_
    refine lv_iconst (v := 0) hx hb dX8_planes_16 (by decide +kernel) ?_
    refine my_goIS (wc := (wl_k_X5_keep cI cJ cK xt t1 (nI tz))) hP hD hS hA [3] rfl [none, none, none, some 0] (by decide +kernel) (my_cV (As := [.int 0]) (rest := []) (ci := 5) (wc := (wl_k_X5_keep cI cJ cK xt t1 (nI tz))) ⟨hx, hb, hml, hown, hts⟩ (cwV 1 hts gX8_planes_X5_keep rfl rfl rfl (by decide +kernel) ⟨Nat.le_of_ble_eq_true rfl, Nat.le_of_ble_eq_true rfl⟩) hN hK hP hD [3] rfl (by decide) rfl 3 rfl rfl rfl rfl hl.1 rfl (Nat.le_of_ble_eq_true rfl) dX8_planes_17 ⟨Nat.le_of_ble_eq_true rfl, Nat.le_of_ble_eq_true rfl⟩  ((k_X5_keep l D cI cJ cK xt t1 tz (0 : Int32) (0 : Int) (by decide +kernel) (by first | assumption | omega | decide +kernel)) _)) (fun r u H locs hp hPD hS => ?_)
    rcases hp with ⟨tz_9, rfl, rfl, hhz_tz_10, ha_11, hb_12⟩ | ⟨rfl, rfl, ho_13⟩
    ·
      obtain ⟨hP, hD⟩ := hPD rfl
      have hP : va_P D vwCl (wl_k_X8_planes cI cJ cK x0 xn xl xt xo xf xs xp xq xr xc q1 t1 r1 r2 r3 r4 r5 l1 l2 l3 (nI z) (nI qw_1) qb_2 (nI tz_9) tf nf (nI rz) (nI rv) rw rk (nI lz) lo ln lb) H := hP
      have hD : va_D A (wl_k_X8_planes cI cJ cK x0 xn xl xt xo xf xs xp xq xr xc q1 t1 r1 r2 r3 r4 r5 l1 l2 l3 (nI z) (nI qw_1) qb_2 (nI tz_9) tf nf (nI rz) (nI rv) rw rk (nI lz) lo ln lb) := hD
      refine lv_pop hx hb dX8_planes_20 rfl ?_
      refine lv_iload_n hx hb dX8_planes_21 rfl (lv_at hl 0 rfl) ?_
      refine lv_iconst (v := (-1)) hx hb dX8_planes_22 (by decide +kernel) ?_
      refine lv_icmp_eq (tgt := 30) hx hb dX8_planes_23 (by decide) (fun c23 => ?_) (fun c23 => ?_)
      ·
        refine lv_aload_n hx hb dX8_planes_30 rfl (lv_at hl 1 rfl) ?_
        refine lv_aload_n hx hb dX8_planes_31 rfl (lv_at hl 1 rfl) ?_
        refine va_get (ci := 8) (v := .ref xq) (C := RX8) (T := TX8) (N := 11) hx hb hts hi8 hown hK hP 0 rfl rfl 8 (by decide) fl58 (fun _ h9 => h9) rfl dX8_planes_32 ?_
        refine va_getN (ci := 4) (v := .int (nI qw_1)) (C := RX4) (T := TX4) (N := 2) hx hb hts hi4 hown hK hP 1 rfl rfl 1 (by decide) (nw_f_RX8_97 hN) (fun _ h9 => h9) rfl dX8_planes_35 ?_
        refine va_put (ci := 8) (v := .int (nI qw_1)) (ty := (.int)) (C := RX8) (T := TX8) (N := 11) hx hb hts hi8 tyX8 tyX8_ok nmX8 hown hK hP hD hS 0 rfl rfl 1 (by decide) fl13 (fun _ h9 => h9) rfl (by decide +kernel) rfl rfl (Nat.le_of_ble_eq_true rfl) dX8_planes_38 (fun H locs hP hD hS => ?_)
        have hP : va_P D vwCl (wl_k_X8_planes cI cJ cK x0 xn xl xt xo xf xs xp xq xr xc q1 t1 r1 r2 r3 r4 r5 l1 l2 l3 (nI qw_1) (nI qw_1) qb_2 (nI tz_9) tf nf (nI rz) (nI rv) rw rk (nI lz) lo ln lb) H := hP
        have hD : va_D A (wl_k_X8_planes cI cJ cK x0 xn xl xt xo xf xs xp xq xr xc q1 t1 r1 r2 r3 r4 r5 l1 l2 l3 (nI qw_1) (nI qw_1) qb_2 (nI tz_9) tf nf (nI rz) (nI rv) rw rk (nI lz) lo ln lb) := hD
        refine lv_iconst (v := 0) hx hb dX8_planes_41 (by decide +kernel) ?_
        refine lv_istore_n (lv' := [(2, .int 0), (1, .int (-1)), (0, .ref x0)]) hx hb dX8_planes_42 rfl hl (by decide) rfl (fun ls hl => ?_)
        have loop43 : ∀ (n9 : Nat) (k : Nat) (xn_43 : Nat → Int32), 64 - k < n9 → (k ≤ 64) → (∀ j, j < k → xn_43 j = nI (vlN (plB tf tz (plW tf tz)) (plW tf tz) 8 j)) → (RB 0 255 xn_43) → ∀ (H : Heap) (locs : List Loc) (ls : Array Slot), va_P D vwCl (wl_k_X8_planes cI cJ cK x0 xn xl xt xo xf xs xp xq xr xc q1 t1 r1 r2 r3 r4 r5 l1 l2 l3 (nI qw_1) (nI qw_1) qb_2 (nI tz_9) tf xn_43 (nI rz) (nI rv) rw rk (nI lz) lo ln lb) H → va_D A (wl_k_X8_planes cI cJ cK x0 xn xl xt xo xf xs xp xq xr xc q1 t1 r1 r2 r3 r4 r5 l1 l2 l3 (nI qw_1) (nI qw_1) qb_2 (nI tz_9) tf xn_43 (nI rz) (nI rv) rw rk (nI lz) lo ln lb) → va_S A s.heap H locs → lv_has ls 3 [(2, .int (nI k)), (1, .int (-1)), (0, .ref x0)] → W p l e ({ frames := 5, cells := 0, slots := 0, locals := 300 } : Room) s m [.ref x0].toArray below meth c H locs 0 0 (MQ below (va_Qi (fun (r : Int32) (u : va_W) => (∃ (z' : Nat) (qw' : Nat) (qb' : Nat → Int64) (tz' : Nat) (nf' : Nat → Int32) (rz' : Nat) (rv' : Nat) (rw' : Int32) (rk' : Int32) (lz' : Nat) (lo' : Nat → Int32) (ln' : Nat → Int32) (lb' : Nat → Int64), u = (wl_k_X8_planes cI cJ cK x0 xn xl xt xo xf xs xp xq xr xc q1 t1 r1 r2 r3 r4 r5 l1 l2 l3 (nI z') (nI qw') qb' (nI tz') tf nf' (nI rz') (nI rv') rw' rk' (nI lz') lo' ln' lb') ∧ r = nI z' ∧ z' ≤ 64 ∧ qw' ≤ 11 ∧ tz' ≤ 100 ∧ RB 0 255 nf' ∧ rz' ≤ 64 ∧ rv' ≤ 8 ∧ lz' ≤ 64 ∧ RB 0 63 lo' ∧ RB 0 63 ln' ∧ tz' = 0 ∧ plOk tf tz ∧ z' = plW tf tz ∧ (∀ j, j < z' → nf' j = nI (vlN (plB tf tz (plW tf tz)) (plW tf tz) 8 j)) ∧ (LVL lb' nf' z' ∧ lz' = z') ∧ rk' = 0) ∨ (∃ (qw' : Nat) (qb' : Nat → Int64) (tz' : Nat), u = (wl_k_X8_planes cI cJ cK x0 xn xl xt xo xf xs xp xq xr xc q1 t1 r1 r2 r3 r4 r5 l1 l2 l3 (nI z) (nI qw') qb' (nI tz') tf nf (nI rz) (nI rv) rw rk (nI lz) lo ln lb) ∧ qw' ≤ 11 ∧ tz' ≤ 100 ∧ tz' = 0 ∧ (∃ e, plErr tf tz e ∧ r.toInt = -1 - (e : Int)))) (my_B D (tyIJ cI cJ cK) A) A) [.ref x0].toArray s 0 0 A) (F0 m 43 ls []) := by
          intro n9
          induction n9 with
          | zero =>
            intro k xn_43 hn9
            exact absurd hn9 (Nat.not_lt_zero _)
          | succ n9 ih43 =>
            intro k xn_43 hn9 hk_k hnv hR_xn_43 H locs ls hP hD hS hl
            refine lv_iload_n hx hb dX8_planes_43 rfl (lv_at hl 0 rfl) ?_
            refine lv_aload_n hx hb dX8_planes_44 rfl (lv_at hl 2 rfl) ?_
            refine va_get (ci := 8) (v := .int (nI qw_1)) (C := RX8) (T := TX8) (N := 11) hx hb hts hi8 hown hK hP 0 rfl rfl 1 (by decide) fl13 (fun _ h9 => h9) rfl dX8_planes_45 ?_
            refine lv_icmp_ge (tgt := 78) hx hb dX8_planes_48 (by decide) (fun c48 => ?_) (fun c48 => ?_)
            ·
              have d48 : ((k : Nat) : Int) ≥ ((qw_1 : Nat) : Int) := my_ge c48 (nI_toInt (by omega)) (nI_toInt (by omega))
              refine lv_aload_n hx hb dX8_planes_78 rfl (lv_at hl 2 rfl) ?_
              refine my_goIS (wc := (wl_k_X8_settle cI cJ cK x0 xn xl xt xo xf xs xp xq xr xc r1 r2 r3 r4 r5 l1 l2 l3 (nI qw_1) xn_43 (nI rz) (nI rv) rw rk (nI lz) lo ln lb)) hP hD hS hA [0, 5, 6, 7, 8, 9, 10] rfl [some 0, none, none, none, none, some 1, some 2, some 3, some 4, some 5, some 6] (by decide +kernel) (my_cV (As := []) (rest := []) (ci := 8) (wc := (wl_k_X8_settle cI cJ cK x0 xn xl xt xo xf xs xp xq xr xc r1 r2 r3 r4 r5 l1 l2 l3 (nI qw_1) xn_43 (nI rz) (nI rv) rw rk (nI lz) lo ln lb)) ⟨hx, hb, hml, hown, hts⟩ (cwV 0 hts gX8_planes_X8_settle rfl rfl rfl (by decide +kernel) ⟨Nat.le_of_ble_eq_true rfl, Nat.le_of_ble_eq_true rfl⟩) hN hK hP hD [0, 5, 6, 7, 8, 9, 10] rfl (by decide) rfl 0 rfl rfl rfl rfl hl.1 rfl (Nat.le_of_ble_eq_true rfl) dX8_planes_79 ⟨Nat.le_of_ble_eq_true rfl, Nat.le_of_ble_eq_true rfl⟩  ((k_X8_settle l D cI cJ cK x0 xn xl xt xo xf xs xp xq xr xc r1 r2 r3 r4 r5 l1 l2 l3 qw_1 xn_43 rz rv rw rk lz lo ln lb (by first | assumption | omega | decide +kernel) hR_xn_43 (by first | assumption | omega | decide +kernel) (by first | assumption | omega | decide +kernel) (by first | assumption | omega | decide +kernel) hR_lo hR_ln) _)) (fun r u H locs hp hPD hS => ?_)
              obtain ⟨t_14, rz_15, rv_16, rw_17, rk_18, lz_19, lo_20, ln_21, lb_22, rfl, rfl, hhz_rz_23, hhz_rv_24, hhz_lz_25, hR_lo_20, hR_ln_21, hlv, hlz, hch, hrk, hb9_26⟩ := hp
              obtain ⟨hP, hD⟩ := hPD rfl
              have hP : va_P D vwCl (wl_k_X8_planes cI cJ cK x0 xn xl xt xo xf xs xp xq xr xc q1 t1 r1 r2 r3 r4 r5 l1 l2 l3 (nI qw_1) (nI qw_1) qb_2 (nI tz_9) tf xn_43 (nI rz_15) (nI rv_16) rw_17 rk_18 (nI lz_19) lo_20 ln_21 lb_22) H := hP
              have hD : va_D A (wl_k_X8_planes cI cJ cK x0 xn xl xt xo xf xs xp xq xr xc q1 t1 r1 r2 r3 r4 r5 l1 l2 l3 (nI qw_1) (nI qw_1) qb_2 (nI tz_9) tf xn_43 (nI rz_15) (nI rv_16) rw_17 rk_18 (nI lz_19) lo_20 ln_21 lb_22) := hD
              refine lv_pop hx hb dX8_planes_82 rfl ?_
              refine lv_aload_n hx hb dX8_planes_83 rfl (lv_at hl 2 rfl) ?_
              refine va_get (ci := 8) (v := .int (nI qw_1)) (C := RX8) (T := TX8) (N := 11) hx hb hts hi8 hown hK hP 0 rfl rfl 1 (by decide) fl13 (fun _ h9 => h9) rfl dX8_planes_84 ?_
              have ec_27 : (nI qw_1).toInt = _ := nI_toInt (by omega)
              exact my_retI hx hb hr hlocks hK hS (wl_k_X8_planes cI cJ cK x0 xn xl xt xo xf xs xp xq xr xc q1 t1 r1 r2 r3 r4 r5 l1 l2 l3 (nI qw_1) (nI qw_1) qb_2 (nI tz_9) tf xn_43 (nI rz_15) (nI rv_16) rw_17 rk_18 (nI lz_19) lo_20 ln_21 lb_22) hP hD (Or.inl ⟨qw_1, qw_1, qb_2, tz_9, xn_43, rz_15, rv_16, rw_17, rk_18, lz_19, lo_20, ln_21, lb_22, rfl, rfl, (by first | assumption | omega | trivial | decide +kernel), (by first | assumption | omega | trivial | decide +kernel), (by first | assumption | omega | trivial | decide +kernel), hR_xn_43, (by first | assumption | omega | trivial | decide +kernel), (by first | assumption | omega | trivial | decide +kernel), (by first | assumption | omega | trivial | decide +kernel), hR_lo_20, hR_ln_21, (by first | assumption | omega | trivial | decide +kernel), hpO, hpW, (fun j h => hnv j (by omega)), ⟨hlv, by omega⟩, (by first | assumption | omega | trivial | decide +kernel)⟩) dX8_planes_87
            ·
              have d48 : ((k : Nat) : Int) < ((qw_1 : Nat) : Int) := my_nge c48 (nI_toInt (by omega)) (nI_toInt (by omega))
              refine lv_aload_n hx hb dX8_planes_51 rfl (lv_at hl 2 rfl) ?_
              refine va_get (ci := 8) (v := .ref xn) (C := RX8) (T := TX8) (N := 11) hx hb hts hi8 hown hK hP 0 rfl rfl 0 (by decide) fl9 (fun _ h9 => h9) rfl dX8_planes_52 ?_
              refine lv_iload_n hx hb dX8_planes_55 rfl (lv_at hl 0 rfl) ?_
              refine lv_aload_n hx hb dX8_planes_56 rfl (lv_at hl 2 rfl) ?_
              refine va_get (ci := 8) (v := .ref xq) (C := RX8) (T := TX8) (N := 11) hx hb hts hi8 hown hK hP 0 rfl rfl 8 (by decide) fl58 (fun _ h9 => h9) rfl dX8_planes_57 ?_
              refine va_getN (ci := 4) (v := .ref q1) (C := RX4) (T := TX4) (N := 2) hx hb hts hi4 hown hK hP 1 rfl rfl 0 (by decide) (nw_f_RX8_100 hN) (fun _ h9 => h9) rfl dX8_planes_60 ?_
              refine lv_aload_n hx hb dX8_planes_63 rfl (lv_at hl 2 rfl) ?_
              refine va_get (ci := 8) (v := .int (nI qw_1)) (C := RX8) (T := TX8) (N := 11) hx hb hts hi8 hown hK hP 0 rfl rfl 1 (by decide) fl13 (fun _ h9 => h9) rfl dX8_planes_64 ?_
              refine lv_iload_n hx hb dX8_planes_67 rfl (lv_at hl 0 rfl) ?_
              refine my_gpI (my_pS (As := [.ref q1, .int (nI qw_1), .int (nI k)]) (rest := [.int (nI k), .ref xn]) ⟨hx, hb, hml, hown, hts⟩ (va_cwS 3 hts gX8_planes_X8_numberIn rfl rfl rfl (by decide +kernel) ⟨Nat.le_of_ble_eq_true rfl, Nat.le_of_ble_eq_true rfl⟩) hN hK hP [2] rfl rfl hl.1 rfl (Nat.le_of_ble_eq_true rfl) dX8_planes_68 ⟨Nat.le_of_ble_eq_true rfl, Nat.le_of_ble_eq_true rfl⟩  (kf_X8_numberIn l D cI cJ cK q1 qb_2 qw_1 k (by first | assumption | omega | decide +kernel) (by first | assumption | omega | decide +kernel) (pl_z hqB hpW))) (fun r hp => ?_)
              obtain ⟨v_28, rfl, hvn, hq_29⟩ := hp
              refine va_iast hx hb hK hP hD hS 5 0 rfl rfl (vp_in_nI (by omega) (by omega)) dX8_planes_71 (fun H locs hP hD hS => ?_)
              obtain ⟨g_30, eg_30⟩ : ∃ g : Nat → Int32, g = upd xn_43 k (nI v_28) := ⟨_, rfl⟩
              have eU : upd xn_43 (nI k : Int32).toNatClampNeg (nI v_28) = g_30 := by rw [eg_30, show (nI k : Int32).toNatClampNeg = k from nI_clamp (by omega)]
              rw [eU] at hP hD
              have hR_g_30 : RB 0 255 g_30 := by rw [eg_30]; exact hR_xn_43.upd (nI_toInt (by omega)) (by omega) (by omega)
              have hP : va_P D vwCl (wl_k_X8_planes cI cJ cK x0 xn xl xt xo xf xs xp xq xr xc q1 t1 r1 r2 r3 r4 r5 l1 l2 l3 (nI qw_1) (nI qw_1) qb_2 (nI tz_9) tf g_30 (nI rz) (nI rv) rw rk (nI lz) lo ln lb) H := hP
              have hD : va_D A (wl_k_X8_planes cI cJ cK x0 xn xl xt xo xf xs xp xq xr xc q1 t1 r1 r2 r3 r4 r5 l1 l2 l3 (nI qw_1) (nI qw_1) qb_2 (nI tz_9) tf g_30 (nI rz) (nI rv) rw rk (nI lz) lo ln lb) := hD
              refine lv_iinc (v := nI (k + 1)) (lv' := [(2, .int (nI (k + 1))), (1, .int (-1)), (0, .ref x0)]) hx hb dX8_planes_72 hl (k := 0) rfl (my_incN k 1 (by decide +kernel)) (by decide) rfl (fun ls hl => ?_)
              refine lv_goto (tgt := 43) hx hb dX8_planes_75 (by decide) ?_
              exact ih43  (k + 1) g_30 (by omega) (by first | assumption | omega | decide +kernel) (nv_step (by assumption) (by rw [hvn, pl_vl hqB hpW hpO (by omega)]) hnv) hR_g_30 _ _ ls hP hD hS (lv_sub hl [0, 1, 2] rfl)
        exact loop43 ((64 - 0) + 1) 0 nf (Nat.lt_succ_self _) (by first | assumption | omega | decide +kernel) (fun j h => absurd h (Nat.not_lt_zero j)) hR_nf _ _ ls hP hD hS (lv_sub hl [0, 1, 2] rfl)
      ·
        exact absurd c23 (by decide +kernel)
    ·
      obtain ⟨hP, hD⟩ := hPD rfl
      have hP : va_P D vwCl (wl_k_X8_planes cI cJ cK x0 xn xl xt xo xf xs xp xq xr xc q1 t1 r1 r2 r3 r4 r5 l1 l2 l3 (nI z) (nI qw_1) qb_2 (nI tz) tf nf (nI rz) (nI rv) rw rk (nI lz) lo ln lb) H := hP
      have hD : va_D A (wl_k_X8_planes cI cJ cK x0 xn xl xt xo xf xs xp xq xr xc q1 t1 r1 r2 r3 r4 r5 l1 l2 l3 (nI z) (nI qw_1) qb_2 (nI tz) tf nf (nI rz) (nI rv) rw rk (nI lz) lo ln lb) := hD
      refine lv_pop hx hb dX8_planes_20 rfl ?_
      refine lv_iload_n hx hb dX8_planes_21 rfl (lv_at hl 0 rfl) ?_
      refine lv_iconst (v := (-1)) hx hb dX8_planes_22 (by decide +kernel) ?_
      refine lv_icmp_eq (tgt := 30) hx hb dX8_planes_23 (by decide) (fun c23 => ?_) (fun c23 => ?_)
      ·
        refine lv_aload_n hx hb dX8_planes_30 rfl (lv_at hl 1 rfl) ?_
        refine lv_aload_n hx hb dX8_planes_31 rfl (lv_at hl 1 rfl) ?_
        refine va_get (ci := 8) (v := .ref xq) (C := RX8) (T := TX8) (N := 11) hx hb hts hi8 hown hK hP 0 rfl rfl 8 (by decide) fl58 (fun _ h9 => h9) rfl dX8_planes_32 ?_
        refine va_getN (ci := 4) (v := .int (nI qw_1)) (C := RX4) (T := TX4) (N := 2) hx hb hts hi4 hown hK hP 1 rfl rfl 1 (by decide) (nw_f_RX8_97 hN) (fun _ h9 => h9) rfl dX8_planes_35 ?_
        refine va_put (ci := 8) (v := .int (nI qw_1)) (ty := (.int)) (C := RX8) (T := TX8) (N := 11) hx hb hts hi8 tyX8 tyX8_ok nmX8 hown hK hP hD hS 0 rfl rfl 1 (by decide) fl13 (fun _ h9 => h9) rfl (by decide +kernel) rfl rfl (Nat.le_of_ble_eq_true rfl) dX8_planes_38 (fun H locs hP hD hS => ?_)
        have hP : va_P D vwCl (wl_k_X8_planes cI cJ cK x0 xn xl xt xo xf xs xp xq xr xc q1 t1 r1 r2 r3 r4 r5 l1 l2 l3 (nI qw_1) (nI qw_1) qb_2 (nI tz) tf nf (nI rz) (nI rv) rw rk (nI lz) lo ln lb) H := hP
        have hD : va_D A (wl_k_X8_planes cI cJ cK x0 xn xl xt xo xf xs xp xq xr xc q1 t1 r1 r2 r3 r4 r5 l1 l2 l3 (nI qw_1) (nI qw_1) qb_2 (nI tz) tf nf (nI rz) (nI rv) rw rk (nI lz) lo ln lb) := hD
        refine lv_iconst (v := 0) hx hb dX8_planes_41 (by decide +kernel) ?_
        refine lv_istore_n (lv' := [(2, .int 0), (1, .int (-1)), (0, .ref x0)]) hx hb dX8_planes_42 rfl hl (by decide) rfl (fun ls hl => ?_)
        have loop43 : ∀ (n9 : Nat) (k : Nat) (xn_43 : Nat → Int32), 64 - k < n9 → (k ≤ 64) → (∀ j, j < k → xn_43 j = nI (vlN (plB tf tz (plW tf tz)) (plW tf tz) 8 j)) → (RB 0 255 xn_43) → ∀ (H : Heap) (locs : List Loc) (ls : Array Slot), va_P D vwCl (wl_k_X8_planes cI cJ cK x0 xn xl xt xo xf xs xp xq xr xc q1 t1 r1 r2 r3 r4 r5 l1 l2 l3 (nI qw_1) (nI qw_1) qb_2 (nI tz) tf xn_43 (nI rz) (nI rv) rw rk (nI lz) lo ln lb) H → va_D A (wl_k_X8_planes cI cJ cK x0 xn xl xt xo xf xs xp xq xr xc q1 t1 r1 r2 r3 r4 r5 l1 l2 l3 (nI qw_1) (nI qw_1) qb_2 (nI tz) tf xn_43 (nI rz) (nI rv) rw rk (nI lz) lo ln lb) → va_S A s.heap H locs → lv_has ls 3 [(2, .int (nI k)), (1, .int (-1)), (0, .ref x0)] → W p l e ({ frames := 5, cells := 0, slots := 0, locals := 300 } : Room) s m [.ref x0].toArray below meth c H locs 0 0 (MQ below (va_Qi (fun (r : Int32) (u : va_W) => (∃ (z' : Nat) (qw' : Nat) (qb' : Nat → Int64) (tz' : Nat) (nf' : Nat → Int32) (rz' : Nat) (rv' : Nat) (rw' : Int32) (rk' : Int32) (lz' : Nat) (lo' : Nat → Int32) (ln' : Nat → Int32) (lb' : Nat → Int64), u = (wl_k_X8_planes cI cJ cK x0 xn xl xt xo xf xs xp xq xr xc q1 t1 r1 r2 r3 r4 r5 l1 l2 l3 (nI z') (nI qw') qb' (nI tz') tf nf' (nI rz') (nI rv') rw' rk' (nI lz') lo' ln' lb') ∧ r = nI z' ∧ z' ≤ 64 ∧ qw' ≤ 11 ∧ tz' ≤ 100 ∧ RB 0 255 nf' ∧ rz' ≤ 64 ∧ rv' ≤ 8 ∧ lz' ≤ 64 ∧ RB 0 63 lo' ∧ RB 0 63 ln' ∧ tz' = 0 ∧ plOk tf tz ∧ z' = plW tf tz ∧ (∀ j, j < z' → nf' j = nI (vlN (plB tf tz (plW tf tz)) (plW tf tz) 8 j)) ∧ (LVL lb' nf' z' ∧ lz' = z') ∧ rk' = 0) ∨ (∃ (qw' : Nat) (qb' : Nat → Int64) (tz' : Nat), u = (wl_k_X8_planes cI cJ cK x0 xn xl xt xo xf xs xp xq xr xc q1 t1 r1 r2 r3 r4 r5 l1 l2 l3 (nI z) (nI qw') qb' (nI tz') tf nf (nI rz) (nI rv) rw rk (nI lz) lo ln lb) ∧ qw' ≤ 11 ∧ tz' ≤ 100 ∧ tz' = 0 ∧ (∃ e, plErr tf tz e ∧ r.toInt = -1 - (e : Int)))) (my_B D (tyIJ cI cJ cK) A) A) [.ref x0].toArray s 0 0 A) (F0 m 43 ls []) := by
          intro n9
          induction n9 with
          | zero =>
            intro k xn_43 hn9
            exact absurd hn9 (Nat.not_lt_zero _)
          | succ n9 ih43 =>
            intro k xn_43 hn9 hk_k hnv hR_xn_43 H locs ls hP hD hS hl
            refine lv_iload_n hx hb dX8_planes_43 rfl (lv_at hl 0 rfl) ?_
            refine lv_aload_n hx hb dX8_planes_44 rfl (lv_at hl 2 rfl) ?_
            refine va_get (ci := 8) (v := .int (nI qw_1)) (C := RX8) (T := TX8) (N := 11) hx hb hts hi8 hown hK hP 0 rfl rfl 1 (by decide) fl13 (fun _ h9 => h9) rfl dX8_planes_45 ?_
            refine lv_icmp_ge (tgt := 78) hx hb dX8_planes_48 (by decide) (fun c48 => ?_) (fun c48 => ?_)
            ·
              have d48 : ((k : Nat) : Int) ≥ ((qw_1 : Nat) : Int) := my_ge c48 (nI_toInt (by omega)) (nI_toInt (by omega))
              refine lv_aload_n hx hb dX8_planes_78 rfl (lv_at hl 2 rfl) ?_
              refine my_goIS (wc := (wl_k_X8_settle cI cJ cK x0 xn xl xt xo xf xs xp xq xr xc r1 r2 r3 r4 r5 l1 l2 l3 (nI qw_1) xn_43 (nI rz) (nI rv) rw rk (nI lz) lo ln lb)) hP hD hS hA [0, 5, 6, 7, 8, 9, 10] rfl [some 0, none, none, none, none, some 1, some 2, some 3, some 4, some 5, some 6] (by decide +kernel) (my_cV (As := []) (rest := []) (ci := 8) (wc := (wl_k_X8_settle cI cJ cK x0 xn xl xt xo xf xs xp xq xr xc r1 r2 r3 r4 r5 l1 l2 l3 (nI qw_1) xn_43 (nI rz) (nI rv) rw rk (nI lz) lo ln lb)) ⟨hx, hb, hml, hown, hts⟩ (cwV 0 hts gX8_planes_X8_settle rfl rfl rfl (by decide +kernel) ⟨Nat.le_of_ble_eq_true rfl, Nat.le_of_ble_eq_true rfl⟩) hN hK hP hD [0, 5, 6, 7, 8, 9, 10] rfl (by decide) rfl 0 rfl rfl rfl rfl hl.1 rfl (Nat.le_of_ble_eq_true rfl) dX8_planes_79 ⟨Nat.le_of_ble_eq_true rfl, Nat.le_of_ble_eq_true rfl⟩  ((k_X8_settle l D cI cJ cK x0 xn xl xt xo xf xs xp xq xr xc r1 r2 r3 r4 r5 l1 l2 l3 qw_1 xn_43 rz rv rw rk lz lo ln lb (by first | assumption | omega | decide +kernel) hR_xn_43 (by first | assumption | omega | decide +kernel) (by first | assumption | omega | decide +kernel) (by first | assumption | omega | decide +kernel) hR_lo hR_ln) _)) (fun r u H locs hp hPD hS => ?_)
              obtain ⟨t_31, rz_32, rv_33, rw_34, rk_35, lz_36, lo_37, ln_38, lb_39, rfl, rfl, hhz_rz_40, hhz_rv_41, hhz_lz_42, hR_lo_37, hR_ln_38, hlv, hlz, hch, hrk, hb9_43⟩ := hp
              obtain ⟨hP, hD⟩ := hPD rfl
              have hP : va_P D vwCl (wl_k_X8_planes cI cJ cK x0 xn xl xt xo xf xs xp xq xr xc q1 t1 r1 r2 r3 r4 r5 l1 l2 l3 (nI qw_1) (nI qw_1) qb_2 (nI tz) tf xn_43 (nI rz_32) (nI rv_33) rw_34 rk_35 (nI lz_36) lo_37 ln_38 lb_39) H := hP
              have hD : va_D A (wl_k_X8_planes cI cJ cK x0 xn xl xt xo xf xs xp xq xr xc q1 t1 r1 r2 r3 r4 r5 l1 l2 l3 (nI qw_1) (nI qw_1) qb_2 (nI tz) tf xn_43 (nI rz_32) (nI rv_33) rw_34 rk_35 (nI lz_36) lo_37 ln_38 lb_39) := hD
              refine lv_pop hx hb dX8_planes_82 rfl ?_
              refine lv_aload_n hx hb dX8_planes_83 rfl (lv_at hl 2 rfl) ?_
              refine va_get (ci := 8) (v := .int (nI qw_1)) (C := RX8) (T := TX8) (N := 11) hx hb hts hi8 hown hK hP 0 rfl rfl 1 (by decide) fl13 (fun _ h9 => h9) rfl dX8_planes_84 ?_
              have ec_44 : (nI qw_1).toInt = _ := nI_toInt (by omega)
              exact my_retI hx hb hr hlocks hK hS (wl_k_X8_planes cI cJ cK x0 xn xl xt xo xf xs xp xq xr xc q1 t1 r1 r2 r3 r4 r5 l1 l2 l3 (nI qw_1) (nI qw_1) qb_2 (nI tz) tf xn_43 (nI rz_32) (nI rv_33) rw_34 rk_35 (nI lz_36) lo_37 ln_38 lb_39) hP hD (Or.inl ⟨qw_1, qw_1, qb_2, tz, xn_43, rz_32, rv_33, rw_34, rk_35, lz_36, lo_37, ln_38, lb_39, rfl, rfl, (by first | assumption | omega | trivial | decide +kernel), (by first | assumption | omega | trivial | decide +kernel), (by first | assumption | omega | trivial | decide +kernel), hR_xn_43, (by first | assumption | omega | trivial | decide +kernel), (by first | assumption | omega | trivial | decide +kernel), (by first | assumption | omega | trivial | decide +kernel), hR_lo_37, hR_ln_38, (by first | assumption | omega | trivial | decide +kernel), hpO, hpW, (fun j h => hnv j (by omega)), ⟨hlv, by omega⟩, (by first | assumption | omega | trivial | decide +kernel)⟩) dX8_planes_87
            ·
              have d48 : ((k : Nat) : Int) < ((qw_1 : Nat) : Int) := my_nge c48 (nI_toInt (by omega)) (nI_toInt (by omega))
              refine lv_aload_n hx hb dX8_planes_51 rfl (lv_at hl 2 rfl) ?_
              refine va_get (ci := 8) (v := .ref xn) (C := RX8) (T := TX8) (N := 11) hx hb hts hi8 hown hK hP 0 rfl rfl 0 (by decide) fl9 (fun _ h9 => h9) rfl dX8_planes_52 ?_
              refine lv_iload_n hx hb dX8_planes_55 rfl (lv_at hl 0 rfl) ?_
              refine lv_aload_n hx hb dX8_planes_56 rfl (lv_at hl 2 rfl) ?_
              refine va_get (ci := 8) (v := .ref xq) (C := RX8) (T := TX8) (N := 11) hx hb hts hi8 hown hK hP 0 rfl rfl 8 (by decide) fl58 (fun _ h9 => h9) rfl dX8_planes_57 ?_
              refine va_getN (ci := 4) (v := .ref q1) (C := RX4) (T := TX4) (N := 2) hx hb hts hi4 hown hK hP 1 rfl rfl 0 (by decide) (nw_f_RX8_100 hN) (fun _ h9 => h9) rfl dX8_planes_60 ?_
              refine lv_aload_n hx hb dX8_planes_63 rfl (lv_at hl 2 rfl) ?_
              refine va_get (ci := 8) (v := .int (nI qw_1)) (C := RX8) (T := TX8) (N := 11) hx hb hts hi8 hown hK hP 0 rfl rfl 1 (by decide) fl13 (fun _ h9 => h9) rfl dX8_planes_64 ?_
              refine lv_iload_n hx hb dX8_planes_67 rfl (lv_at hl 0 rfl) ?_
              refine my_gpI (my_pS (As := [.ref q1, .int (nI qw_1), .int (nI k)]) (rest := [.int (nI k), .ref xn]) ⟨hx, hb, hml, hown, hts⟩ (va_cwS 3 hts gX8_planes_X8_numberIn rfl rfl rfl (by decide +kernel) ⟨Nat.le_of_ble_eq_true rfl, Nat.le_of_ble_eq_true rfl⟩) hN hK hP [2] rfl rfl hl.1 rfl (Nat.le_of_ble_eq_true rfl) dX8_planes_68 ⟨Nat.le_of_ble_eq_true rfl, Nat.le_of_ble_eq_true rfl⟩  (kf_X8_numberIn l D cI cJ cK q1 qb_2 qw_1 k (by first | assumption | omega | decide +kernel) (by first | assumption | omega | decide +kernel) (pl_z hqB hpW))) (fun r hp => ?_)
              obtain ⟨v_45, rfl, hvn, hq_46⟩ := hp
              refine va_iast hx hb hK hP hD hS 5 0 rfl rfl (vp_in_nI (by omega) (by omega)) dX8_planes_71 (fun H locs hP hD hS => ?_)
              obtain ⟨g_47, eg_47⟩ : ∃ g : Nat → Int32, g = upd xn_43 k (nI v_45) := ⟨_, rfl⟩
              have eU : upd xn_43 (nI k : Int32).toNatClampNeg (nI v_45) = g_47 := by rw [eg_47, show (nI k : Int32).toNatClampNeg = k from nI_clamp (by omega)]
              rw [eU] at hP hD
              have hR_g_47 : RB 0 255 g_47 := by rw [eg_47]; exact hR_xn_43.upd (nI_toInt (by omega)) (by omega) (by omega)
              have hP : va_P D vwCl (wl_k_X8_planes cI cJ cK x0 xn xl xt xo xf xs xp xq xr xc q1 t1 r1 r2 r3 r4 r5 l1 l2 l3 (nI qw_1) (nI qw_1) qb_2 (nI tz) tf g_47 (nI rz) (nI rv) rw rk (nI lz) lo ln lb) H := hP
              have hD : va_D A (wl_k_X8_planes cI cJ cK x0 xn xl xt xo xf xs xp xq xr xc q1 t1 r1 r2 r3 r4 r5 l1 l2 l3 (nI qw_1) (nI qw_1) qb_2 (nI tz) tf g_47 (nI rz) (nI rv) rw rk (nI lz) lo ln lb) := hD
              refine lv_iinc (v := nI (k + 1)) (lv' := [(2, .int (nI (k + 1))), (1, .int (-1)), (0, .ref x0)]) hx hb dX8_planes_72 hl (k := 0) rfl (my_incN k 1 (by decide +kernel)) (by decide) rfl (fun ls hl => ?_)
              refine lv_goto (tgt := 43) hx hb dX8_planes_75 (by decide) ?_
              exact ih43  (k + 1) g_47 (by omega) (by first | assumption | omega | decide +kernel) (nv_step (by assumption) (by rw [hvn, pl_vl hqB hpW hpO (by omega)]) hnv) hR_g_47 _ _ ls hP hD hS (lv_sub hl [0, 1, 2] rfl)
        exact loop43 ((64 - 0) + 1) 0 nf (Nat.lt_succ_self _) (by first | assumption | omega | decide +kernel) (fun j h => absurd h (Nat.not_lt_zero j)) hR_nf _ _ ls hP hD hS (lv_sub hl [0, 1, 2] rfl)
      ·
        exact absurd c23 (by decide +kernel)
  ·
    obtain ⟨hP, hD⟩ := hPD rfl
    have hP : va_P D vwCl (wl_k_X8_planes cI cJ cK x0 xn xl xt xo xf xs xp xq xr xc q1 t1 r1 r2 r3 r4 r5 l1 l2 l3 (nI z) (nI qw_5) qb_6 (nI tz) tf nf (nI rz) (nI rv) rw rk (nI lz) lo ln lb) H := hP
    have hD : va_D A (wl_k_X8_planes cI cJ cK x0 xn xl xt xo xf xs xp xq xr xc q1 t1 r1 r2 r3 r4 r5 l1 l2 l3 (nI z) (nI qw_5) qb_6 (nI tz) tf nf (nI rz) (nI rv) rw rk (nI lz) lo ln lb) := hD
    refine lv_istore_n (lv' := [(1, .int (nI e_4)), (0, .ref x0)]) hx hb dX8_planes_11 rfl hl (by decide) rfl (fun ls hl => ?_)
    refine lv_aload_n hx hb dX8_planes_12 rfl (lv_at hl 1 rfl) ?_
    refine va_get (ci := 8) (v := .ref xt) (C := RX8) (T := TX8) (N := 11) hx hb hts hi8 hown hK hP 0 rfl rfl 3 (by decide) fl27 (fun _ h9 => h9) rfl dX8_planes_13 ?_
    refine lv_iconst (v := 0) hx hb dX8_planes_16 (by decide +kernel) ?_
    refine my_goIS (wc := (wl_k_X5_keep cI cJ cK xt t1 (nI tz))) hP hD hS hA [3] rfl [none, none, none, some 0] (by decide +kernel) (my_cV (As := [.int 0]) (rest := []) (ci := 5) (wc := (wl_k_X5_keep cI cJ cK xt t1 (nI tz))) ⟨hx, hb, hml, hown, hts⟩ (cwV 1 hts gX8_planes_X5_keep rfl rfl rfl (by decide +kernel) ⟨Nat.le_of_ble_eq_true rfl, Nat.le_of_ble_eq_true rfl⟩) hN hK hP hD [3] rfl (by decide) rfl 3 rfl rfl rfl rfl hl.1 rfl (Nat.le_of_ble_eq_true rfl) dX8_planes_17 ⟨Nat.le_of_ble_eq_true rfl, Nat.le_of_ble_eq_true rfl⟩  ((k_X5_keep l D cI cJ cK xt t1 tz (0 : Int32) (0 : Int) (by decide +kernel) (by first | assumption | omega | decide +kernel)) _)) (fun r u H locs hp hPD hS => ?_)
    rcases hp with ⟨tz_48, rfl, rfl, hhz_tz_49, ha_50, hb_51⟩ | ⟨rfl, rfl, ho_52⟩
    ·
      obtain ⟨hP, hD⟩ := hPD rfl
      have hP : va_P D vwCl (wl_k_X8_planes cI cJ cK x0 xn xl xt xo xf xs xp xq xr xc q1 t1 r1 r2 r3 r4 r5 l1 l2 l3 (nI z) (nI qw_5) qb_6 (nI tz_48) tf nf (nI rz) (nI rv) rw rk (nI lz) lo ln lb) H := hP
      have hD : va_D A (wl_k_X8_planes cI cJ cK x0 xn xl xt xo xf xs xp xq xr xc q1 t1 r1 r2 r3 r4 r5 l1 l2 l3 (nI z) (nI qw_5) qb_6 (nI tz_48) tf nf (nI rz) (nI rv) rw rk (nI lz) lo ln lb) := hD
      refine lv_pop hx hb dX8_planes_20 rfl ?_
      refine lv_iload_n hx hb dX8_planes_21 rfl (lv_at hl 0 rfl) ?_
      refine lv_iconst (v := (-1)) hx hb dX8_planes_22 (by decide +kernel) ?_
      refine lv_icmp_eq (tgt := 30) hx hb dX8_planes_23 (by decide) (fun c23 => ?_) (fun c23 => ?_)
      ·
        have d23 : ((e_4 : Nat) : Int) = (-1 : Int) := my_eq c23 (nI_toInt (by omega)) (by decide +kernel)
        exact absurd d23 (by omega)
      ·
        have d23 : ((e_4 : Nat) : Int) ≠ (-1 : Int) := my_ne c23 (nI_toInt (by omega)) (by decide +kernel)
        refine lv_iconst (v := (-1)) hx hb dX8_planes_26 (by decide +kernel) ?_
        refine lv_iload_n hx hb dX8_planes_27 rfl (lv_at hl 0 rfl) ?_
        refine lv_isub hx hb dX8_planes_28 ?_
        refine lv_topi (fun z_53 ez_53 => ?_)
        try have tz_53 : z_53.toInt = (-1 : Int) - ((e_4 : Nat) : Int) := by rw [ez_53]; exact my_subI (by decide +kernel) (nI_toInt (by omega)) (by omega) (by omega)
        exact my_retI hx hb hr hlocks hK hS (wl_k_X8_planes cI cJ cK x0 xn xl xt xo xf xs xp xq xr xc q1 t1 r1 r2 r3 r4 r5 l1 l2 l3 (nI z) (nI qw_5) qb_6 (nI tz_48) tf nf (nI rz) (nI rv) rw rk (nI lz) lo ln lb) hP hD (Or.inr (⟨qw_5, qb_6, tz_48, rfl, (by first | assumption | omega | trivial | decide +kernel), (by first | assumption | omega | trivial | decide +kernel), (by first | assumption | omega | trivial | decide +kernel), ⟨_, hpE, by omega⟩⟩)) dX8_planes_29
    ·
      obtain ⟨hP, hD⟩ := hPD rfl
      have hP : va_P D vwCl (wl_k_X8_planes cI cJ cK x0 xn xl xt xo xf xs xp xq xr xc q1 t1 r1 r2 r3 r4 r5 l1 l2 l3 (nI z) (nI qw_5) qb_6 (nI tz) tf nf (nI rz) (nI rv) rw rk (nI lz) lo ln lb) H := hP
      have hD : va_D A (wl_k_X8_planes cI cJ cK x0 xn xl xt xo xf xs xp xq xr xc q1 t1 r1 r2 r3 r4 r5 l1 l2 l3 (nI z) (nI qw_5) qb_6 (nI tz) tf nf (nI rz) (nI rv) rw rk (nI lz) lo ln lb) := hD
      refine lv_pop hx hb dX8_planes_20 rfl ?_
      refine lv_iload_n hx hb dX8_planes_21 rfl (lv_at hl 0 rfl) ?_
      refine lv_iconst (v := (-1)) hx hb dX8_planes_22 (by decide +kernel) ?_
      refine lv_icmp_eq (tgt := 30) hx hb dX8_planes_23 (by decide) (fun c23 => ?_) (fun c23 => ?_)
      ·
        have d23 : ((e_4 : Nat) : Int) = (-1 : Int) := my_eq c23 (nI_toInt (by omega)) (by decide +kernel)
        exact absurd d23 (by omega)
      ·
        have d23 : ((e_4 : Nat) : Int) ≠ (-1 : Int) := my_ne c23 (nI_toInt (by omega)) (by decide +kernel)
        refine lv_iconst (v := (-1)) hx hb dX8_planes_26 (by decide +kernel) ?_
        refine lv_iload_n hx hb dX8_planes_27 rfl (lv_at hl 0 rfl) ?_
        refine lv_isub hx hb dX8_planes_28 ?_
        refine lv_topi (fun z_54 ez_54 => ?_)
        try have tz_54 : z_54.toInt = (-1 : Int) - ((e_4 : Nat) : Int) := by rw [ez_54]; exact my_subI (by decide +kernel) (nI_toInt (by omega)) (by omega) (by omega)
        exact my_retI hx hb hr hlocks hK hS (wl_k_X8_planes cI cJ cK x0 xn xl xt xo xf xs xp xq xr xc q1 t1 r1 r2 r3 r4 r5 l1 l2 l3 (nI z) (nI qw_5) qb_6 (nI tz) tf nf (nI rz) (nI rv) rw rk (nI lz) lo ln lb) hP hD (Or.inr (⟨qw_5, qb_6, tz, rfl, (by first | assumption | omega | trivial | decide +kernel), (by first | assumption | omega | trivial | decide +kernel), (by first | assumption | omega | trivial | decide +kernel), ⟨_, hpE, by omega⟩⟩)) dX8_planes_29
abbrev wl_k_X8_adds (cI cJ cK : ClassId) (x0 : Nat) (xn : Nat) (xl : Nat) (xt : Nat) (xo : Nat) (xf : Nat) (xs : Nat) (xp : Nat) (xq : Nat) (xr : Nat) (xc : Nat) (r1 : Nat) (r2 : Nat) (r3 : Nat) (r4 : Nat) (r5 : Nat) (l1 : Nat) (l2 : Nat) (l3 : Nat) (v0_ : Int32) (v1_ : Nat → Int32) (v2_ : Int32) (v3_ : Int32) (v4_ : Int32) (v5_ : Int32) (v6_ : Int32) (v7_ : Nat → Int32) (v8_ : Nat → Int32) (v9_ : Nat → Int64) : va_W := [(x0, .inr (8, [.ref xn, .int v0_, .ref xl, .ref xt, .ref xo, .ref xf, .ref xs, .ref xp, .ref xq, .ref xr, .ref xc])), (xn, .inl (cI, 64, .inl v1_)), (xr, .inr (2, [.ref r1, .ref r2, .ref r3, .ref r4, .ref r5, .int v2_, .int v3_, .int v4_, .int v5_])), (xl, .inr (1, [.ref l1, .ref l2, .ref l3, .int v6_])), (l2, .inl (cI, 64, .inl v7_)), (l3, .inl (cI, 64, .inl v8_)), (l1, .inl (cJ, 8, .inr (.inl v9_)))]
set_option maxHeartbeats 4000000 in
set_option maxRecDepth 100000 in
theorem k_X8_adds (l : Launch) (D : va_G) (cI cJ cK : ClassId) (x0 : Nat) (xn : Nat) (xl : Nat) (xt : Nat) (xo : Nat) (xf : Nat) (xs : Nat) (xp : Nat) (xq : Nat) (xr : Nat) (xc : Nat) (r1 : Nat) (r2 : Nat) (r3 : Nat) (r4 : Nat) (r5 : Nat) (l1 : Nat) (l2 : Nat) (l3 : Nat) (z : Nat) (nf : Nat → Int32) (rz : Nat) (rv : Nat) (rw : Int32) (rk : Int32) (lz : Nat) (lo : Nat → Int32) (ln : Nat → Int32) (lb : Nat → Int64) (v9 : Int32) (hz_z : z ≤ 64) (hR_nf : RB 0 255 nf) (hz_rz : rz ≤ 64) (hz_rv : rv ≤ 8) (hz_lz : lz ≤ 64) (hR_lo : RB 0 63 lo) (hR_ln : RB 0 63 ln) : ctI l yX8_adds wsX8_adds ({ frames := 5, cells := 0, slots := 0, locals := 300 } : Room) D (tyIJ cI cJ cK) [.ref x0, .int v9] (wl_k_X8_adds cI cJ cK x0 xn xl xt xo xf xs xp xq xr xc r1 r2 r3 r4 r5 l1 l2 l3 (nI z) nf (nI rz) (nI rv) rw rk (nI lz) lo ln lb) (fun (r : Int32) (u : va_W) => (∃ (z' : Nat) (nf' : Nat → Int32) (rz' : Nat) (rv' : Nat) (rw' : Int32) (rk' : Int32) (lz' : Nat) (lo' : Nat → Int32) (ln' : Nat → Int32) (lb' : Nat → Int64), u = (wl_k_X8_adds cI cJ cK x0 xn xl xt xo xf xs xp xq xr xc r1 r2 r3 r4 r5 l1 l2 l3 (nI z') nf' (nI rz') (nI rv') rw' rk' (nI lz') lo' ln' lb') ∧ r = nI z' ∧ z' ≤ 64 ∧ RB 0 255 nf' ∧ rz' ≤ 64 ∧ rv' ≤ 8 ∧ lz' ≤ 64 ∧ RB 0 63 lo' ∧ RB 0 63 ln' ∧ z' = z + 1 ∧ nf' = upd nf z v9 ∧ (LVL lb' nf' z' ∧ lz' = z') ∧ rk' = 0 ∧ 0 ≤ v9.toInt ∧ v9.toInt ≤ 255) ∨ (u = (wl_k_X8_adds cI cJ cK x0 xn xl xt xo xf xs xp xq xr xc r1 r2 r3 r4 r5 l1 l2 l3 (nI z) nf (nI rz) (nI rv) rw rk (nI lz) lo ln lb) ∧ r = (-1) ∧ (v9.toInt < 0 ∨ 255 < v9.toInt)) ∨ (u = (wl_k_X8_adds cI cJ cK x0 xn xl xt xo xf xs xp xq xr xc r1 r2 r3 r4 r5 l1 l2 l3 (nI z) nf (nI rz) (nI rv) rw rk (nI lz) lo ln lb) ∧ r = (-3) ∧ 64 ≤ z ∧ 0 ≤ v9.toInt ∧ v9.toInt ≤ 255)) := by
  refine ctI.of (cc := cX8_adds) (maxL := 2) (ret := (some .int)) (by decide) rfl (Nat.le_of_ble_eq_true rfl) ?_
  intro p e s m below meth c ls A hx hb hr hts hown hml hlocks hname hA hK hN hP hD hS hl
  have hl : lv_has ls 2 [(0, .ref x0), (1, .int v9)] := hl
  have hown : s.vm.findClass RX8 = some m.cls := hown
  have hi8 : ∀ w ∈ u_ws RX8 TX8 11, w ∈ wsX8_adds := by decide +kernel
  have fl13 := hts (.fieldLink RX8 13 "PlaneColumn" "size" "I") (by decide +kernel)
  have fl9 := hts (.fieldLink RX8 9 "PlaneColumn" "numbers" "[I") (by decide +kernel)
  refine lv_iload_n hx hb dX8_adds_0 rfl (lv_at hl 1 rfl) ?_
  refine my_gpI (my_pS (As := [.int v9]) (rest := []) ⟨hx, hb, hml, hown, hts⟩ (va_cwS 1 hts gX8_adds_X8_isNumber rfl rfl rfl (by decide +kernel) ⟨Nat.le_of_ble_eq_true rfl, Nat.le_of_ble_eq_true rfl⟩) hN hK hP [] rfl rfl hl.1 rfl (Nat.le_of_ble_eq_true rfl) dX8_adds_1 ⟨Nat.le_of_ble_eq_true rfl, Nat.le_of_ble_eq_true rfl⟩  (k_X8_isNumber l D cI cJ cK v9)) (fun r hp => ?_)
  rcases hp with ⟨k_1, rfl, rfl, ha_2⟩ | ⟨rfl, ho_3⟩
  ·
    refine lv_if_ne (tgt := 9) hx hb dX8_adds_4 (by decide) (fun c4 => ?_) (fun c4 => ?_)
    ·
      refine lv_aload_n hx hb dX8_adds_9 rfl (lv_at hl 0 rfl) ?_
      refine va_get (ci := 8) (v := .int (nI z)) (C := RX8) (T := TX8) (N := 11) hx hb hts hi8 hown hK hP 0 rfl rfl 1 (by decide) fl13 (fun _ h9 => h9) rfl dX8_adds_10 ?_
      refine lv_bipush (v := 64) hx hb dX8_adds_13 (by decide +kernel) ?_
      refine lv_icmp_lt (tgt := 21) hx hb dX8_adds_15 (by decide) (fun c15 => ?_) (fun c15 => ?_)
      ·
        have d15 : ((z : Nat) : Int) < (64 : Int) := my_lt c15 (nI_toInt (by omega)) (by decide +kernel)
        refine lv_aload_n hx hb dX8_adds_21 rfl (lv_at hl 0 rfl) ?_
        refine va_get (ci := 8) (v := .ref xn) (C := RX8) (T := TX8) (N := 11) hx hb hts hi8 hown hK hP 0 rfl rfl 0 (by decide) fl9 (fun _ h9 => h9) rfl dX8_adds_22 ?_
        refine lv_aload_n hx hb dX8_adds_25 rfl (lv_at hl 0 rfl) ?_
        refine va_get (ci := 8) (v := .int (nI z)) (C := RX8) (T := TX8) (N := 11) hx hb hts hi8 hown hK hP 0 rfl rfl 1 (by decide) fl13 (fun _ h9 => h9) rfl dX8_adds_26 ?_
        refine lv_iload_n hx hb dX8_adds_29 rfl (lv_at hl 1 rfl) ?_
        refine va_iast hx hb hK hP hD hS 1 0 rfl rfl (vp_in_nI (by omega) (by omega)) dX8_adds_30 (fun H locs hP hD hS => ?_)
        obtain ⟨g_4, eg_4⟩ : ∃ g : Nat → Int32, g = upd nf z (nI k_1) := ⟨_, rfl⟩
        have eU : upd nf (nI z : Int32).toNatClampNeg (nI k_1) = g_4 := by rw [eg_4, show (nI z : Int32).toNatClampNeg = z from nI_clamp (by omega)]
        rw [eU] at hP hD
        have hR_g_4 : RB 0 255 g_4 := by rw [eg_4]; exact hR_nf.upd (nI_toInt (by omega)) (by omega) (by omega)
        have hP : va_P D vwCl (wl_k_X8_adds cI cJ cK x0 xn xl xt xo xf xs xp xq xr xc r1 r2 r3 r4 r5 l1 l2 l3 (nI z) g_4 (nI rz) (nI rv) rw rk (nI lz) lo ln lb) H := hP
        have hD : va_D A (wl_k_X8_adds cI cJ cK x0 xn xl xt xo xf xs xp xq xr xc r1 r2 r3 r4 r5 l1 l2 l3 (nI z) g_4 (nI rz) (nI rv) rw rk (nI lz) lo ln lb) := hD
        refine lv_aload_n hx hb dX8_adds_31 rfl (lv_at hl 0 rfl) ?_
        refine lv_dup hx hb dX8_adds_32 rfl ?_
        refine va_get (ci := 8) (v := .int (nI z)) (C := RX8) (T := TX8) (N := 11) hx hb hts hi8 hown hK hP 0 rfl rfl 1 (by decide) fl13 (fun _ h9 => h9) rfl dX8_adds_33 ?_
        refine lv_iconst (v := 1) hx hb dX8_adds_36 (by decide +kernel) ?_
        refine lv_iadd hx hb dX8_adds_37 ?_
        refine my_eqi (y := nI (z + 1)) (my_addN z 1) ?_
        refine va_put (ci := 8) (v := .int (nI (z + 1))) (ty := (.int)) (C := RX8) (T := TX8) (N := 11) hx hb hts hi8 tyX8 tyX8_ok nmX8 hown hK hP hD hS 0 rfl rfl 1 (by decide) fl13 (fun _ h9 => h9) rfl (by decide +kernel) rfl rfl (Nat.le_of_ble_eq_true rfl) dX8_adds_38 (fun H locs hP hD hS => ?_)
        have hP : va_P D vwCl (wl_k_X8_adds cI cJ cK x0 xn xl xt xo xf xs xp xq xr xc r1 r2 r3 r4 r5 l1 l2 l3 (nI (z + 1)) g_4 (nI rz) (nI rv) rw rk (nI lz) lo ln lb) H := hP
        have hD : va_D A (wl_k_X8_adds cI cJ cK x0 xn xl xt xo xf xs xp xq xr xc r1 r2 r3 r4 r5 l1 l2 l3 (nI (z + 1)) g_4 (nI rz) (nI rv) rw rk (nI lz) lo ln lb) := hD
        refine lv_aload_n hx hb dX8_adds_41 rfl (lv_at hl 0 rfl) ?_
        refine my_goIS (wc := (wl_k_X8_settle cI cJ cK x0 xn xl xt xo xf xs xp xq xr xc r1 r2 r3 r4 r5 l1 l2 l3 (nI (z + 1)) g_4 (nI rz) (nI rv) rw rk (nI lz) lo ln lb)) hP hD hS hA [0, 1, 2, 3, 4, 5, 6] rfl [some 0, some 1, some 2, some 3, some 4, some 5, some 6] (by decide +kernel) (my_cV (As := []) (rest := []) (ci := 8) (wc := (wl_k_X8_settle cI cJ cK x0 xn xl xt xo xf xs xp xq xr xc r1 r2 r3 r4 r5 l1 l2 l3 (nI (z + 1)) g_4 (nI rz) (nI rv) rw rk (nI lz) lo ln lb)) ⟨hx, hb, hml, hown, hts⟩ (cwV 0 hts gX8_adds_X8_settle rfl rfl rfl (by decide +kernel) ⟨Nat.le_of_ble_eq_true rfl, Nat.le_of_ble_eq_true rfl⟩) hN hK hP hD [0, 1, 2, 3, 4, 5, 6] rfl (by decide) rfl 0 rfl rfl rfl rfl hl.1 rfl (Nat.le_of_ble_eq_true rfl) dX8_adds_42 ⟨Nat.le_of_ble_eq_true rfl, Nat.le_of_ble_eq_true rfl⟩  ((k_X8_settle l D cI cJ cK x0 xn xl xt xo xf xs xp xq xr xc r1 r2 r3 r4 r5 l1 l2 l3 (z + 1) g_4 rz rv rw rk lz lo ln lb (by first | assumption | omega | decide +kernel) hR_g_4 (by first | assumption | omega | decide +kernel) (by first | assumption | omega | decide +kernel) (by first | assumption | omega | decide +kernel) hR_lo hR_ln) _)) (fun r u H locs hp hPD hS => ?_)
        obtain ⟨t_5, rz_6, rv_7, rw_8, rk_9, lz_10, lo_11, ln_12, lb_13, rfl, rfl, hhz_rz_14, hhz_rv_15, hhz_lz_16, hR_lo_11, hR_ln_12, hlv, hlz, hch, hrk, hb9_17⟩ := hp
        obtain ⟨hP, hD⟩ := hPD rfl
        have hP : va_P D vwCl (wl_k_X8_adds cI cJ cK x0 xn xl xt xo xf xs xp xq xr xc r1 r2 r3 r4 r5 l1 l2 l3 (nI (z + 1)) g_4 (nI rz_6) (nI rv_7) rw_8 rk_9 (nI lz_10) lo_11 ln_12 lb_13) H := hP
        have hD : va_D A (wl_k_X8_adds cI cJ cK x0 xn xl xt xo xf xs xp xq xr xc r1 r2 r3 r4 r5 l1 l2 l3 (nI (z + 1)) g_4 (nI rz_6) (nI rv_7) rw_8 rk_9 (nI lz_10) lo_11 ln_12 lb_13) := hD
        refine lv_pop hx hb dX8_adds_45 rfl ?_
        refine lv_aload_n hx hb dX8_adds_46 rfl (lv_at hl 0 rfl) ?_
        refine va_get (ci := 8) (v := .int (nI (z + 1))) (C := RX8) (T := TX8) (N := 11) hx hb hts hi8 hown hK hP 0 rfl rfl 1 (by decide) fl13 (fun _ h9 => h9) rfl dX8_adds_47 ?_
        exact my_retI hx hb hr hlocks hK hS (wl_k_X8_adds cI cJ cK x0 xn xl xt xo xf xs xp xq xr xc r1 r2 r3 r4 r5 l1 l2 l3 (nI (z + 1)) g_4 (nI rz_6) (nI rv_7) rw_8 rk_9 (nI lz_10) lo_11 ln_12 lb_13) hP hD (Or.inl ⟨(z + 1), g_4, rz_6, rv_7, rw_8, rk_9, lz_10, lo_11, ln_12, lb_13, rfl, rfl, (by first | assumption | omega | trivial | decide +kernel), hR_g_4, (by first | assumption | omega | trivial | decide +kernel), (by first | assumption | omega | trivial | decide +kernel), (by first | assumption | omega | trivial | decide +kernel), hR_lo_11, hR_ln_12, (by first | assumption | omega | trivial | decide +kernel), (by first | assumption | omega | trivial | decide +kernel), ⟨hlv, by omega⟩, (by first | assumption | omega | trivial | decide +kernel), (by rw [nI_toInt (by omega)]; omega), (by rw [nI_toInt (by omega)]; omega)⟩) dX8_adds_50
      ·
        have d15 : ((z : Nat) : Int) ≥ (64 : Int) := my_nlt c15 (nI_toInt (by omega)) (by decide +kernel)
        refine lv_bipush (v := (-3)) hx hb dX8_adds_18 (by decide +kernel) ?_
        exact my_retI hx hb hr hlocks hK hS (wl_k_X8_adds cI cJ cK x0 xn xl xt xo xf xs xp xq xr xc r1 r2 r3 r4 r5 l1 l2 l3 (nI z) nf (nI rz) (nI rv) rw rk (nI lz) lo ln lb) hP hD (Or.inr (Or.inr (⟨rfl, rfl, (by first | assumption | omega | trivial | decide +kernel), (by rw [nI_toInt (by omega)]; omega), (by rw [nI_toInt (by omega)]; omega)⟩))) dX8_adds_20
    ·
      exact absurd c4 (by decide +kernel)
  ·
    refine lv_if_ne (tgt := 9) hx hb dX8_adds_4 (by decide) (fun c4 => ?_) (fun c4 => ?_)
    ·
      exact absurd c4 (by decide +kernel)
    ·
      refine lv_iconst (v := (-1)) hx hb dX8_adds_7 (by decide +kernel) ?_
      exact my_retI hx hb hr hlocks hK hS (wl_k_X8_adds cI cJ cK x0 xn xl xt xo xf xs xp xq xr xc r1 r2 r3 r4 r5 l1 l2 l3 (nI z) nf (nI rz) (nI rv) rw rk (nI lz) lo ln lb) hP hD (Or.inr (Or.inl ⟨rfl, rfl, (by first | assumption | omega | trivial | decide +kernel)⟩)) dX8_adds_8
abbrev wl_k_X8_puts (cI cJ cK : ClassId) (x0 : Nat) (xn : Nat) (xl : Nat) (xt : Nat) (xo : Nat) (xf : Nat) (xs : Nat) (xp : Nat) (xq : Nat) (xr : Nat) (xc : Nat) (r1 : Nat) (r2 : Nat) (r3 : Nat) (r4 : Nat) (r5 : Nat) (l1 : Nat) (l2 : Nat) (l3 : Nat) (o1 : Nat) (v0_ : Int32) (v1_ : Nat → Int32) (v2_ : Int32) (v3_ : Int32) (v4_ : Int32) (v5_ : Int32) (v6_ : Int32) (v7_ : Nat → Int32) (v8_ : Nat → Int32) (v9_ : Nat → Int64) (v10_ : Int32) (v11_ : Nat → Int64) : va_W := [(x0, .inr (8, [.ref xn, .int v0_, .ref xl, .ref xt, .ref xo, .ref xf, .ref xs, .ref xp, .ref xq, .ref xr, .ref xc])), (xn, .inl (cI, 64, .inl v1_)), (xr, .inr (2, [.ref r1, .ref r2, .ref r3, .ref r4, .ref r5, .int v2_, .int v3_, .int v4_, .int v5_])), (xl, .inr (1, [.ref l1, .ref l2, .ref l3, .int v6_])), (l2, .inl (cI, 64, .inl v7_)), (l3, .inl (cI, 64, .inl v8_)), (l1, .inl (cJ, 8, .inr (.inl v9_))), (xo, .inr (7, [.ref o1, .int v10_])), (o1, .inl (cJ, 64, .inr (.inl v11_)))]
set_option maxHeartbeats 4000000 in
set_option maxRecDepth 100000 in
theorem k_X8_puts (l : Launch) (D : va_G) (cI cJ cK : ClassId) (x0 : Nat) (xn : Nat) (xl : Nat) (xt : Nat) (xo : Nat) (xf : Nat) (xs : Nat) (xp : Nat) (xq : Nat) (xr : Nat) (xc : Nat) (r1 : Nat) (r2 : Nat) (r3 : Nat) (r4 : Nat) (r5 : Nat) (l1 : Nat) (l2 : Nat) (l3 : Nat) (o1 : Nat) (z : Nat) (nf : Nat → Int32) (rz : Nat) (rv : Nat) (rw : Int32) (rk : Int32) (lz : Nat) (lo : Nat → Int32) (ln : Nat → Int32) (lb : Nat → Int64) (oz : Nat) (of : Nat → Int64) (p9 : Int32) (v9 : Int32) (hz_z : z ≤ 64) (hR_nf : RB 0 255 nf) (hz_rz : rz ≤ 64) (hz_rv : rv ≤ 8) (hz_lz : lz ≤ 64) (hR_lo : RB 0 63 lo) (hR_ln : RB 0 63 ln) (hz_oz : oz ≤ 64) : ctI l yX8_puts wsX8_puts ({ frames := 5, cells := 0, slots := 0, locals := 300 } : Room) D (tyIJ cI cJ cK) [.ref x0, .int p9, .int v9] (wl_k_X8_puts cI cJ cK x0 xn xl xt xo xf xs xp xq xr xc r1 r2 r3 r4 r5 l1 l2 l3 o1 (nI z) nf (nI rz) (nI rv) rw rk (nI lz) lo ln lb (nI oz) of) (fun (r : Int32) (u : va_W) => (u = (wl_k_X8_puts cI cJ cK x0 xn xl xt xo xf xs xp xq xr xc r1 r2 r3 r4 r5 l1 l2 l3 o1 (nI z) nf (nI rz) (nI rv) rw rk (nI lz) lo ln lb (nI oz) of) ∧ r = (-1) ∧ (v9.toInt < 0 ∨ 255 < v9.toInt)) ∨ (u = (wl_k_X8_puts cI cJ cK x0 xn xl xt xo xf xs xp xq xr xc r1 r2 r3 r4 r5 l1 l2 l3 o1 (nI z) nf (nI rz) (nI rv) rw rk (nI lz) lo ln lb (nI oz) of) ∧ r = (-2) ∧ (p9.toInt < 0 ∨ z ≤ p9.toInt) ∧ 0 ≤ v9.toInt ∧ v9.toInt ≤ 255) ∨ (u = (wl_k_X8_puts cI cJ cK x0 xn xl xt xo xf xs xp xq xr xc r1 r2 r3 r4 r5 l1 l2 l3 o1 (nI z) nf (nI rz) (nI rv) rw rk (nI lz) lo ln lb (nI oz) of) ∧ r = (-4) ∧ (nf p9.toInt.toNat).toInt = v9.toInt ∧ 0 ≤ p9.toInt ∧ p9.toInt < z ∧ 0 ≤ v9.toInt ∧ v9.toInt ≤ 255) ∨ (∃ (nf' : Nat → Int32) (rz' : Nat) (rv' : Nat) (rw' : Int32) (rk' : Int32) (lz' : Nat) (lo' : Nat → Int32) (ln' : Nat → Int32) (lb' : Nat → Int64) (oz' : Nat) (of' : Nat → Int64), u = (wl_k_X8_puts cI cJ cK x0 xn xl xt xo xf xs xp xq xr xc r1 r2 r3 r4 r5 l1 l2 l3 o1 (nI z) nf' (nI rz') (nI rv') rw' rk' (nI lz') lo' ln' lb' (nI oz') of') ∧ RB 0 255 nf' ∧ rz' ≤ 64 ∧ rv' ≤ 8 ∧ lz' ≤ 64 ∧ RB 0 63 lo' ∧ RB 0 63 ln' ∧ oz' ≤ 64 ∧ nf' = upd nf p9.toInt.toNat v9 ∧ (LVL lb' nf' z ∧ lz' = z) ∧ rk' = 0 ∧ r = nf p9.toInt.toNat ∧ 0 ≤ p9.toInt ∧ p9.toInt < z ∧ 0 ≤ v9.toInt ∧ v9.toInt ≤ 255 ∧ (nf p9.toInt.toNat).toInt ≠ v9.toInt ∧ oz' = 1)) := by
  refine ctI.of (cc := cX8_puts) (maxL := 4) (ret := (some .int)) (by decide) rfl (Nat.le_of_ble_eq_true rfl) ?_
  intro p e s m below meth c ls A hx hb hr hts hown hml hlocks hname hA hK hN hP hD hS hl
  have hl : lv_has ls 4 [(0, .ref x0), (1, .int p9), (2, .int v9)] := hl
  have hown : s.vm.findClass RX8 = some m.cls := hown
  have hi8 : ∀ w ∈ u_ws RX8 TX8 11, w ∈ wsX8_puts := by decide +kernel
  have fl9 := hts (.fieldLink RX8 9 "PlaneColumn" "numbers" "[I") (by decide +kernel)
  refine lv_iload_n hx hb dX8_puts_0 rfl (lv_at hl 2 rfl) ?_
  refine my_gpI (my_pS (As := [.int v9]) (rest := []) ⟨hx, hb, hml, hown, hts⟩ (va_cwS 1 hts gX8_puts_X8_isNumber rfl rfl rfl (by decide +kernel) ⟨Nat.le_of_ble_eq_true rfl, Nat.le_of_ble_eq_true rfl⟩) hN hK hP [] rfl rfl hl.1 rfl (Nat.le_of_ble_eq_true rfl) dX8_puts_1 ⟨Nat.le_of_ble_eq_true rfl, Nat.le_of_ble_eq_true rfl⟩  (k_X8_isNumber l D cI cJ cK v9)) (fun r hp => ?_)
  rcases hp with ⟨k_1, rfl, rfl, ha_2⟩ | ⟨rfl, ho_3⟩
  ·
    refine lv_if_ne (tgt := 9) hx hb dX8_puts_4 (by decide) (fun c4 => ?_) (fun c4 => ?_)
    ·
      refine lv_aload_n hx hb dX8_puts_9 rfl (lv_at hl 0 rfl) ?_
      refine lv_iload_n hx hb dX8_puts_10 rfl (lv_at hl 1 rfl) ?_
      refine my_gpI (my_pV (As := [.int p9]) (rest := []) (ci := 8) ⟨hx, hb, hml, hown, hts⟩ (cwV 1 hts gX8_puts_X8_isPlace rfl rfl rfl (by decide +kernel) ⟨Nat.le_of_ble_eq_true rfl, Nat.le_of_ble_eq_true rfl⟩) hN hK hP [0] rfl 0 rfl rfl rfl rfl hl.1 rfl (Nat.le_of_ble_eq_true rfl) dX8_puts_11 ⟨Nat.le_of_ble_eq_true rfl, Nat.le_of_ble_eq_true rfl⟩  (k_X8_isPlace l D cI cJ cK x0 xn xl xt xo xf xs xp xq xr xc z p9 (by first | assumption | omega | decide +kernel))) (fun r hp => ?_)
      rcases hp with ⟨k_4, rfl, rfl, ha_5⟩ | ⟨rfl, ho_6⟩
      ·
        refine lv_if_ne (tgt := 20) hx hb dX8_puts_14 (by decide) (fun c14 => ?_) (fun c14 => ?_)
        ·
          refine lv_aload_n hx hb dX8_puts_20 rfl (lv_at hl 0 rfl) ?_
          refine va_get (ci := 8) (v := .ref xn) (C := RX8) (T := TX8) (N := 11) hx hb hts hi8 hown hK hP 0 rfl rfl 0 (by decide) fl9 (fun _ h9 => h9) rfl dX8_puts_21 ?_
          refine lv_iload_n hx hb dX8_puts_24 rfl (lv_at hl 1 rfl) ?_
          refine va_iald hx hb hK hP 1 0 rfl rfl (vp_in_nI (by omega) (by omega)) dX8_puts_25 ?_
          refine my_eqi (y := nf k_4) (congrArg nf (nI_clamp (by omega))) ?_
          have hb_7 := hR_nf k_4
          refine lv_istore_n (lv' := [(3, .int (nf k_4)), (0, .ref x0), (1, .int (nI k_4)), (2, .int (nI k_1))]) hx hb dX8_puts_26 rfl hl (by decide) rfl (fun ls hl => ?_)
          refine lv_iload_n hx hb dX8_puts_27 rfl (lv_at hl 0 rfl) ?_
          refine lv_iload_n hx hb dX8_puts_28 rfl (lv_at hl 3 rfl) ?_
          refine lv_icmp_ne (tgt := 35) hx hb dX8_puts_29 (by decide) (fun c29 => ?_) (fun c29 => ?_)
          ·
            have d29 : (nf k_4).toInt ≠ ((k_1 : Nat) : Int) := my_ne c29 rfl (nI_toInt (by omega))
            refine lv_aload_n hx hb dX8_puts_35 rfl (lv_at hl 1 rfl) ?_
            refine va_get (ci := 8) (v := .ref xn) (C := RX8) (T := TX8) (N := 11) hx hb hts hi8 hown hK hP 0 rfl rfl 0 (by decide) fl9 (fun _ h9 => h9) rfl dX8_puts_36 ?_
            refine lv_iload_n hx hb dX8_puts_39 rfl (lv_at hl 2 rfl) ?_
            refine lv_iload_n hx hb dX8_puts_40 rfl (lv_at hl 3 rfl) ?_
            refine va_iast hx hb hK hP hD hS 1 0 rfl rfl (vp_in_nI (by omega) (by omega)) dX8_puts_41 (fun H locs hP hD hS => ?_)
            obtain ⟨g_8, eg_8⟩ : ∃ g : Nat → Int32, g = upd nf k_4 (nI k_1) := ⟨_, rfl⟩
            have eU : upd nf (nI k_4 : Int32).toNatClampNeg (nI k_1) = g_8 := by rw [eg_8, show (nI k_4 : Int32).toNatClampNeg = k_4 from nI_clamp (by omega)]
            rw [eU] at hP hD
            have hR_g_8 : RB 0 255 g_8 := by rw [eg_8]; exact hR_nf.upd (nI_toInt (by omega)) (by omega) (by omega)
            have hP : va_P D vwCl (wl_k_X8_puts cI cJ cK x0 xn xl xt xo xf xs xp xq xr xc r1 r2 r3 r4 r5 l1 l2 l3 o1 (nI z) g_8 (nI rz) (nI rv) rw rk (nI lz) lo ln lb (nI oz) of) H := hP
            have hD : va_D A (wl_k_X8_puts cI cJ cK x0 xn xl xt xo xf xs xp xq xr xc r1 r2 r3 r4 r5 l1 l2 l3 o1 (nI z) g_8 (nI rz) (nI rv) rw rk (nI lz) lo ln lb (nI oz) of) := hD
            refine lv_aload_n hx hb dX8_puts_42 rfl (lv_at hl 1 rfl) ?_
            refine lv_aload_n hx hb dX8_puts_43 rfl (lv_at hl 1 rfl) ?_
            refine my_goIS (wc := (wl_k_X8_settle cI cJ cK x0 xn xl xt xo xf xs xp xq xr xc r1 r2 r3 r4 r5 l1 l2 l3 (nI z) g_8 (nI rz) (nI rv) rw rk (nI lz) lo ln lb)) hP hD hS hA [0, 1, 2, 3, 4, 5, 6] rfl [some 0, some 1, some 2, some 3, some 4, some 5, some 6] (by decide +kernel) (my_cV (As := []) (rest := [.ref x0]) (ci := 8) (wc := (wl_k_X8_settle cI cJ cK x0 xn xl xt xo xf xs xp xq xr xc r1 r2 r3 r4 r5 l1 l2 l3 (nI z) g_8 (nI rz) (nI rv) rw rk (nI lz) lo ln lb)) ⟨hx, hb, hml, hown, hts⟩ (cwV 0 hts gX8_puts_X8_settle rfl rfl rfl (by decide +kernel) ⟨Nat.le_of_ble_eq_true rfl, Nat.le_of_ble_eq_true rfl⟩) hN hK hP hD [0, 1, 2, 3, 4, 5, 6] rfl (by decide) rfl 0 rfl rfl rfl rfl hl.1 rfl (Nat.le_of_ble_eq_true rfl) dX8_puts_44 ⟨Nat.le_of_ble_eq_true rfl, Nat.le_of_ble_eq_true rfl⟩  ((k_X8_settle l D cI cJ cK x0 xn xl xt xo xf xs xp xq xr xc r1 r2 r3 r4 r5 l1 l2 l3 z g_8 rz rv rw rk lz lo ln lb (by first | assumption | omega | decide +kernel) hR_g_8 (by first | assumption | omega | decide +kernel) (by first | assumption | omega | decide +kernel) (by first | assumption | omega | decide +kernel) hR_lo hR_ln) _)) (fun r u H locs hp hPD hS => ?_)
            obtain ⟨t_9, rz_10, rv_11, rw_12, rk_13, lz_14, lo_15, ln_16, lb_17, rfl, rfl, hhz_rz_18, hhz_rv_19, hhz_lz_20, hR_lo_15, hR_ln_16, hlv, hlz, hch, hrk, hb9_21⟩ := hp
            obtain ⟨hP, hD⟩ := hPD rfl
            have hP : va_P D vwCl (wl_k_X8_puts cI cJ cK x0 xn xl xt xo xf xs xp xq xr xc r1 r2 r3 r4 r5 l1 l2 l3 o1 (nI z) g_8 (nI rz_10) (nI rv_11) rw_12 rk_13 (nI lz_14) lo_15 ln_16 lb_17 (nI oz) of) H := hP
            have hD : va_D A (wl_k_X8_puts cI cJ cK x0 xn xl xt xo xf xs xp xq xr xc r1 r2 r3 r4 r5 l1 l2 l3 o1 (nI z) g_8 (nI rz_10) (nI rv_11) rw_12 rk_13 (nI lz_14) lo_15 ln_16 lb_17 (nI oz) of) := hD
            refine lv_i2l (v := lN t_9) hx hb dX8_puts_47 (nI_l (by omega)) ?_
            refine my_goVS (wc := (wl_k_X8_tell cI cJ cK x0 xn xl xt xo xf xs xp xq xr xc o1 (nI z) (nI oz) of)) hP hD hS hA [0, 7, 8] rfl [some 0, none, none, none, none, none, none, some 1, some 2] (by decide +kernel) (my_cV (As := [.long (lN t_9)]) (rest := []) (ci := 8) (wc := (wl_k_X8_tell cI cJ cK x0 xn xl xt xo xf xs xp xq xr xc o1 (nI z) (nI oz) of)) ⟨hx, hb, hml, hown, hts⟩ (cwV 1 hts gX8_puts_X8_tell rfl rfl rfl (by decide +kernel) ⟨Nat.le_of_ble_eq_true rfl, Nat.le_of_ble_eq_true rfl⟩) hN hK hP hD [0, 7, 8] rfl (by decide) rfl 0 rfl rfl rfl rfl hl.1 rfl (Nat.le_of_ble_eq_true rfl) dX8_puts_48 ⟨Nat.le_of_ble_eq_true rfl, Nat.le_of_ble_eq_true rfl⟩  ((k_X8_tell l D cI cJ cK x0 xn xl xt xo xf xs xp xq xr xc o1 z oz of (lN t_9) (by first | assumption | omega | decide +kernel) (by first | assumption | omega | decide +kernel)) _)) (fun u H locs hp hPD hS => ?_)
            obtain ⟨of_22, rfl, hv0, ht_23⟩ := hp
            obtain ⟨hP, hD⟩ := hPD rfl
            have hP : va_P D vwCl (wl_k_X8_puts cI cJ cK x0 xn xl xt xo xf xs xp xq xr xc r1 r2 r3 r4 r5 l1 l2 l3 o1 (nI z) g_8 (nI rz_10) (nI rv_11) rw_12 rk_13 (nI lz_14) lo_15 ln_16 lb_17 1 of_22) H := hP
            have hD : va_D A (wl_k_X8_puts cI cJ cK x0 xn xl xt xo xf xs xp xq xr xc r1 r2 r3 r4 r5 l1 l2 l3 o1 (nI z) g_8 (nI rz_10) (nI rv_11) rw_12 rk_13 (nI lz_14) lo_15 ln_16 lb_17 1 of_22) := hD
            refine lv_iload_n hx hb dX8_puts_51 rfl (lv_at hl 0 rfl) ?_
            exact my_retI hx hb hr hlocks hK hS (wl_k_X8_puts cI cJ cK x0 xn xl xt xo xf xs xp xq xr xc r1 r2 r3 r4 r5 l1 l2 l3 o1 (nI z) g_8 (nI rz_10) (nI rv_11) rw_12 rk_13 (nI lz_14) lo_15 ln_16 lb_17 1 of_22) hP hD (Or.inr (Or.inr (Or.inr (⟨g_8, rz_10, rv_11, rw_12, rk_13, lz_14, lo_15, ln_16, lb_17, 1, of_22, rfl, hR_g_8, (by first | assumption | omega | trivial | decide +kernel), (by first | assumption | omega | trivial | decide +kernel), (by first | assumption | omega | trivial | decide +kernel), hR_lo_15, hR_ln_16, (by first | assumption | omega | trivial | decide +kernel), (by first | assumption | (rw [nIt (by omega)]; assumption)), ⟨hlv, by omega⟩, (by first | assumption | omega | trivial | decide +kernel), (by rw [nIt (by omega)]), (by rw [nI_toInt (by omega)]; omega), (by rw [nI_toInt (by omega)]; omega), (by rw [nI_toInt (by omega)]; omega), (by rw [nI_toInt (by omega)]; omega), (by rw [nIt (by omega), nI_toInt (by omega)]; assumption), (by first | assumption | omega | trivial | decide +kernel)⟩)))) dX8_puts_52
          ·
            have d29 : (nf k_4).toInt = ((k_1 : Nat) : Int) := my_eq c29 rfl (nI_toInt (by omega))
            refine lv_bipush (v := (-4)) hx hb dX8_puts_32 (by decide +kernel) ?_
            exact my_retI hx hb hr hlocks hK hS (wl_k_X8_puts cI cJ cK x0 xn xl xt xo xf xs xp xq xr xc r1 r2 r3 r4 r5 l1 l2 l3 o1 (nI z) nf (nI rz) (nI rv) rw rk (nI lz) lo ln lb (nI oz) of) hP hD (Or.inr (Or.inr (Or.inl ⟨rfl, rfl, (by rw [nIt (by omega), nI_toInt (by omega)]; assumption), (by rw [nI_toInt (by omega)]; omega), (by rw [nI_toInt (by omega)]; omega), (by rw [nI_toInt (by omega)]; omega), (by rw [nI_toInt (by omega)]; omega)⟩))) dX8_puts_34
        ·
          exact absurd c14 (by decide +kernel)
      ·
        refine lv_if_ne (tgt := 20) hx hb dX8_puts_14 (by decide) (fun c14 => ?_) (fun c14 => ?_)
        ·
          exact absurd c14 (by decide +kernel)
        ·
          refine lv_bipush (v := (-2)) hx hb dX8_puts_17 (by decide +kernel) ?_
          exact my_retI hx hb hr hlocks hK hS (wl_k_X8_puts cI cJ cK x0 xn xl xt xo xf xs xp xq xr xc r1 r2 r3 r4 r5 l1 l2 l3 o1 (nI z) nf (nI rz) (nI rv) rw rk (nI lz) lo ln lb (nI oz) of) hP hD (Or.inr (Or.inl ⟨rfl, rfl, (by first | assumption | omega | trivial | decide +kernel), (by rw [nI_toInt (by omega)]; omega), (by rw [nI_toInt (by omega)]; omega)⟩)) dX8_puts_19
    ·
      exact absurd c4 (by decide +kernel)
  ·
    refine lv_if_ne (tgt := 9) hx hb dX8_puts_4 (by decide) (fun c4 => ?_) (fun c4 => ?_)
    ·
      exact absurd c4 (by decide +kernel)
    ·
      refine lv_iconst (v := (-1)) hx hb dX8_puts_7 (by decide +kernel) ?_
      exact my_retI hx hb hr hlocks hK hS (wl_k_X8_puts cI cJ cK x0 xn xl xt xo xf xs xp xq xr xc r1 r2 r3 r4 r5 l1 l2 l3 o1 (nI z) nf (nI rz) (nI rv) rw rk (nI lz) lo ln lb (nI oz) of) hP hD (Or.inl ⟨rfl, rfl, (by first | assumption | omega | trivial | decide +kernel)⟩) dX8_puts_8
abbrev wl_k_X8_cuts (cI cJ cK : ClassId) (x0 : Nat) (xn : Nat) (xl : Nat) (xt : Nat) (xo : Nat) (xf : Nat) (xs : Nat) (xp : Nat) (xq : Nat) (xr : Nat) (xc : Nat) (r1 : Nat) (r2 : Nat) (r3 : Nat) (r4 : Nat) (r5 : Nat) (l1 : Nat) (l2 : Nat) (l3 : Nat) (v0_ : Int32) (v1_ : Nat → Int32) (v2_ : Int32) (v3_ : Int32) (v4_ : Int32) (v5_ : Int32) (v6_ : Int32) (v7_ : Nat → Int32) (v8_ : Nat → Int32) (v9_ : Nat → Int64) : va_W := [(x0, .inr (8, [.ref xn, .int v0_, .ref xl, .ref xt, .ref xo, .ref xf, .ref xs, .ref xp, .ref xq, .ref xr, .ref xc])), (xn, .inl (cI, 64, .inl v1_)), (xr, .inr (2, [.ref r1, .ref r2, .ref r3, .ref r4, .ref r5, .int v2_, .int v3_, .int v4_, .int v5_])), (xl, .inr (1, [.ref l1, .ref l2, .ref l3, .int v6_])), (l2, .inl (cI, 64, .inl v7_)), (l3, .inl (cI, 64, .inl v8_)), (l1, .inl (cJ, 8, .inr (.inl v9_)))]
set_option maxHeartbeats 4000000 in
set_option maxRecDepth 100000 in
theorem k_X8_cuts (l : Launch) (D : va_G) (cI cJ cK : ClassId) (x0 : Nat) (xn : Nat) (xl : Nat) (xt : Nat) (xo : Nat) (xf : Nat) (xs : Nat) (xp : Nat) (xq : Nat) (xr : Nat) (xc : Nat) (r1 : Nat) (r2 : Nat) (r3 : Nat) (r4 : Nat) (r5 : Nat) (l1 : Nat) (l2 : Nat) (l3 : Nat) (z : Nat) (nf : Nat → Int32) (rz : Nat) (rv : Nat) (rw : Int32) (rk : Int32) (lz : Nat) (lo : Nat → Int32) (ln : Nat → Int32) (lb : Nat → Int64) (p9 : Int32) (hz_z : z ≤ 64) (hR_nf : RB 0 255 nf) (hz_rz : rz ≤ 64) (hz_rv : rv ≤ 8) (hz_lz : lz ≤ 64) (hR_lo : RB 0 63 lo) (hR_ln : RB 0 63 ln) : ctI l yX8_cuts wsX8_cuts ({ frames := 5, cells := 0, slots := 0, locals := 300 } : Room) D (tyIJ cI cJ cK) [.ref x0, .int p9] (wl_k_X8_cuts cI cJ cK x0 xn xl xt xo xf xs xp xq xr xc r1 r2 r3 r4 r5 l1 l2 l3 (nI z) nf (nI rz) (nI rv) rw rk (nI lz) lo ln lb) (fun (r : Int32) (u : va_W) => (u = (wl_k_X8_cuts cI cJ cK x0 xn xl xt xo xf xs xp xq xr xc r1 r2 r3 r4 r5 l1 l2 l3 (nI z) nf (nI rz) (nI rv) rw rk (nI lz) lo ln lb) ∧ r = (-2) ∧ (p9.toInt < 0 ∨ z ≤ p9.toInt)) ∨ (∃ (z' : Nat) (nf' : Nat → Int32) (rz' : Nat) (rv' : Nat) (rw' : Int32) (rk' : Int32) (lz' : Nat) (lo' : Nat → Int32) (ln' : Nat → Int32) (lb' : Nat → Int64), u = (wl_k_X8_cuts cI cJ cK x0 xn xl xt xo xf xs xp xq xr xc r1 r2 r3 r4 r5 l1 l2 l3 (nI z') nf' (nI rz') (nI rv') rw' rk' (nI lz') lo' ln' lb') ∧ z' ≤ 64 ∧ RB 0 255 nf' ∧ rz' ≤ 64 ∧ rv' ≤ 8 ∧ lz' ≤ 64 ∧ RB 0 63 lo' ∧ RB 0 63 ln' ∧ z' + 1 = z ∧ r = nf p9.toInt.toNat ∧ (∀ j : Nat, j < z' → nf' j = if p9.toInt ≤ (j : Int) then nf (j + 1) else nf j) ∧ (LVL lb' nf' z' ∧ lz' = z') ∧ rk' = 0 ∧ 0 ≤ p9.toInt ∧ p9.toInt < z)) := by
  refine ctI.of (cc := cX8_cuts) (maxL := 4) (ret := (some .int)) (by decide) rfl (Nat.le_of_ble_eq_true rfl) ?_
  intro p e s m below meth c ls A hx hb hr hts hown hml hlocks hname hA hK hN hP hD hS hl
  have hl : lv_has ls 4 [(0, .ref x0), (1, .int p9)] := hl
  have hown : s.vm.findClass RX8 = some m.cls := hown
  have hi8 : ∀ w ∈ u_ws RX8 TX8 11, w ∈ wsX8_cuts := by decide +kernel
  have fl13 := hts (.fieldLink RX8 13 "PlaneColumn" "size" "I") (by decide +kernel)
  have fl9 := hts (.fieldLink RX8 9 "PlaneColumn" "numbers" "[I") (by decide +kernel)
  refine lv_aload_n hx hb dX8_cuts_0 rfl (lv_at hl 0 rfl) ?_
  refine lv_iload_n hx hb dX8_cuts_1 rfl (lv_at hl 1 rfl) ?_
  refine my_gpI (my_pV (As := [.int p9]) (rest := []) (ci := 8) ⟨hx, hb, hml, hown, hts⟩ (cwV 1 hts gX8_cuts_X8_isPlace rfl rfl rfl (by decide +kernel) ⟨Nat.le_of_ble_eq_true rfl, Nat.le_of_ble_eq_true rfl⟩) hN hK hP [0] rfl 0 rfl rfl rfl rfl hl.1 rfl (Nat.le_of_ble_eq_true rfl) dX8_cuts_2 ⟨Nat.le_of_ble_eq_true rfl, Nat.le_of_ble_eq_true rfl⟩  (k_X8_isPlace l D cI cJ cK x0 xn xl xt xo xf xs xp xq xr xc z p9 (by first | assumption | omega | decide +kernel))) (fun r hp => ?_)
  rcases hp with ⟨k_1, rfl, rfl, ha_2⟩ | ⟨rfl, ho_3⟩
  ·
    refine lv_if_ne (tgt := 11) hx hb dX8_cuts_5 (by decide) (fun c5 => ?_) (fun c5 => ?_)
    ·
      refine lv_aload_n hx hb dX8_cuts_11 rfl (lv_at hl 0 rfl) ?_
      refine va_get (ci := 8) (v := .ref xn) (C := RX8) (T := TX8) (N := 11) hx hb hts hi8 hown hK hP 0 rfl rfl 0 (by decide) fl9 (fun _ h9 => h9) rfl dX8_cuts_12 ?_
      refine lv_iload_n hx hb dX8_cuts_15 rfl (lv_at hl 1 rfl) ?_
      refine va_iald hx hb hK hP 1 0 rfl rfl (vp_in_nI (by omega) (by omega)) dX8_cuts_16 ?_
      refine my_eqi (y := nf k_1) (congrArg nf (nI_clamp (by omega))) ?_
      have hb_4 := hR_nf k_1
      refine lv_istore_n (lv' := [(2, .int (nf k_1)), (0, .ref x0), (1, .int (nI k_1))]) hx hb dX8_cuts_17 rfl hl (by decide) rfl (fun ls hl => ?_)
      refine lv_iload_n hx hb dX8_cuts_18 rfl (lv_at hl 2 rfl) ?_
      refine lv_iconst (v := 1) hx hb dX8_cuts_19 (by decide +kernel) ?_
      refine lv_iadd hx hb dX8_cuts_20 ?_
      refine my_eqi (y := nI (k_1 + 1)) (my_addN k_1 1) ?_
      refine lv_istore_n (lv' := [(3, .int (nI (k_1 + 1))), (2, .int (nf k_1)), (0, .ref x0), (1, .int (nI k_1))]) hx hb dX8_cuts_21 rfl hl (by decide) rfl (fun ls hl => ?_)
      have loop22 : ∀ (n9 : Nat) (k : Nat) (xn_22 : Nat → Int32), 64 - k < n9 → (k ≤ 64) → (k_1 + 1 ≤ k) → (k ≤ z) → (∀ j, xn_22 j = if k_1 ≤ j ∧ j + 1 < k then nf (j + 1) else nf j) → (RB 0 255 xn_22) → ∀ (H : Heap) (locs : List Loc) (ls : Array Slot), va_P D vwCl (wl_k_X8_cuts cI cJ cK x0 xn xl xt xo xf xs xp xq xr xc r1 r2 r3 r4 r5 l1 l2 l3 (nI z) xn_22 (nI rz) (nI rv) rw rk (nI lz) lo ln lb) H → va_D A (wl_k_X8_cuts cI cJ cK x0 xn xl xt xo xf xs xp xq xr xc r1 r2 r3 r4 r5 l1 l2 l3 (nI z) xn_22 (nI rz) (nI rv) rw rk (nI lz) lo ln lb) → va_S A s.heap H locs → lv_has ls 4 [(3, .int (nI k)), (2, .int (nf k_1)), (0, .ref x0), (1, .int (nI k_1))] → W p l e ({ frames := 5, cells := 0, slots := 0, locals := 300 } : Room) s m [.ref x0, .int (nI k_1)].toArray below meth c H locs 0 0 (MQ below (va_Qi (fun (r : Int32) (u : va_W) => (u = (wl_k_X8_cuts cI cJ cK x0 xn xl xt xo xf xs xp xq xr xc r1 r2 r3 r4 r5 l1 l2 l3 (nI z) nf (nI rz) (nI rv) rw rk (nI lz) lo ln lb) ∧ r = (-2) ∧ ((nI k_1).toInt < 0 ∨ z ≤ (nI k_1).toInt)) ∨ (∃ (z' : Nat) (nf' : Nat → Int32) (rz' : Nat) (rv' : Nat) (rw' : Int32) (rk' : Int32) (lz' : Nat) (lo' : Nat → Int32) (ln' : Nat → Int32) (lb' : Nat → Int64), u = (wl_k_X8_cuts cI cJ cK x0 xn xl xt xo xf xs xp xq xr xc r1 r2 r3 r4 r5 l1 l2 l3 (nI z') nf' (nI rz') (nI rv') rw' rk' (nI lz') lo' ln' lb') ∧ z' ≤ 64 ∧ RB 0 255 nf' ∧ rz' ≤ 64 ∧ rv' ≤ 8 ∧ lz' ≤ 64 ∧ RB 0 63 lo' ∧ RB 0 63 ln' ∧ z' + 1 = z ∧ r = nf (nI k_1).toInt.toNat ∧ (∀ j : Nat, j < z' → nf' j = if (nI k_1).toInt ≤ (j : Int) then nf (j + 1) else nf j) ∧ (LVL lb' nf' z' ∧ lz' = z') ∧ rk' = 0 ∧ 0 ≤ (nI k_1).toInt ∧ (nI k_1).toInt < z)) (my_B D (tyIJ cI cJ cK) A) A) [.ref x0, .int (nI k_1)].toArray s 0 0 A) (F0 m 22 ls []) := by
        intro n9
        induction n9 with
        | zero =>
          intro k xn_22 hn9
          exact absurd hn9 (Nat.not_lt_zero _)
        | succ n9 ih22 =>
          intro k xn_22 hn9 hk_k h1 hkz hcu hR_xn_22 H locs ls hP hD hS hl
          refine lv_iload_n hx hb dX8_cuts_22 rfl (lv_at hl 0 rfl) ?_
          refine lv_aload_n hx hb dX8_cuts_23 rfl (lv_at hl 2 rfl) ?_
          refine va_get (ci := 8) (v := .int (nI z)) (C := RX8) (T := TX8) (N := 11) hx hb hts hi8 hown hK hP 0 rfl rfl 1 (by decide) fl13 (fun _ h9 => h9) rfl dX8_cuts_24 ?_
          refine lv_icmp_ge (tgt := 50) hx hb dX8_cuts_27 (by decide) (fun c27 => ?_) (fun c27 => ?_)
          ·
            have d27 : ((k : Nat) : Int) ≥ ((z : Nat) : Int) := my_ge c27 (nI_toInt (by omega)) (nI_toInt (by omega))
            refine lv_aload_n hx hb dX8_cuts_50 rfl (lv_at hl 2 rfl) ?_
            refine lv_dup hx hb dX8_cuts_51 rfl ?_
            refine va_get (ci := 8) (v := .int (nI z)) (C := RX8) (T := TX8) (N := 11) hx hb hts hi8 hown hK hP 0 rfl rfl 1 (by decide) fl13 (fun _ h9 => h9) rfl dX8_cuts_52 ?_
            refine lv_iconst (v := 1) hx hb dX8_cuts_55 (by decide +kernel) ?_
            refine lv_isub hx hb dX8_cuts_56 ?_
            refine lv_topi (fun z_5 ez_5 => ?_)
            try have tz_5 : z_5.toInt = ((z : Nat) : Int) - (1 : Int) := by rw [ez_5]; exact my_subI (nI_toInt (by omega)) (by decide +kernel) (by omega) (by omega)
            obtain ⟨w_6, ew_6, hw_6⟩ : ∃ w : Nat, z_5 = nI w ∧ (w : Int) = (z_5 : Int32).toInt := my_natE (by omega)
            refine my_eqi (y := nI w_6) ew_6 ?_
            refine va_put (ci := 8) (v := .int (nI w_6)) (ty := (.int)) (C := RX8) (T := TX8) (N := 11) hx hb hts hi8 tyX8 tyX8_ok nmX8 hown hK hP hD hS 0 rfl rfl 1 (by decide) fl13 (fun _ h9 => h9) rfl (by decide +kernel) rfl rfl (Nat.le_of_ble_eq_true rfl) dX8_cuts_57 (fun H locs hP hD hS => ?_)
            have hP : va_P D vwCl (wl_k_X8_cuts cI cJ cK x0 xn xl xt xo xf xs xp xq xr xc r1 r2 r3 r4 r5 l1 l2 l3 (nI w_6) xn_22 (nI rz) (nI rv) rw rk (nI lz) lo ln lb) H := hP
            have hD : va_D A (wl_k_X8_cuts cI cJ cK x0 xn xl xt xo xf xs xp xq xr xc r1 r2 r3 r4 r5 l1 l2 l3 (nI w_6) xn_22 (nI rz) (nI rv) rw rk (nI lz) lo ln lb) := hD
            refine lv_aload_n hx hb dX8_cuts_60 rfl (lv_at hl 2 rfl) ?_
            refine my_goIS (wc := (wl_k_X8_settle cI cJ cK x0 xn xl xt xo xf xs xp xq xr xc r1 r2 r3 r4 r5 l1 l2 l3 (nI w_6) xn_22 (nI rz) (nI rv) rw rk (nI lz) lo ln lb)) hP hD hS hA [0, 1, 2, 3, 4, 5, 6] rfl [some 0, some 1, some 2, some 3, some 4, some 5, some 6] (by decide +kernel) (my_cV (As := []) (rest := []) (ci := 8) (wc := (wl_k_X8_settle cI cJ cK x0 xn xl xt xo xf xs xp xq xr xc r1 r2 r3 r4 r5 l1 l2 l3 (nI w_6) xn_22 (nI rz) (nI rv) rw rk (nI lz) lo ln lb)) ⟨hx, hb, hml, hown, hts⟩ (cwV 0 hts gX8_cuts_X8_settle rfl rfl rfl (by decide +kernel) ⟨Nat.le_of_ble_eq_true rfl, Nat.le_of_ble_eq_true rfl⟩) hN hK hP hD [0, 1, 2, 3, 4, 5, 6] rfl (by decide) rfl 0 rfl rfl rfl rfl hl.1 rfl (Nat.le_of_ble_eq_true rfl) dX8_cuts_61 ⟨Nat.le_of_ble_eq_true rfl, Nat.le_of_ble_eq_true rfl⟩  ((k_X8_settle l D cI cJ cK x0 xn xl xt xo xf xs xp xq xr xc r1 r2 r3 r4 r5 l1 l2 l3 w_6 xn_22 rz rv rw rk lz lo ln lb (by first | assumption | omega | decide +kernel) hR_xn_22 (by first | assumption | omega | decide +kernel) (by first | assumption | omega | decide +kernel) (by first | assumption | omega | decide +kernel) hR_lo hR_ln) _)) (fun r u H locs hp hPD hS => ?_)
            obtain ⟨t_7, rz_8, rv_9, rw_10, rk_11, lz_12, lo_13, ln_14, lb_15, rfl, rfl, hhz_rz_16, hhz_rv_17, hhz_lz_18, hR_lo_13, hR_ln_14, hlv, hlz, hch, hrk, hb9_19⟩ := hp
            obtain ⟨hP, hD⟩ := hPD rfl
            have hP : va_P D vwCl (wl_k_X8_cuts cI cJ cK x0 xn xl xt xo xf xs xp xq xr xc r1 r2 r3 r4 r5 l1 l2 l3 (nI w_6) xn_22 (nI rz_8) (nI rv_9) rw_10 rk_11 (nI lz_12) lo_13 ln_14 lb_15) H := hP
            have hD : va_D A (wl_k_X8_cuts cI cJ cK x0 xn xl xt xo xf xs xp xq xr xc r1 r2 r3 r4 r5 l1 l2 l3 (nI w_6) xn_22 (nI rz_8) (nI rv_9) rw_10 rk_11 (nI lz_12) lo_13 ln_14 lb_15) := hD
            refine lv_pop hx hb dX8_cuts_64 rfl ?_
            refine lv_iload_n hx hb dX8_cuts_65 rfl (lv_at hl 1 rfl) ?_
            exact my_retI hx hb hr hlocks hK hS (wl_k_X8_cuts cI cJ cK x0 xn xl xt xo xf xs xp xq xr xc r1 r2 r3 r4 r5 l1 l2 l3 (nI w_6) xn_22 (nI rz_8) (nI rv_9) rw_10 rk_11 (nI lz_12) lo_13 ln_14 lb_15) hP hD (Or.inr (⟨w_6, xn_22, rz_8, rv_9, rw_10, rk_11, lz_12, lo_13, ln_14, lb_15, rfl, (by first | assumption | omega | trivial | decide +kernel), hR_xn_22, (by first | assumption | omega | trivial | decide +kernel), (by first | assumption | omega | trivial | decide +kernel), (by first | assumption | omega | trivial | decide +kernel), hR_lo_13, hR_ln_14, (by first | assumption | omega | trivial | decide +kernel), (by rw [nIt (by omega)]), (fun j h => by rw [nI_toInt (by omega), hcu j]; exact cut_e (by omega)), ⟨hlv, by omega⟩, (by first | assumption | omega | trivial | decide +kernel), (by rw [nI_toInt (by omega)]; omega), (by rw [nI_toInt (by omega)]; omega)⟩)) dX8_cuts_66
          ·
            have d27 : ((k : Nat) : Int) < ((z : Nat) : Int) := my_nge c27 (nI_toInt (by omega)) (nI_toInt (by omega))
            refine lv_aload_n hx hb dX8_cuts_30 rfl (lv_at hl 2 rfl) ?_
            refine va_get (ci := 8) (v := .ref xn) (C := RX8) (T := TX8) (N := 11) hx hb hts hi8 hown hK hP 0 rfl rfl 0 (by decide) fl9 (fun _ h9 => h9) rfl dX8_cuts_31 ?_
            refine lv_iload_n hx hb dX8_cuts_34 rfl (lv_at hl 0 rfl) ?_
            refine lv_iconst (v := 1) hx hb dX8_cuts_35 (by decide +kernel) ?_
            refine lv_isub hx hb dX8_cuts_36 ?_
            refine my_eqi (y := nI (k - 1)) (my_subN (a := k) (b := 1) (by omega)) ?_
            refine lv_aload_n hx hb dX8_cuts_37 rfl (lv_at hl 2 rfl) ?_
            refine va_get (ci := 8) (v := .ref xn) (C := RX8) (T := TX8) (N := 11) hx hb hts hi8 hown hK hP 0 rfl rfl 0 (by decide) fl9 (fun _ h9 => h9) rfl dX8_cuts_38 ?_
            refine lv_iload_n hx hb dX8_cuts_41 rfl (lv_at hl 0 rfl) ?_
            refine va_iald hx hb hK hP 1 0 rfl rfl (vp_in_nI (by omega) (by omega)) dX8_cuts_42 ?_
            refine my_eqi (y := xn_22 k) (congrArg xn_22 (nI_clamp (by omega))) ?_
            have hb_20 := hR_xn_22 k
            refine va_iast hx hb hK hP hD hS 1 0 rfl rfl (vp_in_nI (by omega) (by omega)) dX8_cuts_43 (fun H locs hP hD hS => ?_)
            obtain ⟨g_21, eg_21⟩ : ∃ g : Nat → Int32, g = upd xn_22 (k - 1) (xn_22 k) := ⟨_, rfl⟩
            have eU : upd xn_22 (nI (k - 1) : Int32).toNatClampNeg (xn_22 k) = g_21 := by rw [eg_21, show (nI (k - 1) : Int32).toNatClampNeg = k - 1 from nI_clamp (by omega)]
            rw [eU] at hP hD
            have hR_g_21 : RB 0 255 g_21 := by rw [eg_21]; exact hR_xn_22.upd rfl (by omega) (by omega)
            have hP : va_P D vwCl (wl_k_X8_cuts cI cJ cK x0 xn xl xt xo xf xs xp xq xr xc r1 r2 r3 r4 r5 l1 l2 l3 (nI z) g_21 (nI rz) (nI rv) rw rk (nI lz) lo ln lb) H := hP
            have hD : va_D A (wl_k_X8_cuts cI cJ cK x0 xn xl xt xo xf xs xp xq xr xc r1 r2 r3 r4 r5 l1 l2 l3 (nI z) g_21 (nI rz) (nI rv) rw rk (nI lz) lo ln lb) := hD
            refine lv_iinc (v := nI (k + 1)) (lv' := [(3, .int (nI (k + 1))), (2, .int (nf k_1)), (0, .ref x0), (1, .int (nI k_1))]) hx hb dX8_cuts_44 hl (k := 0) rfl (my_incN k 1 (by decide +kernel)) (by decide) rfl (fun ls hl => ?_)
            refine lv_goto (tgt := 22) hx hb dX8_cuts_47 (by decide) ?_
            exact ih22  (k + 1) g_21 (by omega) (by first | assumption | omega | decide +kernel) (by first | assumption | omega | decide +kernel) (by first | assumption | omega | decide +kernel) (cut_s hcu (by assumption) (by omega)) hR_g_21 _ _ ls hP hD hS (lv_sub hl [0, 1, 2, 3] rfl)
      exact loop22 ((64 - (k_1 + 1)) + 1) (k_1 + 1) nf (Nat.lt_succ_self _) (by first | assumption | omega | decide +kernel) (by first | assumption | omega | decide +kernel) (by first | assumption | omega | decide +kernel) (cut_0) hR_nf _ _ ls hP hD hS (lv_sub hl [0, 1, 2, 3] rfl)
    ·
      exact absurd c5 (by decide +kernel)
  ·
    refine lv_if_ne (tgt := 11) hx hb dX8_cuts_5 (by decide) (fun c5 => ?_) (fun c5 => ?_)
    ·
      exact absurd c5 (by decide +kernel)
    ·
      refine lv_bipush (v := (-2)) hx hb dX8_cuts_8 (by decide +kernel) ?_
      exact my_retI hx hb hr hlocks hK hS (wl_k_X8_cuts cI cJ cK x0 xn xl xt xo xf xs xp xq xr xc r1 r2 r3 r4 r5 l1 l2 l3 (nI z) nf (nI rz) (nI rv) rw rk (nI lz) lo ln lb) hP hD (Or.inl ⟨rfl, rfl, (by first | assumption | omega | trivial | decide +kernel)⟩) dX8_cuts_10
abbrev wl_k_X8_swaps (cI cJ cK : ClassId) (x0 : Nat) (xn : Nat) (xl : Nat) (xt : Nat) (xo : Nat) (xf : Nat) (xs : Nat) (xp : Nat) (xq : Nat) (xr : Nat) (xc : Nat) (r1 : Nat) (r2 : Nat) (r3 : Nat) (r4 : Nat) (r5 : Nat) (l1 : Nat) (l2 : Nat) (l3 : Nat) (v0_ : Int32) (v1_ : Nat → Int32) (v2_ : Int32) (v3_ : Int32) (v4_ : Int32) (v5_ : Int32) (v6_ : Int32) (v7_ : Nat → Int32) (v8_ : Nat → Int32) (v9_ : Nat → Int64) : va_W := [(x0, .inr (8, [.ref xn, .int v0_, .ref xl, .ref xt, .ref xo, .ref xf, .ref xs, .ref xp, .ref xq, .ref xr, .ref xc])), (xn, .inl (cI, 64, .inl v1_)), (xr, .inr (2, [.ref r1, .ref r2, .ref r3, .ref r4, .ref r5, .int v2_, .int v3_, .int v4_, .int v5_])), (xl, .inr (1, [.ref l1, .ref l2, .ref l3, .int v6_])), (l2, .inl (cI, 64, .inl v7_)), (l3, .inl (cI, 64, .inl v8_)), (l1, .inl (cJ, 8, .inr (.inl v9_)))]
set_option maxHeartbeats 4000000 in
set_option maxRecDepth 100000 in
theorem k_X8_swaps (l : Launch) (D : va_G) (cI cJ cK : ClassId) (x0 : Nat) (xn : Nat) (xl : Nat) (xt : Nat) (xo : Nat) (xf : Nat) (xs : Nat) (xp : Nat) (xq : Nat) (xr : Nat) (xc : Nat) (r1 : Nat) (r2 : Nat) (r3 : Nat) (r4 : Nat) (r5 : Nat) (l1 : Nat) (l2 : Nat) (l3 : Nat) (z : Nat) (nf : Nat → Int32) (rz : Nat) (rv : Nat) (rw : Int32) (rk : Int32) (lz : Nat) (lo : Nat → Int32) (ln : Nat → Int32) (lb : Nat → Int64) (p9 : Int32) (q9 : Int32) (hz_z : z ≤ 64) (hR_nf : RB 0 255 nf) (hz_rz : rz ≤ 64) (hz_rv : rv ≤ 8) (hz_lz : lz ≤ 64) (hR_lo : RB 0 63 lo) (hR_ln : RB 0 63 ln) : ctI l yX8_swaps wsX8_swaps ({ frames := 5, cells := 0, slots := 0, locals := 300 } : Room) D (tyIJ cI cJ cK) [.ref x0, .int p9, .int q9] (wl_k_X8_swaps cI cJ cK x0 xn xl xt xo xf xs xp xq xr xc r1 r2 r3 r4 r5 l1 l2 l3 (nI z) nf (nI rz) (nI rv) rw rk (nI lz) lo ln lb) (fun (r : Int32) (u : va_W) => (u = (wl_k_X8_swaps cI cJ cK x0 xn xl xt xo xf xs xp xq xr xc r1 r2 r3 r4 r5 l1 l2 l3 (nI z) nf (nI rz) (nI rv) rw rk (nI lz) lo ln lb) ∧ r = (-2) ∧ (p9.toInt < 0 ∨ z ≤ p9.toInt ∨ q9.toInt < 0 ∨ z ≤ q9.toInt ∨ p9.toInt = q9.toInt)) ∨ (∃ (t' : Nat) (nf' : Nat → Int32) (rz' : Nat) (rv' : Nat) (rw' : Int32) (rk' : Int32) (lz' : Nat) (lo' : Nat → Int32) (ln' : Nat → Int32) (lb' : Nat → Int64), u = (wl_k_X8_swaps cI cJ cK x0 xn xl xt xo xf xs xp xq xr xc r1 r2 r3 r4 r5 l1 l2 l3 (nI z) nf' (nI rz') (nI rv') rw' rk' (nI lz') lo' ln' lb') ∧ r = nI t' ∧ RB 0 255 nf' ∧ rz' ≤ 64 ∧ rv' ≤ 8 ∧ lz' ≤ 64 ∧ RB 0 63 lo' ∧ RB 0 63 ln' ∧ (LVL lb' nf' z ∧ lz' = z) ∧ rk' = 0 ∧ t' = fb_sm (fun j => pcn (lb' j ^^^ lb j)) 8 ∧ nf' = upd (upd nf p9.toInt.toNat (nf q9.toInt.toNat)) q9.toInt.toNat (nf p9.toInt.toNat) ∧ 0 ≤ p9.toInt ∧ p9.toInt < z ∧ 0 ≤ q9.toInt ∧ q9.toInt < z ∧ p9.toInt ≠ q9.toInt)) := by
  refine ctI.of (cc := cX8_swaps) (maxL := 3) (ret := (some .int)) (by decide) rfl (Nat.le_of_ble_eq_true rfl) ?_
  intro p e s m below meth c ls A hx hb hr hts hown hml hlocks hname hA hK hN hP hD hS hl
  have hl : lv_has ls 3 [(0, .ref x0), (1, .int p9), (2, .int q9)] := hl
  have hown : s.vm.findClass RX8 = some m.cls := hown
  refine lv_aload_n hx hb dX8_swaps_0 rfl (lv_at hl 0 rfl) ?_
  refine lv_iload_n hx hb dX8_swaps_1 rfl (lv_at hl 1 rfl) ?_
  refine my_gpI (my_pV (As := [.int p9]) (rest := []) (ci := 8) ⟨hx, hb, hml, hown, hts⟩ (cwV 1 hts gX8_swaps_X8_isPlace rfl rfl rfl (by decide +kernel) ⟨Nat.le_of_ble_eq_true rfl, Nat.le_of_ble_eq_true rfl⟩) hN hK hP [0] rfl 0 rfl rfl rfl rfl hl.1 rfl (Nat.le_of_ble_eq_true rfl) dX8_swaps_2 ⟨Nat.le_of_ble_eq_true rfl, Nat.le_of_ble_eq_true rfl⟩  (k_X8_isPlace l D cI cJ cK x0 xn xl xt xo xf xs xp xq xr xc z p9 (by first | assumption | omega | decide +kernel))) (fun r hp => ?_)
  rcases hp with ⟨k_1, rfl, rfl, ha_2⟩ | ⟨rfl, ho_3⟩
  ·
    refine lv_if_eq (tgt := 21) hx hb dX8_swaps_5 (by decide) (fun c5 => ?_) (fun c5 => ?_)
    ·
      exact absurd c5 (by decide +kernel)
    ·
      refine lv_aload_n hx hb dX8_swaps_8 rfl (lv_at hl 0 rfl) ?_
      refine lv_iload_n hx hb dX8_swaps_9 rfl (lv_at hl 2 rfl) ?_
      refine my_gpI (my_pV (As := [.int q9]) (rest := []) (ci := 8) ⟨hx, hb, hml, hown, hts⟩ (cwV 1 hts gX8_swaps_X8_isPlace rfl rfl rfl (by decide +kernel) ⟨Nat.le_of_ble_eq_true rfl, Nat.le_of_ble_eq_true rfl⟩) hN hK hP [0] rfl 0 rfl rfl rfl rfl hl.1 rfl (Nat.le_of_ble_eq_true rfl) dX8_swaps_10 ⟨Nat.le_of_ble_eq_true rfl, Nat.le_of_ble_eq_true rfl⟩  (k_X8_isPlace l D cI cJ cK x0 xn xl xt xo xf xs xp xq xr xc z q9 (by first | assumption | omega | decide +kernel))) (fun r hp => ?_)
      rcases hp with ⟨k_4, rfl, rfl, ha_5⟩ | ⟨rfl, ho_6⟩
      ·
        refine lv_if_eq (tgt := 21) hx hb dX8_swaps_13 (by decide) (fun c13 => ?_) (fun c13 => ?_)
        ·
          exact absurd c13 (by decide +kernel)
        ·
          refine lv_iload_n hx hb dX8_swaps_16 rfl (lv_at hl 1 rfl) ?_
          refine lv_iload_n hx hb dX8_swaps_17 rfl (lv_at hl 2 rfl) ?_
          refine lv_icmp_ne (tgt := 24) hx hb dX8_swaps_18 (by decide) (fun c18 => ?_) (fun c18 => ?_)
          ·
            have d18 : ((k_1 : Nat) : Int) ≠ ((k_4 : Nat) : Int) := my_ne c18 (nI_toInt (by omega)) (nI_toInt (by omega))
            refine lv_aload_n hx hb dX8_swaps_24 rfl (lv_at hl 0 rfl) ?_
            refine lv_iload_n hx hb dX8_swaps_25 rfl (lv_at hl 1 rfl) ?_
            refine lv_iload_n hx hb dX8_swaps_26 rfl (lv_at hl 2 rfl) ?_
            refine my_goVS (wc := (wl_k_X8_exchange cI cJ cK x0 xn xl xt xo xf xs xp xq xr xc (nI z) nf)) hP hD hS hA [0, 1] rfl [some 0, some 1] (by decide +kernel) (my_cV (As := [.int (nI k_1), .int (nI k_4)]) (rest := []) (ci := 8) (wc := (wl_k_X8_exchange cI cJ cK x0 xn xl xt xo xf xs xp xq xr xc (nI z) nf)) ⟨hx, hb, hml, hown, hts⟩ (cwV 2 hts gX8_swaps_X8_exchange rfl rfl rfl (by decide +kernel) ⟨Nat.le_of_ble_eq_true rfl, Nat.le_of_ble_eq_true rfl⟩) hN hK hP hD [0, 1] rfl (by decide) rfl 0 rfl rfl rfl rfl hl.1 rfl (Nat.le_of_ble_eq_true rfl) dX8_swaps_27 ⟨Nat.le_of_ble_eq_true rfl, Nat.le_of_ble_eq_true rfl⟩  ((k_X8_exchange l D cI cJ cK x0 xn xl xt xo xf xs xp xq xr xc z nf (nI k_1) ((k_1 : Nat) : Int) (nI_toInt (by omega)) (nI k_4) ((k_4 : Nat) : Int) (nI_toInt (by omega)) (by first | assumption | omega | decide +kernel) hR_nf (by first | assumption | omega | decide +kernel) (by first | assumption | omega | decide +kernel) (by first | assumption | omega | decide +kernel) (by first | assumption | omega | decide +kernel)) _)) (fun u H locs hp hPD hS => ?_)
            obtain ⟨nf_7, rfl, hR_nf_7, hxc⟩ := hp
            obtain ⟨hP, hD⟩ := hPD rfl
            have hP : va_P D vwCl (wl_k_X8_swaps cI cJ cK x0 xn xl xt xo xf xs xp xq xr xc r1 r2 r3 r4 r5 l1 l2 l3 (nI z) nf_7 (nI rz) (nI rv) rw rk (nI lz) lo ln lb) H := hP
            have hD : va_D A (wl_k_X8_swaps cI cJ cK x0 xn xl xt xo xf xs xp xq xr xc r1 r2 r3 r4 r5 l1 l2 l3 (nI z) nf_7 (nI rz) (nI rv) rw rk (nI lz) lo ln lb) := hD
            refine lv_aload_n hx hb dX8_swaps_30 rfl (lv_at hl 0 rfl) ?_
            refine my_goIS (wc := (wl_k_X8_settle cI cJ cK x0 xn xl xt xo xf xs xp xq xr xc r1 r2 r3 r4 r5 l1 l2 l3 (nI z) nf_7 (nI rz) (nI rv) rw rk (nI lz) lo ln lb)) hP hD hS hA [0, 1, 2, 3, 4, 5, 6] rfl [some 0, some 1, some 2, some 3, some 4, some 5, some 6] (by decide +kernel) (my_cV (As := []) (rest := []) (ci := 8) (wc := (wl_k_X8_settle cI cJ cK x0 xn xl xt xo xf xs xp xq xr xc r1 r2 r3 r4 r5 l1 l2 l3 (nI z) nf_7 (nI rz) (nI rv) rw rk (nI lz) lo ln lb)) ⟨hx, hb, hml, hown, hts⟩ (cwV 0 hts gX8_swaps_X8_settle rfl rfl rfl (by decide +kernel) ⟨Nat.le_of_ble_eq_true rfl, Nat.le_of_ble_eq_true rfl⟩) hN hK hP hD [0, 1, 2, 3, 4, 5, 6] rfl (by decide) rfl 0 rfl rfl rfl rfl hl.1 rfl (Nat.le_of_ble_eq_true rfl) dX8_swaps_31 ⟨Nat.le_of_ble_eq_true rfl, Nat.le_of_ble_eq_true rfl⟩  ((k_X8_settle l D cI cJ cK x0 xn xl xt xo xf xs xp xq xr xc r1 r2 r3 r4 r5 l1 l2 l3 z nf_7 rz rv rw rk lz lo ln lb (by first | assumption | omega | decide +kernel) hR_nf_7 (by first | assumption | omega | decide +kernel) (by first | assumption | omega | decide +kernel) (by first | assumption | omega | decide +kernel) hR_lo hR_ln) _)) (fun r u H locs hp hPD hS => ?_)
            obtain ⟨t_8, rz_9, rv_10, rw_11, rk_12, lz_13, lo_14, ln_15, lb_16, rfl, rfl, hhz_rz_17, hhz_rv_18, hhz_lz_19, hR_lo_14, hR_ln_15, hlv, hlz, hch, hrk, hb9_20⟩ := hp
            obtain ⟨hP, hD⟩ := hPD rfl
            have hP : va_P D vwCl (wl_k_X8_swaps cI cJ cK x0 xn xl xt xo xf xs xp xq xr xc r1 r2 r3 r4 r5 l1 l2 l3 (nI z) nf_7 (nI rz_9) (nI rv_10) rw_11 rk_12 (nI lz_13) lo_14 ln_15 lb_16) H := hP
            have hD : va_D A (wl_k_X8_swaps cI cJ cK x0 xn xl xt xo xf xs xp xq xr xc r1 r2 r3 r4 r5 l1 l2 l3 (nI z) nf_7 (nI rz_9) (nI rv_10) rw_11 rk_12 (nI lz_13) lo_14 ln_15 lb_16) := hD
            exact my_retI hx hb hr hlocks hK hS (wl_k_X8_swaps cI cJ cK x0 xn xl xt xo xf xs xp xq xr xc r1 r2 r3 r4 r5 l1 l2 l3 (nI z) nf_7 (nI rz_9) (nI rv_10) rw_11 rk_12 (nI lz_13) lo_14 ln_15 lb_16) hP hD (Or.inr (⟨t_8, nf_7, rz_9, rv_10, rw_11, rk_12, lz_13, lo_14, ln_15, lb_16, rfl, rfl, hR_nf_7, (by first | assumption | omega | trivial | decide +kernel), (by first | assumption | omega | trivial | decide +kernel), (by first | assumption | omega | trivial | decide +kernel), hR_lo_14, hR_ln_15, ⟨hlv, by omega⟩, (by first | assumption | omega | trivial | decide +kernel), hch, (by rw [nIt (by omega), nIt (by omega)]; first | exact hxc | (simpa using hxc)), (by rw [nI_toInt (by omega)]; omega), (by rw [nI_toInt (by omega)]; omega), (by rw [nI_toInt (by omega)]; omega), (by rw [nI_toInt (by omega)]; omega), (by rw [nI_toInt (by omega), nI_toInt (by omega)]; omega)⟩)) dX8_swaps_34
          ·
            have d18 : ((k_1 : Nat) : Int) = ((k_4 : Nat) : Int) := my_eq c18 (nI_toInt (by omega)) (nI_toInt (by omega))
            refine lv_bipush (v := (-2)) hx hb dX8_swaps_21 (by decide +kernel) ?_
            exact my_retI hx hb hr hlocks hK hS (wl_k_X8_swaps cI cJ cK x0 xn xl xt xo xf xs xp xq xr xc r1 r2 r3 r4 r5 l1 l2 l3 (nI z) nf (nI rz) (nI rv) rw rk (nI lz) lo ln lb) hP hD (Or.inl ⟨rfl, rfl, (by first | omega | (right; right; right; right; rw [nI_toInt (by omega), nI_toInt (by omega)]; omega) | (right; right; right; right; rw [nI_toInt (by omega)]; omega))⟩) dX8_swaps_23
      ·
        refine lv_if_eq (tgt := 21) hx hb dX8_swaps_13 (by decide) (fun c13 => ?_) (fun c13 => ?_)
        ·
          refine lv_bipush (v := (-2)) hx hb dX8_swaps_21 (by decide +kernel) ?_
          exact my_retI hx hb hr hlocks hK hS (wl_k_X8_swaps cI cJ cK x0 xn xl xt xo xf xs xp xq xr xc r1 r2 r3 r4 r5 l1 l2 l3 (nI z) nf (nI rz) (nI rv) rw rk (nI lz) lo ln lb) hP hD (Or.inl ⟨rfl, rfl, (by first | omega | (right; right; right; right; rw [nI_toInt (by omega), nI_toInt (by omega)]; omega) | (right; right; right; right; rw [nI_toInt (by omega)]; omega))⟩) dX8_swaps_23
        ·
          exact absurd c13 (by decide +kernel)
  ·
    refine lv_if_eq (tgt := 21) hx hb dX8_swaps_5 (by decide) (fun c5 => ?_) (fun c5 => ?_)
    ·
      refine lv_bipush (v := (-2)) hx hb dX8_swaps_21 (by decide +kernel) ?_
      exact my_retI hx hb hr hlocks hK hS (wl_k_X8_swaps cI cJ cK x0 xn xl xt xo xf xs xp xq xr xc r1 r2 r3 r4 r5 l1 l2 l3 (nI z) nf (nI rz) (nI rv) rw rk (nI lz) lo ln lb) hP hD (Or.inl ⟨rfl, rfl, (by first | omega | (right; right; right; right; rw [nI_toInt (by omega), nI_toInt (by omega)]; omega) | (right; right; right; right; rw [nI_toInt (by omega)]; omega))⟩) dX8_swaps_23
    ·
      exact absurd c5 (by decide +kernel)
abbrev wl_k_X8_reverses (cI cJ cK : ClassId) (x0 : Nat) (xn : Nat) (xl : Nat) (xt : Nat) (xo : Nat) (xf : Nat) (xs : Nat) (xp : Nat) (xq : Nat) (xr : Nat) (xc : Nat) (r1 : Nat) (r2 : Nat) (r3 : Nat) (r4 : Nat) (r5 : Nat) (l1 : Nat) (l2 : Nat) (l3 : Nat) (v0_ : Int32) (v1_ : Nat → Int32) (v2_ : Int32) (v3_ : Int32) (v4_ : Int32) (v5_ : Int32) (v6_ : Int32) (v7_ : Nat → Int32) (v8_ : Nat → Int32) (v9_ : Nat → Int64) : va_W := [(x0, .inr (8, [.ref xn, .int v0_, .ref xl, .ref xt, .ref xo, .ref xf, .ref xs, .ref xp, .ref xq, .ref xr, .ref xc])), (xn, .inl (cI, 64, .inl v1_)), (xr, .inr (2, [.ref r1, .ref r2, .ref r3, .ref r4, .ref r5, .int v2_, .int v3_, .int v4_, .int v5_])), (xl, .inr (1, [.ref l1, .ref l2, .ref l3, .int v6_])), (l2, .inl (cI, 64, .inl v7_)), (l3, .inl (cI, 64, .inl v8_)), (l1, .inl (cJ, 8, .inr (.inl v9_)))]
set_option maxHeartbeats 4000000 in
set_option maxRecDepth 100000 in
theorem k_X8_reverses (l : Launch) (D : va_G) (cI cJ cK : ClassId) (x0 : Nat) (xn : Nat) (xl : Nat) (xt : Nat) (xo : Nat) (xf : Nat) (xs : Nat) (xp : Nat) (xq : Nat) (xr : Nat) (xc : Nat) (r1 : Nat) (r2 : Nat) (r3 : Nat) (r4 : Nat) (r5 : Nat) (l1 : Nat) (l2 : Nat) (l3 : Nat) (z : Nat) (nf : Nat → Int32) (rz : Nat) (rv : Nat) (rw : Int32) (rk : Int32) (lz : Nat) (lo : Nat → Int32) (ln : Nat → Int32) (lb : Nat → Int64) (l9 : Int32) (r9 : Int32) (hz_z : z ≤ 64) (hR_nf : RB 0 255 nf) (hz_rz : rz ≤ 64) (hz_rv : rv ≤ 8) (hz_lz : lz ≤ 64) (hR_lo : RB 0 63 lo) (hR_ln : RB 0 63 ln) : ctI l yX8_reverses wsX8_reverses ({ frames := 5, cells := 0, slots := 0, locals := 300 } : Room) D (tyIJ cI cJ cK) [.ref x0, .int l9, .int r9] (wl_k_X8_reverses cI cJ cK x0 xn xl xt xo xf xs xp xq xr xc r1 r2 r3 r4 r5 l1 l2 l3 (nI z) nf (nI rz) (nI rv) rw rk (nI lz) lo ln lb) (fun (r : Int32) (u : va_W) => (u = (wl_k_X8_reverses cI cJ cK x0 xn xl xt xo xf xs xp xq xr xc r1 r2 r3 r4 r5 l1 l2 l3 (nI z) nf (nI rz) (nI rv) rw rk (nI lz) lo ln lb) ∧ r = (-1) ∧ (l9.toInt < 0 ∨ r9.toInt < l9.toInt ∨ z < r9.toInt)) ∨ (∃ (t' : Nat) (nf' : Nat → Int32) (rz' : Nat) (rv' : Nat) (rw' : Int32) (rk' : Int32) (lz' : Nat) (lo' : Nat → Int32) (ln' : Nat → Int32) (lb' : Nat → Int64), u = (wl_k_X8_reverses cI cJ cK x0 xn xl xt xo xf xs xp xq xr xc r1 r2 r3 r4 r5 l1 l2 l3 (nI z) nf' (nI rz') (nI rv') rw' rk' (nI lz') lo' ln' lb') ∧ r = nI t' ∧ RB 0 255 nf' ∧ rz' ≤ 64 ∧ rv' ≤ 8 ∧ lz' ≤ 64 ∧ RB 0 63 lo' ∧ RB 0 63 ln' ∧ (LVL lb' nf' z ∧ lz' = z) ∧ rk' = 0 ∧ t' = fb_sm (fun j => pcn (lb' j ^^^ lb j)) 8 ∧ (∀ j, j < z → nf' j = if l9.toInt.toNat ≤ j ∧ j < r9.toInt.toNat then nf (l9.toInt.toNat + r9.toInt.toNat - 1 - j) else nf j) ∧ 0 ≤ l9.toInt ∧ l9.toInt ≤ r9.toInt ∧ r9.toInt ≤ z)) := by
  refine ctI.of (cc := cX8_reverses) (maxL := 5) (ret := (some .int)) (by decide) rfl (Nat.le_of_ble_eq_true rfl) ?_
  intro p e s m below meth c ls A hx hb hr hts hown hml hlocks hname hA hK hN hP hD hS hl
  have hl : lv_has ls 5 [(0, .ref x0), (1, .int l9), (2, .int r9)] := hl
  have hown : s.vm.findClass RX8 = some m.cls := hown
  refine lv_aload_n hx hb dX8_reverses_0 rfl (lv_at hl 0 rfl) ?_
  refine lv_iload_n hx hb dX8_reverses_1 rfl (lv_at hl 1 rfl) ?_
  refine lv_iload_n hx hb dX8_reverses_2 rfl (lv_at hl 2 rfl) ?_
  refine my_gpI (my_pV (As := [.int l9, .int r9]) (rest := []) (ci := 8) ⟨hx, hb, hml, hown, hts⟩ (cwV 2 hts gX8_reverses_X8_isSpan rfl rfl rfl (by decide +kernel) ⟨Nat.le_of_ble_eq_true rfl, Nat.le_of_ble_eq_true rfl⟩) hN hK hP [0] rfl 0 rfl rfl rfl rfl hl.1 rfl (Nat.le_of_ble_eq_true rfl) dX8_reverses_3 ⟨Nat.le_of_ble_eq_true rfl, Nat.le_of_ble_eq_true rfl⟩  (k_X8_isSpan l D cI cJ cK x0 xn xl xt xo xf xs xp xq xr xc z l9 r9 (by first | assumption | omega | decide +kernel))) (fun r hp => ?_)
  rcases hp with ⟨a_1, b_2, rfl, rfl, rfl, ha_3, hb_4⟩ | ⟨rfl, ho_5⟩
  ·
    refine lv_if_ne (tgt := 11) hx hb dX8_reverses_6 (by decide) (fun c6 => ?_) (fun c6 => ?_)
    ·
      refine lv_iload_n hx hb dX8_reverses_11 rfl (lv_at hl 2 rfl) ?_
      refine lv_iconst (v := 1) hx hb dX8_reverses_12 (by decide +kernel) ?_
      refine lv_isub hx hb dX8_reverses_13 ?_
      refine lv_topi (fun z_6 ez_6 => ?_)
      try have tz_6 : z_6.toInt = ((b_2 : Nat) : Int) - (1 : Int) := by rw [ez_6]; exact my_subI (nI_toInt (by omega)) (by decide +kernel) (by omega) (by omega)
      refine lv_istore_n (lv' := [(3, .int z_6), (0, .ref x0), (1, .int (nI a_1)), (2, .int (nI b_2))]) hx hb dX8_reverses_14 rfl hl (by decide) rfl (fun ls hl => ?_)
      refine lv_iload_n hx hb dX8_reverses_15 rfl (lv_at hl 2 rfl) ?_
      refine lv_istore (lv' := [(4, .int (nI a_1)), (3, .int z_6), (0, .ref x0), (1, .int (nI a_1)), (2, .int (nI b_2))]) hx hb dX8_reverses_16 hl (by decide) rfl (fun ls hl => ?_)
      have loop18 : ∀ (n9 : Nat) (k : Nat) (x : Int32) (xn_18 : Nat → Int32), 64 - k < n9 → (k ≤ 64) → (-1 ≤ x.toInt) → (x.toInt ≤ 63) → (a_1 ≤ k) → (x.toInt + k + 1 = a_1 + b_2) → (2 * k ≤ a_1 + b_2) → (xn_18 = rvs nf a_1 b_2 k) → (RB 0 255 xn_18) → ∀ (H : Heap) (locs : List Loc) (ls : Array Slot), va_P D vwCl (wl_k_X8_reverses cI cJ cK x0 xn xl xt xo xf xs xp xq xr xc r1 r2 r3 r4 r5 l1 l2 l3 (nI z) xn_18 (nI rz) (nI rv) rw rk (nI lz) lo ln lb) H → va_D A (wl_k_X8_reverses cI cJ cK x0 xn xl xt xo xf xs xp xq xr xc r1 r2 r3 r4 r5 l1 l2 l3 (nI z) xn_18 (nI rz) (nI rv) rw rk (nI lz) lo ln lb) → va_S A s.heap H locs → lv_has ls 5 [(4, .int (nI k)), (3, .int x), (0, .ref x0), (1, .int (nI a_1)), (2, .int (nI b_2))] → W p l e ({ frames := 5, cells := 0, slots := 0, locals := 300 } : Room) s m [.ref x0, .int (nI a_1), .int (nI b_2)].toArray below meth c H locs 0 0 (MQ below (va_Qi (fun (r : Int32) (u : va_W) => (u = (wl_k_X8_reverses cI cJ cK x0 xn xl xt xo xf xs xp xq xr xc r1 r2 r3 r4 r5 l1 l2 l3 (nI z) nf (nI rz) (nI rv) rw rk (nI lz) lo ln lb) ∧ r = (-1) ∧ ((nI a_1).toInt < 0 ∨ (nI b_2).toInt < (nI a_1).toInt ∨ z < (nI b_2).toInt)) ∨ (∃ (t' : Nat) (nf' : Nat → Int32) (rz' : Nat) (rv' : Nat) (rw' : Int32) (rk' : Int32) (lz' : Nat) (lo' : Nat → Int32) (ln' : Nat → Int32) (lb' : Nat → Int64), u = (wl_k_X8_reverses cI cJ cK x0 xn xl xt xo xf xs xp xq xr xc r1 r2 r3 r4 r5 l1 l2 l3 (nI z) nf' (nI rz') (nI rv') rw' rk' (nI lz') lo' ln' lb') ∧ r = nI t' ∧ RB 0 255 nf' ∧ rz' ≤ 64 ∧ rv' ≤ 8 ∧ lz' ≤ 64 ∧ RB 0 63 lo' ∧ RB 0 63 ln' ∧ (LVL lb' nf' z ∧ lz' = z) ∧ rk' = 0 ∧ t' = fb_sm (fun j => pcn (lb' j ^^^ lb j)) 8 ∧ (∀ j, j < z → nf' j = if (nI a_1).toInt.toNat ≤ j ∧ j < (nI b_2).toInt.toNat then nf ((nI a_1).toInt.toNat + (nI b_2).toInt.toNat - 1 - j) else nf j) ∧ 0 ≤ (nI a_1).toInt ∧ (nI a_1).toInt ≤ (nI b_2).toInt ∧ (nI b_2).toInt ≤ z)) (my_B D (tyIJ cI cJ cK) A) A) [.ref x0, .int (nI a_1), .int (nI b_2)].toArray s 0 0 A) (F0 m 18 ls []) := by
        intro n9
        induction n9 with
        | zero =>
          intro k x xn_18 hn9
          exact absurd hn9 (Nat.not_lt_zero _)
        | succ n9 ih18 =>
          intro k x xn_18 hn9 hk_k hx0 hx1 hak hxk hkx hrv hR_xn_18 H locs ls hP hD hS hl
          refine lv_iload hx hb dX8_reverses_18 (lv_at hl 0 rfl) ?_
          refine lv_iload_n hx hb dX8_reverses_20 rfl (lv_at hl 1 rfl) ?_
          refine lv_icmp_ge (tgt := 40) hx hb dX8_reverses_21 (by decide) (fun c21 => ?_) (fun c21 => ?_)
          ·
            have d21 : ((k : Nat) : Int) ≥ x.toInt := my_ge c21 (nI_toInt (by omega)) rfl
            refine lv_aload_n hx hb dX8_reverses_40 rfl (lv_at hl 2 rfl) ?_
            refine my_goIS (wc := (wl_k_X8_settle cI cJ cK x0 xn xl xt xo xf xs xp xq xr xc r1 r2 r3 r4 r5 l1 l2 l3 (nI z) xn_18 (nI rz) (nI rv) rw rk (nI lz) lo ln lb)) hP hD hS hA [0, 1, 2, 3, 4, 5, 6] rfl [some 0, some 1, some 2, some 3, some 4, some 5, some 6] (by decide +kernel) (my_cV (As := []) (rest := []) (ci := 8) (wc := (wl_k_X8_settle cI cJ cK x0 xn xl xt xo xf xs xp xq xr xc r1 r2 r3 r4 r5 l1 l2 l3 (nI z) xn_18 (nI rz) (nI rv) rw rk (nI lz) lo ln lb)) ⟨hx, hb, hml, hown, hts⟩ (cwV 0 hts gX8_reverses_X8_settle rfl rfl rfl (by decide +kernel) ⟨Nat.le_of_ble_eq_true rfl, Nat.le_of_ble_eq_true rfl⟩) hN hK hP hD [0, 1, 2, 3, 4, 5, 6] rfl (by decide) rfl 0 rfl rfl rfl rfl hl.1 rfl (Nat.le_of_ble_eq_true rfl) dX8_reverses_41 ⟨Nat.le_of_ble_eq_true rfl, Nat.le_of_ble_eq_true rfl⟩  ((k_X8_settle l D cI cJ cK x0 xn xl xt xo xf xs xp xq xr xc r1 r2 r3 r4 r5 l1 l2 l3 z xn_18 rz rv rw rk lz lo ln lb (by first | assumption | omega | decide +kernel) hR_xn_18 (by first | assumption | omega | decide +kernel) (by first | assumption | omega | decide +kernel) (by first | assumption | omega | decide +kernel) hR_lo hR_ln) _)) (fun r u H locs hp hPD hS => ?_)
            obtain ⟨t_7, rz_8, rv_9, rw_10, rk_11, lz_12, lo_13, ln_14, lb_15, rfl, rfl, hhz_rz_16, hhz_rv_17, hhz_lz_18, hR_lo_13, hR_ln_14, hlv, hlz, hch, hrk, hb9_19⟩ := hp
            obtain ⟨hP, hD⟩ := hPD rfl
            have hP : va_P D vwCl (wl_k_X8_reverses cI cJ cK x0 xn xl xt xo xf xs xp xq xr xc r1 r2 r3 r4 r5 l1 l2 l3 (nI z) xn_18 (nI rz_8) (nI rv_9) rw_10 rk_11 (nI lz_12) lo_13 ln_14 lb_15) H := hP
            have hD : va_D A (wl_k_X8_reverses cI cJ cK x0 xn xl xt xo xf xs xp xq xr xc r1 r2 r3 r4 r5 l1 l2 l3 (nI z) xn_18 (nI rz_8) (nI rv_9) rw_10 rk_11 (nI lz_12) lo_13 ln_14 lb_15) := hD
            exact my_retI hx hb hr hlocks hK hS (wl_k_X8_reverses cI cJ cK x0 xn xl xt xo xf xs xp xq xr xc r1 r2 r3 r4 r5 l1 l2 l3 (nI z) xn_18 (nI rz_8) (nI rv_9) rw_10 rk_11 (nI lz_12) lo_13 ln_14 lb_15) hP hD (Or.inr (⟨t_7, xn_18, rz_8, rv_9, rw_10, rk_11, lz_12, lo_13, ln_14, lb_15, rfl, rfl, hR_xn_18, (by first | assumption | omega | trivial | decide +kernel), (by first | assumption | omega | trivial | decide +kernel), (by first | assumption | omega | trivial | decide +kernel), hR_lo_13, hR_ln_14, ⟨hlv, by omega⟩, (by first | assumption | omega | trivial | decide +kernel), hch, (by rw [nIt (by omega), nIt (by omega)]; exact rvs_end hrv (by omega) (by omega) (by omega) (by omega)), (by rw [nI_toInt (by omega)]; omega), (by rw [nI_toInt (by omega), nI_toInt (by omega)]; omega), (by rw [nI_toInt (by omega)]; omega)⟩)) dX8_reverses_44
          ·
            have d21 : ((k : Nat) : Int) < x.toInt := my_nge c21 (nI_toInt (by omega)) rfl
            refine lv_aload_n hx hb dX8_reverses_24 rfl (lv_at hl 2 rfl) ?_
            refine lv_iload hx hb dX8_reverses_25 (lv_at hl 0 rfl) ?_
            refine lv_iload_n hx hb dX8_reverses_27 rfl (lv_at hl 1 rfl) ?_
            refine my_goVS (wc := (wl_k_X8_exchange cI cJ cK x0 xn xl xt xo xf xs xp xq xr xc (nI z) xn_18)) hP hD hS hA [0, 1] rfl [some 0, some 1] (by decide +kernel) (my_cV (As := [.int (nI k), .int x]) (rest := []) (ci := 8) (wc := (wl_k_X8_exchange cI cJ cK x0 xn xl xt xo xf xs xp xq xr xc (nI z) xn_18)) ⟨hx, hb, hml, hown, hts⟩ (cwV 2 hts gX8_reverses_X8_exchange rfl rfl rfl (by decide +kernel) ⟨Nat.le_of_ble_eq_true rfl, Nat.le_of_ble_eq_true rfl⟩) hN hK hP hD [0, 1] rfl (by decide) rfl 0 rfl rfl rfl rfl hl.1 rfl (Nat.le_of_ble_eq_true rfl) dX8_reverses_28 ⟨Nat.le_of_ble_eq_true rfl, Nat.le_of_ble_eq_true rfl⟩  ((k_X8_exchange l D cI cJ cK x0 xn xl xt xo xf xs xp xq xr xc z xn_18 (nI k) ((k : Nat) : Int) (nI_toInt (by omega)) x x.toInt rfl (by first | assumption | omega | decide +kernel) hR_xn_18 (by first | assumption | omega | decide +kernel) (by first | assumption | omega | decide +kernel) (by first | assumption | omega | decide +kernel) (by first | assumption | omega | decide +kernel)) _)) (fun u H locs hp hPD hS => ?_)
            obtain ⟨nf_20, rfl, hR_nf_20, hxc⟩ := hp
            obtain ⟨hP, hD⟩ := hPD rfl
            have hP : va_P D vwCl (wl_k_X8_reverses cI cJ cK x0 xn xl xt xo xf xs xp xq xr xc r1 r2 r3 r4 r5 l1 l2 l3 (nI z) nf_20 (nI rz) (nI rv) rw rk (nI lz) lo ln lb) H := hP
            have hD : va_D A (wl_k_X8_reverses cI cJ cK x0 xn xl xt xo xf xs xp xq xr xc r1 r2 r3 r4 r5 l1 l2 l3 (nI z) nf_20 (nI rz) (nI rv) rw rk (nI lz) lo ln lb) := hD
            obtain ⟨z_21, ez_21⟩ : ∃ y : Int32, y = x + (-1) := ⟨_, rfl⟩
            try have tz_21 : z_21.toInt = x.toInt + (-1) := by rw [ez_21]; exact my_addI rfl (by decide +kernel) (by omega) (by omega)
            refine lv_iinc (v := z_21) (lv' := [(3, .int z_21), (4, .int (nI k)), (0, .ref x0), (1, .int (nI a_1)), (2, .int (nI b_2))]) hx hb dX8_reverses_31 hl (k := 1) rfl (by rw [ez_21]; rfl) (by decide) rfl (fun ls hl => ?_)
            refine lv_iinc (v := nI (k + 1)) (lv' := [(4, .int (nI (k + 1))), (3, .int z_21), (0, .ref x0), (1, .int (nI a_1)), (2, .int (nI b_2))]) hx hb dX8_reverses_34 hl (k := 1) rfl (my_incN k 1 (by decide +kernel)) (by decide) rfl (fun ls hl => ?_)
            refine lv_goto (tgt := 18) hx hb dX8_reverses_37 (by decide) ?_
            exact ih18  (k + 1) z_21 nf_20 (by omega) (by first | assumption | omega | decide +kernel) (by first | assumption | omega | decide +kernel) (by first | assumption | omega | decide +kernel) (by first | assumption | omega | decide +kernel) (by first | assumption | omega | decide +kernel) (by first | assumption | omega | decide +kernel) (rvs_step hrv (by omega) (show x.toInt.toNat + k + 1 = _ by omega) (by omega) hxc) hR_nf_20 _ _ ls hP hD hS (lv_sub hl [0, 1, 2, 3, 4] rfl)
      exact loop18 ((64 - a_1) + 1) a_1 z_6 nf (Nat.lt_succ_self _) (by first | assumption | omega | decide +kernel) (by first | assumption | omega | decide +kernel) (by first | assumption | omega | decide +kernel) (by first | assumption | omega | decide +kernel) (by first | assumption | omega | decide +kernel) (by first | assumption | omega | decide +kernel) ((rvs_0 _ _ _).symm) hR_nf _ _ ls hP hD hS (lv_sub hl [0, 1, 2, 3, 4] rfl)
    ·
      exact absurd c6 (by decide +kernel)
  ·
    refine lv_if_ne (tgt := 11) hx hb dX8_reverses_6 (by decide) (fun c6 => ?_) (fun c6 => ?_)
    ·
      exact absurd c6 (by decide +kernel)
    ·
      refine lv_iconst (v := (-1)) hx hb dX8_reverses_9 (by decide +kernel) ?_
      exact my_retI hx hb hr hlocks hK hS (wl_k_X8_reverses cI cJ cK x0 xn xl xt xo xf xs xp xq xr xc r1 r2 r3 r4 r5 l1 l2 l3 (nI z) nf (nI rz) (nI rv) rw rk (nI lz) lo ln lb) hP hD (Or.inl ⟨rfl, rfl, (by first | assumption | omega | trivial | decide +kernel)⟩) dX8_reverses_10
abbrev wl_k_X8_sign (cI cJ cK : ClassId) (x0 : Nat) (xn : Nat) (xl : Nat) (xt : Nat) (xo : Nat) (xf : Nat) (xs : Nat) (xp : Nat) (xq : Nat) (xr : Nat) (xc : Nat) (t1 : Nat) (v0_ : Int32) (v1_ : Int32) (v2_ : Nat → Int32) : va_W := [(x0, .inr (8, [.ref xn, .int v0_, .ref xl, .ref xt, .ref xo, .ref xf, .ref xs, .ref xp, .ref xq, .ref xr, .ref xc])), (xt, .inr (5, [.ref t1, .int v1_])), (t1, .inl (cI, 100, .inl v2_))]
set_option maxHeartbeats 4000000 in
set_option maxRecDepth 100000 in
theorem k_X8_sign (l : Launch) (D : va_G) (cI cJ cK : ClassId) (x0 : Nat) (xn : Nat) (xl : Nat) (xt : Nat) (xo : Nat) (xf : Nat) (xs : Nat) (xp : Nat) (xq : Nat) (xr : Nat) (xc : Nat) (t1 : Nat) (z : Nat) (tz : Nat) (tf : Nat → Int32) (v9 : Int32) (hz_z : z ≤ 64) (hz_tz : tz ≤ 100) (hR_tf : RB 0 255 tf) : ctI l yX8_sign wsX8_sign ({ frames := 1, cells := 0, slots := 0, locals := 60 } : Room) D (tyIJ cI cJ cK) [.ref x0, .int v9] (wl_k_X8_sign cI cJ cK x0 xn xl xt xo xf xs xp xq xr xc t1 (nI z) (nI tz) tf) (fun (r : Int32) (u : va_W) => (∃ (tz' : Nat) (tf' : Nat → Int32), u = (wl_k_X8_sign cI cJ cK x0 xn xl xt xo xf xs xp xq xr xc t1 (nI z) (nI tz') tf') ∧ r = nI tz' ∧ tz' ≤ 100 ∧ RB 0 255 tf' ∧ tz' = tz + 4 ∧ tf' = w4 tf tz (sgC v9 24) (sgC v9 16) (sgC v9 8) (sgC v9 0)) ∨ (u = (wl_k_X8_sign cI cJ cK x0 xn xl xt xo xf xs xp xq xr xc t1 (nI z) (nI tz) tf) ∧ r = (-1) ∧ 96 < tz)) := by
  refine ctI.of (cc := cX8_sign) (maxL := 2) (ret := (some .int)) (by decide) rfl (Nat.le_of_ble_eq_true rfl) ?_
  intro p e s m below meth c ls A hx hb hr hts hown hml hlocks hname hA hK hN hP hD hS hl
  have hl : lv_has ls 2 [(0, .ref x0), (1, .int v9)] := hl
  have hown : s.vm.findClass RX8 = some m.cls := hown
  have hi5 : ∀ w ∈ u_ws RX5 TX5 2, w ∈ wsX8_sign := by decide +kernel
  have hi8 : ∀ w ∈ u_ws RX8 TX8 11, w ∈ wsX8_sign := by decide +kernel
  have fl27 := hts (.fieldLink RX8 27 "PlaneColumn" "text" "LPlaneColumn$Signs;") (by decide +kernel)
  refine lv_aload_n hx hb dX8_sign_0 rfl (lv_at hl 0 rfl) ?_
  refine va_get (ci := 8) (v := .ref xt) (C := RX8) (T := TX8) (N := 11) hx hb hts hi8 hown hK hP 0 rfl rfl 3 (by decide) fl27 (fun _ h9 => h9) rfl dX8_sign_1 ?_
  refine lv_iload_n hx hb dX8_sign_4 rfl (lv_at hl 1 rfl) ?_
  refine my_goIS (wc := (wl_k_X5_add cI cJ cK xt t1 (nI tz) tf)) hP hD hS hA [1, 2] rfl [none, some 0, some 1] (by decide +kernel) (my_cV (As := [.int v9]) (rest := []) (ci := 5) (wc := (wl_k_X5_add cI cJ cK xt t1 (nI tz) tf)) ⟨hx, hb, hml, hown, hts⟩ (cwV 1 hts gX8_sign_X5_add rfl rfl rfl (by decide +kernel) ⟨Nat.le_of_ble_eq_true rfl, Nat.le_of_ble_eq_true rfl⟩) hN hK hP hD [1, 2] rfl (by decide) rfl 1 rfl rfl rfl rfl hl.1 rfl (Nat.le_of_ble_eq_true rfl) dX8_sign_5 ⟨Nat.le_of_ble_eq_true rfl, Nat.le_of_ble_eq_true rfl⟩  ((k_X5_add l D cI cJ cK xt t1 tz tf v9 (by first | assumption | omega | decide +kernel) hR_tf) _)) (fun r u H locs hp hPD hS => ?_)
  rcases hp with ⟨tz_1, tf_2, rfl, rfl, hhz_tz_3, hR_tf_2, ha_4, hw4⟩ | ⟨rfl, rfl, ha_5⟩
  ·
    obtain ⟨hP, hD⟩ := hPD rfl
    have hP : va_P D vwCl (wl_k_X8_sign cI cJ cK x0 xn xl xt xo xf xs xp xq xr xc t1 (nI z) (nI tz_1) tf_2) H := hP
    have hD : va_D A (wl_k_X8_sign cI cJ cK x0 xn xl xt xo xf xs xp xq xr xc t1 (nI z) (nI tz_1) tf_2) := hD
    refine lv_if_eq (tgt := 21) hx hb dX8_sign_8 (by decide) (fun c8 => ?_) (fun c8 => ?_)
    ·
      exact absurd c8 (by decide +kernel)
    ·
      refine lv_aload_n hx hb dX8_sign_11 rfl (lv_at hl 0 rfl) ?_
      refine va_get (ci := 8) (v := .ref xt) (C := RX8) (T := TX8) (N := 11) hx hb hts hi8 hown hK hP 0 rfl rfl 3 (by decide) fl27 (fun _ h9 => h9) rfl dX8_sign_12 ?_
      refine va_getN (ci := 5) (v := .int (nI tz_1)) (C := RX5) (T := TX5) (N := 2) hx hb hts hi5 hown hK hP 1 rfl rfl 1 (by decide) (nw_f_RX8_129 hN) (fun _ h9 => h9) rfl dX8_sign_15 ?_
      refine lv_goto (tgt := 22) hx hb dX8_sign_18 (by decide) ?_
      exact my_retI hx hb hr hlocks hK hS (wl_k_X8_sign cI cJ cK x0 xn xl xt xo xf xs xp xq xr xc t1 (nI z) (nI tz_1) tf_2) hP hD (Or.inl ⟨tz_1, tf_2, rfl, rfl, (by first | assumption | omega | trivial | decide +kernel), hR_tf_2, (by first | assumption | omega | trivial | decide +kernel), hw4⟩) dX8_sign_22
  ·
    obtain ⟨hP, hD⟩ := hPD rfl
    have hP : va_P D vwCl (wl_k_X8_sign cI cJ cK x0 xn xl xt xo xf xs xp xq xr xc t1 (nI z) (nI tz) tf) H := hP
    have hD : va_D A (wl_k_X8_sign cI cJ cK x0 xn xl xt xo xf xs xp xq xr xc t1 (nI z) (nI tz) tf) := hD
    refine lv_if_eq (tgt := 21) hx hb dX8_sign_8 (by decide) (fun c8 => ?_) (fun c8 => ?_)
    ·
      refine lv_iconst (v := (-1)) hx hb dX8_sign_21 (by decide +kernel) ?_
      exact my_retI hx hb hr hlocks hK hS (wl_k_X8_sign cI cJ cK x0 xn xl xt xo xf xs xp xq xr xc t1 (nI z) (nI tz) tf) hP hD (Or.inr (⟨rfl, rfl, (by first | assumption | omega | trivial | decide +kernel)⟩)) dX8_sign_22
    ·
      exact absurd c8 (by decide +kernel)
abbrev wl_k_X8_end (cI cJ cK : ClassId) (x0 : Nat) (xn : Nat) (xl : Nat) (xt : Nat) (xo : Nat) (xf : Nat) (xs : Nat) (xp : Nat) (xq : Nat) (xr : Nat) (xc : Nat) (t1 : Nat) (v0_ : Int32) (v1_ : Int32) : va_W := [(x0, .inr (8, [.ref xn, .int v0_, .ref xl, .ref xt, .ref xo, .ref xf, .ref xs, .ref xp, .ref xq, .ref xr, .ref xc])), (xt, .inr (5, [.ref t1, .int v1_]))]
set_option maxHeartbeats 4000000 in
set_option maxRecDepth 100000 in
theorem k_X8_end (l : Launch) (D : va_G) (cI cJ cK : ClassId) (x0 : Nat) (xn : Nat) (xl : Nat) (xt : Nat) (xo : Nat) (xf : Nat) (xs : Nat) (xp : Nat) (xq : Nat) (xr : Nat) (xc : Nat) (t1 : Nat) (z : Nat) (tz : Nat) (u8 : Int32) (hz_z : z ≤ 64) (hz_tz : tz ≤ 100) : ctI l yX8_end wsX8_end ({ frames := 1, cells := 0, slots := 0, locals := 60 } : Room) D (tyIJ cI cJ cK) [.ref x0, .int u8] (wl_k_X8_end cI cJ cK x0 xn xl xt xo xf xs xp xq xr xc t1 (nI z) (nI tz)) (fun (r : Int32) (u : va_W) => (∃ (tz' : Nat), u = (wl_k_X8_end cI cJ cK x0 xn xl xt xo xf xs xp xq xr xc t1 (nI z) (nI tz')) ∧ r = 1 ∧ tz' ≤ 100 ∧ (tz' : Int) = u8.toInt ∧ u8.toInt ≤ tz) ∨ (u = (wl_k_X8_end cI cJ cK x0 xn xl xt xo xf xs xp xq xr xc t1 (nI z) (nI tz)) ∧ r = 0 ∧ (u8.toInt < 0 ∨ tz < u8.toInt))) := by
  refine ctI.of (cc := cX8_end) (maxL := 2) (ret := (some .boolean)) (by decide) rfl (Nat.le_of_ble_eq_true rfl) ?_
  intro p e s m below meth c ls A hx hb hr hts hown hml hlocks hname hA hK hN hP hD hS hl
  have hl : lv_has ls 2 [(0, .ref x0), (1, .int u8)] := hl
  have hown : s.vm.findClass RX8 = some m.cls := hown
  have hi8 : ∀ w ∈ u_ws RX8 TX8 11, w ∈ wsX8_end := by decide +kernel
  have fl27 := hts (.fieldLink RX8 27 "PlaneColumn" "text" "LPlaneColumn$Signs;") (by decide +kernel)
  refine lv_aload_n hx hb dX8_end_0 rfl (lv_at hl 0 rfl) ?_
  refine va_get (ci := 8) (v := .ref xt) (C := RX8) (T := TX8) (N := 11) hx hb hts hi8 hown hK hP 0 rfl rfl 3 (by decide) fl27 (fun _ h9 => h9) rfl dX8_end_1 ?_
  refine lv_iload_n hx hb dX8_end_4 rfl (lv_at hl 1 rfl) ?_
  refine my_goIS (wc := (wl_k_X5_keep cI cJ cK xt t1 (nI tz))) hP hD hS hA [1] rfl [none, some 0] (by decide +kernel) (my_cV (As := [.int u8]) (rest := []) (ci := 5) (wc := (wl_k_X5_keep cI cJ cK xt t1 (nI tz))) ⟨hx, hb, hml, hown, hts⟩ (cwV 1 hts gX8_end_X5_keep rfl rfl rfl (by decide +kernel) ⟨Nat.le_of_ble_eq_true rfl, Nat.le_of_ble_eq_true rfl⟩) hN hK hP hD [1] rfl (by decide) rfl 1 rfl rfl rfl rfl hl.1 rfl (Nat.le_of_ble_eq_true rfl) dX8_end_5 ⟨Nat.le_of_ble_eq_true rfl, Nat.le_of_ble_eq_true rfl⟩  ((k_X5_keep l D cI cJ cK xt t1 tz u8 u8.toInt rfl (by first | assumption | omega | decide +kernel)) _)) (fun r u H locs hp hPD hS => ?_)
  rcases hp with ⟨tz_1, rfl, rfl, hhz_tz_2, ha_3, hb_4⟩ | ⟨rfl, rfl, ho_5⟩
  ·
    obtain ⟨hP, hD⟩ := hPD rfl
    have hP : va_P D vwCl (wl_k_X8_end cI cJ cK x0 xn xl xt xo xf xs xp xq xr xc t1 (nI z) (nI tz_1)) H := hP
    have hD : va_D A (wl_k_X8_end cI cJ cK x0 xn xl xt xo xf xs xp xq xr xc t1 (nI z) (nI tz_1)) := hD
    exact my_retZ hx hb hr hlocks (by decide +kernel) hK hS (wl_k_X8_end cI cJ cK x0 xn xl xt xo xf xs xp xq xr xc t1 (nI z) (nI tz_1)) hP hD (Or.inl ⟨tz_1, rfl, rfl, (by first | assumption | omega | trivial | decide +kernel), (by first | assumption | omega | trivial | decide +kernel), (by first | assumption | omega | trivial | decide +kernel)⟩) dX8_end_8
  ·
    obtain ⟨hP, hD⟩ := hPD rfl
    have hP : va_P D vwCl (wl_k_X8_end cI cJ cK x0 xn xl xt xo xf xs xp xq xr xc t1 (nI z) (nI tz)) H := hP
    have hD : va_D A (wl_k_X8_end cI cJ cK x0 xn xl xt xo xf xs xp xq xr xc t1 (nI z) (nI tz)) := hD
    exact my_retZ hx hb hr hlocks (by decide +kernel) hK hS (wl_k_X8_end cI cJ cK x0 xn xl xt xo xf xs xp xq xr xc t1 (nI z) (nI tz)) hP hD (Or.inr (⟨rfl, rfl, (by first | assumption | omega | trivial | decide +kernel)⟩)) dX8_end_8
abbrev wl_k_X8_level (cI cJ cK : ClassId) (x0 : Nat) (xn : Nat) (xl : Nat) (xt : Nat) (xo : Nat) (xf : Nat) (xs : Nat) (xp : Nat) (xq : Nat) (xr : Nat) (xc : Nat) (l1 : Nat) (l2 : Nat) (l3 : Nat) (o1 : Nat) (v0_ : Int32) (v1_ : Int32) (v2_ : Nat → Int64) (v3_ : Int32) (v4_ : Nat → Int64) : va_W := [(x0, .inr (8, [.ref xn, .int v0_, .ref xl, .ref xt, .ref xo, .ref xf, .ref xs, .ref xp, .ref xq, .ref xr, .ref xc])), (xl, .inr (1, [.ref l1, .ref l2, .ref l3, .int v1_])), (l1, .inl (cJ, 8, .inr (.inl v2_))), (xo, .inr (7, [.ref o1, .int v3_])), (o1, .inl (cJ, 64, .inr (.inl v4_)))]
set_option maxHeartbeats 4000000 in
set_option maxRecDepth 100000 in
theorem k_X8_level (l : Launch) (D : va_G) (cI cJ cK : ClassId) (x0 : Nat) (xn : Nat) (xl : Nat) (xt : Nat) (xo : Nat) (xf : Nat) (xs : Nat) (xp : Nat) (xq : Nat) (xr : Nat) (xc : Nat) (l1 : Nat) (l2 : Nat) (l3 : Nat) (o1 : Nat) (z : Nat) (lz : Nat) (lb : Nat → Int64) (oz : Nat) (of : Nat → Int64) (j9 : Int32) (hz_z : z ≤ 64) (hz_lz : lz ≤ 64) (hz_oz : oz ≤ 64) : ctI l yX8_level wsX8_level ({ frames := 2, cells := 0, slots := 0, locals := 120 } : Room) D (tyIJ cI cJ cK) [.ref x0, .int j9] (wl_k_X8_level cI cJ cK x0 xn xl xt xo xf xs xp xq xr xc l1 l2 l3 o1 (nI z) (nI lz) lb (nI oz) of) (fun (r : Int32) (u : va_W) => (u = (wl_k_X8_level cI cJ cK x0 xn xl xt xo xf xs xp xq xr xc l1 l2 l3 o1 (nI z) (nI lz) lb (nI oz) of) ∧ r = (-1) ∧ (j9.toInt < 0 ∨ 7 < j9.toInt)) ∨ (∃ (oz' : Nat) (of' : Nat → Int64), u = (wl_k_X8_level cI cJ cK x0 xn xl xt xo xf xs xp xq xr xc l1 l2 l3 o1 (nI z) (nI lz) lb (nI oz') of') ∧ oz' ≤ 64 ∧ 0 ≤ j9.toInt ∧ j9.toInt ≤ 7 ∧ r.toInt = (z : Int) - ((pcn (lb j9.toInt.toNat) : Nat) : Int) ∧ True ∧ oz' = 2)) := by
  refine ctI.of (cc := cX8_level) (maxL := 4) (ret := (some .int)) (by decide) rfl (Nat.le_of_ble_eq_true rfl) ?_
  intro p e s m below meth c ls A hx hb hr hts hown hml hlocks hname hA hK hN hP hD hS hl
  have hl : lv_has ls 4 [(0, .ref x0), (1, .int j9)] := hl
  have hown : s.vm.findClass RX8 = some m.cls := hown
  have hi1 : ∀ w ∈ u_ws RX1 TX1 4, w ∈ wsX8_level := by decide +kernel
  have hi8 : ∀ w ∈ u_ws RX8 TX8 11, w ∈ wsX8_level := by decide +kernel
  have fl13 := hts (.fieldLink RX8 13 "PlaneColumn" "size" "I") (by decide +kernel)
  have fl20 := hts (.fieldLink RX8 20 "PlaneColumn" "levels" "LPlaneColumn$Levels;") (by decide +kernel)
  refine lv_iload_n hx hb dX8_level_0 rfl (lv_at hl 1 rfl) ?_
  refine lv_if_lt (tgt := 10) hx hb dX8_level_1 (by decide) (fun c1 => ?_) (fun c1 => ?_)
  ·
    have d1 : j9.toInt < (0 : Int) := my_lt c1 rfl (by decide +kernel)
    refine lv_iconst (v := (-1)) hx hb dX8_level_10 (by decide +kernel) ?_
    have ec_1 : ((-1) : Int32).toInt = -1 := by decide +kernel
    exact my_retI hx hb hr hlocks hK hS (wl_k_X8_level cI cJ cK x0 xn xl xt xo xf xs xp xq xr xc l1 l2 l3 o1 (nI z) (nI lz) lb (nI oz) of) hP hD (Or.inl ⟨rfl, rfl, (by first | assumption | omega | trivial | decide +kernel)⟩) dX8_level_11
  ·
    have d1 : j9.toInt ≥ (0 : Int) := my_nlt c1 rfl (by decide +kernel)
    refine lv_iload_n hx hb dX8_level_4 rfl (lv_at hl 1 rfl) ?_
    refine lv_bipush (v := 8) hx hb dX8_level_5 (by decide +kernel) ?_
    refine lv_icmp_lt (tgt := 12) hx hb dX8_level_7 (by decide) (fun c7 => ?_) (fun c7 => ?_)
    ·
      have d7 : j9.toInt < (8 : Int) := my_lt c7 rfl (by decide +kernel)
      obtain ⟨w_2, rfl, hw_2⟩ := my_natP (x := j9) (by omega)
      have hlw_2 : w_2 < 2147483648 := by have h9 := Int32.toInt_lt (nI w_2); omega
      refine lv_aload_n hx hb dX8_level_12 rfl (lv_at hl 0 rfl) ?_
      refine va_get (ci := 8) (v := .ref xl) (C := RX8) (T := TX8) (N := 11) hx hb hts hi8 hown hK hP 0 rfl rfl 2 (by decide) fl20 (fun _ h9 => h9) rfl dX8_level_13 ?_
      refine va_getN (ci := 1) (v := .ref l1) (C := RX1) (T := TX1) (N := 4) hx hb hts hi1 hown hK hP 1 rfl rfl 0 (by decide) (nw_f_RX8_130 hN) (fun _ h9 => h9) rfl dX8_level_16 ?_
      refine lv_iload_n hx hb dX8_level_19 rfl (lv_at hl 1 rfl) ?_
      refine va_lald hx hb hK hP 2 1 rfl rfl (vp_in_nI (by omega) (by omega)) dX8_level_20 ?_
      refine my_eql (y := lb w_2) (congrArg lb (nI_clamp (by omega))) ?_
      refine lv_lstore_n (lv' := [(2, .long (lb w_2)), (0, .ref x0), (1, .int (nI w_2))]) hx hb dX8_level_21 rfl hl (by decide) rfl (fun ls hl => ?_)
      refine lv_aload_n hx hb dX8_level_22 rfl (lv_at hl 1 rfl) ?_
      refine lv_lload_n hx hb dX8_level_23 rfl (lv_at hl 0 rfl) ?_
      refine lv_lload_n hx hb dX8_level_24 rfl (lv_at hl 0 rfl) ?_
      refine lv_aload_n hx hb dX8_level_25 rfl (lv_at hl 1 rfl) ?_
      refine va_get (ci := 8) (v := .int (nI z)) (C := RX8) (T := TX8) (N := 11) hx hb hts hi8 hown hK hP 0 rfl rfl 1 (by decide) fl13 (fun _ h9 => h9) rfl dX8_level_26 ?_
      refine my_gpI (my_pS (As := [.long (lb w_2), .int (nI z)]) (rest := [.long (lb w_2), .ref x0]) ⟨hx, hb, hml, hown, hts⟩ (va_cwS 2 hts gX8_level_X8_runsOf rfl rfl rfl (by decide +kernel) ⟨Nat.le_of_ble_eq_true rfl, Nat.le_of_ble_eq_true rfl⟩) hN hK hP [] rfl rfl hl.1 rfl (Nat.le_of_ble_eq_true rfl) dX8_level_29 ⟨Nat.le_of_ble_eq_true rfl, Nat.le_of_ble_eq_true rfl⟩  (k_X8_runsOf l D cI cJ cK (lb w_2) (nI z))) (fun r hp => ?_)
      obtain _ := hp
      obtain ⟨r_4, rfl⟩ : ∃ z, z = r := ⟨_, rfl⟩
      refine lv_i2l (v := r_4.toInt64) hx hb dX8_level_32 rfl ?_
      refine my_goVS (wc := (wl_k_X8_tell_ cI cJ cK x0 xn xl xt xo xf xs xp xq xr xc o1 (nI z) (nI oz) of)) hP hD hS hA [0, 3, 4] rfl [some 0, none, none, some 1, some 2] (by decide +kernel) (my_cV (As := [.long (lb w_2), .long r_4.toInt64]) (rest := []) (ci := 8) (wc := (wl_k_X8_tell_ cI cJ cK x0 xn xl xt xo xf xs xp xq xr xc o1 (nI z) (nI oz) of)) ⟨hx, hb, hml, hown, hts⟩ (cwV 2 hts gX8_level_X8_tell_ rfl rfl rfl (by decide +kernel) ⟨Nat.le_of_ble_eq_true rfl, Nat.le_of_ble_eq_true rfl⟩) hN hK hP hD [0, 3, 4] rfl (by decide) rfl 0 rfl rfl rfl rfl hl.1 rfl (Nat.le_of_ble_eq_true rfl) dX8_level_33 ⟨Nat.le_of_ble_eq_true rfl, Nat.le_of_ble_eq_true rfl⟩  ((k_X8_tell_ l D cI cJ cK x0 xn xl xt xo xf xs xp xq xr xc o1 z oz of (lb w_2) r_4.toInt64 (by first | assumption | omega | decide +kernel) (by first | assumption | omega | decide +kernel)) _)) (fun u H locs hp hPD hS => ?_)
      obtain ⟨of_5, rfl, hv0, hv1⟩ := hp
      obtain ⟨hP, hD⟩ := hPD rfl
      have hP : va_P D vwCl (wl_k_X8_level cI cJ cK x0 xn xl xt xo xf xs xp xq xr xc l1 l2 l3 o1 (nI z) (nI lz) lb 2 of_5) H := hP
      have hD : va_D A (wl_k_X8_level cI cJ cK x0 xn xl xt xo xf xs xp xq xr xc l1 l2 l3 o1 (nI z) (nI lz) lb 2 of_5) := hD
      refine lv_aload_n hx hb dX8_level_36 rfl (lv_at hl 1 rfl) ?_
      refine va_get (ci := 8) (v := .int (nI z)) (C := RX8) (T := TX8) (N := 11) hx hb hts hi8 hown hK hP 0 rfl rfl 1 (by decide) fl13 (fun _ h9 => h9) rfl dX8_level_37 ?_
      refine lv_lload_n hx hb dX8_level_40 rfl (lv_at hl 0 rfl) ?_
      refine my_gpI (my_pS (As := [.long (lb w_2)]) (rest := [.int (nI z)]) ⟨hx, hb, hml, hown, hts⟩ (va_cwS 1 hts gX8_level_J13_bitCount_95d88 rfl rfl rfl (by decide +kernel) ⟨Nat.le_of_ble_eq_true rfl, Nat.le_of_ble_eq_true rfl⟩) hN hK hP [] rfl rfl hl.1 rfl (Nat.le_of_ble_eq_true rfl) dX8_level_41 ⟨Nat.le_of_ble_eq_true rfl, Nat.le_of_ble_eq_true rfl⟩  (k_J13_bitCount_95d88 l D cI cJ cK (lb w_2))) (fun r hp => ?_)
      obtain ⟨k_6, rfl, hpc, hq_7⟩ := hp
      refine lv_isub hx hb dX8_level_44 ?_
      refine lv_topi (fun z_8 ez_8 => ?_)
      try have tz_8 : z_8.toInt = ((z : Nat) : Int) - ((k_6 : Nat) : Int) := by rw [ez_8]; exact my_subI (nI_toInt (by omega)) (nI_toInt (by omega)) (by omega) (by omega)
      have hsI_j9 : (nI w_2).toInt = ((w_2 : Nat) : Int) := nI_toInt (by omega)
      have hsN_j9 : (nI w_2).toInt.toNat = w_2 := nIt (by omega)
      exact my_retI hx hb hr hlocks hK hS (wl_k_X8_level cI cJ cK x0 xn xl xt xo xf xs xp xq xr xc l1 l2 l3 o1 (nI z) (nI lz) lb 2 of_5) hP hD (Or.inr (⟨2, of_5, rfl, (by first | assumption | omega | trivial | decide +kernel), (by first | assumption | omega | trivial | decide +kernel), (by first | assumption | omega | trivial | decide +kernel), (by rw [hsN_j9, ← hpc]; omega), (by first | assumption | omega | trivial | decide +kernel), (by first | assumption | omega | trivial | decide +kernel)⟩)) dX8_level_45
    ·
      have d7 : j9.toInt ≥ (8 : Int) := my_nlt c7 rfl (by decide +kernel)
      refine lv_iconst (v := (-1)) hx hb dX8_level_10 (by decide +kernel) ?_
      have ec_9 : ((-1) : Int32).toInt = -1 := by decide +kernel
      exact my_retI hx hb hr hlocks hK hS (wl_k_X8_level cI cJ cK x0 xn xl xt xo xf xs xp xq xr xc l1 l2 l3 o1 (nI z) (nI lz) lb (nI oz) of) hP hD (Or.inl ⟨rfl, rfl, (by first | assumption | omega | trivial | decide +kernel)⟩) dX8_level_11
abbrev wl_k_X8_spot (cI cJ cK : ClassId) (x0 : Nat) (xn : Nat) (xl : Nat) (xt : Nat) (xo : Nat) (xf : Nat) (xs : Nat) (xp : Nat) (xq : Nat) (xr : Nat) (xc : Nat) (l1 : Nat) (l2 : Nat) (l3 : Nat) (o1 : Nat) (v0_ : Int32) (v1_ : Nat → Int32) (v2_ : Int32) (v3_ : Nat → Int64) (v4_ : Int32) (v5_ : Nat → Int64) : va_W := [(x0, .inr (8, [.ref xn, .int v0_, .ref xl, .ref xt, .ref xo, .ref xf, .ref xs, .ref xp, .ref xq, .ref xr, .ref xc])), (xn, .inl (cI, 64, .inl v1_)), (xl, .inr (1, [.ref l1, .ref l2, .ref l3, .int v2_])), (l1, .inl (cJ, 8, .inr (.inl v3_))), (xo, .inr (7, [.ref o1, .int v4_])), (o1, .inl (cJ, 64, .inr (.inl v5_)))]
set_option maxHeartbeats 4000000 in
set_option maxRecDepth 100000 in
theorem k_X8_spot (l : Launch) (D : va_G) (cI cJ cK : ClassId) (x0 : Nat) (xn : Nat) (xl : Nat) (xt : Nat) (xo : Nat) (xf : Nat) (xs : Nat) (xp : Nat) (xq : Nat) (xr : Nat) (xc : Nat) (l1 : Nat) (l2 : Nat) (l3 : Nat) (o1 : Nat) (z : Nat) (nf : Nat → Int32) (lz : Nat) (lb : Nat → Int64) (oz : Nat) (of : Nat → Int64) (p9 : Int32) (j9 : Int32) (hz_z : z ≤ 64) (hR_nf : RB 0 255 nf) (hz_lz : lz ≤ 64) (hz_oz : oz ≤ 64) (hlvl : LVL lb nf z) (hlz9 : lz = z) : ctI l yX8_spot wsX8_spot ({ frames := 3, cells := 0, slots := 0, locals := 180 } : Room) D (tyIJ cI cJ cK) [.ref x0, .int p9, .int j9] (wl_k_X8_spot cI cJ cK x0 xn xl xt xo xf xs xp xq xr xc l1 l2 l3 o1 (nI z) nf (nI lz) lb (nI oz) of) (fun (r : Int32) (u : va_W) => (u = (wl_k_X8_spot cI cJ cK x0 xn xl xt xo xf xs xp xq xr xc l1 l2 l3 o1 (nI z) nf (nI lz) lb (nI oz) of) ∧ r = (-1) ∧ (j9.toInt < 0 ∨ 8 < j9.toInt)) ∨ (u = (wl_k_X8_spot cI cJ cK x0 xn xl xt xo xf xs xp xq xr xc l1 l2 l3 o1 (nI z) nf (nI lz) lb (nI oz) of) ∧ r = (-2) ∧ 0 ≤ j9.toInt ∧ j9.toInt ≤ 8 ∧ (p9.toInt < 0 ∨ z ≤ p9.toInt)) ∨ (∃ (q' : Nat) (oz' : Nat) (of' : Nat → Int64), u = (wl_k_X8_spot cI cJ cK x0 xn xl xt xo xf xs xp xq xr xc l1 l2 l3 o1 (nI z) nf (nI lz) lb (nI oz') of') ∧ r = nI q' ∧ oz' ≤ 64 ∧ 0 ≤ j9.toInt ∧ j9.toInt ≤ 8 ∧ 0 ≤ p9.toInt ∧ p9.toInt < z ∧ q' = spN (lvB nf z) z j9.toInt.toNat p9.toInt.toNat ∧ oz' = 1)) := by
  refine ctI.of (cc := cX8_spot) (maxL := 3) (ret := (some .int)) (by decide) rfl (Nat.le_of_ble_eq_true rfl) ?_
  intro p e s m below meth c ls A hx hb hr hts hown hml hlocks hname hA hK hN hP hD hS hl
  have hl : lv_has ls 3 [(0, .ref x0), (1, .int p9), (2, .int j9)] := hl
  have hown : s.vm.findClass RX8 = some m.cls := hown
  have hi1 : ∀ w ∈ u_ws RX1 TX1 4, w ∈ wsX8_spot := by decide +kernel
  have hi8 : ∀ w ∈ u_ws RX8 TX8 11, w ∈ wsX8_spot := by decide +kernel
  have fl13 := hts (.fieldLink RX8 13 "PlaneColumn" "size" "I") (by decide +kernel)
  have fl20 := hts (.fieldLink RX8 20 "PlaneColumn" "levels" "LPlaneColumn$Levels;") (by decide +kernel)
  have fl9 := hts (.fieldLink RX8 9 "PlaneColumn" "numbers" "[I") (by decide +kernel)
  refine lv_iload_n hx hb dX8_spot_0 rfl (lv_at hl 2 rfl) ?_
  refine lv_if_lt (tgt := 10) hx hb dX8_spot_1 (by decide) (fun c1 => ?_) (fun c1 => ?_)
  ·
    have d1 : j9.toInt < (0 : Int) := my_lt c1 rfl (by decide +kernel)
    refine lv_iconst (v := (-1)) hx hb dX8_spot_10 (by decide +kernel) ?_
    exact my_retI hx hb hr hlocks hK hS (wl_k_X8_spot cI cJ cK x0 xn xl xt xo xf xs xp xq xr xc l1 l2 l3 o1 (nI z) nf (nI lz) lb (nI oz) of) hP hD (Or.inl ⟨rfl, rfl, (by first | assumption | omega | trivial | decide +kernel)⟩) dX8_spot_11
  ·
    have d1 : j9.toInt ≥ (0 : Int) := my_nlt c1 rfl (by decide +kernel)
    refine lv_iload_n hx hb dX8_spot_4 rfl (lv_at hl 2 rfl) ?_
    refine lv_bipush (v := 8) hx hb dX8_spot_5 (by decide +kernel) ?_
    refine lv_icmp_le (tgt := 12) hx hb dX8_spot_7 (by decide) (fun c7 => ?_) (fun c7 => ?_)
    ·
      have d7 : j9.toInt ≤ (8 : Int) := my_le c7 rfl (by decide +kernel)
      refine lv_aload_n hx hb dX8_spot_12 rfl (lv_at hl 0 rfl) ?_
      refine lv_iload_n hx hb dX8_spot_13 rfl (lv_at hl 1 rfl) ?_
      refine my_gpI (my_pV (As := [.int p9]) (rest := []) (ci := 8) ⟨hx, hb, hml, hown, hts⟩ (cwV 1 hts gX8_spot_X8_isPlace rfl rfl rfl (by decide +kernel) ⟨Nat.le_of_ble_eq_true rfl, Nat.le_of_ble_eq_true rfl⟩) hN hK hP [0] rfl 0 rfl rfl rfl rfl hl.1 rfl (Nat.le_of_ble_eq_true rfl) dX8_spot_14 ⟨Nat.le_of_ble_eq_true rfl, Nat.le_of_ble_eq_true rfl⟩  (k_X8_isPlace l D cI cJ cK x0 xn xl xt xo xf xs xp xq xr xc z p9 (by first | assumption | omega | decide +kernel))) (fun r hp => ?_)
      rcases hp with ⟨k_1, rfl, rfl, ha_2⟩ | ⟨rfl, ho_3⟩
      ·
        refine lv_if_ne (tgt := 23) hx hb dX8_spot_17 (by decide) (fun c17 => ?_) (fun c17 => ?_)
        ·
          obtain ⟨w_4, rfl, hw_4⟩ := my_natP (x := j9) (by omega)
          have hlw_4 : w_4 < 2147483648 := by have h9 := Int32.toInt_lt (nI w_4); omega
          refine lv_aload_n hx hb dX8_spot_23 rfl (lv_at hl 0 rfl) ?_
          refine lv_aload_n hx hb dX8_spot_24 rfl (lv_at hl 0 rfl) ?_
          refine va_get (ci := 8) (v := .ref xn) (C := RX8) (T := TX8) (N := 11) hx hb hts hi8 hown hK hP 0 rfl rfl 0 (by decide) fl9 (fun _ h9 => h9) rfl dX8_spot_25 ?_
          refine lv_iload_n hx hb dX8_spot_28 rfl (lv_at hl 1 rfl) ?_
          refine va_iald hx hb hK hP 1 0 rfl rfl (vp_in_nI (by omega) (by omega)) dX8_spot_29 ?_
          refine my_eqi (y := nf k_1) (congrArg nf (nI_clamp (by omega))) ?_
          have hb_5 := hR_nf k_1
          refine lv_bipush (v := 8) hx hb dX8_spot_30 (by decide +kernel) ?_
          refine lv_iload_n hx hb dX8_spot_32 rfl (lv_at hl 2 rfl) ?_
          refine lv_isub hx hb dX8_spot_33 ?_
          refine my_eqi (y := nI (8 - w_4)) (my_subN (a := 8) (b := w_4) (by omega)) ?_
          refine lv_ishr hx hb dX8_spot_34 ?_
          refine lv_topi (fun z_6 ez_6 => ?_)
          try have hbz_6 : 0 ≤ z_6.toInt ∧ z_6.toInt ≤ (nf k_1).toInt := by rw [ez_6]; exact my_shrR  (by omega) (by omega)
          refine lv_i2l (v := z_6.toInt64) hx hb dX8_spot_35 rfl ?_
          refine my_goVS (wc := (wl_k_X8_tell cI cJ cK x0 xn xl xt xo xf xs xp xq xr xc o1 (nI z) (nI oz) of)) hP hD hS hA [0, 4, 5] rfl [some 0, none, none, none, some 1, some 2] (by decide +kernel) (my_cV (As := [.long z_6.toInt64]) (rest := []) (ci := 8) (wc := (wl_k_X8_tell cI cJ cK x0 xn xl xt xo xf xs xp xq xr xc o1 (nI z) (nI oz) of)) ⟨hx, hb, hml, hown, hts⟩ (cwV 1 hts gX8_spot_X8_tell rfl rfl rfl (by decide +kernel) ⟨Nat.le_of_ble_eq_true rfl, Nat.le_of_ble_eq_true rfl⟩) hN hK hP hD [0, 4, 5] rfl (by decide) rfl 0 rfl rfl rfl rfl hl.1 rfl (Nat.le_of_ble_eq_true rfl) dX8_spot_36 ⟨Nat.le_of_ble_eq_true rfl, Nat.le_of_ble_eq_true rfl⟩  ((k_X8_tell l D cI cJ cK x0 xn xl xt xo xf xs xp xq xr xc o1 z oz of z_6.toInt64 (by first | assumption | omega | decide +kernel) (by first | assumption | omega | decide +kernel)) _)) (fun u H locs hp hPD hS => ?_)
          obtain ⟨of_7, rfl, hv0, ht_8⟩ := hp
          obtain ⟨hP, hD⟩ := hPD rfl
          have hP : va_P D vwCl (wl_k_X8_spot cI cJ cK x0 xn xl xt xo xf xs xp xq xr xc l1 l2 l3 o1 (nI z) nf (nI lz) lb 1 of_7) H := hP
          have hD : va_D A (wl_k_X8_spot cI cJ cK x0 xn xl xt xo xf xs xp xq xr xc l1 l2 l3 o1 (nI z) nf (nI lz) lb 1 of_7) := hD
          refine lv_aload_n hx hb dX8_spot_39 rfl (lv_at hl 0 rfl) ?_
          refine va_get (ci := 8) (v := .ref xl) (C := RX8) (T := TX8) (N := 11) hx hb hts hi8 hown hK hP 0 rfl rfl 2 (by decide) fl20 (fun _ h9 => h9) rfl dX8_spot_40 ?_
          refine va_getN (ci := 1) (v := .ref l1) (C := RX1) (T := TX1) (N := 4) hx hb hts hi1 hown hK hP 2 rfl rfl 0 (by decide) (nw_f_RX8_130 hN) (fun _ h9 => h9) rfl dX8_spot_43 ?_
          refine lv_aload_n hx hb dX8_spot_46 rfl (lv_at hl 0 rfl) ?_
          refine va_get (ci := 8) (v := .int (nI z)) (C := RX8) (T := TX8) (N := 11) hx hb hts hi8 hown hK hP 0 rfl rfl 1 (by decide) fl13 (fun _ h9 => h9) rfl dX8_spot_47 ?_
          refine lv_iload_n hx hb dX8_spot_50 rfl (lv_at hl 1 rfl) ?_
          refine lv_iload_n hx hb dX8_spot_51 rfl (lv_at hl 2 rfl) ?_
          refine my_gpI (my_pS (As := [.ref l1, .int (nI z), .int (nI k_1), .int (nI w_4)]) (rest := []) ⟨hx, hb, hml, hown, hts⟩ (va_cwS 4 hts gX8_spot_X8_spotIn rfl rfl rfl (by decide +kernel) ⟨Nat.le_of_ble_eq_true rfl, Nat.le_of_ble_eq_true rfl⟩) hN hK hP [3] rfl rfl hl.1 rfl (Nat.le_of_ble_eq_true rfl) dX8_spot_52 ⟨Nat.le_of_ble_eq_true rfl, Nat.le_of_ble_eq_true rfl⟩  (kf_X8_spotIn l D cI cJ cK l1 lb z k_1 w_4 (by first | assumption | omega | decide +kernel) (by first | assumption | omega | decide +kernel) (by first | assumption | omega | decide +kernel) (fun j hj i h1 h2 => hlvl.hi hj h1 h2))) (fun r hp => ?_)
          obtain ⟨q_9, rfl, hsq, hq_10⟩ := hp
          have hsI_p9 : (nI k_1).toInt = ((k_1 : Nat) : Int) := nI_toInt (by omega)
          have hsN_p9 : (nI k_1).toInt.toNat = k_1 := nIt (by omega)
          have hsI_j9 : (nI w_4).toInt = ((w_4 : Nat) : Int) := nI_toInt (by omega)
          have hsN_j9 : (nI w_4).toInt.toNat = w_4 := nIt (by omega)
          exact my_retI hx hb hr hlocks hK hS (wl_k_X8_spot cI cJ cK x0 xn xl xt xo xf xs xp xq xr xc l1 l2 l3 o1 (nI z) nf (nI lz) lb 1 of_7) hP hD (Or.inr (Or.inr (⟨q_9, 1, of_7, rfl, rfl, (by first | assumption | omega | trivial | decide +kernel), (by first | assumption | omega | trivial | decide +kernel), (by first | assumption | omega | trivial | decide +kernel), (by first | assumption | omega | trivial | decide +kernel), (by first | assumption | omega | trivial | decide +kernel), (by rw [hsN_j9, hsN_p9, hsq]; exact spB_eq hlvl (by omega) (by omega) (by omega)), (by first | assumption | omega | trivial | decide +kernel)⟩))) dX8_spot_55
        ·
          exact absurd c17 (by decide +kernel)
      ·
        refine lv_if_ne (tgt := 23) hx hb dX8_spot_17 (by decide) (fun c17 => ?_) (fun c17 => ?_)
        ·
          exact absurd c17 (by decide +kernel)
        ·
          refine lv_bipush (v := (-2)) hx hb dX8_spot_20 (by decide +kernel) ?_
          exact my_retI hx hb hr hlocks hK hS (wl_k_X8_spot cI cJ cK x0 xn xl xt xo xf xs xp xq xr xc l1 l2 l3 o1 (nI z) nf (nI lz) lb (nI oz) of) hP hD (Or.inr (Or.inl ⟨rfl, rfl, (by first | assumption | omega | trivial | decide +kernel), (by first | assumption | omega | trivial | decide +kernel), (by first | assumption | omega | trivial | decide +kernel)⟩)) dX8_spot_22
    ·
      have d7 : j9.toInt > (8 : Int) := my_nle c7 rfl (by decide +kernel)
      refine lv_iconst (v := (-1)) hx hb dX8_spot_10 (by decide +kernel) ?_
      exact my_retI hx hb hr hlocks hK hS (wl_k_X8_spot cI cJ cK x0 xn xl xt xo xf xs xp xq xr xc l1 l2 l3 o1 (nI z) nf (nI lz) lb (nI oz) of) hP hD (Or.inl ⟨rfl, rfl, (by first | assumption | omega | trivial | decide +kernel)⟩) dX8_spot_11
abbrev wl_k_X8_from (cI cJ cK : ClassId) (x0 : Nat) (xn : Nat) (xl : Nat) (xt : Nat) (xo : Nat) (xf : Nat) (xs : Nat) (xp : Nat) (xq : Nat) (xr : Nat) (xc : Nat) (l1 : Nat) (l2 : Nat) (l3 : Nat) (o1 : Nat) (v0_ : Int32) (v1_ : Nat → Int32) (v2_ : Int32) (v3_ : Nat → Int32) (v4_ : Nat → Int32) (v5_ : Nat → Int64) (v6_ : Int32) (v7_ : Nat → Int64) : va_W := [(x0, .inr (8, [.ref xn, .int v0_, .ref xl, .ref xt, .ref xo, .ref xf, .ref xs, .ref xp, .ref xq, .ref xr, .ref xc])), (xn, .inl (cI, 64, .inl v1_)), (xl, .inr (1, [.ref l1, .ref l2, .ref l3, .int v2_])), (l2, .inl (cI, 64, .inl v3_)), (l3, .inl (cI, 64, .inl v4_)), (l1, .inl (cJ, 8, .inr (.inl v5_))), (xo, .inr (7, [.ref o1, .int v6_])), (o1, .inl (cJ, 64, .inr (.inl v7_)))]
set_option maxHeartbeats 4000000 in
set_option maxRecDepth 100000 in
theorem k_X8_from (l : Launch) (D : va_G) (cI cJ cK : ClassId) (x0 : Nat) (xn : Nat) (xl : Nat) (xt : Nat) (xo : Nat) (xf : Nat) (xs : Nat) (xp : Nat) (xq : Nat) (xr : Nat) (xc : Nat) (l1 : Nat) (l2 : Nat) (l3 : Nat) (o1 : Nat) (z : Nat) (nf : Nat → Int32) (lz : Nat) (lo : Nat → Int32) (ln : Nat → Int32) (lb : Nat → Int64) (oz : Nat) (of : Nat → Int64) (j9 : Int32) (p9 : Int32) (hz_z : z ≤ 64) (hR_nf : RB 0 255 nf) (hz_lz : lz ≤ 64) (hR_lo : RB 0 63 lo) (hR_ln : RB 0 63 ln) (hz_oz : oz ≤ 64) (hlvl : LVL lb nf z) (hlz9 : lz = z) : ctI l yX8_from wsX8_from ({ frames := 4, cells := 0, slots := 0, locals := 240 } : Room) D (tyIJ cI cJ cK) [.ref x0, .int j9, .int p9] (wl_k_X8_from cI cJ cK x0 xn xl xt xo xf xs xp xq xr xc l1 l2 l3 o1 (nI z) nf (nI lz) lo ln lb (nI oz) of) (fun (r : Int32) (u : va_W) => (u = (wl_k_X8_from cI cJ cK x0 xn xl xt xo xf xs xp xq xr xc l1 l2 l3 o1 (nI z) nf (nI lz) lo ln lb (nI oz) of) ∧ r = (-1) ∧ (j9.toInt < 0 ∨ 8 < j9.toInt)) ∨ (u = (wl_k_X8_from cI cJ cK x0 xn xl xt xo xf xs xp xq xr xc l1 l2 l3 o1 (nI z) nf (nI lz) lo ln lb (nI oz) of) ∧ r = (-2) ∧ 0 ≤ j9.toInt ∧ j9.toInt ≤ 8 ∧ (p9.toInt < 0 ∨ z ≤ p9.toInt)) ∨ (∃ (lo' : Nat → Int32) (ln' : Nat → Int32) (oz' : Nat) (of' : Nat → Int64), u = (wl_k_X8_from cI cJ cK x0 xn xl xt xo xf xs xp xq xr xc l1 l2 l3 o1 (nI z) nf (nI lz) lo' ln' lb (nI oz') of') ∧ RB 0 63 lo' ∧ RB 0 63 ln' ∧ oz' ≤ 64 ∧ 0 ≤ j9.toInt ∧ j9.toInt ≤ 8 ∧ 0 ≤ p9.toInt ∧ p9.toInt < z ∧ r = nI (ordF nf z j9.toInt.toNat p9.toInt.toNat) ∧ True ∧ oz' = 1)) := by
  refine ctI.of (cc := cX8_from) (maxL := 4) (ret := (some .int)) (by decide) rfl (Nat.le_of_ble_eq_true rfl) ?_
  intro p e s m below meth c ls A hx hb hr hts hown hml hlocks hname hA hK hN hP hD hS hl
  have hl : lv_has ls 4 [(0, .ref x0), (1, .int j9), (2, .int p9)] := hl
  have hown : s.vm.findClass RX8 = some m.cls := hown
  have hi8 : ∀ w ∈ u_ws RX8 TX8 11, w ∈ wsX8_from := by decide +kernel
  have fl20 := hts (.fieldLink RX8 20 "PlaneColumn" "levels" "LPlaneColumn$Levels;") (by decide +kernel)
  have fl9 := hts (.fieldLink RX8 9 "PlaneColumn" "numbers" "[I") (by decide +kernel)
  refine lv_iload_n hx hb dX8_from_0 rfl (lv_at hl 1 rfl) ?_
  refine lv_if_lt (tgt := 10) hx hb dX8_from_1 (by decide) (fun c1 => ?_) (fun c1 => ?_)
  ·
    have d1 : j9.toInt < (0 : Int) := my_lt c1 rfl (by decide +kernel)
    refine lv_iconst (v := (-1)) hx hb dX8_from_10 (by decide +kernel) ?_
    exact my_retI hx hb hr hlocks hK hS (wl_k_X8_from cI cJ cK x0 xn xl xt xo xf xs xp xq xr xc l1 l2 l3 o1 (nI z) nf (nI lz) lo ln lb (nI oz) of) hP hD (Or.inl ⟨rfl, rfl, (by first | assumption | omega | trivial | decide +kernel)⟩) dX8_from_11
  ·
    have d1 : j9.toInt ≥ (0 : Int) := my_nlt c1 rfl (by decide +kernel)
    refine lv_iload_n hx hb dX8_from_4 rfl (lv_at hl 1 rfl) ?_
    refine lv_bipush (v := 8) hx hb dX8_from_5 (by decide +kernel) ?_
    refine lv_icmp_le (tgt := 12) hx hb dX8_from_7 (by decide) (fun c7 => ?_) (fun c7 => ?_)
    ·
      have d7 : j9.toInt ≤ (8 : Int) := my_le c7 rfl (by decide +kernel)
      refine lv_aload_n hx hb dX8_from_12 rfl (lv_at hl 0 rfl) ?_
      refine lv_iload_n hx hb dX8_from_13 rfl (lv_at hl 2 rfl) ?_
      refine my_gpI (my_pV (As := [.int p9]) (rest := []) (ci := 8) ⟨hx, hb, hml, hown, hts⟩ (cwV 1 hts gX8_from_X8_isPlace rfl rfl rfl (by decide +kernel) ⟨Nat.le_of_ble_eq_true rfl, Nat.le_of_ble_eq_true rfl⟩) hN hK hP [0] rfl 0 rfl rfl rfl rfl hl.1 rfl (Nat.le_of_ble_eq_true rfl) dX8_from_14 ⟨Nat.le_of_ble_eq_true rfl, Nat.le_of_ble_eq_true rfl⟩  (k_X8_isPlace l D cI cJ cK x0 xn xl xt xo xf xs xp xq xr xc z p9 (by first | assumption | omega | decide +kernel))) (fun r hp => ?_)
      rcases hp with ⟨k_1, rfl, rfl, ha_2⟩ | ⟨rfl, ho_3⟩
      ·
        refine lv_if_ne (tgt := 23) hx hb dX8_from_17 (by decide) (fun c17 => ?_) (fun c17 => ?_)
        ·
          obtain ⟨w_4, rfl, hw_4⟩ := my_natP (x := j9) (by omega)
          have hlw_4 : w_4 < 2147483648 := by have h9 := Int32.toInt_lt (nI w_4); omega
          refine lv_aload_n hx hb dX8_from_23 rfl (lv_at hl 0 rfl) ?_
          refine va_get (ci := 8) (v := .ref xl) (C := RX8) (T := TX8) (N := 11) hx hb hts hi8 hown hK hP 0 rfl rfl 2 (by decide) fl20 (fun _ h9 => h9) rfl dX8_from_24 ?_
          refine lv_iload_n hx hb dX8_from_27 rfl (lv_at hl 1 rfl) ?_
          refine lv_iload_n hx hb dX8_from_28 rfl (lv_at hl 2 rfl) ?_
          refine my_goIS (wc := (wl_kf_X1_placeAt cI cJ cK xl l1 l2 l3 xn (nI lz) lo ln lb nf)) hP hD hS hA [2, 3, 4, 5, 1] rfl [none, some 4, some 0, some 1, some 2, some 3] (by decide +kernel) (my_cV (As := [.int (nI w_4), .int (nI k_1)]) (rest := []) (ci := 1) (wc := (wl_kf_X1_placeAt cI cJ cK xl l1 l2 l3 xn (nI lz) lo ln lb nf)) ⟨hx, hb, hml, hown, hts⟩ (cwV 2 hts gX8_from_X1_placeAt rfl rfl rfl (by decide +kernel) ⟨Nat.le_of_ble_eq_true rfl, Nat.le_of_ble_eq_true rfl⟩) hN hK hP hD [2, 3, 4, 5, 1] rfl (by decide) rfl 2 rfl rfl rfl rfl hl.1 rfl (Nat.le_of_ble_eq_true rfl) dX8_from_29 ⟨Nat.le_of_ble_eq_true rfl, Nat.le_of_ble_eq_true rfl⟩  ((kf_X1_placeAt l D cI cJ cK xl l1 l2 l3 xn lz lo ln lb nf w_4 k_1 (by first | assumption | omega | decide +kernel) hR_lo hR_ln hR_nf (by first | assumption | omega | decide +kernel) (by first | assumption | omega | decide +kernel) (by rw [hlz9]; exact hlvl)) _)) (fun r u H locs hp hPD hS => ?_)
          obtain ⟨p_5, lo_6, ln_7, rfl, rfl, hR_lo_6, hR_ln_7, hpa, hq_8⟩ := hp
          obtain ⟨hP, hD⟩ := hPD rfl
          have hP : va_P D vwCl (wl_k_X8_from cI cJ cK x0 xn xl xt xo xf xs xp xq xr xc l1 l2 l3 o1 (nI z) nf (nI lz) lo_6 ln_7 lb (nI oz) of) H := hP
          have hD : va_D A (wl_k_X8_from cI cJ cK x0 xn xl xt xo xf xs xp xq xr xc l1 l2 l3 o1 (nI z) nf (nI lz) lo_6 ln_7 lb (nI oz) of) := hD
          refine lv_istore_n (lv' := [(3, .int (nI p_5)), (0, .ref x0), (1, .int (nI w_4)), (2, .int (nI k_1))]) hx hb dX8_from_32 rfl hl (by decide) rfl (fun ls hl => ?_)
          refine lv_aload_n hx hb dX8_from_33 rfl (lv_at hl 1 rfl) ?_
          refine lv_aload_n hx hb dX8_from_34 rfl (lv_at hl 1 rfl) ?_
          refine va_get (ci := 8) (v := .ref xn) (C := RX8) (T := TX8) (N := 11) hx hb hts hi8 hown hK hP 0 rfl rfl 0 (by decide) fl9 (fun _ h9 => h9) rfl dX8_from_35 ?_
          refine lv_iload_n hx hb dX8_from_38 rfl (lv_at hl 0 rfl) ?_
          refine va_iald hx hb hK hP 1 0 rfl rfl (vp_in_nI (by omega) (by omega)) dX8_from_39 ?_
          refine my_eqi (y := nf p_5) (congrArg nf (nI_clamp (by omega))) ?_
          have hb_9 := hR_nf p_5
          refine lv_i2l (v := (nf p_5).toInt64) hx hb dX8_from_40 rfl ?_
          refine my_goVS (wc := (wl_k_X8_tell cI cJ cK x0 xn xl xt xo xf xs xp xq xr xc o1 (nI z) (nI oz) of)) hP hD hS hA [0, 6, 7] rfl [some 0, none, none, none, none, none, some 1, some 2] (by decide +kernel) (my_cV (As := [.long ((nf p_5).toInt64)]) (rest := []) (ci := 8) (wc := (wl_k_X8_tell cI cJ cK x0 xn xl xt xo xf xs xp xq xr xc o1 (nI z) (nI oz) of)) ⟨hx, hb, hml, hown, hts⟩ (cwV 1 hts gX8_from_X8_tell rfl rfl rfl (by decide +kernel) ⟨Nat.le_of_ble_eq_true rfl, Nat.le_of_ble_eq_true rfl⟩) hN hK hP hD [0, 6, 7] rfl (by decide) rfl 0 rfl rfl rfl rfl hl.1 rfl (Nat.le_of_ble_eq_true rfl) dX8_from_41 ⟨Nat.le_of_ble_eq_true rfl, Nat.le_of_ble_eq_true rfl⟩  ((k_X8_tell l D cI cJ cK x0 xn xl xt xo xf xs xp xq xr xc o1 z oz of ((nf p_5).toInt64) (by first | assumption | omega | decide +kernel) (by first | assumption | omega | decide +kernel)) _)) (fun u H locs hp hPD hS => ?_)
          obtain ⟨of_10, rfl, hv0, ht_11⟩ := hp
          obtain ⟨hP, hD⟩ := hPD rfl
          have hP : va_P D vwCl (wl_k_X8_from cI cJ cK x0 xn xl xt xo xf xs xp xq xr xc l1 l2 l3 o1 (nI z) nf (nI lz) lo_6 ln_7 lb 1 of_10) H := hP
          have hD : va_D A (wl_k_X8_from cI cJ cK x0 xn xl xt xo xf xs xp xq xr xc l1 l2 l3 o1 (nI z) nf (nI lz) lo_6 ln_7 lb 1 of_10) := hD
          refine lv_iload_n hx hb dX8_from_44 rfl (lv_at hl 0 rfl) ?_
          have hsI_p9 : (nI k_1).toInt = ((k_1 : Nat) : Int) := nI_toInt (by omega)
          have hsN_p9 : (nI k_1).toInt.toNat = k_1 := nIt (by omega)
          have hsI_j9 : (nI w_4).toInt = ((w_4 : Nat) : Int) := nI_toInt (by omega)
          have hsN_j9 : (nI w_4).toInt.toNat = w_4 := nIt (by omega)
          exact my_retI hx hb hr hlocks hK hS (wl_k_X8_from cI cJ cK x0 xn xl xt xo xf xs xp xq xr xc l1 l2 l3 o1 (nI z) nf (nI lz) lo_6 ln_7 lb 1 of_10) hP hD (Or.inr (Or.inr (⟨lo_6, ln_7, 1, of_10, rfl, hR_lo_6, hR_ln_7, (by first | assumption | omega | trivial | decide +kernel), (by first | assumption | omega | trivial | decide +kernel), (by first | assumption | omega | trivial | decide +kernel), (by first | assumption | omega | trivial | decide +kernel), (by first | assumption | omega | trivial | decide +kernel), (by rw [hsN_j9, hsN_p9, hpa, hlz9]), (by first | assumption | omega | trivial | decide +kernel), (by first | assumption | omega | trivial | decide +kernel)⟩))) dX8_from_45
        ·
          exact absurd c17 (by decide +kernel)
      ·
        refine lv_if_ne (tgt := 23) hx hb dX8_from_17 (by decide) (fun c17 => ?_) (fun c17 => ?_)
        ·
          exact absurd c17 (by decide +kernel)
        ·
          refine lv_bipush (v := (-2)) hx hb dX8_from_20 (by decide +kernel) ?_
          exact my_retI hx hb hr hlocks hK hS (wl_k_X8_from cI cJ cK x0 xn xl xt xo xf xs xp xq xr xc l1 l2 l3 o1 (nI z) nf (nI lz) lo ln lb (nI oz) of) hP hD (Or.inr (Or.inl ⟨rfl, rfl, (by first | assumption | omega | trivial | decide +kernel), (by first | assumption | omega | trivial | decide +kernel), (by first | assumption | omega | trivial | decide +kernel)⟩)) dX8_from_22
    ·
      have d7 : j9.toInt > (8 : Int) := my_nle c7 rfl (by decide +kernel)
      refine lv_iconst (v := (-1)) hx hb dX8_from_10 (by decide +kernel) ?_
      exact my_retI hx hb hr hlocks hK hS (wl_k_X8_from cI cJ cK x0 xn xl xt xo xf xs xp xq xr xc l1 l2 l3 o1 (nI z) nf (nI lz) lo ln lb (nI oz) of) hP hD (Or.inl ⟨rfl, rfl, (by first | assumption | omega | trivial | decide +kernel)⟩) dX8_from_11
abbrev wl_k_X8_runs (cI cJ cK : ClassId) (x0 : Nat) (xn : Nat) (xl : Nat) (xt : Nat) (xo : Nat) (xf : Nat) (xs : Nat) (xp : Nat) (xq : Nat) (xr : Nat) (xc : Nat) (l1 : Nat) (l2 : Nat) (l3 : Nat) (o1 : Nat) (v0_ : Int32) (v1_ : Nat → Int32) (v2_ : Int32) (v3_ : Nat → Int64) (v4_ : Int32) (v5_ : Nat → Int64) : va_W := [(x0, .inr (8, [.ref xn, .int v0_, .ref xl, .ref xt, .ref xo, .ref xf, .ref xs, .ref xp, .ref xq, .ref xr, .ref xc])), (xn, .inl (cI, 64, .inl v1_)), (xl, .inr (1, [.ref l1, .ref l2, .ref l3, .int v2_])), (l1, .inl (cJ, 8, .inr (.inl v3_))), (xo, .inr (7, [.ref o1, .int v4_])), (o1, .inl (cJ, 64, .inr (.inl v5_)))]
set_option maxHeartbeats 4000000 in
set_option maxRecDepth 100000 in
theorem k_X8_runs (l : Launch) (D : va_G) (cI cJ cK : ClassId) (x0 : Nat) (xn : Nat) (xl : Nat) (xt : Nat) (xo : Nat) (xf : Nat) (xs : Nat) (xp : Nat) (xq : Nat) (xr : Nat) (xc : Nat) (l1 : Nat) (l2 : Nat) (l3 : Nat) (o1 : Nat) (z : Nat) (nf : Nat → Int32) (lz : Nat) (lb : Nat → Int64) (oz : Nat) (of : Nat → Int64) (hz_z : z ≤ 64) (hR_nf : RB 0 255 nf) (hz_lz : lz ≤ 64) (hz_oz : oz ≤ 64) (hlvl : LVL lb nf z) (hlz9 : lz = z) : ctI l yX8_runs wsX8_runs ({ frames := 2, cells := 0, slots := 0, locals := 120 } : Room) D (tyIJ cI cJ cK) [.ref x0] (wl_k_X8_runs cI cJ cK x0 xn xl xt xo xf xs xp xq xr xc l1 l2 l3 o1 (nI z) nf (nI lz) lb (nI oz) of) (fun (r : Int32) (u : va_W) => ∃ (t' : Nat) (oz' : Nat) (of' : Nat → Int64), u = (wl_k_X8_runs cI cJ cK x0 xn xl xt xo xf xs xp xq xr xc l1 l2 l3 o1 (nI z) nf (nI lz) lb (nI oz') of') ∧ r = nI t' ∧ oz' ≤ 64 ∧ t' = rnS nf z 8 ∧ oz' = 8) := by
  refine ctI.of (cc := cX8_runs) (maxL := 4) (ret := (some .int)) (by decide) rfl (Nat.le_of_ble_eq_true rfl) ?_
  intro p e s m below meth c ls A hx hb hr hts hown hml hlocks hname hA hK hN hP hD hS hl
  have hl : lv_has ls 4 [(0, .ref x0)] := hl
  have hown : s.vm.findClass RX8 = some m.cls := hown
  have hi1 : ∀ w ∈ u_ws RX1 TX1 4, w ∈ wsX8_runs := by decide +kernel
  have hi8 : ∀ w ∈ u_ws RX8 TX8 11, w ∈ wsX8_runs := by decide +kernel
  have fl13 := hts (.fieldLink RX8 13 "PlaneColumn" "size" "I") (by decide +kernel)
  have fl20 := hts (.fieldLink RX8 20 "PlaneColumn" "levels" "LPlaneColumn$Levels;") (by decide +kernel)
  have fl34 := hts (.fieldLink RX8 34 "PlaneColumn" "told" "LPlaneColumn$Told;") (by decide +kernel)
  refine lv_iconst (v := 0) hx hb dX8_runs_0 (by decide +kernel) ?_
  refine lv_istore_n (lv' := [(1, .int 0), (0, .ref x0)]) hx hb dX8_runs_1 rfl hl (by decide) rfl (fun ls hl => ?_)
  refine lv_aload_n hx hb dX8_runs_2 rfl (lv_at hl 1 rfl) ?_
  refine va_get (ci := 8) (v := .ref xo) (C := RX8) (T := TX8) (N := 11) hx hb hts hi8 hown hK hP 0 rfl rfl 4 (by decide) fl34 (fun _ h9 => h9) rfl dX8_runs_3 ?_
  refine my_goVS (wc := (wl_k_X7_begin cI cJ cK xo o1 (nI oz))) hP hD hS hA [4] rfl [none, none, none, none, some 0] (by decide +kernel) (my_cV (As := []) (rest := []) (ci := 7) (wc := (wl_k_X7_begin cI cJ cK xo o1 (nI oz))) ⟨hx, hb, hml, hown, hts⟩ (cwV 0 hts gX8_runs_X7_begin rfl rfl rfl (by decide +kernel) ⟨Nat.le_of_ble_eq_true rfl, Nat.le_of_ble_eq_true rfl⟩) hN hK hP hD [4] rfl (by decide) rfl 4 rfl rfl rfl rfl hl.1 rfl (Nat.le_of_ble_eq_true rfl) dX8_runs_6 ⟨Nat.le_of_ble_eq_true rfl, Nat.le_of_ble_eq_true rfl⟩  ((k_X7_begin l D cI cJ cK xo o1 oz (by first | assumption | omega | decide +kernel)) _)) (fun u H locs hp hPD hS => ?_)
  obtain rfl := hp
  obtain ⟨hP, hD⟩ := hPD rfl
  have hP : va_P D vwCl (wl_k_X8_runs cI cJ cK x0 xn xl xt xo xf xs xp xq xr xc l1 l2 l3 o1 (nI z) nf (nI lz) lb 0 of) H := hP
  have hD : va_D A (wl_k_X8_runs cI cJ cK x0 xn xl xt xo xf xs xp xq xr xc l1 l2 l3 o1 (nI z) nf (nI lz) lb 0 of) := hD
  refine lv_iconst (v := 0) hx hb dX8_runs_9 (by decide +kernel) ?_
  refine lv_istore_n (lv' := [(2, .int 0), (1, .int 0), (0, .ref x0)]) hx hb dX8_runs_10 rfl hl (by decide) rfl (fun ls hl => ?_)
  have loop11 : ∀ (n9 : Nat) (k : Nat) (t : Nat) (xo_size_11 : Nat) (o1_11 : Nat → Int64), 8 - k < n9 → (k ≤ 8) → (t = rnS nf z k) → (xo_size_11 = k) → (xo_size_11 ≤ 64) → ∀ (H : Heap) (locs : List Loc) (ls : Array Slot), va_P D vwCl (wl_k_X8_runs cI cJ cK x0 xn xl xt xo xf xs xp xq xr xc l1 l2 l3 o1 (nI z) nf (nI lz) lb (nI xo_size_11) o1_11) H → va_D A (wl_k_X8_runs cI cJ cK x0 xn xl xt xo xf xs xp xq xr xc l1 l2 l3 o1 (nI z) nf (nI lz) lb (nI xo_size_11) o1_11) → va_S A s.heap H locs → lv_has ls 4 [(2, .int (nI k)), (1, .int (nI t)), (0, .ref x0)] → W p l e ({ frames := 2, cells := 0, slots := 0, locals := 120 } : Room) s m [.ref x0].toArray below meth c H locs 0 0 (MQ below (va_Qi (fun (r : Int32) (u : va_W) => ∃ (t' : Nat) (oz' : Nat) (of' : Nat → Int64), u = (wl_k_X8_runs cI cJ cK x0 xn xl xt xo xf xs xp xq xr xc l1 l2 l3 o1 (nI z) nf (nI lz) lb (nI oz') of') ∧ r = nI t' ∧ oz' ≤ 64 ∧ t' = rnS nf z 8 ∧ oz' = 8) (my_B D (tyIJ cI cJ cK) A) A) [.ref x0].toArray s 0 0 A) (F0 m 11 ls []) := by
    intro n9
    induction n9 with
    | zero =>
      intro k t xo_size_11 o1_11 hn9
      exact absurd hn9 (Nat.not_lt_zero _)
    | succ n9 ih11 =>
      intro k t xo_size_11 o1_11 hn9 hk_k ht htd9 hz_xo_size_11 H locs ls hP hD hS hl
      refine lv_iload_n hx hb dX8_runs_11 rfl (lv_at hl 0 rfl) ?_
      refine lv_bipush (v := 8) hx hb dX8_runs_12 (by decide +kernel) ?_
      refine lv_icmp_ge (tgt := 53) hx hb dX8_runs_14 (by decide) (fun c14 => ?_) (fun c14 => ?_)
      ·
        have d14 : ((k : Nat) : Int) ≥ (8 : Int) := my_ge c14 (nI_toInt (by omega)) (by decide +kernel)
        refine lv_iload_n hx hb dX8_runs_53 rfl (lv_at hl 1 rfl) ?_
        exact my_retI hx hb hr hlocks hK hS (wl_k_X8_runs cI cJ cK x0 xn xl xt xo xf xs xp xq xr xc l1 l2 l3 o1 (nI z) nf (nI lz) lb (nI xo_size_11) o1_11) hP hD (⟨t, xo_size_11, o1_11, rfl, rfl, (by first | assumption | omega | trivial | decide +kernel), (by rw [ht, show k = 8 from (by omega)]), (by first | assumption | omega | trivial | decide +kernel)⟩) dX8_runs_54
      ·
        have d14 : ((k : Nat) : Int) < (8 : Int) := my_nge c14 (nI_toInt (by omega)) (by decide +kernel)
        refine lv_aload_n hx hb dX8_runs_17 rfl (lv_at hl 2 rfl) ?_
        refine va_get (ci := 8) (v := .ref xl) (C := RX8) (T := TX8) (N := 11) hx hb hts hi8 hown hK hP 0 rfl rfl 2 (by decide) fl20 (fun _ h9 => h9) rfl dX8_runs_18 ?_
        refine va_getN (ci := 1) (v := .ref l1) (C := RX1) (T := TX1) (N := 4) hx hb hts hi1 hown hK hP 2 rfl rfl 0 (by decide) (nw_f_RX8_130 hN) (fun _ h9 => h9) rfl dX8_runs_21 ?_
        refine lv_iload_n hx hb dX8_runs_24 rfl (lv_at hl 0 rfl) ?_
        refine va_lald hx hb hK hP 3 1 rfl rfl (vp_in_nI (by omega) (by omega)) dX8_runs_25 ?_
        refine my_eql (y := lb k) (congrArg lb (nI_clamp (by omega))) ?_
        refine lv_aload_n hx hb dX8_runs_26 rfl (lv_at hl 2 rfl) ?_
        refine va_get (ci := 8) (v := .int (nI z)) (C := RX8) (T := TX8) (N := 11) hx hb hts hi8 hown hK hP 0 rfl rfl 1 (by decide) fl13 (fun _ h9 => h9) rfl dX8_runs_27 ?_
        refine my_gpI (my_pS (As := [.long (lb k), .int (nI z)]) (rest := []) ⟨hx, hb, hml, hown, hts⟩ (va_cwS 2 hts gX8_runs_X8_runsOf rfl rfl rfl (by decide +kernel) ⟨Nat.le_of_ble_eq_true rfl, Nat.le_of_ble_eq_true rfl⟩) hN hK hP [] rfl rfl hl.1 rfl (Nat.le_of_ble_eq_true rfl) dX8_runs_30 ⟨Nat.le_of_ble_eq_true rfl, Nat.le_of_ble_eq_true rfl⟩  (kf_X8_runsOf l D cI cJ cK (lb k) z (by first | assumption | omega | decide +kernel))) (fun r hp => ?_)
        obtain ⟨t_2, rfl, hrn, hq_3⟩ := hp
        refine lv_istore_n (lv' := [(3, .int (nI t_2)), (2, .int (nI k)), (1, .int (nI t)), (0, .ref x0)]) hx hb dX8_runs_33 rfl hl (by decide) rfl (fun ls hl => ?_)
        refine lv_aload_n hx hb dX8_runs_34 rfl (lv_at hl 3 rfl) ?_
        refine va_get (ci := 8) (v := .ref xo) (C := RX8) (T := TX8) (N := 11) hx hb hts hi8 hown hK hP 0 rfl rfl 4 (by decide) fl34 (fun _ h9 => h9) rfl dX8_runs_35 ?_
        refine lv_iload_n hx hb dX8_runs_38 rfl (lv_at hl 0 rfl) ?_
        refine lv_i2l (v := lN t_2) hx hb dX8_runs_39 (nI_l (by omega)) ?_
        refine my_goVS (wc := (wl_kf_X7_add cI cJ cK xo o1 (nI xo_size_11) o1_11)) hP hD hS hA [4, 5] rfl [none, none, none, none, some 0, some 1] (by decide +kernel) (my_cV (As := [.long (lN t_2)]) (rest := []) (ci := 7) (wc := (wl_kf_X7_add cI cJ cK xo o1 (nI xo_size_11) o1_11)) ⟨hx, hb, hml, hown, hts⟩ (cwV 1 hts gX8_runs_X7_add rfl rfl rfl (by decide +kernel) ⟨Nat.le_of_ble_eq_true rfl, Nat.le_of_ble_eq_true rfl⟩) hN hK hP hD [4, 5] rfl (by decide) rfl 4 rfl rfl rfl rfl hl.1 rfl (Nat.le_of_ble_eq_true rfl) dX8_runs_40 ⟨Nat.le_of_ble_eq_true rfl, Nat.le_of_ble_eq_true rfl⟩  ((kf_X7_add l D cI cJ cK xo o1 xo_size_11 o1_11 (lN t_2) (by first | assumption | omega | decide +kernel) (by first | assumption | omega | decide +kernel)) _)) (fun u H locs hp hPD hS => ?_)
        obtain ⟨of_4, rfl, hof, ht_5⟩ := hp
        obtain ⟨hP, hD⟩ := hPD rfl
        have hP : va_P D vwCl (wl_k_X8_runs cI cJ cK x0 xn xl xt xo xf xs xp xq xr xc l1 l2 l3 o1 (nI z) nf (nI lz) lb (nI (xo_size_11 + 1)) of_4) H := hP
        have hD : va_D A (wl_k_X8_runs cI cJ cK x0 xn xl xt xo xf xs xp xq xr xc l1 l2 l3 o1 (nI z) nf (nI lz) lb (nI (xo_size_11 + 1)) of_4) := hD
        refine lv_iload_n hx hb dX8_runs_43 rfl (lv_at hl 2 rfl) ?_
        refine lv_iload_n hx hb dX8_runs_44 rfl (lv_at hl 0 rfl) ?_
        refine lv_iadd hx hb dX8_runs_45 ?_
        refine my_eqi (y := nI (t + t_2)) (nI_add _ _) ?_
        refine lv_istore_n (lv' := [(1, .int (nI (t + t_2))), (3, .int (nI t_2)), (2, .int (nI k)), (0, .ref x0)]) hx hb dX8_runs_46 rfl hl (by decide) rfl (fun ls hl => ?_)
        refine lv_iinc (v := nI (k + 1)) (lv' := [(2, .int (nI (k + 1))), (1, .int (nI (t + t_2))), (3, .int (nI t_2)), (0, .ref x0)]) hx hb dX8_runs_47 hl (k := 2) rfl (my_incN k 1 (by decide +kernel)) (by decide) rfl (fun ls hl => ?_)
        refine lv_goto (tgt := 11) hx hb dX8_runs_50 (by decide) ?_
        exact ih11  (k + 1) (t + t_2) (xo_size_11 + 1) of_4 (by omega) (by first | assumption | omega | decide +kernel) (by show _ = rnS nf z k + rnF (lvB nf z k) z; rw [← ht, ← rn_cong (fun i hi => hlvl.bit (by omega) hi (by omega)), ← hrn]) (by first | assumption | omega | decide +kernel) (by first | assumption | omega | decide +kernel) _ _ ls hP hD hS (lv_sub hl [0, 1, 3] rfl)
  exact loop11 ((8 - 0) + 1) 0 0 0 of (Nat.lt_succ_self _) (by first | assumption | omega | decide +kernel) (rfl) (by first | assumption | omega | decide +kernel) (by first | assumption | omega | decide +kernel) _ _ ls hP hD hS (lv_sub hl [0, 1, 2] rfl)
